section
-- ===== PART A: goes FIRST, ahead of the names: the tables' words, and 'selects' of the private methods out of them =====
/-- a private method of a class that the tables say can be made, by its rows of tables_1 -/
def lw_okq (q : MethodName × Nat) : Prop := (q.1.cls ≠ "java/lang/invoke/MethodHandle" ∧ q.1.cls ≠ "java/lang/invoke/VarHandle") ∧ Cond.instantiable q.1.cls q.2 ∈ tables_1 ∧ Cond.privateMethod q.1 ∈ tables_1 ∧ Cond.instanceMethod q.1 ∈ tables_1
theorem lw_p0 : lw_okq (⟨"BlockDistance", "currentDistances", "()LBlockDistance$Grid;"⟩, 9) := ⟨⟨by decide +kernel, by decide +kernel⟩, List.mem_of_getElem? (i := 20) (by decide +kernel), List.mem_of_getElem? (i := 237) (by decide +kernel), List.mem_of_getElem? (i := 238) (by decide +kernel)⟩
theorem lw_p1 : lw_okq (⟨"BlockDistance$Grid", "put", "(III)V"⟩, 1) := ⟨⟨by decide +kernel, by decide +kernel⟩, List.mem_of_getElem? (i := 89) (by decide +kernel), List.mem_of_getElem? (i := 246) (by decide +kernel), List.mem_of_getElem? (i := 247) (by decide +kernel)⟩
theorem lw_p2 : lw_okq (⟨"BlockDistance", "currentWay", "()LBlockDistance$Way;"⟩, 9) := ⟨⟨by decide +kernel, by decide +kernel⟩, List.mem_of_getElem? (i := 20) (by decide +kernel), List.mem_of_getElem? (i := 272) (by decide +kernel), List.mem_of_getElem? (i := 273) (by decide +kernel)⟩
theorem lw_p3 : lw_okq (⟨"BlockDistance$BlockTable", "keyOf", "(LBlockDistance$Grid;LBlockDistance$Text;LBlockDistance$Text;II)I"⟩, 5) := ⟨⟨by decide +kernel, by decide +kernel⟩, List.mem_of_getElem? (i := 112) (by decide +kernel), List.mem_of_getElem? (i := 310) (by decide +kernel), List.mem_of_getElem? (i := 311) (by decide +kernel)⟩
theorem lw_p4 : lw_okq (⟨"BlockDistance$BlockTable", "meet", "(I)V"⟩, 5) := ⟨⟨by decide +kernel, by decide +kernel⟩, List.mem_of_getElem? (i := 112) (by decide +kernel), List.mem_of_getElem? (i := 323) (by decide +kernel), List.mem_of_getElem? (i := 324) (by decide +kernel)⟩
theorem lw_p5 : lw_okq (⟨"BlockDistance", "currentSearch", "()LBlockDistance$Grid;"⟩, 9) := ⟨⟨by decide +kernel, by decide +kernel⟩, List.mem_of_getElem? (i := 20) (by decide +kernel), List.mem_of_getElem? (i := 359) (by decide +kernel), List.mem_of_getElem? (i := 360) (by decide +kernel)⟩
theorem lw_p6 : lw_okq (⟨"BlockDistance", "textOf", "(I)LBlockDistance$Text;"⟩, 9) := ⟨⟨by decide +kernel, by decide +kernel⟩, List.mem_of_getElem? (i := 20) (by decide +kernel), List.mem_of_getElem? (i := 437) (by decide +kernel), List.mem_of_getElem? (i := 438) (by decide +kernel)⟩
theorem lw_p7 : lw_okq (⟨"java/lang/Throwable", "fillInStackTrace", "(I)Ljava/lang/Throwable;"⟩, 6) := ⟨⟨by decide +kernel, by decide +kernel⟩, List.mem_of_getElem? (i := 479) (by decide +kernel), List.mem_of_getElem? (i := 477) (by decide +kernel), List.mem_of_getElem? (i := 478) (by decide +kernel)⟩
theorem lw_p8 : lw_okq (⟨"BlockDistance", "mixGrid", "(JLBlockDistance$Grid;)J"⟩, 9) := ⟨⟨by decide +kernel, by decide +kernel⟩, List.mem_of_getElem? (i := 20) (by decide +kernel), List.mem_of_getElem? (i := 529) (by decide +kernel), List.mem_of_getElem? (i := 530) (by decide +kernel)⟩
theorem lw_p9 : lw_okq (⟨"BlockDistance$InputBuffer", "barPlace", "()I"⟩, 2) := ⟨⟨by decide +kernel, by decide +kernel⟩, List.mem_of_getElem? (i := 76) (by decide +kernel), List.mem_of_getElem? (i := 546) (by decide +kernel), List.mem_of_getElem? (i := 547) (by decide +kernel)⟩
theorem lw_p10 : lw_okq (⟨"BlockDistance", "checkLetter", "(I)V"⟩, 9) := ⟨⟨by decide +kernel, by decide +kernel⟩, List.mem_of_getElem? (i := 20) (by decide +kernel), List.mem_of_getElem? (i := 588) (by decide +kernel), List.mem_of_getElem? (i := 589) (by decide +kernel)⟩
theorem lw_p11 : lw_okq (⟨"BlockDistance", "checkPrefixes", "(III)V"⟩, 9) := ⟨⟨by decide +kernel, by decide +kernel⟩, List.mem_of_getElem? (i := 20) (by decide +kernel), List.mem_of_getElem? (i := 674) (by decide +kernel), List.mem_of_getElem? (i := 675) (by decide +kernel)⟩
theorem lw_p12 : lw_okq (⟨"BlockDistanceModel", "go", "()V"⟩, 19) := ⟨⟨by decide +kernel, by decide +kernel⟩, List.mem_of_getElem? (i := 778) (by decide +kernel), List.mem_of_getElem? (i := 851) (by decide +kernel), List.mem_of_getElem? (i := 852) (by decide +kernel)⟩
theorem lw_p13 : lw_okq (⟨"BlockDistanceModel", "throwing", "(I)I"⟩, 19) := ⟨⟨by decide +kernel, by decide +kernel⟩, List.mem_of_getElem? (i := 778) (by decide +kernel), List.mem_of_getElem? (i := 858) (by decide +kernel), List.mem_of_getElem? (i := 859) (by decide +kernel)⟩
theorem lw_p14 : lw_okq (⟨"BlockDistanceModel", "isLetter", "(I)Z"⟩, 19) := ⟨⟨by decide +kernel, by decide +kernel⟩, List.mem_of_getElem? (i := 778) (by decide +kernel), List.mem_of_getElem? (i := 862) (by decide +kernel), List.mem_of_getElem? (i := 863) (by decide +kernel)⟩
theorem lw_p15 : lw_okq (⟨"BlockDistanceModel", "save", "()V"⟩, 19) := ⟨⟨by decide +kernel, by decide +kernel⟩, List.mem_of_getElem? (i := 778) (by decide +kernel), List.mem_of_getElem? (i := 866) (by decide +kernel), List.mem_of_getElem? (i := 867) (by decide +kernel)⟩
def lw_privs_1 : List (MethodName × Nat) := [(⟨"BlockDistance", "currentDistances", "()LBlockDistance$Grid;"⟩, 9), (⟨"BlockDistance$Grid", "put", "(III)V"⟩, 1), (⟨"BlockDistance", "currentWay", "()LBlockDistance$Way;"⟩, 9), (⟨"BlockDistance$BlockTable", "keyOf", "(LBlockDistance$Grid;LBlockDistance$Text;LBlockDistance$Text;II)I"⟩, 5), (⟨"BlockDistance$BlockTable", "meet", "(I)V"⟩, 5), (⟨"BlockDistance", "currentSearch", "()LBlockDistance$Grid;"⟩, 9), (⟨"BlockDistance", "textOf", "(I)LBlockDistance$Text;"⟩, 9), (⟨"java/lang/Throwable", "fillInStackTrace", "(I)Ljava/lang/Throwable;"⟩, 6), (⟨"BlockDistance", "mixGrid", "(JLBlockDistance$Grid;)J"⟩, 9), (⟨"BlockDistance$InputBuffer", "barPlace", "()I"⟩, 2), (⟨"BlockDistance", "checkLetter", "(I)V"⟩, 9), (⟨"BlockDistance", "checkPrefixes", "(III)V"⟩, 9), (⟨"BlockDistanceModel", "go", "()V"⟩, 19), (⟨"BlockDistanceModel", "throwing", "(I)I"⟩, 19), (⟨"BlockDistanceModel", "isLetter", "(I)Z"⟩, 19), (⟨"BlockDistanceModel", "save", "()V"⟩, 19)]
theorem lw_r1 : ∀ q ∈ lw_privs_1, lw_okq q := List.forall_mem_cons.mpr ⟨lw_p0, List.forall_mem_cons.mpr ⟨lw_p1, List.forall_mem_cons.mpr ⟨lw_p2, List.forall_mem_cons.mpr ⟨lw_p3, List.forall_mem_cons.mpr ⟨lw_p4, List.forall_mem_cons.mpr ⟨lw_p5, List.forall_mem_cons.mpr ⟨lw_p6, List.forall_mem_cons.mpr ⟨lw_p7, List.forall_mem_cons.mpr ⟨lw_p8, List.forall_mem_cons.mpr ⟨lw_p9, List.forall_mem_cons.mpr ⟨lw_p10, List.forall_mem_cons.mpr ⟨lw_p11, List.forall_mem_cons.mpr ⟨lw_p12, List.forall_mem_cons.mpr ⟨lw_p13, List.forall_mem_cons.mpr ⟨lw_p14, List.forall_mem_cons.mpr ⟨lw_p15, fun _ h => absurd h List.not_mem_nil⟩⟩⟩⟩⟩⟩⟩⟩⟩⟩⟩⟩⟩⟩⟩⟩
theorem lw_p16 : lw_okq (⟨"BlockDistanceModel", "of", "(II)I"⟩, 19) := ⟨⟨by decide +kernel, by decide +kernel⟩, List.mem_of_getElem? (i := 778) (by decide +kernel), List.mem_of_getElem? (i := 877) (by decide +kernel), List.mem_of_getElem? (i := 878) (by decide +kernel)⟩
theorem lw_p17 : lw_okq (⟨"BlockDistanceModel", "whole", "()I"⟩, 19) := ⟨⟨by decide +kernel, by decide +kernel⟩, List.mem_of_getElem? (i := 778) (by decide +kernel), List.mem_of_getElem? (i := 909) (by decide +kernel), List.mem_of_getElem? (i := 910) (by decide +kernel)⟩
theorem lw_p18 : lw_okq (⟨"BlockDistanceModel", "lay", "(Z)V"⟩, 19) := ⟨⟨by decide +kernel, by decide +kernel⟩, List.mem_of_getElem? (i := 778) (by decide +kernel), List.mem_of_getElem? (i := 913) (by decide +kernel), List.mem_of_getElem? (i := 914) (by decide +kernel)⟩
theorem lw_p19 : lw_okq (⟨"BlockDistanceModel", "d", "(II)I"⟩, 19) := ⟨⟨by decide +kernel, by decide +kernel⟩, List.mem_of_getElem? (i := 778) (by decide +kernel), List.mem_of_getElem? (i := 917) (by decide +kernel), List.mem_of_getElem? (i := 918) (by decide +kernel)⟩
theorem lw_p20 : lw_okq (⟨"BlockDistanceModel", "cost", "(II)I"⟩, 19) := ⟨⟨by decide +kernel, by decide +kernel⟩, List.mem_of_getElem? (i := 778) (by decide +kernel), List.mem_of_getElem? (i := 921) (by decide +kernel), List.mem_of_getElem? (i := 922) (by decide +kernel)⟩
theorem lw_p21 : lw_okq (⟨"BlockDistanceModel", "layWay", "()V"⟩, 19) := ⟨⟨by decide +kernel, by decide +kernel⟩, List.mem_of_getElem? (i := 778) (by decide +kernel), List.mem_of_getElem? (i := 936) (by decide +kernel), List.mem_of_getElem? (i := 937) (by decide +kernel)⟩
theorem lw_p22 : lw_okq (⟨"BlockDistanceModel", "goBlocks", "(Z)I"⟩, 19) := ⟨⟨by decide +kernel, by decide +kernel⟩, List.mem_of_getElem? (i := 778) (by decide +kernel), List.mem_of_getElem? (i := 968) (by decide +kernel), List.mem_of_getElem? (i := 969) (by decide +kernel)⟩
theorem lw_p23 : lw_okq (⟨"BlockDistanceModel", "keyOf", "(II)I"⟩, 19) := ⟨⟨by decide +kernel, by decide +kernel⟩, List.mem_of_getElem? (i := 778) (by decide +kernel), List.mem_of_getElem? (i := 972) (by decide +kernel), List.mem_of_getElem? (i := 973) (by decide +kernel)⟩
theorem lw_p24 : lw_okq (⟨"BlockDistanceModel", "found", "()I"⟩, 19) := ⟨⟨by decide +kernel, by decide +kernel⟩, List.mem_of_getElem? (i := 778) (by decide +kernel), List.mem_of_getElem? (i := 996) (by decide +kernel), List.mem_of_getElem? (i := 997) (by decide +kernel)⟩
theorem lw_p25 : lw_okq (⟨"BlockDistanceModel", "end", "()I"⟩, 19) := ⟨⟨by decide +kernel, by decide +kernel⟩, List.mem_of_getElem? (i := 778) (by decide +kernel), List.mem_of_getElem? (i := 1004) (by decide +kernel), List.mem_of_getElem? (i := 1005) (by decide +kernel)⟩
theorem lw_p26 : lw_okq (⟨"BlockDistanceModel", "tried", "(III)I"⟩, 19) := ⟨⟨by decide +kernel, by decide +kernel⟩, List.mem_of_getElem? (i := 778) (by decide +kernel), List.mem_of_getElem? (i := 1012) (by decide +kernel), List.mem_of_getElem? (i := 1013) (by decide +kernel)⟩
theorem lw_p27 : lw_okq (⟨"BlockDistanceModel", "best", "(I)I"⟩, 19) := ⟨⟨by decide +kernel, by decide +kernel⟩, List.mem_of_getElem? (i := 778) (by decide +kernel), List.mem_of_getElem? (i := 1020) (by decide +kernel), List.mem_of_getElem? (i := 1021) (by decide +kernel)⟩
def lw_privs_2 : List (MethodName × Nat) := [(⟨"BlockDistanceModel", "of", "(II)I"⟩, 19), (⟨"BlockDistanceModel", "whole", "()I"⟩, 19), (⟨"BlockDistanceModel", "lay", "(Z)V"⟩, 19), (⟨"BlockDistanceModel", "d", "(II)I"⟩, 19), (⟨"BlockDistanceModel", "cost", "(II)I"⟩, 19), (⟨"BlockDistanceModel", "layWay", "()V"⟩, 19), (⟨"BlockDistanceModel", "goBlocks", "(Z)I"⟩, 19), (⟨"BlockDistanceModel", "keyOf", "(II)I"⟩, 19), (⟨"BlockDistanceModel", "found", "()I"⟩, 19), (⟨"BlockDistanceModel", "end", "()I"⟩, 19), (⟨"BlockDistanceModel", "tried", "(III)I"⟩, 19), (⟨"BlockDistanceModel", "best", "(I)I"⟩, 19)]
theorem lw_r2 : ∀ q ∈ lw_privs_2, lw_okq q := List.forall_mem_cons.mpr ⟨lw_p16, List.forall_mem_cons.mpr ⟨lw_p17, List.forall_mem_cons.mpr ⟨lw_p18, List.forall_mem_cons.mpr ⟨lw_p19, List.forall_mem_cons.mpr ⟨lw_p20, List.forall_mem_cons.mpr ⟨lw_p21, List.forall_mem_cons.mpr ⟨lw_p22, List.forall_mem_cons.mpr ⟨lw_p23, List.forall_mem_cons.mpr ⟨lw_p24, List.forall_mem_cons.mpr ⟨lw_p25, List.forall_mem_cons.mpr ⟨lw_p26, List.forall_mem_cons.mpr ⟨lw_p27, fun _ h => absurd h List.not_mem_nil⟩⟩⟩⟩⟩⟩⟩⟩⟩⟩⟩⟩
def lw_privs : List (MethodName × Nat) := lw_privs_1 ++ (lw_privs_2)
def lw_tbl : List Cond := k2_sels lw_privs ++ tables_1
theorem lw_privs_ok : ∀ q ∈ lw_privs, lw_okq q := by
  show ∀ q ∈ lw_privs_1 ++ (lw_privs_2), lw_okq q
  exact List.forall_mem_append.mpr ⟨lw_r1, lw_r2⟩
/-- the streams that the claim lets the run draw from -/
abbrev lw_cs : List Choice := [Jvm.Choice.named "NaN.bits"]
theorem lw_bits : nanBits ∈ lw_cs := by first | decide | exact List.mem_cons_self | simp [lw_cs, nanBits]
def RX0 : String := "BlockDistance$BlockTable"
def TX0 : u_T := fun k => match k with
  | 0 => ("BlockDistance$BlockTable", "met", "[J", true)
  | 1 => ("BlockDistance$BlockTable", "blockSize", "I", false)
  | 2 => ("BlockDistance$BlockTable", "hitCount", "I", false)
  | 3 => ("BlockDistance$BlockTable", "missCount", "I", false)
  | _ => ("BlockDistance$BlockTable", "singleCount", "I", false)
def tyX0 : Nat → FieldType := fun k => match k with
  | 0 => .array .long
  | 1 => .int
  | 2 => .int
  | 3 => .int
  | _ => .int
abbrev wsX00 : List Cond := u_ws RX0 TX0 5
theorem nmX0 : ∀ a, a < 5 → ∀ b, b < 5 → a ≠ b → (TX0 a).2.1 ≠ (TX0 b).2.1 := by decide +kernel
theorem tyX0_ok : ∀ k, k < 5 → parseFieldDescriptor (TX0 k).2.2.1 = some (tyX0 k) := by decide +kernel
abbrev cX0_init : ByteArray := prog_2_method_1_code
def yX0_init : MethodName := ⟨RX0, "<init>", "()V"⟩
abbrev cX0_blockSize : ByteArray := prog_2_method_2_code
def yX0_blockSize : MethodName := ⟨RX0, "blockSize", "()I"⟩
abbrev cX0_hitCount : ByteArray := prog_2_method_3_code
def yX0_hitCount : MethodName := ⟨RX0, "hitCount", "()I"⟩
abbrev cX0_missCount : ByteArray := prog_2_method_4_code
def yX0_missCount : MethodName := ⟨RX0, "missCount", "()I"⟩
abbrev cX0_singleCount : ByteArray := prog_2_method_5_code
def yX0_singleCount : MethodName := ⟨RX0, "singleCount", "()I"⟩
abbrev cX0_startAnew : ByteArray := prog_2_method_6_code
def yX0_startAnew : MethodName := ⟨RX0, "startAnew", "(I)V"⟩
abbrev cX0_copyFrom : ByteArray := prog_2_method_7_code
def yX0_copyFrom : MethodName := ⟨RX0, "copyFrom", "(LBlockDistance$BlockTable;)V"⟩
abbrev cX0_meetBlocks : ByteArray := prog_2_method_8_code
def yX0_meetBlocks : MethodName := ⟨RX0, "meetBlocks", "(LBlockDistance$Grid;LBlockDistance$Text;LBlockDistance$Text;)V"⟩
abbrev cX0_keyOf : ByteArray := prog_2_method_9_code
def yX0_keyOf : MethodName := ⟨RX0, "keyOf", "(LBlockDistance$Grid;LBlockDistance$Text;LBlockDistance$Text;II)I"⟩
abbrev cX0_meet : ByteArray := prog_2_method_10_code
def yX0_meet : MethodName := ⟨RX0, "meet", "(I)V"⟩
def RX1 : String := "BlockDistance$Grid"
def TX1 : u_T := fun k => match k with
  | _ => ("BlockDistance$Grid", "cells", "[I", true)
def tyX1 : Nat → FieldType := fun k => match k with
  | _ => .array .int
abbrev wsX10 : List Cond := u_ws RX1 TX1 1
theorem nmX1 : ∀ a, a < 1 → ∀ b, b < 1 → a ≠ b → (TX1 a).2.1 ≠ (TX1 b).2.1 := by decide +kernel
theorem tyX1_ok : ∀ k, k < 1 → parseFieldDescriptor (TX1 k).2.2.1 = some (tyX1 k) := by decide +kernel
abbrev cX1_init : ByteArray := prog_3_method_1_code
def yX1_init : MethodName := ⟨RX1, "<init>", "()V"⟩
abbrev cX1_at : ByteArray := prog_3_method_2_code
def yX1_at : MethodName := ⟨RX1, "at", "(II)I"⟩
abbrev cX1_stepAcross : ByteArray := prog_3_method_3_code
def yX1_stepAcross : MethodName := ⟨RX1, "stepAcross", "(II)I"⟩
abbrev cX1_stepDown : ByteArray := prog_3_method_4_code
def yX1_stepDown : MethodName := ⟨RX1, "stepDown", "(II)I"⟩
abbrev cX1_fill : ByteArray := prog_3_method_5_code
def yX1_fill : MethodName := ⟨RX1, "fill", "(LBlockDistance$Text;LBlockDistance$Text;I)V"⟩
abbrev cX1_put : ByteArray := prog_3_method_6_code
def yX1_put : MethodName := ⟨RX1, "put", "(III)V"⟩
abbrev cX1_isInside : ByteArray := prog_3_method_7_code
def yX1_isInside : MethodName := ⟨RX1, "isInside", "(II)Z"⟩
def RX2 : String := "BlockDistance$InputBuffer"
def TX2 : u_T := fun k => match k with
  | 0 => ("BlockDistance$InputBuffer", "codes", "[I", true)
  | _ => ("BlockDistance$InputBuffer", "size", "I", false)
def tyX2 : Nat → FieldType := fun k => match k with
  | 0 => .array .int
  | _ => .int
abbrev wsX20 : List Cond := u_ws RX2 TX2 2
theorem nmX2 : ∀ a, a < 2 → ∀ b, b < 2 → a ≠ b → (TX2 a).2.1 ≠ (TX2 b).2.1 := by decide +kernel
theorem tyX2_ok : ∀ k, k < 2 → parseFieldDescriptor (TX2 k).2.2.1 = some (tyX2 k) := by decide +kernel
abbrev cX2_init : ByteArray := prog_4_method_1_code
def yX2_init : MethodName := ⟨RX2, "<init>", "()V"⟩
abbrev cX2_size : ByteArray := prog_4_method_2_code
def yX2_size : MethodName := ⟨RX2, "size", "()I"⟩
abbrev cX2_put : ByteArray := prog_4_method_3_code
def yX2_put : MethodName := ⟨RX2, "put", "(I)V"⟩
abbrev cX2_empty : ByteArray := prog_4_method_4_code
def yX2_empty : MethodName := ⟨RX2, "empty", "()V"⟩
abbrev cX2_errorPlace : ByteArray := prog_4_method_5_code
def yX2_errorPlace : MethodName := ⟨RX2, "errorPlace", "()I"⟩
abbrev cX2_isComplete : ByteArray := prog_4_method_6_code
def yX2_isComplete : MethodName := ⟨RX2, "isComplete", "()Z"⟩
abbrev cX2_keepsTo : ByteArray := prog_4_method_7_code
def yX2_keepsTo : MethodName := ⟨RX2, "keepsTo", "(I)Z"⟩
abbrev cX2_moveTo : ByteArray := prog_4_method_8_code
def yX2_moveTo : MethodName := ⟨RX2, "moveTo", "(LBlockDistance$Text;LBlockDistance$Text;)V"⟩
abbrev cX2_barPlace : ByteArray := prog_4_method_9_code
def yX2_barPlace : MethodName := ⟨RX2, "barPlace", "()I"⟩
abbrev cX2_isLetter : ByteArray := prog_4_method_10_code
def yX2_isLetter : MethodName := ⟨RX2, "isLetter", "(I)Z"⟩
def RX3 : String := "BlockDistance$Replacements"
def TX3 : u_T := fun k => match k with
  | 0 => ("BlockDistance$Replacements", "before", "LBlockDistance$Grid;", true)
  | 1 => ("BlockDistance$Replacements", "behind", "LBlockDistance$Grid;", true)
  | 2 => ("BlockDistance$Replacements", "changedBackward", "LBlockDistance$Text;", true)
  | _ => ("BlockDistance$Replacements", "otherBackward", "LBlockDistance$Text;", true)
def tyX3 : Nat → FieldType := fun k => match k with
  | 0 => .object "BlockDistance$Grid"
  | 1 => .object "BlockDistance$Grid"
  | 2 => .object "BlockDistance$Text"
  | _ => .object "BlockDistance$Text"
abbrev wsX30 : List Cond := u_ws RX3 TX3 4
theorem nmX3 : ∀ a, a < 4 → ∀ b, b < 4 → a ≠ b → (TX3 a).2.1 ≠ (TX3 b).2.1 := by decide +kernel
theorem tyX3_ok : ∀ k, k < 4 → parseFieldDescriptor (TX3 k).2.2.1 = some (tyX3 k) := by decide +kernel
abbrev cX3_init : ByteArray := prog_5_method_1_code
def yX3_init : MethodName := ⟨RX3, "<init>", "()V"⟩
abbrev cX3_prepare : ByteArray := prog_5_method_2_code
def yX3_prepare : MethodName := ⟨RX3, "prepare", "(LBlockDistance$Text;LBlockDistance$Text;)V"⟩
abbrev cX3_distanceWith : ByteArray := prog_5_method_3_code
def yX3_distanceWith : MethodName := ⟨RX3, "distanceWith", "(LBlockDistance$Text;LBlockDistance$Text;II)I"⟩
def RX4 : String := "BlockDistance$SavedStates"
def TX4 : u_T := fun k => match k with
  | 0 => ("BlockDistance$SavedStates", "states", "[LBlockDistance$State;", true)
  | 1 => ("BlockDistance$SavedStates", "oldest", "I", false)
  | _ => ("BlockDistance$SavedStates", "size", "I", false)
def tyX4 : Nat → FieldType := fun k => match k with
  | 0 => .array (.object "BlockDistance$State")
  | 1 => .int
  | _ => .int
abbrev wsX40 : List Cond := u_ws RX4 TX4 3
theorem nmX4 : ∀ a, a < 3 → ∀ b, b < 3 → a ≠ b → (TX4 a).2.1 ≠ (TX4 b).2.1 := by decide +kernel
theorem tyX4_ok : ∀ k, k < 3 → parseFieldDescriptor (TX4 k).2.2.1 = some (tyX4 k) := by decide +kernel
abbrev cX4_init : ByteArray := prog_6_method_1_code
def yX4_init : MethodName := ⟨RX4, "<init>", "()V"⟩
abbrev cX4_size : ByteArray := prog_6_method_2_code
def yX4_size : MethodName := ⟨RX4, "size", "()I"⟩
abbrev cX4_save : ByteArray := prog_6_method_3_code
def yX4_save : MethodName := ⟨RX4, "save", "(LBlockDistance$State;)V"⟩
abbrev cX4_restore : ByteArray := prog_6_method_4_code
def yX4_restore : MethodName := ⟨RX4, "restore", "(LBlockDistance$State;)V"⟩
def RX5 : String := "BlockDistance$State"
def TX5 : u_T := fun k => match k with
  | 0 => ("BlockDistance$State", "first", "LBlockDistance$Text;", false)
  | 1 => ("BlockDistance$State", "second", "LBlockDistance$Text;", false)
  | _ => ("BlockDistance$State", "alphabet", "I", false)
def tyX5 : Nat → FieldType := fun k => match k with
  | 0 => .object "BlockDistance$Text"
  | 1 => .object "BlockDistance$Text"
  | _ => .int
abbrev wsX50 : List Cond := u_ws RX5 TX5 3
theorem nmX5 : ∀ a, a < 3 → ∀ b, b < 3 → a ≠ b → (TX5 a).2.1 ≠ (TX5 b).2.1 := by decide +kernel
theorem tyX5_ok : ∀ k, k < 3 → parseFieldDescriptor (TX5 k).2.2.1 = some (tyX5 k) := by decide +kernel
abbrev cX5_init : ByteArray := prog_7_method_1_code
def yX5_init : MethodName := ⟨RX5, "<init>", "()V"⟩
abbrev cX5_text : ByteArray := prog_7_method_2_code
def yX5_text : MethodName := ⟨RX5, "text", "(I)LBlockDistance$Text;"⟩
abbrev cX5_alphabet : ByteArray := prog_7_method_3_code
def yX5_alphabet : MethodName := ⟨RX5, "alphabet", "()I"⟩
abbrev cX5_setLetters : ByteArray := prog_7_method_4_code
def yX5_setLetters : MethodName := ⟨RX5, "setLetters", "(I)V"⟩
abbrev cX5_swapTexts : ByteArray := prog_7_method_5_code
def yX5_swapTexts : MethodName := ⟨RX5, "swapTexts", "()V"⟩
abbrev cX5_copyFrom : ByteArray := prog_7_method_6_code
def yX5_copyFrom : MethodName := ⟨RX5, "copyFrom", "(LBlockDistance$State;)V"⟩
def RX6 : String := "BlockDistance$Text"
def TX6 : u_T := fun k => match k with
  | 0 => ("BlockDistance$Text", "letters", "[I", true)
  | _ => ("BlockDistance$Text", "size", "I", false)
def tyX6 : Nat → FieldType := fun k => match k with
  | 0 => .array .int
  | _ => .int
abbrev wsX60 : List Cond := u_ws RX6 TX6 2
theorem nmX6 : ∀ a, a < 2 → ∀ b, b < 2 → a ≠ b → (TX6 a).2.1 ≠ (TX6 b).2.1 := by decide +kernel
theorem tyX6_ok : ∀ k, k < 2 → parseFieldDescriptor (TX6 k).2.2.1 = some (tyX6 k) := by decide +kernel
abbrev cX6_init : ByteArray := prog_8_method_1_code
def yX6_init : MethodName := ⟨RX6, "<init>", "()V"⟩
abbrev cX6_size : ByteArray := prog_8_method_2_code
def yX6_size : MethodName := ⟨RX6, "size", "()I"⟩
abbrev cX6_at : ByteArray := prog_8_method_3_code
def yX6_at : MethodName := ⟨RX6, "at", "(I)I"⟩
abbrev cX6_set : ByteArray := prog_8_method_4_code
def yX6_set : MethodName := ⟨RX6, "set", "(II)V"⟩
abbrev cX6_putIn : ByteArray := prog_8_method_5_code
def yX6_putIn : MethodName := ⟨RX6, "putIn", "(II)V"⟩
abbrev cX6_takeOut : ByteArray := prog_8_method_6_code
def yX6_takeOut : MethodName := ⟨RX6, "takeOut", "(I)V"⟩
abbrev cX6_empty : ByteArray := prog_8_method_7_code
def yX6_empty : MethodName := ⟨RX6, "empty", "()V"⟩
abbrev cX6_copyFrom : ByteArray := prog_8_method_8_code
def yX6_copyFrom : MethodName := ⟨RX6, "copyFrom", "(LBlockDistance$Text;)V"⟩
abbrev cX6_copyBackward : ByteArray := prog_8_method_9_code
def yX6_copyBackward : MethodName := ⟨RX6, "copyBackward", "(LBlockDistance$Text;)V"⟩
abbrev cX6_keepsTo : ByteArray := prog_8_method_10_code
def yX6_keepsTo : MethodName := ⟨RX6, "keepsTo", "(I)Z"⟩
def RX7 : String := "BlockDistance$Way"
def TX7 : u_T := fun k => match k with
  | 0 => ("BlockDistance$Way", "backward", "[I", true)
  | _ => ("BlockDistance$Way", "size", "I", false)
def tyX7 : Nat → FieldType := fun k => match k with
  | 0 => .array .int
  | _ => .int
abbrev wsX70 : List Cond := u_ws RX7 TX7 2
theorem nmX7 : ∀ a, a < 2 → ∀ b, b < 2 → a ≠ b → (TX7 a).2.1 ≠ (TX7 b).2.1 := by decide +kernel
theorem tyX7_ok : ∀ k, k < 2 → parseFieldDescriptor (TX7 k).2.2.1 = some (tyX7 k) := by decide +kernel
abbrev cX7_init : ByteArray := prog_9_method_1_code
def yX7_init : MethodName := ⟨RX7, "<init>", "()V"⟩
abbrev cX7_size : ByteArray := prog_9_method_2_code
def yX7_size : MethodName := ⟨RX7, "size", "()I"⟩
abbrev cX7_at : ByteArray := prog_9_method_3_code
def yX7_at : MethodName := ⟨RX7, "at", "(I)I"⟩
abbrev cX7_stepsOf : ByteArray := prog_9_method_4_code
def yX7_stepsOf : MethodName := ⟨RX7, "stepsOf", "(I)I"⟩
abbrev cX7_find : ByteArray := prog_9_method_5_code
def yX7_find : MethodName := ⟨RX7, "find", "(LBlockDistance$Grid;LBlockDistance$Text;LBlockDistance$Text;)V"⟩
abbrev cX7_lastStep : ByteArray := prog_9_method_6_code
def yX7_lastStep : MethodName := ⟨RX7, "lastStep", "(LBlockDistance$Grid;III)I"⟩
def RX8 : String := "BlockDistance"
def TX8 : u_T := fun k => match k with
  | 0 => ("BlockDistance", "state", "LBlockDistance$State;", true)
  | 1 => ("BlockDistance", "saved", "LBlockDistance$SavedStates;", true)
  | 2 => ("BlockDistance", "buffer", "LBlockDistance$InputBuffer;", true)
  | 3 => ("BlockDistance", "distances", "LBlockDistance$Grid;", true)
  | 4 => ("BlockDistance", "search", "LBlockDistance$Grid;", true)
  | 5 => ("BlockDistance", "way", "LBlockDistance$Way;", true)
  | 6 => ("BlockDistance", "table", "LBlockDistance$BlockTable;", true)
  | 7 => ("BlockDistance", "trialTable", "LBlockDistance$BlockTable;", true)
  | _ => ("BlockDistance", "replacements", "LBlockDistance$Replacements;", true)
def tyX8 : Nat → FieldType := fun k => match k with
  | 0 => .object "BlockDistance$State"
  | 1 => .object "BlockDistance$SavedStates"
  | 2 => .object "BlockDistance$InputBuffer"
  | 3 => .object "BlockDistance$Grid"
  | 4 => .object "BlockDistance$Grid"
  | 5 => .object "BlockDistance$Way"
  | 6 => .object "BlockDistance$BlockTable"
  | 7 => .object "BlockDistance$BlockTable"
  | _ => .object "BlockDistance$Replacements"
abbrev wsX80 : List Cond := u_ws RX8 TX8 9
theorem nmX8 : ∀ a, a < 9 → ∀ b, b < 9 → a ≠ b → (TX8 a).2.1 ≠ (TX8 b).2.1 := by decide +kernel
theorem tyX8_ok : ∀ k, k < 9 → parseFieldDescriptor (TX8 k).2.2.1 = some (tyX8 k) := by decide +kernel
abbrev cX8_init : ByteArray := prog_1_method_1_code
def yX8_init : MethodName := ⟨RX8, "<init>", "()V"⟩
abbrev cX8_load : ByteArray := prog_1_method_2_code
def yX8_load : MethodName := ⟨RX8, "load", "()I"⟩
abbrev cX8_insert : ByteArray := prog_1_method_3_code
def yX8_insert : MethodName := ⟨RX8, "insert", "(III)I"⟩
abbrev cX8_remove : ByteArray := prog_1_method_4_code
def yX8_remove : MethodName := ⟨RX8, "remove", "(II)I"⟩
abbrev cX8_replace : ByteArray := prog_1_method_5_code
def yX8_replace : MethodName := ⟨RX8, "replace", "(III)I"⟩
abbrev cX8_exchange : ByteArray := prog_1_method_6_code
def yX8_exchange : MethodName := ⟨RX8, "exchange", "()I"⟩
abbrev cX8_setAlphabet : ByteArray := prog_1_method_7_code
def yX8_setAlphabet : MethodName := ⟨RX8, "setAlphabet", "(I)I"⟩
abbrev cX8_length : ByteArray := prog_1_method_8_code
def yX8_length : MethodName := ⟨RX8, "length", "(I)I"⟩
abbrev cX8_letter : ByteArray := prog_1_method_9_code
def yX8_letter : MethodName := ⟨RX8, "letter", "(II)I"⟩
abbrev cX8_distance : ByteArray := prog_1_method_10_code
def yX8_distance : MethodName := ⟨RX8, "distance", "()I"⟩
abbrev cX8_prefix : ByteArray := prog_1_method_11_code
def yX8_prefix : MethodName := ⟨RX8, "prefix", "(II)I"⟩
abbrev cX8_steps : ByteArray := prog_1_method_12_code
def yX8_steps : MethodName := ⟨RX8, "steps", "()I"⟩
abbrev cX8_step : ByteArray := prog_1_method_13_code
def yX8_step : MethodName := ⟨RX8, "step", "(I)I"⟩
abbrev cX8_count : ByteArray := prog_1_method_14_code
def yX8_count : MethodName := ⟨RX8, "count", "(I)I"⟩
abbrev cX8_within : ByteArray := prog_1_method_15_code
def yX8_within : MethodName := ⟨RX8, "within", "(I)I"⟩
abbrev cX8_band : ByteArray := prog_1_method_16_code
def yX8_band : MethodName := ⟨RX8, "band", "(I)I"⟩
abbrev cX8_similarity : ByteArray := prog_1_method_17_code
def yX8_similarity : MethodName := ⟨RX8, "similarity", "()D"⟩
abbrev cX8_setBlock : ByteArray := prog_1_method_18_code
def yX8_setBlock : MethodName := ⟨RX8, "setBlock", "(I)I"⟩
abbrev cX8_measure : ByteArray := prog_1_method_19_code
def yX8_measure : MethodName := ⟨RX8, "measure", "()I"⟩
abbrev cX8_hits : ByteArray := prog_1_method_20_code
def yX8_hits : MethodName := ⟨RX8, "hits", "()I"⟩
abbrev cX8_misses : ByteArray := prog_1_method_21_code
def yX8_misses : MethodName := ⟨RX8, "misses", "()I"⟩
abbrev cX8_singleSteps : ByteArray := prog_1_method_22_code
def yX8_singleSteps : MethodName := ⟨RX8, "singleSteps", "()I"⟩
abbrev cX8_across : ByteArray := prog_1_method_23_code
def yX8_across : MethodName := ⟨RX8, "across", "(II)I"⟩
abbrev cX8_foundDistance : ByteArray := prog_1_method_24_code
def yX8_foundDistance : MethodName := ⟨RX8, "foundDistance", "()I"⟩
abbrev cX8_foundEnd : ByteArray := prog_1_method_25_code
def yX8_foundEnd : MethodName := ⟨RX8, "foundEnd", "()I"⟩
abbrev cX8_ifReplaced : ByteArray := prog_1_method_26_code
def yX8_ifReplaced : MethodName := ⟨RX8, "ifReplaced", "(III)I"⟩
abbrev cX8_bestReplacement : ByteArray := prog_1_method_27_code
def yX8_bestReplacement : MethodName := ⟨RX8, "bestReplacement", "(I)I"⟩
abbrev cX8_missesToCome : ByteArray := prog_1_method_28_code
def yX8_missesToCome : MethodName := ⟨RX8, "missesToCome", "()I"⟩
abbrev cX8_append : ByteArray := prog_1_method_29_code
def yX8_append : MethodName := ⟨RX8, "append", "(I)I"⟩
abbrev cX8_clearBuffer : ByteArray := prog_1_method_30_code
def yX8_clearBuffer : MethodName := ⟨RX8, "clearBuffer", "()I"⟩
abbrev cX8_firstError : ByteArray := prog_1_method_31_code
def yX8_firstError : MethodName := ⟨RX8, "firstError", "()I"⟩
abbrev cX8_undo : ByteArray := prog_1_method_32_code
def yX8_undo : MethodName := ⟨RX8, "undo", "()I"⟩
abbrev cX8_savedStates : ByteArray := prog_1_method_33_code
def yX8_savedStates : MethodName := ⟨RX8, "savedStates", "()I"⟩
abbrev cX8_digest : ByteArray := prog_1_method_34_code
def yX8_digest : MethodName := ⟨RX8, "digest", "()J"⟩
abbrev cX8_mix : ByteArray := prog_1_method_35_code
def yX8_mix : MethodName := ⟨RX8, "mix", "(JJ)J"⟩
abbrev cX8_mixText : ByteArray := prog_1_method_36_code
def yX8_mixText : MethodName := ⟨RX8, "mixText", "(JLBlockDistance$Text;)J"⟩
abbrev cX8_mixWay : ByteArray := prog_1_method_37_code
def yX8_mixWay : MethodName := ⟨RX8, "mixWay", "(JLBlockDistance$Way;)J"⟩
abbrev cX8_mixGrid : ByteArray := prog_1_method_38_code
def yX8_mixGrid : MethodName := ⟨RX8, "mixGrid", "(JLBlockDistance$Grid;)J"⟩
abbrev cX8_currentDistances : ByteArray := prog_1_method_39_code
def yX8_currentDistances : MethodName := ⟨RX8, "currentDistances", "()LBlockDistance$Grid;"⟩
abbrev cX8_currentSearch : ByteArray := prog_1_method_40_code
def yX8_currentSearch : MethodName := ⟨RX8, "currentSearch", "()LBlockDistance$Grid;"⟩
abbrev cX8_currentWay : ByteArray := prog_1_method_41_code
def yX8_currentWay : MethodName := ⟨RX8, "currentWay", "()LBlockDistance$Way;"⟩
abbrev cX8_textOf : ByteArray := prog_1_method_42_code
def yX8_textOf : MethodName := ⟨RX8, "textOf", "(I)LBlockDistance$Text;"⟩
abbrev cX8_checkPlace : ByteArray := prog_1_method_43_code
def yX8_checkPlace : MethodName := ⟨RX8, "checkPlace", "(LBlockDistance$Text;I)V"⟩
abbrev cX8_checkLetter : ByteArray := prog_1_method_44_code
def yX8_checkLetter : MethodName := ⟨RX8, "checkLetter", "(I)V"⟩
abbrev cX8_checkPrefixes : ByteArray := prog_1_method_45_code
def yX8_checkPrefixes : MethodName := ⟨RX8, "checkPrefixes", "(III)V"⟩
abbrev cX8_checkBound : ByteArray := prog_1_method_46_code
def yX8_checkBound : MethodName := ⟨RX8, "checkBound", "(I)V"⟩
abbrev cX8_replaceCost : ByteArray := prog_1_method_47_code
def yX8_replaceCost : MethodName := ⟨RX8, "replaceCost", "(II)I"⟩
abbrev cX8_leastCost : ByteArray := prog_1_method_48_code
def yX8_leastCost : MethodName := ⟨RX8, "leastCost", "(IIII)I"⟩
def RX9 : String := "BlockDistanceModel"
def TX9 : u_T := fun k => match k with
  | 0 => ("BlockDistanceModel", "s", "[I", true)
  | 1 => ("BlockDistanceModel", "before", "[I", true)
  | 2 => ("BlockDistanceModel", "known", "I", false)
  | 3 => ("BlockDistanceModel", "block", "I", false)
  | 4 => ("BlockDistanceModel", "isMet", "[Z", true)
  | 5 => ("BlockDistanceModel", "foretold", "[I", true)
  | 6 => ("BlockDistanceModel", "foretelling", "I", false)
  | 7 => ("BlockDistanceModel", "hits", "I", false)
  | 8 => ("BlockDistanceModel", "misses", "I", false)
  | 9 => ("BlockDistanceModel", "singles", "I", false)
  | 10 => ("BlockDistanceModel", "buffer", "[I", true)
  | 11 => ("BlockDistanceModel", "length", "I", false)
  | 12 => ("BlockDistanceModel", "thrown", "I", false)
  | 13 => ("BlockDistanceModel", "grid", "[I", true)
  | 14 => ("BlockDistanceModel", "way", "[I", true)
  | 15 => ("BlockDistanceModel", "steps", "I", false)
  | 16 => ("BlockDistanceModel", "place", "I", false)
  | 17 => ("BlockDistanceModel", "isWrong", "Z", false)
  | _ => ("BlockDistanceModel", "bar", "I", false)
def tyX9 : Nat → FieldType := fun k => match k with
  | 0 => .array .int
  | 1 => .array .int
  | 2 => .int
  | 3 => .int
  | 4 => .array .boolean
  | 5 => .array .int
  | 6 => .int
  | 7 => .int
  | 8 => .int
  | 9 => .int
  | 10 => .array .int
  | 11 => .int
  | 12 => .int
  | 13 => .array .int
  | 14 => .array .int
  | 15 => .int
  | 16 => .int
  | 17 => .boolean
  | _ => .int
abbrev wsX90 : List Cond := u_ws RX9 TX9 19
theorem nmX9 : ∀ a, a < 19 → ∀ b, b < 19 → a ≠ b → (TX9 a).2.1 ≠ (TX9 b).2.1 := by decide +kernel
theorem tyX9_ok : ∀ k, k < 19 → parseFieldDescriptor (TX9 k).2.2.1 = some (tyX9 k) := by decide +kernel
abbrev cX9_init : ByteArray := prog_11_method_1_code
def yX9_init : MethodName := ⟨RX9, "<init>", "()V"⟩
abbrev cX9_thrown : ByteArray := prog_11_method_2_code
def yX9_thrown : MethodName := ⟨RX9, "thrown", "()I"⟩
abbrev cX9_throwing : ByteArray := prog_11_method_3_code
def yX9_throwing : MethodName := ⟨RX9, "throwing", "(I)I"⟩
abbrev cX9_in : ByteArray := prog_11_method_4_code
def yX9_in : MethodName := ⟨RX9, "in", "(III)Z"⟩
abbrev cX9_save : ByteArray := prog_11_method_5_code
def yX9_save : MethodName := ⟨RX9, "save", "()V"⟩
abbrev cX9_isText : ByteArray := prog_11_method_6_code
def yX9_isText : MethodName := ⟨RX9, "isText", "(I)Z"⟩
abbrev cX9_of : ByteArray := prog_11_method_7_code
def yX9_of : MethodName := ⟨RX9, "of", "(II)I"⟩
abbrev cX9_isLetter : ByteArray := prog_11_method_8_code
def yX9_isLetter : MethodName := ⟨RX9, "isLetter", "(I)Z"⟩
abbrev cX9_least : ByteArray := prog_11_method_9_code
def yX9_least : MethodName := ⟨RX9, "least", "(III)I"⟩
abbrev cX9_d : ByteArray := prog_11_method_10_code
def yX9_d : MethodName := ⟨RX9, "d", "(II)I"⟩
abbrev cX9_cost : ByteArray := prog_11_method_11_code
def yX9_cost : MethodName := ⟨RX9, "cost", "(II)I"⟩
abbrev cX9_lay : ByteArray := prog_11_method_12_code
def yX9_lay : MethodName := ⟨RX9, "lay", "(Z)V"⟩
abbrev cX9_whole : ByteArray := prog_11_method_13_code
def yX9_whole : MethodName := ⟨RX9, "whole", "()I"⟩
abbrev cX9_layWay : ByteArray := prog_11_method_14_code
def yX9_layWay : MethodName := ⟨RX9, "layWay", "()V"⟩
abbrev cX9_keyOf : ByteArray := prog_11_method_15_code
def yX9_keyOf : MethodName := ⟨RX9, "keyOf", "(II)I"⟩
abbrev cX9_goBlocks : ByteArray := prog_11_method_16_code
def yX9_goBlocks : MethodName := ⟨RX9, "goBlocks", "(Z)I"⟩
abbrev cX9_go : ByteArray := prog_11_method_17_code
def yX9_go : MethodName := ⟨RX9, "go", "()V"⟩
abbrev cX9_load : ByteArray := prog_11_method_18_code
def yX9_load : MethodName := ⟨RX9, "load", "()I"⟩
abbrev cX9_insert : ByteArray := prog_11_method_19_code
def yX9_insert : MethodName := ⟨RX9, "insert", "(III)I"⟩
abbrev cX9_remove : ByteArray := prog_11_method_20_code
def yX9_remove : MethodName := ⟨RX9, "remove", "(II)I"⟩
abbrev cX9_replace : ByteArray := prog_11_method_21_code
def yX9_replace : MethodName := ⟨RX9, "replace", "(III)I"⟩
abbrev cX9_exchange : ByteArray := prog_11_method_22_code
def yX9_exchange : MethodName := ⟨RX9, "exchange", "()I"⟩
abbrev cX9_setAlphabet : ByteArray := prog_11_method_23_code
def yX9_setAlphabet : MethodName := ⟨RX9, "setAlphabet", "(I)I"⟩
abbrev cX9_length : ByteArray := prog_11_method_24_code
def yX9_length : MethodName := ⟨RX9, "length", "(I)I"⟩
abbrev cX9_letter : ByteArray := prog_11_method_25_code
def yX9_letter : MethodName := ⟨RX9, "letter", "(II)I"⟩
abbrev cX9_distance : ByteArray := prog_11_method_26_code
def yX9_distance : MethodName := ⟨RX9, "distance", "()I"⟩
abbrev cX9_prefix : ByteArray := prog_11_method_27_code
def yX9_prefix : MethodName := ⟨RX9, "prefix", "(II)I"⟩
abbrev cX9_steps : ByteArray := prog_11_method_28_code
def yX9_steps : MethodName := ⟨RX9, "steps", "()I"⟩
abbrev cX9_step : ByteArray := prog_11_method_29_code
def yX9_step : MethodName := ⟨RX9, "step", "(I)I"⟩
abbrev cX9_count : ByteArray := prog_11_method_30_code
def yX9_count : MethodName := ⟨RX9, "count", "(I)I"⟩
abbrev cX9_within : ByteArray := prog_11_method_31_code
def yX9_within : MethodName := ⟨RX9, "within", "(I)I"⟩
abbrev cX9_band : ByteArray := prog_11_method_32_code
def yX9_band : MethodName := ⟨RX9, "band", "(I)I"⟩
abbrev cX9_similarity : ByteArray := prog_11_method_33_code
def yX9_similarity : MethodName := ⟨RX9, "similarity", "()D"⟩
abbrev cX9_setBlock : ByteArray := prog_11_method_34_code
def yX9_setBlock : MethodName := ⟨RX9, "setBlock", "(I)I"⟩
abbrev cX9_measure : ByteArray := prog_11_method_35_code
def yX9_measure : MethodName := ⟨RX9, "measure", "()I"⟩
abbrev cX9_hits : ByteArray := prog_11_method_36_code
def yX9_hits : MethodName := ⟨RX9, "hits", "()I"⟩
abbrev cX9_misses : ByteArray := prog_11_method_37_code
def yX9_misses : MethodName := ⟨RX9, "misses", "()I"⟩
abbrev cX9_singleSteps : ByteArray := prog_11_method_38_code
def yX9_singleSteps : MethodName := ⟨RX9, "singleSteps", "()I"⟩
abbrev cX9_across : ByteArray := prog_11_method_39_code
def yX9_across : MethodName := ⟨RX9, "across", "(II)I"⟩
abbrev cX9_found : ByteArray := prog_11_method_40_code
def yX9_found : MethodName := ⟨RX9, "found", "()I"⟩
abbrev cX9_end : ByteArray := prog_11_method_41_code
def yX9_end : MethodName := ⟨RX9, "end", "()I"⟩
abbrev cX9_foundDistance : ByteArray := prog_11_method_42_code
def yX9_foundDistance : MethodName := ⟨RX9, "foundDistance", "()I"⟩
abbrev cX9_foundEnd : ByteArray := prog_11_method_43_code
def yX9_foundEnd : MethodName := ⟨RX9, "foundEnd", "()I"⟩
abbrev cX9_tried : ByteArray := prog_11_method_44_code
def yX9_tried : MethodName := ⟨RX9, "tried", "(III)I"⟩
abbrev cX9_ifReplaced : ByteArray := prog_11_method_45_code
def yX9_ifReplaced : MethodName := ⟨RX9, "ifReplaced", "(III)I"⟩
abbrev cX9_best : ByteArray := prog_11_method_46_code
def yX9_best : MethodName := ⟨RX9, "best", "(I)I"⟩
abbrev cX9_bestReplacement : ByteArray := prog_11_method_47_code
def yX9_bestReplacement : MethodName := ⟨RX9, "bestReplacement", "(I)I"⟩
abbrev cX9_missesToCome : ByteArray := prog_11_method_48_code
def yX9_missesToCome : MethodName := ⟨RX9, "missesToCome", "()I"⟩
abbrev cX9_append : ByteArray := prog_11_method_49_code
def yX9_append : MethodName := ⟨RX9, "append", "(I)I"⟩
abbrev cX9_clearBuffer : ByteArray := prog_11_method_50_code
def yX9_clearBuffer : MethodName := ⟨RX9, "clearBuffer", "()I"⟩
abbrev cX9_firstError : ByteArray := prog_11_method_51_code
def yX9_firstError : MethodName := ⟨RX9, "firstError", "()I"⟩
abbrev cX9_undo : ByteArray := prog_11_method_52_code
def yX9_undo : MethodName := ⟨RX9, "undo", "()I"⟩
abbrev cX9_savedStates : ByteArray := prog_11_method_53_code
def yX9_savedStates : MethodName := ⟨RX9, "savedStates", "()I"⟩
abbrev cX9_digest : ByteArray := prog_11_method_54_code
def yX9_digest : MethodName := ⟨RX9, "digest", "()J"⟩
def RL : String := "BlockDistanceLaw"
abbrev cL_load : ByteArray := method_3_code
def yL_load : MethodName := ⟨RL, "load", "(LBlockDistance;[J)I"⟩
abbrev cL_insert : ByteArray := method_4_code
def yL_insert : MethodName := ⟨RL, "insert", "(LBlockDistance;III[J)I"⟩
abbrev cL_remove : ByteArray := method_5_code
def yL_remove : MethodName := ⟨RL, "remove", "(LBlockDistance;II[J)I"⟩
abbrev cL_replace : ByteArray := method_6_code
def yL_replace : MethodName := ⟨RL, "replace", "(LBlockDistance;III[J)I"⟩
abbrev cL_setAlphabet : ByteArray := method_7_code
def yL_setAlphabet : MethodName := ⟨RL, "setAlphabet", "(LBlockDistance;I[J)I"⟩
abbrev cL_length : ByteArray := method_8_code
def yL_length : MethodName := ⟨RL, "length", "(LBlockDistance;I[J)I"⟩
abbrev cL_letter : ByteArray := method_9_code
def yL_letter : MethodName := ⟨RL, "letter", "(LBlockDistance;II[J)I"⟩
abbrev cL_prefix : ByteArray := method_10_code
def yL_prefix : MethodName := ⟨RL, "prefix", "(LBlockDistance;II[J)I"⟩
abbrev cL_step : ByteArray := method_11_code
def yL_step : MethodName := ⟨RL, "step", "(LBlockDistance;I[J)I"⟩
abbrev cL_count : ByteArray := method_12_code
def yL_count : MethodName := ⟨RL, "count", "(LBlockDistance;I[J)I"⟩
abbrev cL_within : ByteArray := method_13_code
def yL_within : MethodName := ⟨RL, "within", "(LBlockDistance;I[J)I"⟩
abbrev cL_band : ByteArray := method_14_code
def yL_band : MethodName := ⟨RL, "band", "(LBlockDistance;I[J)I"⟩
abbrev cL_setBlock : ByteArray := method_15_code
def yL_setBlock : MethodName := ⟨RL, "setBlock", "(LBlockDistance;I[J)I"⟩
abbrev cL_across : ByteArray := method_16_code
def yL_across : MethodName := ⟨RL, "across", "(LBlockDistance;II[J)I"⟩
abbrev cL_ifReplaced : ByteArray := method_17_code
def yL_ifReplaced : MethodName := ⟨RL, "ifReplaced", "(LBlockDistance;III[J)I"⟩
abbrev cL_bestReplacement : ByteArray := method_18_code
def yL_bestReplacement : MethodName := ⟨RL, "bestReplacement", "(LBlockDistance;I[J)I"⟩
abbrev cL_append : ByteArray := method_19_code
def yL_append : MethodName := ⟨RL, "append", "(LBlockDistance;I[J)I"⟩
abbrev cL_undo : ByteArray := method_20_code
def yL_undo : MethodName := ⟨RL, "undo", "(LBlockDistance;[J)I"⟩
abbrev cL_law : ByteArray := code
def yL_law : MethodName := ⟨RL, "law", "([I)Z"⟩
abbrev vwCl : List vw_C := [(RX0, TX0, 5), (RX1, TX1, 1), (RX2, TX2, 2), (RX3, TX3, 4), (RX4, TX4, 3), (RX5, TX5, 3), (RX6, TX6, 2), (RX7, TX7, 2), (RX8, TX8, 9), (RX9, TX9, 19)]

/-- every word of the tables that stays good while the machine warms: the one list of all contracts -/
def WA : List Cond := lw_tbl.filter goodWord
theorem wa_of {w : Cond} (i : Nat) (h : lw_tbl[i]? = some w) (g : goodWord w = true) : w ∈ WA := List.mem_filter.mpr ⟨List.mem_of_getElem? h, g⟩
theorem wa_all (ws : List Cond) (ps : List Nat) (hp : ws = ps.filterMap (fun i => lw_tbl[i]?)) (g : ws.all goodWord = true) : ∀ w ∈ ws, w ∈ WA := by
  intro w hw
  have h1 := List.all_eq_true.mp g w hw
  rw [hp] at hw
  obtain ⟨i, -, hi⟩ := List.mem_filterMap.mp hw
  exact wa_of i hi h1
theorem wa_good {w : Cond} (h : w ∈ WA) : goodWord w = true := (List.mem_filter.mp h).2
theorem wa_tbl {w : Cond} (h : w ∈ WA) : w ∈ lw_tbl := (List.mem_filter.mp h).1
abbrev wz (y : MethodName) (cc : ByteArray) (n : Nat) (r : Option FieldType) : List Cond := .code y cc n r :: WA
theorem wfX0 : ∀ w ∈ wsX00, w ∈ WA := wa_all _ [150, 152, 154, 156, 158] (by decide +kernel) (by decide +kernel)
theorem wfX1 : ∀ w ∈ wsX10, w ∈ WA := wa_all _ [123] (by decide +kernel) (by decide +kernel)
theorem wfX2 : ∀ w ∈ wsX20, w ∈ WA := wa_all _ [111, 113] (by decide +kernel) (by decide +kernel)
theorem wfX3 : ∀ w ∈ wsX30, w ∈ WA := wa_all _ [176, 178, 180, 182] (by decide +kernel) (by decide +kernel)
theorem wfX4 : ∀ w ∈ wsX40, w ∈ WA := wa_all _ [96, 98, 100] (by decide +kernel) (by decide +kernel)
theorem wfX5 : ∀ w ∈ wsX50, w ∈ WA := wa_all _ [78, 80, 82] (by decide +kernel) (by decide +kernel)
theorem wfX6 : ∀ w ∈ wsX60, w ∈ WA := wa_all _ [69, 71] (by decide +kernel) (by decide +kernel)
theorem wfX7 : ∀ w ∈ wsX70, w ∈ WA := wa_all _ [134, 136] (by decide +kernel) (by decide +kernel)
theorem wfX8 : ∀ w ∈ wsX80, w ∈ WA := wa_all _ [194, 196, 198, 200, 202, 204, 206, 208, 210] (by decide +kernel) (by decide +kernel)
theorem wfX9 : ∀ w ∈ wsX90, w ∈ WA := wa_all _ [830, 832, 834, 836, 838, 840, 842, 844, 846, 848, 850, 852, 854, 856, 858, 860, 862, 864, 866] (by decide +kernel) (by decide +kernel)
end
section
/-! ===== BEGIN words of one list among another's, by their places ===== -/
theorem goodIn_r {big : List Cond} (ws : List Cond) (ps : List Nat) (hp : ws = ps.filterMap (fun i => big[i]?)) (h : ws.all goodWord = true) : GoodIn big ws := by
  intro w hw
  have h1 := List.all_eq_true.mp h w hw
  rw [hp] at hw
  obtain ⟨i, -, hi⟩ := List.mem_filterMap.mp hw
  have hm : w ∈ big := by first | exact List.mem_of_getElem? hi | exact List.getElem?_mem hi
  exact ⟨hm, good_of_word h1⟩
theorem goodIn_app {big a b : List Cond} (ha : GoodIn big a) (hb : GoodIn big b) : GoodIn big (a ++ b) := fun w h => (List.mem_append.mp h).elim (ha w) (hb w)
theorem goodIn_ca {big a b : List Cond} {c : Cond} (ha : GoodIn big (c :: a)) (hb : GoodIn big b) : GoodIn big (c :: (a ++ b)) := fun w h => (List.mem_cons.mp h).elim (fun e => ha w (List.mem_cons.mpr (Or.inl e))) (fun h => (List.mem_append.mp h).elim (fun h => ha w (List.mem_cons.mpr (Or.inr h))) (hb w))
theorem goodIn_sub {big ws : List Cond} (hm : ∀ w ∈ ws, w ∈ big) (h : ws.all goodWord = true) : GoodIn big ws := fun w hw => ⟨hm w hw, good_of_word (List.all_eq_true.mp h w hw)⟩
/-! ===== END ===== -/

/-! ===== BEGIN exceptions that leave a method, and their catching by the caller (launches without stack traces) ===== -/
section VXA
/-! The laws vx_back, vx_callV, vx_callS, vx_callSW, vx_throw0, vx_throwS follow proofs of the library, with one case more: JvmDerived/Free/Laws.lean (Back.of_free), Shelf42/LK1.lean (callV, callS), Shelf/KitTraced.lean (throwNew0V, throwNewS). -/
/-- where a method has thrown q: the class by its name, the cell, what was written, the world -/
def vx_T (XC : String → State → State → Prop) (st : State) (q : Addr) (t : State) (mc ms : Nat) (free : Addr → Prop) : Prop :=
  ∃ (E : String) (ce : Cell) (L : List Loc), XC E st t ∧ t.heap[q]? = some ce ∧ ce.vm = .none ∧ st.vm.findClass E = some ce.cls ∧ st.WarmedH t.vm ∧ st.sameButNew ({ t with vm := st.vm } : State) L mc ms ∧ ∀ z ∈ L, free z.base
def vx_Q (Qc : Array Value → State → Outcome → State → Prop) (XC : String → State → State → Prop) (mc ms : Nat) (free : Addr → Prop) : Array Value → State → Outcome → State → Prop := fun a st o t =>
  (Qc a st o t ∧ ∃ L, FrameEnd st o t L mc ms ∧ ∀ q ∈ L, free q.base) ∨ ∃ q, o = .threw q ∧ vx_T XC st q t mc ms free
/-- a callee that returns or throws -/
def vx_Met (l : Launch) (y : MethodName) (ws : List Cond) (rm : Room) (Pc : Array Value → State → Prop) (Qc : Array Value → State → Outcome → State → Prop) (XC : String → State → State → Prop) (mc ms : Nat) (free : Addr → Prop) : Prop :=
  MetFree l y (headSpec ws rm) Pc (fun _ _ _ _ _ => True) (vx_Q Qc XC mc ms free)
def vx_Post (XC : String → State → State → Prop) (mc ms : Nat) (free : Addr → Prop) : Pt → Array Value → Addr → Pt → Prop := fun A a q B =>
  ∃ (g : JFrame) (mk : MethodId) (t : State) (L : List Loc) (E : String) (ce : Cell), B.U.heap = t.heap ∧ B.U.vm = t.vm ∧ XC E (A.U.calling g mk a) t ∧ t.heap[q]? = some ce ∧ ce.vm = .none ∧ A.U.vm.findClass E = some ce.cls ∧ B.locs = A.locs ++ L ∧ (∀ z ∈ L, free z.base) ∧ B.cells = A.cells + mc ∧ B.slots = A.slots + ms
def vx_Back (l : Launch) (R : Room) (p : Program) (e : Env) (below : List Frame) (s : State) (sargs : Array Value) (y : MethodName) (len W9 : Nat)
    (Pre : Pt → Array Value → Prop) (Post : Pt → Array Value → Option Value → Pt → Prop) (PostX : Pt → Array Value → Addr → Pt → Prop) : Prop :=
  ∀ (m : MethodId) (meth : Method) (c : Code) (A : Pt) (g : JFrame) (ig : Instr) (mk : MethodId) (a : Array Value),
    Stand p l e R s m sargs below meth c A.U A.locs A.cells A.slots → g.method = m → g.locals.size = c.maxLocals → decode c.code g.pc = .ok (ig, len) →
    2 * g.monitorRoom + (g.stack.map fun v => v.category).sum ≤ W9 → A.U.methodNamed? y = some mk → Pre A a →
    (∃ (v : Option Value) (B : Pt), Stand p l e R s m sargs below meth c B.U B.locs B.cells B.slots ∧ Post A a v B ∧
      Steps p.tables e below (doInvoke e (A.U.setTop g) [] mk a).1 (B.U.setTop { g with pc := g.pc + len, stack := v.toList ++ g.stack })) ∨
    (∃ (q : Addr) (B : Pt), Stand p l e R s m sargs below meth c B.U B.locs B.cells B.slots ∧ PostX A a q B ∧
      Steps p.tables e below (doInvoke e (A.U.setTop g) [] mk a).1 ((B.U.setTop g).pushFrame (.throwing q)))
section Payer
variable {l : Launch} {R : Room} {p : Program} {e : Env} {below : List Frame} {s : State} {sargs : Array Value} {y : MethodName} {len W9 : Nat}
theorem vx_back {ws : List Cond} {rm : Room} {Pc : Array Value → State → Prop} {Qc : Array Value → State → Outcome → State → Prop} {XC : String → State → State → Prop} {mc ms : Nat} {free : Addr → Prop} {bytes : ByteArray} {maxL : Nat} {ret : Option FieldType}
    (hM : vx_Met l y ws rm Pc Qc XC mc ms free) (hblind : FrameBlind Pc) (hrc : rm.cells = mc) (hrs : rm.slots = ms)
    (hframes : rm.frames + 1 ≤ R.frames) (hlocals : W9 + (maxL + 11) + rm.locals ≤ R.locals)
    (hws : ∀ w ∈ ws, ∀ a' U, s.WarmedH U.vm → w.before a' U = true) (hcode : Cond.code y bytes maxL ret ∈ ws) (hinit : ∀ a' U, s.WarmedH U.vm → (Cond.initialized y.cls).before a' U = true) :
    vx_Back l R p e below s sargs y len W9 (PreOf R mc ms Pc) (PostOf Qc mc ms free) (vx_Post XC mc ms free) := by
  intro m meth c A g ig mk a X hg hsize hdg hW hn hp
  have h1 : (headSpec ws rm).pre.before a A.U = true := atoms_intro fun w hw => hws w hw _ _ X.warmed
  have h2 : (Cond.code y bytes maxL ret).before a A.U = true := hws _ hcode _ _ X.warmed
  have h3 : (Cond.initialized y.cls).before a A.U = true := hinit _ _ X.warmed
  have h4 : A.cells + (headSpec ws rm).room.cells ≤ R.cells := by rw [show (headSpec ws rm).room.cells = mc from hrc]; exact hp.1
  have h5 : A.slots + (headSpec ws rm).room.slots ≤ R.slots := by rw [show (headSpec ws rm).room.slots = ms from hrs]; exact hp.2.1
  have hPc : Pc a (A.U.calling g mk a) := hblind _ _ _ _ hp.2.2
  obtain ⟨U, Ls, c0, s0⟩ := A
  dsimp only [Pt.U, Pt.locs, Pt.cells, Pt.slots] at h1 h2 h3 h4 h5 X hn hPc ⊢
  obtain ⟨methY, cY, hmY, hcY, -, hlY, -, -, -, -⟩ := Cond.code_spec hn h2
  obtain ⟨kY, hkY, -⟩ := className_of_methodNamed hn
  have hinitY : kY.init = .initialized := Cond.initialized_spec (findClass_of_methodNamed hn) hkY h3
  have h : At U g.method c below := by rw [hg]; exact X.here
  have hlocals9 : W9 + (maxL + 11) + (headSpec ws rm).room.locals ≤ R.locals := hlocals
  have happ : (headSpec ws rm).appliesLoose y e.platform (U.calling g mk a) = true :=
    Spec.appliesLoose_calling (g := g) h hdg hn hkY hinitY
      (X.room_calling (g := g) (R' := (headSpec ws rm).room) hsize hmY hcY hframes (by rw [hlY]; omega) h4 h5) h1
  obtain ⟨mid, hmid⟩ := h.above
  have hfr : (U.setTop g).frames = (.java g :: mid) ++ below := by rw [State.frames_setTop' g h.top, hmid]; rfl
  obtain ⟨o, s₂, hsteps, -, hend, hq⟩ := Steps.callFree hM p X.admits X.cas X.clock (acts := []) hfr happ hPc trivial
  have hq' : vx_Q Qc XC mc ms free a (U.calling g mk a) o s₂ := hq
  rw [State.frames_setTop' g h.top] at hend
  obtain ⟨g₀, hg0⟩ := Option.isSome_iff_exists.mp h.top
  obtain ⟨r, hr⟩ := State.topJava?_eq_some.mp hg0
  have hr' : (({ U with heap := s₂.heap, slotsUsed := s₂.slotsUsed } : State).setVm s₂.vm).frames = .java g₀ :: r := hr
  rcases hq' with ⟨hqc, L, hfe, hL⟩ | ⟨q, rfl, E, ce, L, hx, hce, hcv, hcl, hW₂, hsm, hL⟩
  · obtain ⟨⟨v, rfl⟩, hW₂, e2, q2, q3, q4, q5, q6⟩ := id hfe
    have e3 : s₂ = ({ (U.calling g mk a).setFrames s₂.frames with heap := s₂.heap, slotsUsed := s₂.slotsUsed } : State).setVm s₂.vm := by
      have : s₂ = ({ s₂ with vm := (U.calling g mk a).vm } : State).setVm s₂.vm := rfl
      rw [e2] at this
      exact this
    obtain ⟨c₂, i₂, len₂, hc₂, hd₂, hf₂⟩ := hend
    have hW' : U.WarmedH s₂.vm := hW₂
    have hcc : c₂ = c := by
      have h1 : s₂.code? g.method = U.code? g.method := by
        rw [State.code?_eq, State.code?_eq, hW'.alike.method?]
      exact Option.some.inj (hc₂.symm.trans (h1.trans h.code))
    subst hcc
    have hlen : len₂ = len := by rw [hdg] at hd₂; cases hd₂; rfl
    subst hlen
    have hs₂ : s₂ = (({ U with heap := s₂.heap, slotsUsed := s₂.slotsUsed } : State).setVm s₂.vm).setTop { g with pc := g.pc + len₂, stack := v.toList ++ g.stack } := by
      refine e3.trans ?_
      rw [hf₂, State.calling_eq h.top, State.setFrames_setFrames, State.setTop_of_frames _ hr', hr]
      rfl
    have hsame : U.sameButNew ({ U with heap := s₂.heap, slotsUsed := s₂.slotsUsed } : State) L mc ms := by
      refine ⟨?_, q2, q3, q4, q5, q6⟩
      obtain ⟨t, ht, -⟩ := State.frames_cons hr
      show ({ U with heap := s₂.heap, slotsUsed := s₂.slotsUsed } : State) = { U.setFrames U.frames with heap := s₂.heap, slotsUsed := s₂.slotsUsed }
      rw [State.setFrames_self ht]
    subst hg
    refine Or.inl ⟨v, ⟨(({ U with heap := s₂.heap, slotsUsed := s₂.slotsUsed } : State).setVm s₂.vm), Ls ++ L, c0 + mc, s0 + ms⟩,
      ⟨X.admits, X.cas, X.clock, X.frames, X.room, X.hears, X.method, X.code, (X.here.setHeapUsed s₂.heap s₂.slotsUsed).setVm hW'.alike, X.tail, State.WarmedH.trans X.warmed hW', X.limits, X.bytes, X.same.trans (hsame.setVm s.vm)⟩,
      ⟨g, mk, s₂, L, rfl, rfl, hqc, rfl, hL, rfl, rfl⟩, ?_⟩
    show Steps p.tables e below _ ((({ U with heap := s₂.heap, slotsUsed := s₂.slotsUsed } : State).setVm s₂.vm).setTop { g with pc := g.pc + len₂, stack := v.toList ++ g.stack })
    rw [← hs₂]
    exact hsteps
  · obtain ⟨e2, q2, q3, q4, q5, q6⟩ := id hsm
    have e3 : s₂ = ({ (U.calling g mk a).setFrames s₂.frames with heap := s₂.heap, slotsUsed := s₂.slotsUsed } : State).setVm s₂.vm := by
      have : s₂ = ({ s₂ with vm := (U.calling g mk a).vm } : State).setVm s₂.vm := rfl
      rw [e2] at this
      exact this
    have hf₂ : s₂.frames = .throwing q :: .java g :: U.frames.tail := hend
    have hW' : U.WarmedH s₂.vm := hW₂
    have hs₂ : s₂ = ((({ U with heap := s₂.heap, slotsUsed := s₂.slotsUsed } : State).setVm s₂.vm).setTop g).pushFrame (.throwing q) := by
      refine e3.trans ?_
      rw [hf₂, State.calling_eq h.top, State.setFrames_setFrames, State.pushFrame, State.frames_setTop _ hr', State.setTop_of_frames _ hr', State.setFrames_setFrames, hr]
      rfl
    have hsame : U.sameButNew ({ U with heap := s₂.heap, slotsUsed := s₂.slotsUsed } : State) L mc ms := by
      refine ⟨?_, q2, q3, q4, q5, q6⟩
      obtain ⟨t, ht, -⟩ := State.frames_cons hr
      show ({ U with heap := s₂.heap, slotsUsed := s₂.slotsUsed } : State) = { U.setFrames U.frames with heap := s₂.heap, slotsUsed := s₂.slotsUsed }
      rw [State.setFrames_self ht]
    subst hg
    refine Or.inr ⟨q, ⟨(({ U with heap := s₂.heap, slotsUsed := s₂.slotsUsed } : State).setVm s₂.vm), Ls ++ L, c0 + mc, s0 + ms⟩,
      ⟨X.admits, X.cas, X.clock, X.frames, X.room, X.hears, X.method, X.code, (X.here.setHeapUsed s₂.heap s₂.slotsUsed).setVm hW'.alike, X.tail, State.WarmedH.trans X.warmed hW', X.limits, X.bytes, X.same.trans (hsame.setVm s.vm)⟩,
      ⟨g, mk, s₂, L, E, ce, rfl, rfl, hx, hce, hcv, hcl, rfl, hL, rfl, rfl⟩, ?_⟩
    show Steps p.tables e below _ (((({ U with heap := s₂.heap, slotsUsed := s₂.slotsUsed } : State).setVm s₂.vm).setTop g).pushFrame (.throwing q))
    rw [← hs₂]
    exact hsteps
end Payer
section Calls
variable {p : Program} {l : Launch} {e : Env} {R : Room} {s : State} {m : MethodId} {args : Array Value} {below : List Frame} {meth : Method} {c : Code} {T : State} {locs : List Loc} {cells slots : Nat}
theorem vx_callV (X : Stand p l e R s m args below meth c T locs cells slots) (hexec : p.tables.exec = Jvm.exec) {own C : String} {index : Nat} {y : MethodName} {bytes : ByteArray} {maxL : Nat} {ret : Option FieldType}
    (hown : s.vm.findClass own = some m.cls) (hlink : (Cond.methodLink own index y).before args s = true) (hinst : (Cond.instanceMethod y).before args s = true) (hsel : (Cond.selects C y y).before args s = true)
    (hcode : (Cond.code y bytes maxL ret).before args s = true) (hy : y.cls ≠ "java/lang/invoke/MethodHandle" ∧ y.cls ≠ "java/lang/invoke/VarHandle")
    {W9 : Nat} {Pre : Pt → Array Value → Prop} {Post : Pt → Array Value → Option Value → Pt → Prop} {PostX : Pt → Array Value → Addr → Pt → Prop} (hK : vx_Back l R p e below s args y 3 W9 Pre Post PostX)
    {b : Addr} {cellB : Cell} (hcell : T.heap[b]? = some cellB) (hobj : cellB.vm.isStatics = false) (hcls : s.vm.findClass C = some cellB.cls)
    {g : JFrame} (hg : g.method = m) (hsize : g.locals.size = c.maxLocals) {argsL rest : List Value} (hlen : ∀ sig, parseMethodDescriptor y.desc = some sig → argsL.length = sig.parameters.length)
    (hstack : g.stack = argsL.reverse ++ .ref b :: rest) (hW : 2 * g.monitorRoom + (rest.map fun v => v.category).sum ≤ W9) (hdg : decode c.code g.pc = .ok (.invokevirtual index, 3))
    (hpre : ∀ vm₁, s.WarmedH vm₁ → Pre ⟨T.setVm vm₁, locs, cells, slots⟩ (Value.ref b :: argsL).toArray) :
    (∃ (v : Option Value) (vm₁ : Vm) (B : Pt), s.WarmedH vm₁ ∧ Stand p l e R s m args below meth c B.U B.locs B.cells B.slots ∧ Post ⟨T.setVm vm₁, locs, cells, slots⟩ (Value.ref b :: argsL).toArray v B ∧
      ∀ target, Steps p.tables e below (B.U.setTop { g with pc := g.pc + 3, stack := v.toList ++ rest }) target → Steps p.tables e below (T.setTop g) target) ∨
    (∃ (q : Addr) (vm₁ : Vm) (B : Pt), s.WarmedH vm₁ ∧ Stand p l e R s m args below meth c B.U B.locs B.cells B.slots ∧ PostX ⟨T.setVm vm₁, locs, cells, slots⟩ (Value.ref b :: argsL).toArray q B ∧
      Steps p.tables e below (T.setTop g) ((B.U.setTop { g with stack := rest }).pushFrame (.throwing q))) := by
  obtain ⟨mk, methM, hnamed, hmethM, hstM, habM⟩ := Cond.instanceMethod_spec hinst
  obtain ⟨methM', cM, hmethM', -, -, -, -, -, -, hsigM⟩ := Cond.code_spec hnamed hcode
  cases hmethM.symm.trans hmethM'
  obtain ⟨c2, r2, m2, q1, q2, q3, q4, kP, hkP, hkPi⟩ := Cond.selects_spec hsel
  cases hcls.symm.trans q1
  cases (State.methodFound?_of_named hnamed hy).symm.trans q2
  cases hnamed.symm.trans q3
  have hselP : selectMethod e.platform s.vm cellB.cls mk = .method mk := by rw [Launch.admits_selectMethod X.admits]; exact q4
  obtain ⟨vm₁, X₁, hstep₁⟩ := X.invokevirtual hexec hown hlink hnamed hmethM hstM hkP hkPi hy (a := b) (cell := cellB) hcell
    (fun z h => by rw [h] at hobj; cases hobj) hselP hmethM habM hkP hkPi (g := g) hg (argsL := argsL) (rest := rest) (hlen _ hsigM) hstack hdg
  rcases hK m meth c ⟨T.setVm vm₁, locs, cells, slots⟩ { g with stack := rest } (.invokevirtual index) mk (Value.ref b :: argsL).toArray X₁ hg hsize hdg hW (X₁.named hnamed) (hpre vm₁ X₁.warmed) with ⟨v, B, X', hpost, hsteps⟩ | ⟨q, B, X', hpost, hsteps⟩
  · exact Or.inl ⟨v, vm₁, B, X₁.warmed, X', hpost, fun target h => hstep₁ _ fun acts => by rw [doInvoke_state]; exact hsteps.trans h⟩
  · exact Or.inr ⟨q, vm₁, B, X₁.warmed, X', hpost, hstep₁ _ fun acts => by rw [doInvoke_state]; exact hsteps⟩
theorem vx_callS (X : Stand p l e R s m args below meth c T locs cells slots) (hexec : p.tables.exec = Jvm.exec) {own : String} {index : Nat} {y : MethodName} {bytes : ByteArray} {maxL : Nat} {ret : Option FieldType}
    (hown : s.vm.findClass own = some m.cls) (hlink : (Cond.methodLink own index y).before args s = true) (hstat : (Cond.static y).before args s = true) (hinit : (Cond.initialized y.cls).before args s = true)
    (hcode : (Cond.code y bytes maxL ret).before args s = true) (hy : y.cls ≠ "java/lang/invoke/MethodHandle" ∧ y.cls ≠ "java/lang/invoke/VarHandle")
    {W9 : Nat} {Pre : Pt → Array Value → Prop} {Post : Pt → Array Value → Option Value → Pt → Prop} {PostX : Pt → Array Value → Addr → Pt → Prop} (hK : vx_Back l R p e below s args y 3 W9 Pre Post PostX)
    {g : JFrame} (hg : g.method = m) (hsize : g.locals.size = c.maxLocals) {argsL rest : List Value} (hlen : ∀ sig, parseMethodDescriptor y.desc = some sig → argsL.length = sig.parameters.length)
    (hstack : g.stack = argsL.reverse ++ rest) (hW : 2 * g.monitorRoom + (rest.map fun v => v.category).sum ≤ W9) (hdg : decode c.code g.pc = .ok (.invokestatic index, 3))
    (hpre : ∀ vm₁, s.WarmedH vm₁ → Pre ⟨T.setVm vm₁, locs, cells, slots⟩ argsL.toArray) :
    (∃ (v : Option Value) (vm₁ : Vm) (B : Pt), s.WarmedH vm₁ ∧ Stand p l e R s m args below meth c B.U B.locs B.cells B.slots ∧ Post ⟨T.setVm vm₁, locs, cells, slots⟩ argsL.toArray v B ∧
      ∀ target, Steps p.tables e below (B.U.setTop { g with pc := g.pc + 3, stack := v.toList ++ rest }) target → Steps p.tables e below (T.setTop g) target) ∨
    (∃ (q : Addr) (vm₁ : Vm) (B : Pt), s.WarmedH vm₁ ∧ Stand p l e R s m args below meth c B.U B.locs B.cells B.slots ∧ PostX ⟨T.setVm vm₁, locs, cells, slots⟩ argsL.toArray q B ∧
      Steps p.tables e below (T.setTop g) ((B.U.setTop { g with stack := rest }).pushFrame (.throwing q))) := by
  obtain ⟨mk, hnamed⟩ := Cond.code_named hcode
  obtain ⟨methM, cM, hmethM, -, -, -, -, -, -, hsigM⟩ := Cond.code_spec hnamed hcode
  have hstatic : methM.isStatic = true := Cond.static_spec hnamed hmethM hstat
  obtain ⟨kP, hkP, -⟩ := className_of_methodNamed hnamed
  have hinitP : kP.init = .initialized := Cond.initialized_spec (findClass_of_methodNamed hnamed) hkP hinit
  obtain ⟨vm₁, X₁, hstep₁⟩ := X.invokestatic hexec hown hlink hnamed hmethM hstatic hkP hinitP hy (g := g) hg (argsL := argsL) (rest := rest) (hlen _ hsigM) hstack hdg
  rcases hK m meth c ⟨T.setVm vm₁, locs, cells, slots⟩ { g with stack := rest } (.invokestatic index) mk argsL.toArray X₁ hg hsize hdg hW (X₁.named hnamed) (hpre vm₁ X₁.warmed) with ⟨v, B, X', hpost, hsteps⟩ | ⟨q, B, X', hpost, hsteps⟩
  · exact Or.inl ⟨v, vm₁, B, X₁.warmed, X', hpost, fun target h => hstep₁ _ fun acts => by rw [doInvoke_state]; exact hsteps.trans h⟩
  · exact Or.inr ⟨q, vm₁, B, X₁.warmed, X', hpost, hstep₁ _ fun acts => by rw [doInvoke_state]; exact hsteps⟩
end Calls
theorem vx_cls {s : State} {T : State} {vm₁ : Vm} {E : String} {k : ClassId} (hW : s.WarmedH vm₁) (h : (T.setVm vm₁).vm.findClass E = some k) : s.vm.findClass E = some k := by
  have h1 : vm₁.findClass E = some k := h
  rw [hW.alike.findClass] at h1
  exact h1
/-- the method's frame g, with q thrown over it -/
def vx_W (p : Program) (l : Launch) (e : Env) (R : Room) (s : State) (m : MethodId) (args : Array Value) (below : List Frame) (meth : Method) (c : Code) (H : Heap) (locs : List Loc) (cells slots : Nat) (Q : State → Prop) (g : JFrame) (q : Addr) : Prop :=
  ∀ T : State, T.heap = H → Stand p l e R s m args below meth c T locs cells slots → ∃ t, Steps p.tables e below ((T.setTop g).pushFrame (.throwing q)) t ∧ Q t
def vx_Run (p : Program) (l : Launch) (e : Env) (R : Room) (s : State) (m : MethodId) (args : Array Value) (below : List Frame) (meth : Method) (c : Code) (H : Heap) (locs : List Loc) (cells slots mc ms : Nat) (g : JFrame) (rest : List Value) (Qa : State → Outcome → State → Prop) (XC : String → State → State → Prop) (free : Addr → Prop) : Prop :=
  ∀ T : State, T.heap = H → Stand p l e R s m args below meth c T locs cells slots →
    (∃ (v : Option Value) (st₀ t T' : State) (L : List Loc), st₀.heap = H ∧ Stand p l e R s m args below meth c T' (locs ++ L) (cells + mc) (slots + ms) ∧ (∀ q ∈ L, free q.base) ∧ T'.heap = t.heap ∧ T'.vm = t.vm ∧ Qa st₀ (.returned v) t ∧
      Goes p e below T g T' { g with pc := g.pc + 3, stack := v.toList ++ rest }) ∨
    (∃ (q : Addr) (st₀ t T' : State) (L : List Loc) (E : String) (ce : Cell), st₀.heap = H ∧ Stand p l e R s m args below meth c T' (locs ++ L) (cells + mc) (slots + ms) ∧ (∀ z ∈ L, free z.base) ∧ T'.heap = t.heap ∧ T'.vm = t.vm ∧ XC E st₀ t ∧ t.heap[q]? = some ce ∧ ce.vm = .none ∧ s.vm.findClass E = some ce.cls ∧
      Steps p.tables e below (T.setTop g) ((T'.setTop { g with stack := rest }).pushFrame (.throwing q)))
def vx_X {S : Type} (px : S → Prop) (B : String → S → State → Prop) (A : Nat → Prop) : String → State → State → Prop := fun E st t => ∃ u : S, px u ∧ B E u t ∧ va_F A st t
section Runs
variable {p : Program} {l : Launch} {e : Env} {R : Room} {s : State} {m : MethodId} {args : Array Value} {below : List Frame} {meth : Method} {c : Code} {H : Heap} {locs : List Loc} {cells slots : Nat}
variable {y : MethodName} {bytes cc : ByteArray} {maxL nL mc ms n index : Nat} {ret : Option FieldType} {ws : List Cond} {rm : Room} {Pc : Array Value → State → Prop} {Qc : Array Value → State → Outcome → State → Prop} {XC : String → State → State → Prop} {free : Addr → Prop} {Ts : List Cond} {own C : String} {b : Addr} {As rest : List Value} {g : JFrame}
theorem vx_callBack (cb : CallB R s args own index y bytes maxL ret ws rm mc ms n) (hM : vx_Met l y ws rm Pc Qc XC mc ms free) (hbl : FrameBlind Pc) : vx_Back l R p e below s args y 3 8 (PreOf R mc ms Pc) (PostOf Qc mc ms free) (vx_Post XC mc ms free) := by
  obtain ⟨hrc, hrs, hfr, hlo, hws, hcw, -, hini, -⟩ := cb
  exact vx_back (bytes := bytes) (maxL := maxL) (ret := ret) hM hbl hrc hrs hfr hlo hws hcw (fun a' U hW => word_at hW (Or.inl (by first | rfl | simp [Cond.onTables, Cond.keeps, Cond.steady])) hini)
theorem vx_runV (S : CallFix p m c cc nL s args Ts own) (hM : vx_Met l y ws rm Pc Qc XC mc ms free) (cw : CallW R s args own C index y bytes maxL ret ws rm mc ms n) (hp : PreV s H C b Pc As)
    (hg : g.method = m) (hn : As.length = n) (hsize : g.locals.size = nL) (hstack : g.stack = As.reverse ++ .ref b :: rest) (hW : 2 * g.monitorRoom + (rest.map fun v => v.category).sum ≤ 8) (hdg : decode cc g.pc = .ok (.invokevirtual index, 3)) (hf : cells + mc ≤ R.cells ∧ slots + ms ≤ R.slots) :
    vx_Run p l e R s m args below meth c H locs cells slots mc ms g rest (Qc (Value.ref b :: As).toArray) XC free := by
  have hK : vx_Back l R p e below s args y 3 8 (PreOf R mc ms Pc) (PostOf Qc mc ms free) (vx_Post XC mc ms free) := vx_callBack cw.1 hM hp.1
  obtain ⟨⟨-, -, -, -, -, -, hcode, -, hy, hlen, hl⟩, hin, hse⟩ := cw
  obtain ⟨hx, hb, hml, ho, -⟩ := S
  obtain ⟨-, ⟨cellB, hcB, hoB, hclB⟩, hPc⟩ := hp
  intro T hT X
  rcases vx_callV X hx (C := C) (bytes := bytes) (maxL := maxL) (ret := ret) ho hl hin hse hcode hy hK (by rw [hT]; exact hcB) hoB hclB hg (hsize.trans hml.symm) (argsL := As) (rest := rest) (fun sig h => hn.trans (hlen sig h)) hstack hW (by rw [hb]; exact hdg)
    (fun vm₁ hW₁ => ⟨hf.1, hf.2, hPc (T.setVm vm₁) hT hW₁⟩) with ⟨v, vm₁, ⟨U', l2, c2, s2⟩, hW₁, X', ⟨g', mk, t, L, e1, e2, hq, h1, hL, h2, h3⟩, st⟩ | ⟨q, vm₁, ⟨U', l2, c2, s2⟩, hW₁, X', ⟨g', mk, t, L, E, ce, e1, e2, hq, hce, hcv, hcl, h1, hL, h2, h3⟩, st⟩
  · dsimp only [Pt.U, Pt.locs, Pt.cells, Pt.slots] at X' e1 e2 h1 h2 h3 st
    subst h1; subst h2; subst h3
    exact Or.inl ⟨v, (T.setVm vm₁).calling g' mk (Value.ref b :: As).toArray, t, U', L, hT, X', hL, e1, e2, hq, st⟩
  · dsimp only [Pt.U, Pt.locs, Pt.cells, Pt.slots] at X' e1 e2 h1 h2 h3 st hcl
    subst h1; subst h2; subst h3
    exact Or.inr ⟨q, (T.setVm vm₁).calling g' mk (Value.ref b :: As).toArray, t, U', L, E, ce, hT, X', hL, e1, e2, hq, hce, hcv, vx_cls hW₁ hcl, st⟩
theorem vx_runS (S : CallFix p m c cc nL s args Ts own) (hM : vx_Met l y ws rm Pc Qc XC mc ms free) (cw : CallB R s args own index y bytes maxL ret ws rm mc ms n ∧ (Cond.static y).before args s = true) (hp : PreS s H Pc As)
    (hg : g.method = m) (hn : As.length = n) (hsize : g.locals.size = nL) (hstack : g.stack = As.reverse ++ rest) (hW : 2 * g.monitorRoom + (rest.map fun v => v.category).sum ≤ 8) (hdg : decode cc g.pc = .ok (.invokestatic index, 3)) (hf : cells + mc ≤ R.cells ∧ slots + ms ≤ R.slots) :
    vx_Run p l e R s m args below meth c H locs cells slots mc ms g rest (Qc As.toArray) XC free := by
  have hK : vx_Back l R p e below s args y 3 8 (PreOf R mc ms Pc) (PostOf Qc mc ms free) (vx_Post XC mc ms free) := vx_callBack cw.1 hM hp.1
  obtain ⟨⟨-, -, -, -, -, -, hcode, hini, hy, hlen, hl⟩, hstt⟩ := cw
  obtain ⟨hx, hb, hml, ho, -⟩ := S
  intro T hT X
  rcases vx_callS X hx (bytes := bytes) (maxL := maxL) (ret := ret) ho hl hstt hini hcode hy hK hg (hsize.trans hml.symm) (argsL := As) (rest := rest) (fun sig h => hn.trans (hlen sig h)) hstack hW (by rw [hb]; exact hdg)
    (fun vm₁ hW₁ => ⟨hf.1, hf.2, hp.2 (T.setVm vm₁) hT hW₁⟩) with ⟨v, vm₁, ⟨U', l2, c2, s2⟩, hW₁, X', ⟨g', mk, t, L, e1, e2, hq, h1, hL, h2, h3⟩, st⟩ | ⟨q, vm₁, ⟨U', l2, c2, s2⟩, hW₁, X', ⟨g', mk, t, L, E, ce, e1, e2, hq, hce, hcv, hcl, h1, hL, h2, h3⟩, st⟩
  · dsimp only [Pt.U, Pt.locs, Pt.cells, Pt.slots] at X' e1 e2 h1 h2 h3 st
    subst h1; subst h2; subst h3
    exact Or.inl ⟨v, (T.setVm vm₁).calling g' mk As.toArray, t, U', L, hT, X', hL, e1, e2, hq, st⟩
  · dsimp only [Pt.U, Pt.locs, Pt.cells, Pt.slots] at X' e1 e2 h1 h2 h3 st hcl
    subst h1; subst h2; subst h3
    exact Or.inr ⟨q, (T.setVm vm₁).calling g' mk As.toArray, t, U', L, E, ce, hT, X', hL, e1, e2, hq, hce, hcv, vx_cls hW₁ hcl, st⟩
end Runs
section Rows
variable {p : Program} {l : Launch} {e : Env} {R : Room} {s : State} {m : MethodId} {args : Array Value} {below : List Frame} {meth : Method} {c : Code} {H : Heap} {locs : List Loc} {cells slots : Nat} {Q : State → Prop}
variable {mc ms : Nat} {free : Addr → Prop} {A0 A1 : Nat → Prop} {H0 : Heap} {a : Array Value} {pc : Nat} {ls : Array Slot} {st0 rest : List Value}
theorem vx_keep {st₀ t T' : State} {L : List Loc} (h0 : st₀.heap = H) (e1 : T'.heap = t.heap) (hS : va_S A0 H0 H locs) (hA : ∀ q, q < H.size → A1 q → A0 q) (hf : ∀ q, free q → A0 q) (hL : ∀ q ∈ L, free q.base) (hF : va_F A1 st₀ t) :
    H.size ≤ T'.heap.size ∧ (∀ q : Nat, q < H.size → ¬ A1 q → T'.heap[q]? = H[q]?) ∧ va_S A0 H0 T'.heap (locs ++ L) := by
  obtain ⟨hz, hk⟩ := hF
  rw [h0] at hz hk
  exact ⟨by rw [e1]; exact hz, fun q h1 h2 => by rw [e1]; exact hk q h1 h2,
    ⟨Nat.le_trans hS.1 (by rw [e1]; exact hz), fun q h1 h2 => by rw [e1, hk q (Nat.lt_of_lt_of_le h1 hS.1) (fun z => h2 (hA q (Nat.lt_of_lt_of_le h1 hS.1) z))]; exact hS.2.1 q h1 h2, fun q hq => by
      rcases List.mem_append.mp hq with h | h
      · exact hS.2.2 q h
      · exact hf _ (hL q h)⟩⟩
theorem vx_calli {S SX : Type} {post : Int32 → S → Prop} {px : SX → Prop} {B : S → State → Prop} {BX : String → SX → State → Prop} {AX : Nat → Prop} (hr : vx_Run p l e R s m args below meth c H locs cells slots mc ms (F0 m pc ls st0) rest (va_Qi post B A1 a) (vx_X px BX AX) free) (hS : va_S A0 H0 H locs) (hA : ∀ q, q < H.size → A1 q → A0 q) (hf : ∀ q, free q → A0 q) (hAX : ∀ q, q < H.size → AX q → A0 q)
    (kx : ∀ (E : String) (ce : Cell) (q9 : Addr) (u : SX) (t : State) (H1 : Heap) (locs1 : List Loc), t.heap = H1 → s.vm.Alike t.vm → px u → BX E u t → H.size ≤ H1.size → (∀ q : Nat, q < H.size → ¬ AX q → H1[q]? = H[q]?) → va_S A0 H0 H1 locs1 → H1[q9]? = some ce → ce.vm = .none → s.vm.findClass E = some ce.cls → vx_W p l e R s m args below meth c H1 locs1 (cells + mc) (slots + ms) Q (F0 m pc ls rest) q9)
    (kk : ∀ (r : Int32) (u : S) (t : State) (H1 : Heap) (locs1 : List Loc), t.heap = H1 → s.vm.Alike t.vm → post r u → B u t → H.size ≤ H1.size → (∀ q : Nat, q < H.size → ¬ A1 q → H1[q]? = H[q]?) → va_S A0 H0 H1 locs1 → W p l e R s m args below meth c H1 locs1 (cells + mc) (slots + ms) Q (F0 m (pc + 3) ls (.int r :: rest))) : W p l e R s m args below meth c H locs cells slots Q (F0 m pc ls st0) := by
  intro T hT X
  rcases hr T hT X with ⟨v, st₀, t, T', L, h0, X', hL, e1, e2, ⟨⟨r, u, hv, hp, hb⟩, hF⟩, st⟩ | ⟨q, st₀, t, T', L, E, ce, h0, X', hL, e1, e2, ⟨u, hp, hb, hF⟩, hce, hcv, hcl, st⟩
  · cases hv
    obtain ⟨k1, k2, k3⟩ := vx_keep h0 e1 hS hA hf hL hF
    obtain ⟨t2, a1, b1⟩ := kk r u t T'.heap (locs ++ L) e1.symm (by rw [← e2]; exact X'.warmed.alike) hp hb k1 k2 k3 T' rfl X'
    exact ⟨t2, st t2 a1, b1⟩
  · obtain ⟨k1, k2, k3⟩ := vx_keep h0 e1 hS hAX hf hL hF
    obtain ⟨t2, a1, b1⟩ := kx E ce q u t T'.heap (locs ++ L) e1.symm (by rw [← e2]; exact X'.warmed.alike) hp hb k1 k2 k3 (by rw [e1]; exact hce) hcv hcl T' rfl X'
    exact ⟨t2, st.trans a1, b1⟩
theorem vx_calll {S SX : Type} {post : Int64 → S → Prop} {px : SX → Prop} {B : S → State → Prop} {BX : String → SX → State → Prop} {AX : Nat → Prop} (hr : vx_Run p l e R s m args below meth c H locs cells slots mc ms (F0 m pc ls st0) rest (va_Ql post B A1 a) (vx_X px BX AX) free) (hS : va_S A0 H0 H locs) (hA : ∀ q, q < H.size → A1 q → A0 q) (hf : ∀ q, free q → A0 q) (hAX : ∀ q, q < H.size → AX q → A0 q)
    (kx : ∀ (E : String) (ce : Cell) (q9 : Addr) (u : SX) (t : State) (H1 : Heap) (locs1 : List Loc), t.heap = H1 → s.vm.Alike t.vm → px u → BX E u t → H.size ≤ H1.size → (∀ q : Nat, q < H.size → ¬ AX q → H1[q]? = H[q]?) → va_S A0 H0 H1 locs1 → H1[q9]? = some ce → ce.vm = .none → s.vm.findClass E = some ce.cls → vx_W p l e R s m args below meth c H1 locs1 (cells + mc) (slots + ms) Q (F0 m pc ls rest) q9)
    (kk : ∀ (r : Int64) (u : S) (t : State) (H1 : Heap) (locs1 : List Loc), t.heap = H1 → s.vm.Alike t.vm → post r u → B u t → H.size ≤ H1.size → (∀ q : Nat, q < H.size → ¬ A1 q → H1[q]? = H[q]?) → va_S A0 H0 H1 locs1 → W p l e R s m args below meth c H1 locs1 (cells + mc) (slots + ms) Q (F0 m (pc + 3) ls (.long r :: rest))) : W p l e R s m args below meth c H locs cells slots Q (F0 m pc ls st0) := by
  intro T hT X
  rcases hr T hT X with ⟨v, st₀, t, T', L, h0, X', hL, e1, e2, ⟨⟨r, u, hv, hp, hb⟩, hF⟩, st⟩ | ⟨q, st₀, t, T', L, E, ce, h0, X', hL, e1, e2, ⟨u, hp, hb, hF⟩, hce, hcv, hcl, st⟩
  · cases hv
    obtain ⟨k1, k2, k3⟩ := vx_keep h0 e1 hS hA hf hL hF
    obtain ⟨t2, a1, b1⟩ := kk r u t T'.heap (locs ++ L) e1.symm (by rw [← e2]; exact X'.warmed.alike) hp hb k1 k2 k3 T' rfl X'
    exact ⟨t2, st t2 a1, b1⟩
  · obtain ⟨k1, k2, k3⟩ := vx_keep h0 e1 hS hAX hf hL hF
    obtain ⟨t2, a1, b1⟩ := kx E ce q u t T'.heap (locs ++ L) e1.symm (by rw [← e2]; exact X'.warmed.alike) hp hb k1 k2 k3 (by rw [e1]; exact hce) hcv hcl T' rfl X'
    exact ⟨t2, st.trans a1, b1⟩
theorem vx_callf {S SX : Type} {post : UInt32 → S → Prop} {px : SX → Prop} {B : S → State → Prop} {BX : String → SX → State → Prop} {AX : Nat → Prop} (hr : vx_Run p l e R s m args below meth c H locs cells slots mc ms (F0 m pc ls st0) rest (va_Qf post B A1 a) (vx_X px BX AX) free) (hS : va_S A0 H0 H locs) (hA : ∀ q, q < H.size → A1 q → A0 q) (hf : ∀ q, free q → A0 q) (hAX : ∀ q, q < H.size → AX q → A0 q)
    (kx : ∀ (E : String) (ce : Cell) (q9 : Addr) (u : SX) (t : State) (H1 : Heap) (locs1 : List Loc), t.heap = H1 → s.vm.Alike t.vm → px u → BX E u t → H.size ≤ H1.size → (∀ q : Nat, q < H.size → ¬ AX q → H1[q]? = H[q]?) → va_S A0 H0 H1 locs1 → H1[q9]? = some ce → ce.vm = .none → s.vm.findClass E = some ce.cls → vx_W p l e R s m args below meth c H1 locs1 (cells + mc) (slots + ms) Q (F0 m pc ls rest) q9)
    (kk : ∀ (r : UInt32) (u : S) (t : State) (H1 : Heap) (locs1 : List Loc), t.heap = H1 → s.vm.Alike t.vm → post r u → B u t → H.size ≤ H1.size → (∀ q : Nat, q < H.size → ¬ A1 q → H1[q]? = H[q]?) → va_S A0 H0 H1 locs1 → W p l e R s m args below meth c H1 locs1 (cells + mc) (slots + ms) Q (F0 m (pc + 3) ls (.float r :: rest))) : W p l e R s m args below meth c H locs cells slots Q (F0 m pc ls st0) := by
  intro T hT X
  rcases hr T hT X with ⟨v, st₀, t, T', L, h0, X', hL, e1, e2, ⟨⟨r, u, hv, hp, hb⟩, hF⟩, st⟩ | ⟨q, st₀, t, T', L, E, ce, h0, X', hL, e1, e2, ⟨u, hp, hb, hF⟩, hce, hcv, hcl, st⟩
  · cases hv
    obtain ⟨k1, k2, k3⟩ := vx_keep h0 e1 hS hA hf hL hF
    obtain ⟨t2, a1, b1⟩ := kk r u t T'.heap (locs ++ L) e1.symm (by rw [← e2]; exact X'.warmed.alike) hp hb k1 k2 k3 T' rfl X'
    exact ⟨t2, st t2 a1, b1⟩
  · obtain ⟨k1, k2, k3⟩ := vx_keep h0 e1 hS hAX hf hL hF
    obtain ⟨t2, a1, b1⟩ := kx E ce q u t T'.heap (locs ++ L) e1.symm (by rw [← e2]; exact X'.warmed.alike) hp hb k1 k2 k3 (by rw [e1]; exact hce) hcv hcl T' rfl X'
    exact ⟨t2, st.trans a1, b1⟩
theorem vx_calld {S SX : Type} {post : UInt64 → S → Prop} {px : SX → Prop} {B : S → State → Prop} {BX : String → SX → State → Prop} {AX : Nat → Prop} (hr : vx_Run p l e R s m args below meth c H locs cells slots mc ms (F0 m pc ls st0) rest (va_Qd post B A1 a) (vx_X px BX AX) free) (hS : va_S A0 H0 H locs) (hA : ∀ q, q < H.size → A1 q → A0 q) (hf : ∀ q, free q → A0 q) (hAX : ∀ q, q < H.size → AX q → A0 q)
    (kx : ∀ (E : String) (ce : Cell) (q9 : Addr) (u : SX) (t : State) (H1 : Heap) (locs1 : List Loc), t.heap = H1 → s.vm.Alike t.vm → px u → BX E u t → H.size ≤ H1.size → (∀ q : Nat, q < H.size → ¬ AX q → H1[q]? = H[q]?) → va_S A0 H0 H1 locs1 → H1[q9]? = some ce → ce.vm = .none → s.vm.findClass E = some ce.cls → vx_W p l e R s m args below meth c H1 locs1 (cells + mc) (slots + ms) Q (F0 m pc ls rest) q9)
    (kk : ∀ (r : UInt64) (u : S) (t : State) (H1 : Heap) (locs1 : List Loc), t.heap = H1 → s.vm.Alike t.vm → post r u → B u t → H.size ≤ H1.size → (∀ q : Nat, q < H.size → ¬ A1 q → H1[q]? = H[q]?) → va_S A0 H0 H1 locs1 → W p l e R s m args below meth c H1 locs1 (cells + mc) (slots + ms) Q (F0 m (pc + 3) ls (.double r :: rest))) : W p l e R s m args below meth c H locs cells slots Q (F0 m pc ls st0) := by
  intro T hT X
  rcases hr T hT X with ⟨v, st₀, t, T', L, h0, X', hL, e1, e2, ⟨⟨r, u, hv, hp, hb⟩, hF⟩, st⟩ | ⟨q, st₀, t, T', L, E, ce, h0, X', hL, e1, e2, ⟨u, hp, hb, hF⟩, hce, hcv, hcl, st⟩
  · cases hv
    obtain ⟨k1, k2, k3⟩ := vx_keep h0 e1 hS hA hf hL hF
    obtain ⟨t2, a1, b1⟩ := kk r u t T'.heap (locs ++ L) e1.symm (by rw [← e2]; exact X'.warmed.alike) hp hb k1 k2 k3 T' rfl X'
    exact ⟨t2, st t2 a1, b1⟩
  · obtain ⟨k1, k2, k3⟩ := vx_keep h0 e1 hS hAX hf hL hF
    obtain ⟨t2, a1, b1⟩ := kx E ce q u t T'.heap (locs ++ L) e1.symm (by rw [← e2]; exact X'.warmed.alike) hp hb k1 k2 k3 (by rw [e1]; exact hce) hcv hcl T' rfl X'
    exact ⟨t2, st.trans a1, b1⟩
theorem vx_callv {S SX : Type} {post : S → Prop} {px : SX → Prop} {B : S → State → Prop} {BX : String → SX → State → Prop} {AX : Nat → Prop} (hr : vx_Run p l e R s m args below meth c H locs cells slots mc ms (F0 m pc ls st0) rest (va_Qv post B A1 a) (vx_X px BX AX) free) (hS : va_S A0 H0 H locs) (hA : ∀ q, q < H.size → A1 q → A0 q) (hf : ∀ q, free q → A0 q) (hAX : ∀ q, q < H.size → AX q → A0 q)
    (kx : ∀ (E : String) (ce : Cell) (q9 : Addr) (u : SX) (t : State) (H1 : Heap) (locs1 : List Loc), t.heap = H1 → s.vm.Alike t.vm → px u → BX E u t → H.size ≤ H1.size → (∀ q : Nat, q < H.size → ¬ AX q → H1[q]? = H[q]?) → va_S A0 H0 H1 locs1 → H1[q9]? = some ce → ce.vm = .none → s.vm.findClass E = some ce.cls → vx_W p l e R s m args below meth c H1 locs1 (cells + mc) (slots + ms) Q (F0 m pc ls rest) q9)
    (kk : ∀ (u : S) (t : State) (H1 : Heap) (locs1 : List Loc), t.heap = H1 → s.vm.Alike t.vm → post u → B u t → H.size ≤ H1.size → (∀ q : Nat, q < H.size → ¬ A1 q → H1[q]? = H[q]?) → va_S A0 H0 H1 locs1 → W p l e R s m args below meth c H1 locs1 (cells + mc) (slots + ms) Q (F0 m (pc + 3) ls (rest))) : W p l e R s m args below meth c H locs cells slots Q (F0 m pc ls st0) := by
  intro T hT X
  rcases hr T hT X with ⟨v, st₀, t, T', L, h0, X', hL, e1, e2, ⟨⟨u, hv, hp, hb⟩, hF⟩, st⟩ | ⟨q, st₀, t, T', L, E, ce, h0, X', hL, e1, e2, ⟨u, hp, hb, hF⟩, hce, hcv, hcl, st⟩
  · cases hv
    obtain ⟨k1, k2, k3⟩ := vx_keep h0 e1 hS hA hf hL hF
    obtain ⟨t2, a1, b1⟩ := kk u t T'.heap (locs ++ L) e1.symm (by rw [← e2]; exact X'.warmed.alike) hp hb k1 k2 k3 T' rfl X'
    exact ⟨t2, st t2 a1, b1⟩
  · obtain ⟨k1, k2, k3⟩ := vx_keep h0 e1 hS hAX hf hL hF
    obtain ⟨t2, a1, b1⟩ := kx E ce q u t T'.heap (locs ++ L) e1.symm (by rw [← e2]; exact X'.warmed.alike) hp hb k1 k2 k3 (by rw [e1]; exact hce) hcv hcl T' rfl X'
    exact ⟨t2, st.trans a1, b1⟩
/-- caught by the row x of this method's table; the rows ahead don't take it -/
theorem vx_catch {own name : String} {E : String} {ce : Cell} {q : Addr} (hown : s.vm.findClass own = some m.cls) (pre : List ExceptionTableEntry) (x : ExceptionTableEntry) (suf : List ExceptionTableEntry) (hsplit : c.exceptionTable.toList = pre ++ x :: suf)
    (hpass : ∀ z ∈ pre, covers z pc = false ∨ (z.catchType ≠ 0 ∧ ∃ nm : String, (Cond.classLink own z.catchType nm).before args s = true ∧ va_Nc E nm s)) (hx : covers x pc = true) (h0 : x.catchType ≠ 0)
    (hlink : (Cond.classLink own x.catchType name).before args s = true) (hcast : (Cond.castable E name).before args s = true) (hcell : H[q]? = some ce) (hv : ce.vm = .none) (hcl : s.vm.findClass E = some ce.cls)
    (kk : W p l e R s m args below meth c H locs cells slots Q (F0 m x.handlerPc ls [.ref q])) : vx_W p l e R s m args below meth c H locs cells slots Q (F0 m pc ls rest) q := by
  intro T hT X
  have hpl : e.platform.magicAccessors = ({} : Platform).magicAccessors := by rw [X.admits.platform]
  obtain ⟨c3, c4, hc3, hc4, hasg⟩ := Cond.castable_spec hcast
  cases Option.some.inj (hc3.symm.trans hcl)
  obtain ⟨c5, hc5, hcl5⟩ := Cond.classLink_spec hown hlink e.platform hpl
  cases Option.some.inj (hc4.symm.trans hc5)
  obtain ⟨vm', X', st⟩ := X.thenCaughtThrough q (g := F0 m pc ls rest) rfl (Steps.refl _) (by rw [hT]; exact hcell) (by rw [hv]; rfl) (by obtain ⟨k9, h9, -⟩ := Vm.findClass_spec hcl; exact ⟨k9, h9⟩) pre x suf hsplit
    (fun z hz => by
      rcases hpass z hz with h | ⟨hz0, nm, hl1, hn1⟩
      · exact Or.inl h
      · obtain ⟨c6, hc6, hcl6⟩ := Cond.classLink_spec hown hl1 e.platform hpl
        obtain ⟨a8, b8, h1, h2, h3⟩ := hn1
        cases Option.some.inj (h1.symm.trans hcl)
        cases Option.some.inj (h2.symm.trans hc6)
        exact Or.inr ⟨hz0, _, hcl6, h3⟩) hx (Or.inr ⟨h0, c4, hcl5, hasg⟩)
  obtain ⟨t, a1, b1⟩ := kk (T.setVm vm') hT X'
  exact ⟨t, st.trans a1, b1⟩
end Rows
section Ends
variable {p : Program} {l : Launch} {e : Env} {R : Room} {s : State} {m : MethodId} {args : Array Value} {below : List Frame} {meth : Method} {c : Code} {H : Heap} {locs : List Loc} {cells slots : Nat} {Q : State → Prop}
variable {mc ms : Nat} {free : Addr → Prop} {A0 A1 : Nat → Prop} {H0 : Heap} {a : Array Value} {ls : Array Slot} {st0 rest : List Value}
variable {Qc : Array Value → State → Outcome → State → Prop} {XC : String → State → State → Prop}
/-- what a body that may throw owes at its end -/
def vx_MQ (below : List Frame) (Qc : Array Value → State → Outcome → State → Prop) (XC : String → State → State → Prop) (a : Array Value) (s : State) (mc ms : Nat) (free : Addr → Prop) : State → Prop := fun t =>
  ∃ o, t.status = .running ∧ Ended t below o ∧ vx_Q Qc XC mc ms free a s o t
theorem vx_ret {g : JFrame} {mc ms : Nat} (k : W p l e R s m args below meth c H locs cells slots (MQ below Qc args s mc ms free) g) : W p l e R s m args below meth c H locs cells slots (vx_MQ below Qc XC args s mc ms free) g := by
  intro T hT X
  obtain ⟨t, a1, o, b1, b2, b3, b4⟩ := k T hT X
  exact ⟨t, a1, o, b1, b2, Or.inl ⟨b3, b4⟩⟩
/-- not caught here: it goes on to the caller -/
theorem vx_widen {g : JFrame} {q : Addr} {k n : Nat} (h1 : cells ≤ k) (h2 : slots ≤ n) (kk : vx_W p l e R s m args below meth c H locs k n Q g q) : vx_W p l e R s m args below meth c H locs cells slots Q g q := fun T hT X => kk T hT (stand_widen X h1 h2)
theorem vx_out {pc : Nat} {E : String} {ce : Cell} {q : Addr} {mc ms : Nat} (hout : ∀ x ∈ c.exceptionTable.toList, covers x pc = false) (hlocks : meth.locks = false) (hcell : H[q]? = some ce) (hv : ce.vm = .none) (hcl : s.vm.findClass E = some ce.cls)
    (hx : ∀ t : State, t.heap = H → s.vm.Alike t.vm → XC E s t) (hf : ∀ z ∈ locs, free z.base) (hc : cells ≤ mc) (hs : slots ≤ ms) :
    vx_W p l e R s m args below meth c H locs cells slots (vx_MQ below Qc XC args s mc ms free) (F0 m pc ls rest) q := by
  intro T hT X
  obtain ⟨st1, hrun, hend, hW, hsm⟩ := X.leaveThrown q (g := F0 m pc ls rest) rfl rfl rfl hout hlocks
  have hcell9 : (T.setFrames (.throwing q :: below)).heap[q]? = some ce := by
    show T.heap[q]? = some ce
    rw [hT]; exact hcell
  exact ⟨_, st1, .threw q, hrun, hend, Or.inr ⟨q, rfl, E, ce, locs, hx _ hT hW.alike, hcell9, hv, hcl, hW, hsm.mono hc hs, hf⟩⟩
theorem vx_frame {U : State} {k n : Nat} (h : s.sameButNew ({ U with vm := s.vm } : State) locs k n) : s.heap.size ≤ U.heap.size ∧ ∀ q : Nat, q < s.heap.size → (∀ z ∈ locs, z.base ≠ q) → U.heap[q]? = s.heap[q]? := by
  obtain ⟨-, h2, -, -, -, h6⟩ := h
  refine ⟨h2, fun q hq hz => ?_⟩
  obtain ⟨c9, e1, e2, e3, e4⟩ := h6 q _ (Array.getElem?_eq_getElem hq)
  have hs : c9.slots = (s.heap[q]).slots := Array.ext_getElem? fun i => e4 i fun hm => hz _ hm rfl
  have h9 : c9 = s.heap[q] := by
    rw [hs] at e2
    exact e2
  have e5 : U.heap[q]? = some c9 := e1
  rw [e5, h9, Array.getElem?_eq_getElem hq]
/-- the words of a throw but the four that speak of the heap -/
def vx_no (w : Cond) : Bool := decide (w ≠ .isRef (.static Bundle.tN "UNASSIGNED_STACK" Bundle.steD)) && decide (w ≠ .isRef (.static Bundle.tN "SUPPRESSED_SENTINEL" Bundle.listD)) && decide (w ≠ .laysStatic Bundle.tN "UNASSIGNED_STACK" Bundle.steD) && decide (w ≠ .laysStatic Bundle.tN "SUPPRESSED_SENTINEL" Bundle.listD)
def vx_at0 (own : String) (ic : Nat) (X : String) (names : List String) : List Cond := (Bundle.ownAtoms0 own ic X names).filter vx_no
def vx_atS (own : String) (ic : Nat) (X : String) (names : List String) : List Cond := (Bundle.ownAtoms own ic X names).filter vx_no
/-- a word that the tables alone decide, or a good one -/
def vx_ot (w : Cond) : Bool := w.onTables || goodWord w
theorem vx_ot_at {args a' : Array Value} {s U : State} {w : Cond} (hW : s.WarmedH U.vm) (hvm : s.vm = U.vm) (hg : vx_ot w = true) (h : w.before args s = true) : w.before a' U = true := by
  simp only [vx_ot, Bool.or_eq_true] at hg
  rcases hg with hg | hg
  · exact va_tabs hg hvm h
  · exact word_at hW (good_of_word hg) h
/-- a list's words: the good ones out of the method's own list, the others by premises of their own -/
theorem vx_hat {args : Array Value} {s : State} {L B : List Cond} (h1 : ∀ w ∈ L.filter goodWord, w.before args s = true) (h2 : ∀ w ∈ L.filter (fun w => !goodWord w), w ∈ B) (h3 : ∀ w ∈ B, w.before args s = true) : ∀ w ∈ L, w.before args s = true := by
  intro w hw
  by_cases g : goodWord w = true
  · exact h1 w (List.mem_filter.mpr ⟨hw, g⟩)
  · refine h3 w (h2 w (List.mem_filter.mpr ⟨hw, ?_⟩))
    show (!goodWord w) = true
    cases hgw : goodWord w
    · rfl
    · exact absurd hgw g
theorem vx_c {args : Array Value} {s : State} {w : Cond} {B : List Cond} (h : w.before args s = true) (t : ∀ w ∈ B, w.before args s = true) : ∀ w' ∈ w :: B, w'.before args s = true := fun w' h' => (List.mem_cons.mp h').elim (fun e => by rw [e]; exact h) (t w')
theorem vx_n {args : Array Value} {s : State} : ∀ w ∈ ([] : List Cond), w.before args s = true := fun _ h => nomatch h
theorem vx_own {args : Array Value} {s : State} {L : List Cond} (h1 : ∀ w ∈ L.filter vx_no, w.before args s = true)
    (hU : (Cond.isRef (.static Bundle.tN "UNASSIGNED_STACK" Bundle.steD)).before args s = true) (hN : (Cond.isRef (.static Bundle.tN "SUPPRESSED_SENTINEL" Bundle.listD)).before args s = true)
    (lU : (Cond.laysStatic Bundle.tN "UNASSIGNED_STACK" Bundle.steD).before args s = true) (lN : (Cond.laysStatic Bundle.tN "SUPPRESSED_SENTINEL" Bundle.listD).before args s = true) : ∀ w ∈ L, w.before args s = true := by
  intro w hw
  by_cases e1 : w = .isRef (.static Bundle.tN "UNASSIGNED_STACK" Bundle.steD)
  · rw [e1]; exact hU
  · by_cases e2 : w = .isRef (.static Bundle.tN "SUPPRESSED_SENTINEL" Bundle.listD)
    · rw [e2]; exact hN
    · by_cases e3 : w = .laysStatic Bundle.tN "UNASSIGNED_STACK" Bundle.steD
      · rw [e3]; exact lU
      · by_cases e4 : w = .laysStatic Bundle.tN "SUPPRESSED_SENTINEL" Bundle.listD
        · rw [e4]; exact lN
        · exact h1 w (List.mem_filter.mpr ⟨hw, by unfold vx_no; rw [decide_eq_true e1, decide_eq_true e2, decide_eq_true e3, decide_eq_true e4]; rfl⟩)
/-- where a static field lies, its class's statics cell in H -/
def vx_L (C n d : String) (A : Nat → Prop) (U : State) (H : Heap) : Prop := ∃ (c : ClassId) (k : Class) (i : Nat) (f : Field) (a : Nat) (cell : Cell), U.vm.findClass C = some c ∧ U.fieldFound? C n d = some (c, k, i, f) ∧ f.isStatic = true ∧ k.statics = some a ∧ H[a]? = some cell ∧ cell.vm.isStatics = true ∧ cell.cls = c ∧ f.slot < cell.slots.size ∧ k.staticTypes[f.slot]? = some f.type ∧ ¬ A a
theorem vx_L.moved {C n d : String} {A : Nat → Prop} {u U : State} {H : Heap} (hvm : u.vm.Alike U.vm) (h : vx_L C n d A u H) : vx_L C n d A U H := by
  obtain ⟨c, k, i, f, a, cell, h1, h2, h3, h4, h5, h6, h7, h8, h9, h10⟩ := h
  obtain ⟨k', hi', he⟩ := State.fieldFound?_setVm hvm h2
  exact ⟨c, k', i, f, a, cell, by rw [hvm.findClass]; exact h1, hi', h3, by rw [he]; exact h4, h5, h6, h7, h8, by rw [he]; exact h9, h10⟩
theorem vx_L.kept {C n d : String} {A : Nat → Prop} {U : State} {H H1 : Heap} (h : vx_L C n d A U H) (hq : ∀ a : Nat, a < H.size → ¬ A a → H1[a]? = H[a]?) : vx_L C n d A U H1 := by
  obtain ⟨c, k, i, f, a, cell, h1, h2, h3, h4, h5, h6, h7, h8, h9, h10⟩ := h
  exact ⟨c, k, i, f, a, cell, h1, h2, h3, h4, by rw [hq a (Array.getElem?_eq_some_iff.mp h5).1 h10]; exact h5, h6, h7, h8, h9, h10⟩
theorem vx_L.narrow {C n d : String} {A B : Nat → Prop} {U : State} {H : Heap} (h : vx_L C n d A U H) (hAB : ∀ q, B q → A q) : vx_L C n d B U H := by
  obtain ⟨c, k, i, f, a, cell, h1, h2, h3, h4, h5, h6, h7, h8, h9, h10⟩ := h
  exact ⟨c, k, i, f, a, cell, h1, h2, h3, h4, h5, h6, h7, h8, h9, fun z => h10 (hAB _ z)⟩
theorem vx_L.word {C n d : String} {A : Nat → Prop} {s : State} {args : Array Value} (h : vx_L C n d A s s.heap) : (Cond.laysStatic C n d).before args s = true := by
  obtain ⟨c, k, i, f, a, cell, h1, h2, h3, h4, h5, h6, h7, h8, h9, -⟩ := h
  show (Cond.laysStatic C n d).holds args s none s [] = true
  exact Cond.laysStatic_of h1 h2 h3 h4 h5 h6 h7 h8 h9
/-- .. and what it holds: null or some reference -/
def vx_Zq (C n d : String) (A : Nat → Prop) (U : State) (H : Heap) : Prop := va_Zq C n d A U H ∧ vx_L C n d A U H
theorem vx_Zq.moved {C n d : String} {A : Nat → Prop} {u U : State} {H : Heap} (hvm : u.vm.Alike U.vm) (h : vx_Zq C n d A u H) : vx_Zq C n d A U H := ⟨va_Zq.moved hvm h.1, vx_L.moved hvm h.2⟩
theorem vx_Zq.kept {C n d : String} {A : Nat → Prop} {U : State} {H H1 : Heap} (h : vx_Zq C n d A U H) (hq : ∀ a : Nat, a < H.size → ¬ A a → H1[a]? = H[a]?) : vx_Zq C n d A U H1 := ⟨va_Zq.kept h.1 hq, vx_L.kept h.2 hq⟩
theorem vx_Zq.narrow {C n d : String} {A B : Nat → Prop} {U : State} {H : Heap} (h : vx_Zq C n d A U H) (hAB : ∀ q, B q → A q) : vx_Zq C n d B U H := ⟨va_Zq.narrow h.1 hAB, vx_L.narrow h.2 hAB⟩
theorem vx_Zqof {args : Array Value} {s : State} {C n d : String} {A : Nat → Prop} (hl : (Cond.laysStatic C n d).before args s = true) (hini : (Cond.initialized C).before args s = true) (h : (Cond.isRef (.static C n d)).before args s = true) (hA : ∀ a : Nat, a < s.heap.size → ¬ A a) : vx_Zq C n d A s s.heap := by
  refine ⟨va_Zqof hl hini h hA, ?_⟩
  obtain ⟨c, k, i, f, a, cell, h1, h2, h3, h4, h5, h6, h7, h8, h9⟩ := Cond.laysStatic_spec hl
  exact ⟨c, k, i, f, a, cell, h1, h2, h3, h4, h5, h6, h7, h8, h9, hA a (Array.getElem?_eq_some_iff.mp h5).1⟩
theorem vx_isRef {C n d : String} {v : Value} {A : Nat → Prop} {s : State} {args : Array Value} (h : va_Z C n d v A s s.heap) (hv : v.isRef = true) : (Cond.isRef (.static C n d)).before args s = true := by
  obtain ⟨cf, kf, fi, f, a, cell, h1, h2, h3, h4, h5, h6, h7, -⟩ := h
  have he : (Term.static C n d).eval args s none [] s = some v := by
    simp [Term.eval, State.fieldNamed?, h1, h2, h4, h5, h6, h7]
  simp only [Cond.before, Cond.holds, Cond.value, he]
  cases v <;> simp_all [Value.isRef]
theorem vx_isRefq {C n d : String} {A : Nat → Prop} {s : State} {args : Array Value} (h : va_Zq C n d A s s.heap) : (Cond.isRef (.static C n d)).before args s = true := by
  rcases h with h | ⟨t, h⟩
  · exact vx_isRef h rfl
  · exact vx_isRef h rfl
/-- the same frame, seen from here: as if the method were called anew in this heap -/
theorem vx_rebase {T : State} (X : Stand p l e R s m args below meth c T locs cells slots) {R' : Room} (hf : R'.frames ≤ R.frames) (hl : R'.locals ≤ R.locals) (hc : cells + R'.cells ≤ R.cells) (hs : slots + R'.slots ≤ R.slots) :
    Stand p l e R' ((T.setVm s.vm).setFrames (.invoking m args :: below)) m args below meth c T [] 0 0 := by
  have htop : (T.setVm s.vm).topJava?.isSome := X.here.top
  have hF : ((T.setVm s.vm).setFrames (.invoking m args :: below)).frames = .invoking m args :: below := State.frames_setFrames _ (State.cur_lt_of_top htop)
  obtain ⟨g₀, hg0⟩ := Option.isSome_iff_exists.mp htop
  obtain ⟨r, hr⟩ := State.topJava?_eq_some.mp hg0
  have hl9 : e.platform.stackLimits (T.setVm s.vm).me = e.platform.stackLimits s.me := X.limits
  have hb9 : (T.setVm s.vm).me.stackBytes = s.me.stackBytes := X.bytes
  refine ⟨X.admits, X.cas, X.clock, hF, ?_, X.hears, X.method, X.code, X.here, X.tail, X.warmed, ?_, ?_, ?_⟩
  · have h := X.room
    have hU : ((T.setVm s.vm).setFrames (.invoking m args :: below)).localsInUse = s.localsInUse := by
      rw [State.localsInUse_invoking hF (meth := meth) (c := c) X.method X.code, State.localsInUse_invoking X.frames X.method X.code]
    simp only [State.hasRoom, Bool.and_eq_true, decide_eq_true_eq] at h ⊢
    obtain ⟨⟨⟨⟨h1, h2, h3, h4, h5, h6⟩, h7⟩, h8⟩, h9⟩ := h
    rw [X.frames, List.length_cons] at h2 h3
    have q1 := X.heapSize
    have q2 := X.used
    simp only [hF, hU, List.length_cons, State.stackLimits_setFrames, State.stackBytes_setFrames, hl9, hb9]
    refine ⟨⟨⟨⟨by omega, by omega, by omega, by omega, by omega, h6⟩, ?_⟩, ?_⟩, X.book⟩
    · show T.heap.size + R'.cells ≤ e.platform.maxCells
      omega
    · show T.slotsUsed + R'.slots ≤ e.platform.maxSlots
      omega
  · rw [State.stackLimits_setFrames]; rfl
  · rw [State.stackBytes_setFrames]; rfl
  · refine ⟨?_, Nat.le_refl _, Nat.le_refl _, ?_, ?_, fun a c9 h9 => ⟨c9, h9, rfl, rfl, fun _ _ => rfl⟩⟩
    · obtain ⟨t, ht, -⟩ := State.frames_cons hr
      show T.setVm s.vm = { ((T.setVm s.vm).setFrames (.invoking m args :: below)).setFrames (T.setVm s.vm).frames with heap := T.heap, slotsUsed := T.slotsUsed }
      rw [State.setFrames_setFrames, State.setFrames_self ht]
      rfl
    · show T.slotsUsed = T.slotsUsed + ((T.heap.toList.drop T.heap.size).map (·.slots.size)).sum
      rw [List.drop_eq_nil_of_le (Nat.le_of_eq Array.length_toList)]
      rfl
    · show ((T.heap.toList.drop T.heap.size).map (·.slots.size)).sum ≤ 0
      rw [List.drop_eq_nil_of_le (Nat.le_of_eq Array.length_toList)]
      exact Nat.le_refl _
/-- 'throw new E()': new; dup; invokespecial; athrow -/
theorem vx_throw0 {cc : ByteArray} {pc : Nat} (hexec : p.tables.exec = Jvm.exec) (hb : c.code = cc) (hl : l.stackTraces = false) {own cls : String} {names : List String} {ik ic mc ms : Nat} {A : Nat → Prop}
    (hown : s.vm.findClass own = some m.cls) (hcls : Bundle.fit cls = true) (hnames : ∀ n ∈ names, Bundle.fit n = true)
    (hk : (Cond.classLink own ik cls).before args s = true) (hini : (Cond.initialized cls).before args s = true) (hat : ∀ w ∈ vx_at0 own ic cls names, w.before args s = true)
    (hgood : ∀ w ∈ Cond.classLink own ik cls :: Cond.initialized cls :: vx_at0 own ic cls names, vx_ot w = true)
    (hU : vx_Zq Bundle.tN "UNASSIGNED_STACK" Bundle.steD A s s.heap) (hN : vx_Zq Bundle.tN "SUPPRESSED_SENTINEL" Bundle.listD A s s.heap) (hS : va_S A s.heap H locs) (hsize : ls.size = c.maxLocals)
    (d0 : decode cc pc = .ok (.new ik, 3)) (d3 : decode cc (pc + 3) = .ok (.dup, 1)) (d4 : decode cc (pc + 4) = .ok (.invokespecial ic, 3)) (d7 : decode cc (pc + 7) = .ok (.athrow, 1))
    (hout : ∀ x ∈ c.exceptionTable.toList, covers x (pc + 7) = false)
    (hRframes : names.length + 3 < R.frames) (hRlocals : (rest.map fun v => v.category).sum + (13 * (names.length + 1) + 42) ≤ R.locals) (hRcells : cells + 1 ≤ R.cells) (hRslots : slots + 6 ≤ R.slots) (hlocks : meth.locks = false)
    (hx : ∀ t : State, s.vm.Alike t.vm → H.size ≤ t.heap.size → (∀ q : Nat, q < H.size → t.heap[q]? = H[q]?) → XC cls s t)
    (hf : ∀ z ∈ locs, free z.base) (hc : cells + 1 ≤ mc) (hs : slots + 6 ≤ ms) :
    W p l e R s m args below meth c H locs cells slots (vx_MQ below Qc XC args s mc ms free) (F0 m pc ls rest) := by
  intro T hT X
  have htr : e.platform.stackTraces = false := (show e.platform.stackTraces = l.stackTraces by rw [X.admits.platform]).trans hl
  have Y := vx_rebase X (R' := { frames := R.frames, locals := R.locals, cells := 1, slots := 6 }) (Nat.le_refl _) (Nat.le_refl _) hRcells hRslots
  obtain ⟨s', hA⟩ : ∃ z, z = (T.setVm s.vm).setFrames (.invoking m args :: below) := ⟨_, rfl⟩
  rw [← hA] at Y
  have hvm : s'.vm = s.vm := by rw [hA]; rfl
  have hhp : s'.heap = H := by rw [hA]; exact hT
  have hW0 : s.WarmedH s'.vm := by rw [hvm]; exact State.WarmedH.refl s
  have hat' : ∀ w ∈ vx_at0 own ic cls names, w.before args s' = true := fun w hw => vx_ot_at hW0 hvm.symm (hgood w (List.mem_cons_of_mem _ (List.mem_cons_of_mem _ hw))) (hat w hw)
  have hk' : (Cond.classLink own ik cls).before args s' = true := vx_ot_at hW0 hvm.symm (hgood _ List.mem_cons_self) hk
  have hini' : (Cond.initialized cls).before args s' = true := vx_ot_at hW0 hvm.symm (hgood _ (List.mem_cons_of_mem _ List.mem_cons_self)) hini
  have hU' : vx_Zq Bundle.tN "UNASSIGNED_STACK" Bundle.steD A s' s'.heap := by rw [hhp]; exact vx_Zq.moved hW0.alike (hU.kept hS.2.1)
  have hN' : vx_Zq Bundle.tN "SUPPRESSED_SENTINEL" Bundle.listD A s' s'.heap := by rw [hhp]; exact vx_Zq.moved hW0.alike (hN.kept hS.2.1)
  have h : ∀ w ∈ Bundle.ownAtoms0 own ic cls names, w.before args s' = true := vx_own hat' (vx_isRefq hU'.1) (vx_isRefq hN'.1) hU'.2.word hN'.2.word
  have hown' : s'.vm.findClass own = some m.cls := by rw [hvm]; exact hown
  have hins : (Cond.instantiable cls 6).before args s' = true := h _ (by simp [Bundle.ownAtoms0])
  obtain ⟨vm₁, cX, kX, hfX, hkX, -, -, X₁, st1⟩ := Y.newCold hexec (own := own) (C := cls) (index := ik) (n := 6) hown' hk' hins hini'
    (g := F0 m pc ls rest) rfl (by rw [hb]; exact d0) (Nat.le_refl _) (Nat.le_refl _)
  generalize hT1 : (T.setVm vm₁).pushCell { cls := cX, slots := kX.instanceTypes.map defaultValue, vm := .none } = T1 at X₁ st1
  have hcat : (Value.ref T.heap.size).category = 1 := rfl
  have hcellA : T1.heap[T.heap.size]? = some (freshCell cX kX) := by rw [← hT1]; exact State.heap_pushCell_size _ _
  have d3' : decode c.code (pc + 3) = .ok (.dup, 1) := by rw [hb]; exact d3
  obtain ⟨U, hsteps, hrun, hend, hW, hsame, ce, hce, hO⟩ := X₁.ctorThrow0 hexec htr (own := own) (cls := cls) (names := names) (ic := ic) hown' hcls hnames h (fun x hx => nomatch hx) hfX hkX hcellA (by rw [hhp, hT]; exact Nat.le_refl _)
    (g := { method := m, pc := pc + 4, locals := ls, stack := .ref T.heap.size :: .ref T.heap.size :: rest, locked := none }) rfl hsize rfl rfl (rest := rest) rfl
    (by rw [hb]; exact d4) (by rw [hb]; exact d7) hout hRframes (by simp only [List.map_cons, List.sum_cons, hcat]; omega) hlocks
  obtain ⟨f1, f2⟩ := vx_frame hsame
  rw [hhp] at f1 f2
  have hWs : s.WarmedH U.vm := State.WarmedH.trans hW0 hW
  have hcl : s.vm.findClass cls = some ce.cls := by
    have h9 := hO.cls
    rw [hvm] at h9
    exact h9
  have hall : s.sameButNew ({ U with vm := s.vm } : State) locs mc ms := by
    subst hA
    obtain ⟨e1, e2⟩ := hsame
    rw [State.setFrames_setFrames] at e1
    have h2 : (T.setVm s.vm).sameButNew ({ U with vm := s.vm } : State) [] (0 + 1) (0 + 6) := ⟨e1, e2⟩
    have h3 := X.same.trans h2
    rw [List.append_nil] at h3
    exact h3.mono hc hs
  refine ⟨U, ?_, .threw T.heap.size, hrun, hend, Or.inr ⟨T.heap.size, rfl, cls, ce, locs, hx U hWs.alike f1 (fun q hq => f2 q hq (fun z hz => nomatch hz)), hce, hO.vm, hcl, hWs, hall, hf⟩⟩
  refine st1 _ ?_
  show Steps p.tables e below (T1.setTop { method := m, pc := pc + 3, locals := ls, stack := .ref T.heap.size :: rest, locked := none }) _
  jvm_step X₁.here [X₁.here.top, hexec, d3', Value.category]
  exact hsteps
/-- 'throw new E("text")': new; dup; ldc; invokespecial; athrow -/
theorem vx_throwS {cc : ByteArray} {pc : Nat} (hexec : p.tables.exec = Jvm.exec) (hb : c.code = cc) (hl : l.stackTraces = false) {own cls text : String} {names : List String} {ik is ic mc ms sa : Nat} {A : Nat → Prop}
    (hown : s.vm.findClass own = some m.cls) (hcls : Bundle.fit cls = true) (hnames : ∀ n ∈ names, Bundle.fit n = true)
    (hk : (Cond.classLink own ik cls).before args s = true) (hini : (Cond.initialized cls).before args s = true) (hstr : vk_R own is text sa s) (hat : ∀ w ∈ vx_atS own ic cls names, w.before args s = true)
    (hgood : ∀ w ∈ Cond.classLink own ik cls :: Cond.initialized cls :: vx_atS own ic cls names, vx_ot w = true)
    (hU : vx_Zq Bundle.tN "UNASSIGNED_STACK" Bundle.steD A s s.heap) (hN : vx_Zq Bundle.tN "SUPPRESSED_SENTINEL" Bundle.listD A s s.heap) (hS : va_S A s.heap H locs) (hsize : ls.size = c.maxLocals)
    (d0 : decode cc pc = .ok (.new ik, 3)) (d3 : decode cc (pc + 3) = .ok (.dup, 1)) (d4 : decode cc (pc + 4) = .ok (.ldc is, 2)) (d6 : decode cc (pc + 6) = .ok (.invokespecial ic, 3)) (d9 : decode cc (pc + 9) = .ok (.athrow, 1))
    (hout : ∀ x ∈ c.exceptionTable.toList, covers x (pc + 9) = false)
    (hRframes : names.length + 3 < R.frames) (hRlocals : (rest.map fun v => v.category).sum + (13 * (names.length + 1) + 43) ≤ R.locals) (hRcells : cells + 1 ≤ R.cells) (hRslots : slots + 6 ≤ R.slots) (hlocks : meth.locks = false)
    (hx : ∀ t : State, s.vm.Alike t.vm → H.size ≤ t.heap.size → (∀ q : Nat, q < H.size → t.heap[q]? = H[q]?) → XC cls s t)
    (hf : ∀ z ∈ locs, free z.base) (hc : cells + 1 ≤ mc) (hs : slots + 6 ≤ ms) :
    W p l e R s m args below meth c H locs cells slots (vx_MQ below Qc XC args s mc ms free) (F0 m pc ls rest) := by
  intro T hT X
  have htr : e.platform.stackTraces = false := (show e.platform.stackTraces = l.stackTraces by rw [X.admits.platform]).trans hl
  have Y := vx_rebase X (R' := { frames := R.frames, locals := R.locals, cells := 1, slots := 6 }) (Nat.le_refl _) (Nat.le_refl _) hRcells hRslots
  obtain ⟨s', hA⟩ : ∃ z, z = (T.setVm s.vm).setFrames (.invoking m args :: below) := ⟨_, rfl⟩
  rw [← hA] at Y
  have hvm : s'.vm = s.vm := by rw [hA]; rfl
  have hhp : s'.heap = H := by rw [hA]; exact hT
  have hW0 : s.WarmedH s'.vm := by rw [hvm]; exact State.WarmedH.refl s
  have hat' : ∀ w ∈ vx_atS own ic cls names, w.before args s' = true := fun w hw => vx_ot_at hW0 hvm.symm (hgood w (List.mem_cons_of_mem _ (List.mem_cons_of_mem _ hw))) (hat w hw)
  have hk' : (Cond.classLink own ik cls).before args s' = true := vx_ot_at hW0 hvm.symm (hgood _ List.mem_cons_self) hk
  have hini' : (Cond.initialized cls).before args s' = true := vx_ot_at hW0 hvm.symm (hgood _ (List.mem_cons_of_mem _ List.mem_cons_self)) hini
  have hU' : vx_Zq Bundle.tN "UNASSIGNED_STACK" Bundle.steD A s' s'.heap := by rw [hhp]; exact vx_Zq.moved hW0.alike (hU.kept hS.2.1)
  have hN' : vx_Zq Bundle.tN "SUPPRESSED_SENTINEL" Bundle.listD A s' s'.heap := by rw [hhp]; exact vx_Zq.moved hW0.alike (hN.kept hS.2.1)
  have h : ∀ w ∈ Bundle.ownAtoms own ic cls names, w.before args s' = true := vx_own hat' (vx_isRefq hU'.1) (vx_isRefq hN'.1) hU'.2.word hN'.2.word
  have hown' : s'.vm.findClass own = some m.cls := by rw [hvm]; exact hown
  have hins : (Cond.instantiable cls 6).before args s' = true := h _ (by simp [Bundle.ownAtoms])
  obtain ⟨vm₁, cX, kX, hfX, hkX, -, -, X₁, st1⟩ := Y.newCold hexec (own := own) (C := cls) (index := ik) (n := 6) hown' hk' hins hini'
    (g := F0 m pc ls rest) rfl (by rw [hb]; exact d0) (Nat.le_refl _) (Nat.le_refl _)
  generalize hT1 : (T.setVm vm₁).pushCell { cls := cX, slots := kX.instanceTypes.map defaultValue, vm := .none } = T1 at X₁ st1
  have hcat : (Value.ref T.heap.size).category = 1 := rfl
  have hcellA : T1.heap[T.heap.size]? = some (freshCell cX kX) := by rw [← hT1]; exact State.heap_pushCell_size _ _
  have d3' : decode c.code (pc + 3) = .ok (.dup, 1) := by rw [hb]; exact d3
  have d4' : decode c.code (pc + 4) = .ok (.ldc is, 2) := by rw [hb]; exact d4
  have hstr' : vk_R own is text sa s' := vk_R.warm hW0 hstr
  obtain ⟨U, hsteps, hrun, hend, hW, hsame, ce, hce, hO⟩ := X₁.ctorThrowS hexec htr (own := own) (cls := cls) (names := names) (ic := ic) hown' hcls hnames h (fun x hx => nomatch hx) hfX hkX hcellA (by rw [hhp, hT]; exact Nat.le_refl _) (msg := .ref sa) rfl
    (g := { method := m, pc := pc + 6, locals := ls, stack := .ref sa :: .ref T.heap.size :: .ref T.heap.size :: rest, locked := none }) rfl hsize rfl rfl (rest := rest) rfl
    (by rw [hb]; exact d6) (by rw [hb]; exact d9) hout hRframes (by simp only [List.map_cons, List.sum_cons, hcat]; omega) hlocks
  obtain ⟨f1, f2⟩ := vx_frame hsame
  rw [hhp] at f1 f2
  have hWs : s.WarmedH U.vm := State.WarmedH.trans hW0 hW
  have hcl : s.vm.findClass cls = some ce.cls := by
    have h9 := hO.cls
    rw [hvm] at h9
    exact h9
  have hall : s.sameButNew ({ U with vm := s.vm } : State) locs mc ms := by
    subst hA
    obtain ⟨e1, e2⟩ := hsame
    rw [State.setFrames_setFrames] at e1
    have h2 : (T.setVm s.vm).sameButNew ({ U with vm := s.vm } : State) [] (0 + 1) (0 + 6) := ⟨e1, e2⟩
    have h3 := X.same.trans h2
    rw [List.append_nil] at h3
    exact h3.mono hc hs
  refine ⟨U, ?_, .threw T.heap.size, hrun, hend, Or.inr ⟨T.heap.size, rfl, cls, ce, locs, hx U hWs.alike f1 (fun q hq => f2 q hq (fun z hz => nomatch hz)), hce, hO.vm, hcl, hWs, hall, hf⟩⟩
  refine st1 _ ?_
  show Steps p.tables e below (T1.setTop { method := m, pc := pc + 3, locals := ls, stack := .ref T.heap.size :: rest, locked := none }) _
  jvm_step X₁.here [X₁.here.top, hexec, d3', Value.category]
  exact X₁.ldcString hexec (own := own) (text := text) (index := is) (a := sa) hown' hstr'.1 hstr'.2
    (g := { method := m, pc := pc + 4, locals := ls, stack := .ref T.heap.size :: .ref T.heap.size :: rest, locked := none }) rfl d4' _ hsteps
/-- 'throw new E("text")', the text by a wide index -/
theorem vx_throwSW {cc : ByteArray} {pc : Nat} (hexec : p.tables.exec = Jvm.exec) (hb : c.code = cc) (hl : l.stackTraces = false) {own cls text : String} {names : List String} {ik is ic mc ms sa : Nat} {A : Nat → Prop}
    (hown : s.vm.findClass own = some m.cls) (hcls : Bundle.fit cls = true) (hnames : ∀ n ∈ names, Bundle.fit n = true)
    (hk : (Cond.classLink own ik cls).before args s = true) (hini : (Cond.initialized cls).before args s = true) (hstr : vk_R own is text sa s) (hat : ∀ w ∈ vx_atS own ic cls names, w.before args s = true)
    (hgood : ∀ w ∈ Cond.classLink own ik cls :: Cond.initialized cls :: vx_atS own ic cls names, vx_ot w = true)
    (hU : vx_Zq Bundle.tN "UNASSIGNED_STACK" Bundle.steD A s s.heap) (hN : vx_Zq Bundle.tN "SUPPRESSED_SENTINEL" Bundle.listD A s s.heap) (hS : va_S A s.heap H locs) (hsize : ls.size = c.maxLocals)
    (d0 : decode cc pc = .ok (.new ik, 3)) (d3 : decode cc (pc + 3) = .ok (.dup, 1)) (d4 : decode cc (pc + 4) = .ok (.ldc_w is, 3)) (d7 : decode cc (pc + 7) = .ok (.invokespecial ic, 3)) (d10 : decode cc (pc + 10) = .ok (.athrow, 1))
    (hout : ∀ x ∈ c.exceptionTable.toList, covers x (pc + 10) = false)
    (hRframes : names.length + 3 < R.frames) (hRlocals : (rest.map fun v => v.category).sum + (13 * (names.length + 1) + 43) ≤ R.locals) (hRcells : cells + 1 ≤ R.cells) (hRslots : slots + 6 ≤ R.slots) (hlocks : meth.locks = false)
    (hx : ∀ t : State, s.vm.Alike t.vm → H.size ≤ t.heap.size → (∀ q : Nat, q < H.size → t.heap[q]? = H[q]?) → XC cls s t)
    (hf : ∀ z ∈ locs, free z.base) (hc : cells + 1 ≤ mc) (hs : slots + 6 ≤ ms) :
    W p l e R s m args below meth c H locs cells slots (vx_MQ below Qc XC args s mc ms free) (F0 m pc ls rest) := by
  intro T hT X
  have htr : e.platform.stackTraces = false := (show e.platform.stackTraces = l.stackTraces by rw [X.admits.platform]).trans hl
  have Y := vx_rebase X (R' := { frames := R.frames, locals := R.locals, cells := 1, slots := 6 }) (Nat.le_refl _) (Nat.le_refl _) hRcells hRslots
  obtain ⟨s', hA⟩ : ∃ z, z = (T.setVm s.vm).setFrames (.invoking m args :: below) := ⟨_, rfl⟩
  rw [← hA] at Y
  have hvm : s'.vm = s.vm := by rw [hA]; rfl
  have hhp : s'.heap = H := by rw [hA]; exact hT
  have hW0 : s.WarmedH s'.vm := by rw [hvm]; exact State.WarmedH.refl s
  have hat' : ∀ w ∈ vx_atS own ic cls names, w.before args s' = true := fun w hw => vx_ot_at hW0 hvm.symm (hgood w (List.mem_cons_of_mem _ (List.mem_cons_of_mem _ hw))) (hat w hw)
  have hk' : (Cond.classLink own ik cls).before args s' = true := vx_ot_at hW0 hvm.symm (hgood _ List.mem_cons_self) hk
  have hini' : (Cond.initialized cls).before args s' = true := vx_ot_at hW0 hvm.symm (hgood _ (List.mem_cons_of_mem _ List.mem_cons_self)) hini
  have hU' : vx_Zq Bundle.tN "UNASSIGNED_STACK" Bundle.steD A s' s'.heap := by rw [hhp]; exact vx_Zq.moved hW0.alike (hU.kept hS.2.1)
  have hN' : vx_Zq Bundle.tN "SUPPRESSED_SENTINEL" Bundle.listD A s' s'.heap := by rw [hhp]; exact vx_Zq.moved hW0.alike (hN.kept hS.2.1)
  have h : ∀ w ∈ Bundle.ownAtoms own ic cls names, w.before args s' = true := vx_own hat' (vx_isRefq hU'.1) (vx_isRefq hN'.1) hU'.2.word hN'.2.word
  have hown' : s'.vm.findClass own = some m.cls := by rw [hvm]; exact hown
  have hins : (Cond.instantiable cls 6).before args s' = true := h _ (by simp [Bundle.ownAtoms])
  obtain ⟨vm₁, cX, kX, hfX, hkX, -, -, X₁, st1⟩ := Y.newCold hexec (own := own) (C := cls) (index := ik) (n := 6) hown' hk' hins hini'
    (g := F0 m pc ls rest) rfl (by rw [hb]; exact d0) (Nat.le_refl _) (Nat.le_refl _)
  generalize hT1 : (T.setVm vm₁).pushCell { cls := cX, slots := kX.instanceTypes.map defaultValue, vm := .none } = T1 at X₁ st1
  have hcat : (Value.ref T.heap.size).category = 1 := rfl
  have hcellA : T1.heap[T.heap.size]? = some (freshCell cX kX) := by rw [← hT1]; exact State.heap_pushCell_size _ _
  have d3' : decode c.code (pc + 3) = .ok (.dup, 1) := by rw [hb]; exact d3
  have d4' : decode c.code (pc + 4) = .ok (.ldc_w is, 3) := by rw [hb]; exact d4
  have hstr' : vk_R own is text sa s' := vk_R.warm hW0 hstr
  obtain ⟨U, hsteps, hrun, hend, hW, hsame, ce, hce, hO⟩ := X₁.ctorThrowS hexec htr (own := own) (cls := cls) (names := names) (ic := ic) hown' hcls hnames h (fun x hx => nomatch hx) hfX hkX hcellA (by rw [hhp, hT]; exact Nat.le_refl _) (msg := .ref sa) rfl
    (g := { method := m, pc := pc + 7, locals := ls, stack := .ref sa :: .ref T.heap.size :: .ref T.heap.size :: rest, locked := none }) rfl hsize rfl rfl (rest := rest) rfl
    (by rw [hb]; exact d7) (by rw [hb]; exact d10) hout hRframes (by simp only [List.map_cons, List.sum_cons, hcat]; omega) hlocks
  obtain ⟨f1, f2⟩ := vx_frame hsame
  rw [hhp] at f1 f2
  have hWs : s.WarmedH U.vm := State.WarmedH.trans hW0 hW
  have hcl : s.vm.findClass cls = some ce.cls := by
    have h9 := hO.cls
    rw [hvm] at h9
    exact h9
  have hall : s.sameButNew ({ U with vm := s.vm } : State) locs mc ms := by
    subst hA
    obtain ⟨e1, e2⟩ := hsame
    rw [State.setFrames_setFrames] at e1
    have h2 : (T.setVm s.vm).sameButNew ({ U with vm := s.vm } : State) [] (0 + 1) (0 + 6) := ⟨e1, e2⟩
    have h3 := X.same.trans h2
    rw [List.append_nil] at h3
    exact h3.mono hc hs
  refine ⟨U, ?_, .threw T.heap.size, hrun, hend, Or.inr ⟨T.heap.size, rfl, cls, ce, locs, hx U hWs.alike f1 (fun q hq => f2 q hq (fun z hz => nomatch hz)), hce, hO.vm, hcl, hWs, hall, hf⟩⟩
  refine st1 _ ?_
  show Steps p.tables e below (T1.setTop { method := m, pc := pc + 3, locals := ls, stack := .ref T.heap.size :: rest, locked := none }) _
  jvm_step X₁.here [X₁.here.top, hexec, d3', Value.category]
  exact X₁.ldcStringW hexec (own := own) (text := text) (index := is) (a := sa) hown' hstr'.1 hstr'.2
    (g := { method := m, pc := pc + 4, locals := ls, stack := .ref T.heap.size :: .ref T.heap.size :: rest, locked := none }) rfl d4' _ hsteps
end Ends
section Bodies
variable {l : Launch}
theorem vx_ofW {y : MethodName} {ws ws' : List Cond} {rm : Room} {Pc : Array Value → State → Prop} {Qc : Array Value → State → Outcome → State → Prop} {XC : String → State → State → Prop} {mc ms : Nat} {free : Addr → Prop} {cc : ByteArray} {maxL : Nat} {ret : Option FieldType}
    (hy : plainName y.cls = true) (hw : ws = Cond.code y cc maxL ret :: ws')
    (body : ∀ p e s m args below meth c s₁, BodyLoose p l y (headSpec ws rm) cc maxL ret e s m args below meth c s₁ → c.maxLocals = maxL → (∀ x ∈ c.exceptionTable.toList, False) → Pc args s →
      W p l e (headSpec ws rm).room s m args below meth c s.heap [] 0 0 (vx_MQ below Qc XC args s mc ms free) (entryFrame m args maxL)) : vx_Met l y ws rm Pc Qc XC mc ms free := by
  refine MetFree.of_bodyS (code := cc) (maxLocals := maxL) (ret := ret) hy ?_ ?_
  · intro args s m h hn
    obtain ⟨meth, c, h1, h2, h3, h4, h5, h6, -, -⟩ := Cond.code_spec hn (atoms_spec (ws := ws) h _ (by rw [hw]; exact List.mem_cons_self))
    exact ⟨meth, c, h1, h2, h3, h4, h5, h6⟩
  · intro p e s m args below meth c s₁ B hml hP _
    have hh0 : s₁.heap = s.heap := by rw [B.state]; rfl
    have ht : ∀ x ∈ c.exceptionTable.toList, False := by
      obtain ⟨meth9, c9, h1, h2, -, -, -, -, h7, -⟩ := Cond.code_spec B.named (atoms_spec (ws := ws) B.pre _ (by rw [hw]; exact List.mem_cons_self))
      cases Option.some.inj (h1.symm.trans B.method)
      cases Option.some.inj (h2.symm.trans (Stand.of_body B).code)
      intro x hx
      rw [Array.isEmpty_iff.mp h7] at hx
      cases hx
    obtain ⟨t, a1, o, b1, b2, b3⟩ := body p e s m args below meth c s₁ B hml ht hP s₁ hh0 (Stand.of_body B)
    exact ⟨t, o, a1, b1, b2, b3⟩
/-- the table of a body with handlers -/
theorem vx_table {p : Program} {x y : MethodName} {S : Spec} {cc bytes : ByteArray} {maxL maxL' : Nat} {ret ret' : Option FieldType} {e : Env} {s s₁ : State} {m : MethodId} {args : Array Value} {below : List Frame} {meth : Method} {c : Code} {hh : List (Nat × Nat × Nat × Nat)}
    (B : BodyLoose p l y S cc maxL ret e s m args below meth c s₁) (h : (Cond.codeWith y bytes maxL' ret' hh).before args s = true) : c.exceptionTable.toList = tableOf hh := by
  obtain ⟨m9, meth9, c9, hn9, h1, h2, -, -, h6, -⟩ := Cond.codeWith_spec h
  cases Option.some.inj (hn9.symm.trans B.named)
  cases Option.some.inj (h1.symm.trans B.method)
  cases Option.some.inj (h2.symm.trans (Stand.of_body B).code)
  rw [← h6, table_eq]
end Bodies
end VXA
/-! ===== END ===== -/
/-! ===== BEGIN a static call of a method with an exception table ===== -/
section VXS
variable {p : Program} {l : Launch} {e : Env} {R : Room} {s : State} {m : MethodId} {args : Array Value} {below : List Frame} {meth : Method} {c : Code} {T : State} {H : Heap} {locs : List Loc} {cells slots : Nat}
abbrev vx_CSW (R : Room) (s : State) (args : Array Value) (own : String) (index : Nat) (y : MethodName) (bytes : ByteArray) (maxL : Nat) (ret : Option FieldType) (hh : List (Nat × Nat × Nat × Nat)) (ws : List Cond) (rm : Room) (mc ms n : Nat) : Prop :=
  (rm.cells = mc ∧ rm.slots = ms ∧ rm.frames + 1 ≤ R.frames ∧ 8 + (maxL + 11) + rm.locals ≤ R.locals ∧ (∀ w ∈ ws, ∀ (a' : Array Value) (U : State), s.WarmedH U.vm → w.before a' U = true) ∧ Cond.codeWith y bytes maxL ret hh ∈ ws) ∧
  (Cond.codeWith y bytes maxL ret hh).before args s = true ∧ (Cond.initialized y.cls).before args s = true ∧ (y.cls ≠ "java/lang/invoke/MethodHandle" ∧ y.cls ≠ "java/lang/invoke/VarHandle") ∧
  (∀ sig, parseMethodDescriptor y.desc = some sig → n = sig.parameters.length) ∧ (Cond.methodLink own index y).before args s = true ∧ (Cond.static y).before args s = true
theorem vx_cwSW {own : String} {index maxL mc ms : Nat} {y : MethodName} {bytes : ByteArray} {ret : Option FieldType} {hh : List (Nat × Nat × Nat × Nat)} {Ts ws ws' : List Cond} {rm : Room} (n : Nat) (ht : ∀ w ∈ Ts, w.before args s = true) (hT : GoodIn Ts (va_wsS own index y ws)) (hw : ws = Cond.codeWith y bytes maxL ret hh :: ws') (hrc : rm.cells = mc) (hrs : rm.slots = ms)
    (hd : y.cls ≠ "java/lang/invoke/MethodHandle" ∧ y.cls ≠ "java/lang/invoke/VarHandle" ∧ (parseMethodDescriptor y.desc).map (fun d => d.parameters.length) = some n) (hR : rm.frames + 1 ≤ R.frames ∧ 8 + (maxL + 11) + rm.locals ≤ R.locals) :
    vx_CSW R s args own index y bytes maxL ret hh ws rm mc ms n := by
  have ok : ∀ w ∈ va_wsS own index y ws, w.before args s = true := fun w h => ht w (hT w h).1
  have hG : GoodIn Ts ws := fun w h => hT w (by unfold va_wsS; exact List.mem_append_right _ h)
  have hc : Cond.codeWith y bytes maxL ret hh ∈ ws := by rw [hw]; exact List.mem_cons_self
  refine ⟨⟨hrc, hrs, hR.1, hR.2, pay_in ht hG, hc⟩, ht _ (hG _ hc).1, ok _ (by simp [va_wsS]), ⟨hd.1, hd.2.1⟩, fun sig h => ?_, ok _ (by simp [va_wsS]), ok _ (by simp [va_wsS])⟩
  have h2 := hd.2.2
  rw [h] at h2
  exact (Option.some.inj h2).symm
theorem vx_callSW (X : Stand p l e R s m args below meth c T locs cells slots) (hexec : p.tables.exec = Jvm.exec) {own : String} {index : Nat} {y : MethodName} {bytes : ByteArray} {maxL : Nat} {ret : Option FieldType} {hh : List (Nat × Nat × Nat × Nat)}
    (hown : s.vm.findClass own = some m.cls) (hlink : (Cond.methodLink own index y).before args s = true) (hstat : (Cond.static y).before args s = true) (hinit : (Cond.initialized y.cls).before args s = true)
    (hcode : (Cond.codeWith y bytes maxL ret hh).before args s = true) (hy : y.cls ≠ "java/lang/invoke/MethodHandle" ∧ y.cls ≠ "java/lang/invoke/VarHandle")
    {W9 : Nat} {Pre : Pt → Array Value → Prop} {Post : Pt → Array Value → Option Value → Pt → Prop} (hK : Back l R p e below s args y 3 W9 Pre Post)
    {g : JFrame} (hg : g.method = m) (hsize : g.locals.size = c.maxLocals) {argsL rest : List Value} (hlen : ∀ sig, parseMethodDescriptor y.desc = some sig → argsL.length = sig.parameters.length)
    (hstack : g.stack = argsL.reverse ++ rest) (hW : 2 * g.monitorRoom + (rest.map fun v => v.category).sum ≤ W9) (hdg : decode c.code g.pc = .ok (.invokestatic index, 3))
    (hpre : ∀ vm₁, s.WarmedH vm₁ → Pre ⟨T.setVm vm₁, locs, cells, slots⟩ argsL.toArray) :
    ∃ (v : Option Value) (vm₁ : Vm) (B : Pt), s.WarmedH vm₁ ∧ Stand p l e R s m args below meth c B.U B.locs B.cells B.slots ∧ Post ⟨T.setVm vm₁, locs, cells, slots⟩ argsL.toArray v B ∧
      ∀ target, Steps p.tables e below (B.U.setTop { g with pc := g.pc + 3, stack := v.toList ++ rest }) target → Steps p.tables e below (T.setTop g) target := by
  obtain ⟨mk, methM, cM, hnamed, hmethM, -, -, -, -, -, -, hsigM⟩ := Cond.codeWith_spec hcode
  have hstatic : methM.isStatic = true := Cond.static_spec hnamed hmethM hstat
  obtain ⟨kP, hkP, -⟩ := className_of_methodNamed hnamed
  have hinitP : kP.init = .initialized := Cond.initialized_spec (findClass_of_methodNamed hnamed) hkP hinit
  obtain ⟨vm₁, X₁, hstep₁⟩ := X.invokestatic hexec hown hlink hnamed hmethM hstatic hkP hinitP hy (g := g) hg (argsL := argsL) (rest := rest) (hlen _ hsigM) hstack hdg
  obtain ⟨v, B, X', hpost, hsteps⟩ := hK m meth c ⟨T.setVm vm₁, locs, cells, slots⟩ { g with stack := rest } (.invokestatic index) mk argsL.toArray X₁ hg hsize hdg hW (X₁.named hnamed) (hpre vm₁ X₁.warmed)
  exact ⟨v, vm₁, B, X₁.warmed, X', hpost, fun target h => hstep₁ _ fun acts => by rw [doInvoke_state]; exact hsteps.trans h⟩
theorem vx_runSW {y : MethodName} {bytes cc : ByteArray} {maxL nL mc ms n index : Nat} {ret : Option FieldType} {hh : List (Nat × Nat × Nat × Nat)} {ws : List Cond} {rm : Room} {Pc : Array Value → State → Prop} {Qc : Array Value → State → Outcome → State → Prop} {free : Addr → Prop} {Ts : List Cond} {own : String} {As rest : List Value} {g : JFrame}
    (S : CallFix p m c cc nL s args Ts own) (hM : Met l y ws rm Pc Qc mc ms free) (cw : vx_CSW R s args own index y bytes maxL ret hh ws rm mc ms n) (hp : PreS s H Pc As)
    (hg : g.method = m) (hn : As.length = n) (hsize : g.locals.size = nL) (hstack : g.stack = As.reverse ++ rest) (hW : 2 * g.monitorRoom + (rest.map fun v => v.category).sum ≤ 8) (hdg : decode cc g.pc = .ok (.invokestatic index, 3)) (hf : cells + mc ≤ R.cells ∧ slots + ms ≤ R.slots) :
    va_Run p l e R s m args below meth c H locs cells slots mc ms g rest (Qc As.toArray) (free) := by
  obtain ⟨⟨hrc, hrs, hfr, hlo, hws, hcw⟩, hcode, hini, hy, hlen, hl, hstt⟩ := cw
  have hK : Back l R p e below s args y 3 8 (PreOf R mc ms Pc) (PostOf Qc mc ms free) := va_backW (hh := hh) (bytes := bytes) (maxL := maxL) (ret := ret) hM hp.1 hrc hrs hfr hlo hws hcw (fun a' U hW => word_at hW (Or.inl (by first | rfl | simp [Cond.onTables, Cond.keeps, Cond.steady])) hini)
  obtain ⟨hx, hb, hml, ho, -⟩ := S
  intro T hT X
  obtain ⟨v, vm₁, ⟨U', l2, c2, s2⟩, hW₁, X', ⟨g', mk, t, L, e1, e2, hq, h1, hL, h2, h3⟩, st⟩ := vx_callSW X hx (hh := hh) (bytes := bytes) (maxL := maxL) (ret := ret) ho hl hstt hini hcode hy hK hg (hsize.trans hml.symm) (argsL := As) (rest := rest) (fun sig h => hn.trans (hlen sig h)) hstack hW (by rw [hb]; exact hdg)
    (fun vm₁ hW₁ => ⟨hf.1, hf.2, hp.2 (T.setVm vm₁) hT hW₁⟩)
  dsimp only [Pt.U, Pt.locs, Pt.cells, Pt.slots] at X' e1 e2 h1 h2 h3 st
  subst h1; subst h2; subst h3
  exact ⟨v, (T.setVm vm₁).calling g' mk As.toArray, t, U', L, hT, X', hL, e1, e2, hq, st⟩
/-- not caught here, past rows that name other classes: it goes on to the caller -/
theorem vx_outP {p : Program} {l : Launch} {e : Env} {R : Room} {s : State} {m : MethodId} {args : Array Value} {below : List Frame} {meth : Method} {c : Code} {H : Heap} {locs : List Loc} {cells slots : Nat} {free : Addr → Prop} {ls : Array Slot} {rest : List Value} {Qc : Array Value → State → Outcome → State → Prop} {XC : String → State → State → Prop}
    {pc : Nat} {own E : String} {ce : Cell} {q : Addr} {mc ms : Nat} (hown : s.vm.findClass own = some m.cls) (hlocks : meth.locks = false)
    (hpass : ∀ z ∈ c.exceptionTable.toList, covers z pc = false ∨ (z.catchType ≠ 0 ∧ ∃ nm : String, (Cond.classLink own z.catchType nm).before args s = true ∧ va_Nc E nm s)) (hcell : H[q]? = some ce) (hv : ce.vm = .none) (hcl : s.vm.findClass E = some ce.cls)
    (hx : ∀ t : State, t.heap = H → s.vm.Alike t.vm → XC E s t) (hf : ∀ z ∈ locs, free z.base) (hc : cells ≤ mc) (hs : slots ≤ ms) :
    vx_W p l e R s m args below meth c H locs cells slots (vx_MQ below Qc XC args s mc ms free) (F0 m pc ls rest) q := by
  intro T hT X
  have hpl : e.platform.magicAccessors = ({} : Platform).magicAccessors := by rw [X.admits.platform]
  obtain ⟨vm', hW', X', st⟩ := X.outThrough hlocks q (g := F0 m pc ls rest) rfl rfl rfl (cell := ce) (by rw [hT]; exact hcell) (by rw [hv]; rfl)
    (by obtain ⟨k9, h9, -⟩ := Vm.findClass_spec hcl; exact ⟨k9, h9⟩) (fun z hz => by
      rcases hpass z hz with h | ⟨hz0, nm, hl1, hn1⟩
      · exact Or.inl h
      · obtain ⟨c6, hc6, hcl6⟩ := Cond.classLink_spec hown hl1 e.platform hpl
        obtain ⟨a8, b8, h1, h2, h3⟩ := hn1
        cases Option.some.inj (h1.symm.trans hcl)
        cases Option.some.inj (h2.symm.trans hc6)
        exact Or.inr ⟨hz0, _, hcl6, h3⟩)
  obtain ⟨g₀, hfr⟩ := X'.frames_eq
  have hcell9 : ((T.setVm vm').setFrames (.throwing q :: below)).heap[q]? = some ce := by
    show T.heap[q]? = some ce
    rw [hT]; exact hcell
  have hend : Ended ((T.setVm vm').setFrames (.throwing q :: below)) below (.threw q) := State.frames_setFrames _ (State.cur_lt_of_frames hfr)
  refine ⟨(T.setVm vm').setFrames (.throwing q :: below), ?_, .threw q, X'.here.running, hend, Or.inr ⟨q, rfl, E, ce, locs, hx _ hT (X'.ends _).1.alike, hcell9, hv, hcl, (X'.ends _).1, (X'.ends _).2.mono hc hs, hf⟩⟩
  rw [X.pushThrowing_eq]
  exact st
/-- a thing of a world lies in the heap -/
theorem vx_lt {D : va_G} {cl : List vw_C} {ws : va_W} {H1 : Heap} (h : va_P D cl ws H1) {k : Nat} {q : Nat × va_E} (hk : ws[k]? = some q) : q.1 < H1.size := (h k q hk).lt
end VXS
/-! ===== END ===== -/
/-! ===== BEGIN methods with a table of their own: called by a name, returning or throwing ===== -/
section VXH
/-! vx_backW, vx_callVX, vx_callSX, vx_callVW, vx_runVW, vx_runVX, vx_runSX, vx_ofWH follow the same proofs as their sisters above (Free/Laws.lean, Shelf42/LK1.lean); vx_outP calls Shelf42/NT130.lean (outThrough). -/
section
variable {l : Launch} {R : Room} {p : Program} {e : Env} {below : List Frame} {s : State} {sargs : Array Value} {y : MethodName} {len W9 : Nat}
theorem vx_backW {ws : List Cond} {rm : Room} {Pc : Array Value → State → Prop} {Qc : Array Value → State → Outcome → State → Prop} {XC : String → State → State → Prop} {mc ms : Nat} {free : Addr → Prop} {bytes : ByteArray} {maxL : Nat} {ret : Option FieldType} {hh : List (Nat × Nat × Nat × Nat)}
    (hM : vx_Met l y ws rm Pc Qc XC mc ms free) (hblind : FrameBlind Pc) (hrc : rm.cells = mc) (hrs : rm.slots = ms)
    (hframes : rm.frames + 1 ≤ R.frames) (hlocals : W9 + (maxL + 11) + rm.locals ≤ R.locals)
    (hws : ∀ w ∈ ws, ∀ a' U, s.WarmedH U.vm → w.before a' U = true) (hcode : Cond.codeWith y bytes maxL ret hh ∈ ws) (hinit : ∀ a' U, s.WarmedH U.vm → (Cond.initialized y.cls).before a' U = true) :
    vx_Back l R p e below s sargs y len W9 (PreOf R mc ms Pc) (PostOf Qc mc ms free) (vx_Post XC mc ms free) := by
  intro m meth c A g ig mk a X hg hsize hdg hW hn hp
  have h1 : (headSpec ws rm).pre.before a A.U = true := atoms_intro fun w hw => hws w hw _ _ X.warmed
  have h2 : (Cond.codeWith y bytes maxL ret hh).before a A.U = true := hws _ hcode _ _ X.warmed
  have h3 : (Cond.initialized y.cls).before a A.U = true := hinit _ _ X.warmed
  have h4 : A.cells + (headSpec ws rm).room.cells ≤ R.cells := by rw [show (headSpec ws rm).room.cells = mc from hrc]; exact hp.1
  have h5 : A.slots + (headSpec ws rm).room.slots ≤ R.slots := by rw [show (headSpec ws rm).room.slots = ms from hrs]; exact hp.2.1
  have hPc : Pc a (A.U.calling g mk a) := hblind _ _ _ _ hp.2.2
  obtain ⟨U, Ls, c0, s0⟩ := A
  dsimp only [Pt.U, Pt.locs, Pt.cells, Pt.slots] at h1 h2 h3 h4 h5 X hn hPc ⊢
  obtain ⟨m9, methY, cY, hn9, hmY, hcY, -, hlY, -⟩ := Cond.codeWith_spec h2
  cases Option.some.inj (hn9.symm.trans hn)
  obtain ⟨kY, hkY, -⟩ := className_of_methodNamed hn
  have hinitY : kY.init = .initialized := Cond.initialized_spec (findClass_of_methodNamed hn) hkY h3
  have h : At U g.method c below := by rw [hg]; exact X.here
  have hlocals9 : W9 + (maxL + 11) + (headSpec ws rm).room.locals ≤ R.locals := hlocals
  have happ : (headSpec ws rm).appliesLoose y e.platform (U.calling g mk a) = true :=
    Spec.appliesLoose_calling (g := g) h hdg hn hkY hinitY
      (X.room_calling (g := g) (R' := (headSpec ws rm).room) hsize hmY hcY hframes (by rw [hlY]; omega) h4 h5) h1
  obtain ⟨mid, hmid⟩ := h.above
  have hfr : (U.setTop g).frames = (.java g :: mid) ++ below := by rw [State.frames_setTop' g h.top, hmid]; rfl
  obtain ⟨o, s₂, hsteps, -, hend, hq⟩ := Steps.callFree hM p X.admits X.cas X.clock (acts := []) hfr happ hPc trivial
  have hq' : vx_Q Qc XC mc ms free a (U.calling g mk a) o s₂ := hq
  rw [State.frames_setTop' g h.top] at hend
  obtain ⟨g₀, hg0⟩ := Option.isSome_iff_exists.mp h.top
  obtain ⟨r, hr⟩ := State.topJava?_eq_some.mp hg0
  have hr' : (({ U with heap := s₂.heap, slotsUsed := s₂.slotsUsed } : State).setVm s₂.vm).frames = .java g₀ :: r := hr
  rcases hq' with ⟨hqc, L, hfe, hL⟩ | ⟨q, rfl, E, ce, L, hx, hce, hcv, hcl, hW₂, hsm, hL⟩
  · obtain ⟨⟨v, rfl⟩, hW₂, e2, q2, q3, q4, q5, q6⟩ := id hfe
    have e3 : s₂ = ({ (U.calling g mk a).setFrames s₂.frames with heap := s₂.heap, slotsUsed := s₂.slotsUsed } : State).setVm s₂.vm := by
      have : s₂ = ({ s₂ with vm := (U.calling g mk a).vm } : State).setVm s₂.vm := rfl
      rw [e2] at this
      exact this
    obtain ⟨c₂, i₂, len₂, hc₂, hd₂, hf₂⟩ := hend
    have hW' : U.WarmedH s₂.vm := hW₂
    have hcc : c₂ = c := by
      have h1 : s₂.code? g.method = U.code? g.method := by
        rw [State.code?_eq, State.code?_eq, hW'.alike.method?]
      exact Option.some.inj (hc₂.symm.trans (h1.trans h.code))
    subst hcc
    have hlen : len₂ = len := by rw [hdg] at hd₂; cases hd₂; rfl
    subst hlen
    have hs₂ : s₂ = (({ U with heap := s₂.heap, slotsUsed := s₂.slotsUsed } : State).setVm s₂.vm).setTop { g with pc := g.pc + len₂, stack := v.toList ++ g.stack } := by
      refine e3.trans ?_
      rw [hf₂, State.calling_eq h.top, State.setFrames_setFrames, State.setTop_of_frames _ hr', hr]
      rfl
    have hsame : U.sameButNew ({ U with heap := s₂.heap, slotsUsed := s₂.slotsUsed } : State) L mc ms := by
      refine ⟨?_, q2, q3, q4, q5, q6⟩
      obtain ⟨t, ht, -⟩ := State.frames_cons hr
      show ({ U with heap := s₂.heap, slotsUsed := s₂.slotsUsed } : State) = { U.setFrames U.frames with heap := s₂.heap, slotsUsed := s₂.slotsUsed }
      rw [State.setFrames_self ht]
    subst hg
    refine Or.inl ⟨v, ⟨(({ U with heap := s₂.heap, slotsUsed := s₂.slotsUsed } : State).setVm s₂.vm), Ls ++ L, c0 + mc, s0 + ms⟩,
      ⟨X.admits, X.cas, X.clock, X.frames, X.room, X.hears, X.method, X.code, (X.here.setHeapUsed s₂.heap s₂.slotsUsed).setVm hW'.alike, X.tail, State.WarmedH.trans X.warmed hW', X.limits, X.bytes, X.same.trans (hsame.setVm s.vm)⟩,
      ⟨g, mk, s₂, L, rfl, rfl, hqc, rfl, hL, rfl, rfl⟩, ?_⟩
    show Steps p.tables e below _ ((({ U with heap := s₂.heap, slotsUsed := s₂.slotsUsed } : State).setVm s₂.vm).setTop { g with pc := g.pc + len₂, stack := v.toList ++ g.stack })
    rw [← hs₂]
    exact hsteps
  · obtain ⟨e2, q2, q3, q4, q5, q6⟩ := id hsm
    have e3 : s₂ = ({ (U.calling g mk a).setFrames s₂.frames with heap := s₂.heap, slotsUsed := s₂.slotsUsed } : State).setVm s₂.vm := by
      have : s₂ = ({ s₂ with vm := (U.calling g mk a).vm } : State).setVm s₂.vm := rfl
      rw [e2] at this
      exact this
    have hf₂ : s₂.frames = .throwing q :: .java g :: U.frames.tail := hend
    have hW' : U.WarmedH s₂.vm := hW₂
    have hs₂ : s₂ = ((({ U with heap := s₂.heap, slotsUsed := s₂.slotsUsed } : State).setVm s₂.vm).setTop g).pushFrame (.throwing q) := by
      refine e3.trans ?_
      rw [hf₂, State.calling_eq h.top, State.setFrames_setFrames, State.pushFrame, State.frames_setTop _ hr', State.setTop_of_frames _ hr', State.setFrames_setFrames, hr]
      rfl
    have hsame : U.sameButNew ({ U with heap := s₂.heap, slotsUsed := s₂.slotsUsed } : State) L mc ms := by
      refine ⟨?_, q2, q3, q4, q5, q6⟩
      obtain ⟨t, ht, -⟩ := State.frames_cons hr
      show ({ U with heap := s₂.heap, slotsUsed := s₂.slotsUsed } : State) = { U.setFrames U.frames with heap := s₂.heap, slotsUsed := s₂.slotsUsed }
      rw [State.setFrames_self ht]
    subst hg
    refine Or.inr ⟨q, ⟨(({ U with heap := s₂.heap, slotsUsed := s₂.slotsUsed } : State).setVm s₂.vm), Ls ++ L, c0 + mc, s0 + ms⟩,
      ⟨X.admits, X.cas, X.clock, X.frames, X.room, X.hears, X.method, X.code, (X.here.setHeapUsed s₂.heap s₂.slotsUsed).setVm hW'.alike, X.tail, State.WarmedH.trans X.warmed hW', X.limits, X.bytes, X.same.trans (hsame.setVm s.vm)⟩,
      ⟨g, mk, s₂, L, E, ce, rfl, rfl, hx, hce, hcv, hcl, rfl, hL, rfl, rfl⟩, ?_⟩
    show Steps p.tables e below _ (((({ U with heap := s₂.heap, slotsUsed := s₂.slotsUsed } : State).setVm s₂.vm).setTop g).pushFrame (.throwing q))
    rw [← hs₂]
    exact hsteps
end
variable {p : Program} {l : Launch} {e : Env} {R : Room} {s : State} {m : MethodId} {args : Array Value} {below : List Frame} {meth : Method} {c : Code} {T : State} {H : Heap} {locs : List Loc} {cells slots : Nat}
theorem vx_callVX (X : Stand p l e R s m args below meth c T locs cells slots) (hexec : p.tables.exec = Jvm.exec) {own C : String} {index : Nat} {y : MethodName} {bytes : ByteArray} {maxL : Nat} {ret : Option FieldType} {hh : List (Nat × Nat × Nat × Nat)}
    (hown : s.vm.findClass own = some m.cls) (hlink : (Cond.methodLink own index y).before args s = true) (hinst : (Cond.instanceMethod y).before args s = true) (hsel : (Cond.selects C y y).before args s = true)
    (hcode : (Cond.codeWith y bytes maxL ret hh).before args s = true) (hy : y.cls ≠ "java/lang/invoke/MethodHandle" ∧ y.cls ≠ "java/lang/invoke/VarHandle")
    {W9 : Nat} {Pre : Pt → Array Value → Prop} {Post : Pt → Array Value → Option Value → Pt → Prop} {PostX : Pt → Array Value → Addr → Pt → Prop} (hK : vx_Back l R p e below s args y 3 W9 Pre Post PostX)
    {b : Addr} {cellB : Cell} (hcell : T.heap[b]? = some cellB) (hobj : cellB.vm.isStatics = false) (hcls : s.vm.findClass C = some cellB.cls)
    {g : JFrame} (hg : g.method = m) (hsize : g.locals.size = c.maxLocals) {argsL rest : List Value} (hlen : ∀ sig, parseMethodDescriptor y.desc = some sig → argsL.length = sig.parameters.length)
    (hstack : g.stack = argsL.reverse ++ .ref b :: rest) (hW : 2 * g.monitorRoom + (rest.map fun v => v.category).sum ≤ W9) (hdg : decode c.code g.pc = .ok (.invokevirtual index, 3))
    (hpre : ∀ vm₁, s.WarmedH vm₁ → Pre ⟨T.setVm vm₁, locs, cells, slots⟩ (Value.ref b :: argsL).toArray) :
    (∃ (v : Option Value) (vm₁ : Vm) (B : Pt), s.WarmedH vm₁ ∧ Stand p l e R s m args below meth c B.U B.locs B.cells B.slots ∧ Post ⟨T.setVm vm₁, locs, cells, slots⟩ (Value.ref b :: argsL).toArray v B ∧
      ∀ target, Steps p.tables e below (B.U.setTop { g with pc := g.pc + 3, stack := v.toList ++ rest }) target → Steps p.tables e below (T.setTop g) target) ∨
    (∃ (q : Addr) (vm₁ : Vm) (B : Pt), s.WarmedH vm₁ ∧ Stand p l e R s m args below meth c B.U B.locs B.cells B.slots ∧ PostX ⟨T.setVm vm₁, locs, cells, slots⟩ (Value.ref b :: argsL).toArray q B ∧
      Steps p.tables e below (T.setTop g) ((B.U.setTop { g with stack := rest }).pushFrame (.throwing q))) := by
  obtain ⟨mk, methM, hnamed, hmethM, hstM, habM⟩ := Cond.instanceMethod_spec hinst
  obtain ⟨m8, methM', cM, hn8, hmethM', -, -, -, -, -, -, hsigM⟩ := Cond.codeWith_spec hcode
  cases Option.some.inj (hn8.symm.trans hnamed)
  cases hmethM.symm.trans hmethM'
  obtain ⟨c2, r2, m2, q1, q2, q3, q4, kP, hkP, hkPi⟩ := Cond.selects_spec hsel
  cases hcls.symm.trans q1
  cases (State.methodFound?_of_named hnamed hy).symm.trans q2
  cases hnamed.symm.trans q3
  have hselP : selectMethod e.platform s.vm cellB.cls mk = .method mk := by rw [Launch.admits_selectMethod X.admits]; exact q4
  obtain ⟨vm₁, X₁, hstep₁⟩ := X.invokevirtual hexec hown hlink hnamed hmethM hstM hkP hkPi hy (a := b) (cell := cellB) hcell
    (fun z h => by rw [h] at hobj; cases hobj) hselP hmethM habM hkP hkPi (g := g) hg (argsL := argsL) (rest := rest) (hlen _ hsigM) hstack hdg
  rcases hK m meth c ⟨T.setVm vm₁, locs, cells, slots⟩ { g with stack := rest } (.invokevirtual index) mk (Value.ref b :: argsL).toArray X₁ hg hsize hdg hW (X₁.named hnamed) (hpre vm₁ X₁.warmed) with ⟨v, B, X', hpost, hsteps⟩ | ⟨q, B, X', hpost, hsteps⟩
  · exact Or.inl ⟨v, vm₁, B, X₁.warmed, X', hpost, fun target h => hstep₁ _ fun acts => by rw [doInvoke_state]; exact hsteps.trans h⟩
  · exact Or.inr ⟨q, vm₁, B, X₁.warmed, X', hpost, hstep₁ _ fun acts => by rw [doInvoke_state]; exact hsteps⟩
theorem vx_callSX (X : Stand p l e R s m args below meth c T locs cells slots) (hexec : p.tables.exec = Jvm.exec) {own : String} {index : Nat} {y : MethodName} {bytes : ByteArray} {maxL : Nat} {ret : Option FieldType} {hh : List (Nat × Nat × Nat × Nat)}
    (hown : s.vm.findClass own = some m.cls) (hlink : (Cond.methodLink own index y).before args s = true) (hstat : (Cond.static y).before args s = true) (hinit : (Cond.initialized y.cls).before args s = true)
    (hcode : (Cond.codeWith y bytes maxL ret hh).before args s = true) (hy : y.cls ≠ "java/lang/invoke/MethodHandle" ∧ y.cls ≠ "java/lang/invoke/VarHandle")
    {W9 : Nat} {Pre : Pt → Array Value → Prop} {Post : Pt → Array Value → Option Value → Pt → Prop} {PostX : Pt → Array Value → Addr → Pt → Prop} (hK : vx_Back l R p e below s args y 3 W9 Pre Post PostX)
    {g : JFrame} (hg : g.method = m) (hsize : g.locals.size = c.maxLocals) {argsL rest : List Value} (hlen : ∀ sig, parseMethodDescriptor y.desc = some sig → argsL.length = sig.parameters.length)
    (hstack : g.stack = argsL.reverse ++ rest) (hW : 2 * g.monitorRoom + (rest.map fun v => v.category).sum ≤ W9) (hdg : decode c.code g.pc = .ok (.invokestatic index, 3))
    (hpre : ∀ vm₁, s.WarmedH vm₁ → Pre ⟨T.setVm vm₁, locs, cells, slots⟩ argsL.toArray) :
    (∃ (v : Option Value) (vm₁ : Vm) (B : Pt), s.WarmedH vm₁ ∧ Stand p l e R s m args below meth c B.U B.locs B.cells B.slots ∧ Post ⟨T.setVm vm₁, locs, cells, slots⟩ argsL.toArray v B ∧
      ∀ target, Steps p.tables e below (B.U.setTop { g with pc := g.pc + 3, stack := v.toList ++ rest }) target → Steps p.tables e below (T.setTop g) target) ∨
    (∃ (q : Addr) (vm₁ : Vm) (B : Pt), s.WarmedH vm₁ ∧ Stand p l e R s m args below meth c B.U B.locs B.cells B.slots ∧ PostX ⟨T.setVm vm₁, locs, cells, slots⟩ argsL.toArray q B ∧
      Steps p.tables e below (T.setTop g) ((B.U.setTop { g with stack := rest }).pushFrame (.throwing q))) := by
  obtain ⟨mk, methM, cM, hnamed, hmethM, -, -, -, -, -, -, hsigM⟩ := Cond.codeWith_spec hcode
  have hstatic : methM.isStatic = true := Cond.static_spec hnamed hmethM hstat
  obtain ⟨kP, hkP, -⟩ := className_of_methodNamed hnamed
  have hinitP : kP.init = .initialized := Cond.initialized_spec (findClass_of_methodNamed hnamed) hkP hinit
  obtain ⟨vm₁, X₁, hstep₁⟩ := X.invokestatic hexec hown hlink hnamed hmethM hstatic hkP hinitP hy (g := g) hg (argsL := argsL) (rest := rest) (hlen _ hsigM) hstack hdg
  rcases hK m meth c ⟨T.setVm vm₁, locs, cells, slots⟩ { g with stack := rest } (.invokestatic index) mk argsL.toArray X₁ hg hsize hdg hW (X₁.named hnamed) (hpre vm₁ X₁.warmed) with ⟨v, B, X', hpost, hsteps⟩ | ⟨q, B, X', hpost, hsteps⟩
  · exact Or.inl ⟨v, vm₁, B, X₁.warmed, X', hpost, fun target h => hstep₁ _ fun acts => by rw [doInvoke_state]; exact hsteps.trans h⟩
  · exact Or.inr ⟨q, vm₁, B, X₁.warmed, X', hpost, hstep₁ _ fun acts => by rw [doInvoke_state]; exact hsteps⟩
theorem vx_callVW (X : Stand p l e R s m args below meth c T locs cells slots) (hexec : p.tables.exec = Jvm.exec) {own C : String} {index : Nat} {y : MethodName} {bytes : ByteArray} {maxL : Nat} {ret : Option FieldType} {hh : List (Nat × Nat × Nat × Nat)}
    (hown : s.vm.findClass own = some m.cls) (hlink : (Cond.methodLink own index y).before args s = true) (hinst : (Cond.instanceMethod y).before args s = true) (hsel : (Cond.selects C y y).before args s = true)
    (hcode : (Cond.codeWith y bytes maxL ret hh).before args s = true) (hy : y.cls ≠ "java/lang/invoke/MethodHandle" ∧ y.cls ≠ "java/lang/invoke/VarHandle")
    {W9 : Nat} {Pre : Pt → Array Value → Prop} {Post : Pt → Array Value → Option Value → Pt → Prop} (hK : Back l R p e below s args y 3 W9 Pre Post)
    {b : Addr} {cellB : Cell} (hcell : T.heap[b]? = some cellB) (hobj : cellB.vm.isStatics = false) (hcls : s.vm.findClass C = some cellB.cls)
    {g : JFrame} (hg : g.method = m) (hsize : g.locals.size = c.maxLocals) {argsL rest : List Value} (hlen : ∀ sig, parseMethodDescriptor y.desc = some sig → argsL.length = sig.parameters.length)
    (hstack : g.stack = argsL.reverse ++ .ref b :: rest) (hW : 2 * g.monitorRoom + (rest.map fun v => v.category).sum ≤ W9) (hdg : decode c.code g.pc = .ok (.invokevirtual index, 3))
    (hpre : ∀ vm₁, s.WarmedH vm₁ → Pre ⟨T.setVm vm₁, locs, cells, slots⟩ (Value.ref b :: argsL).toArray) :
    ∃ (v : Option Value) (vm₁ : Vm) (B : Pt), s.WarmedH vm₁ ∧ Stand p l e R s m args below meth c B.U B.locs B.cells B.slots ∧ Post ⟨T.setVm vm₁, locs, cells, slots⟩ (Value.ref b :: argsL).toArray v B ∧
      ∀ target, Steps p.tables e below (B.U.setTop { g with pc := g.pc + 3, stack := v.toList ++ rest }) target → Steps p.tables e below (T.setTop g) target := by
  obtain ⟨mk, methM, hnamed, hmethM, hstM, habM⟩ := Cond.instanceMethod_spec hinst
  obtain ⟨m8, methM', cM, hn8, hmethM', -, -, -, -, -, -, hsigM⟩ := Cond.codeWith_spec hcode
  cases Option.some.inj (hn8.symm.trans hnamed)
  cases hmethM.symm.trans hmethM'
  obtain ⟨c2, r2, m2, q1, q2, q3, q4, kP, hkP, hkPi⟩ := Cond.selects_spec hsel
  cases hcls.symm.trans q1
  cases (State.methodFound?_of_named hnamed hy).symm.trans q2
  cases hnamed.symm.trans q3
  have hselP : selectMethod e.platform s.vm cellB.cls mk = .method mk := by rw [Launch.admits_selectMethod X.admits]; exact q4
  obtain ⟨vm₁, X₁, hstep₁⟩ := X.invokevirtual hexec hown hlink hnamed hmethM hstM hkP hkPi hy (a := b) (cell := cellB) hcell
    (fun z h => by rw [h] at hobj; cases hobj) hselP hmethM habM hkP hkPi (g := g) hg (argsL := argsL) (rest := rest) (hlen _ hsigM) hstack hdg
  obtain ⟨v, B, X', hpost, hsteps⟩ := hK m meth c ⟨T.setVm vm₁, locs, cells, slots⟩ { g with stack := rest } (.invokevirtual index) mk (Value.ref b :: argsL).toArray X₁ hg hsize hdg hW (X₁.named hnamed) (hpre vm₁ X₁.warmed)
  exact ⟨v, vm₁, B, X₁.warmed, X', hpost, fun target h => hstep₁ _ fun acts => by rw [doInvoke_state]; exact hsteps.trans h⟩
abbrev vx_CVW (R : Room) (s : State) (args : Array Value) (own C : String) (index : Nat) (y : MethodName) (bytes : ByteArray) (maxL : Nat) (ret : Option FieldType) (hh : List (Nat × Nat × Nat × Nat)) (ws : List Cond) (rm : Room) (mc ms n : Nat) : Prop :=
  (rm.cells = mc ∧ rm.slots = ms ∧ rm.frames + 1 ≤ R.frames ∧ 8 + (maxL + 11) + rm.locals ≤ R.locals ∧ (∀ w ∈ ws, ∀ (a' : Array Value) (U : State), s.WarmedH U.vm → w.before a' U = true) ∧ Cond.codeWith y bytes maxL ret hh ∈ ws) ∧
  (Cond.codeWith y bytes maxL ret hh).before args s = true ∧ (Cond.initialized y.cls).before args s = true ∧ (y.cls ≠ "java/lang/invoke/MethodHandle" ∧ y.cls ≠ "java/lang/invoke/VarHandle") ∧
  (∀ sig, parseMethodDescriptor y.desc = some sig → n = sig.parameters.length) ∧ (Cond.methodLink own index y).before args s = true ∧ (Cond.instanceMethod y).before args s = true ∧ (Cond.selects C y y).before args s = true
theorem vx_cwVW {own C : String} {index maxL mc ms : Nat} {y : MethodName} {bytes : ByteArray} {ret : Option FieldType} {hh : List (Nat × Nat × Nat × Nat)} {Ts ws ws' : List Cond} {rm : Room} (n : Nat) (ht : ∀ w ∈ Ts, w.before args s = true) (hT : GoodIn Ts (wsV own index C y ws)) (hw : ws = Cond.codeWith y bytes maxL ret hh :: ws') (hrc : rm.cells = mc) (hrs : rm.slots = ms)
    (hd : y.cls = C ∧ y.cls ≠ "java/lang/invoke/MethodHandle" ∧ y.cls ≠ "java/lang/invoke/VarHandle" ∧ (parseMethodDescriptor y.desc).map (fun d => d.parameters.length) = some n) (hR : rm.frames + 1 ≤ R.frames ∧ 8 + (maxL + 11) + rm.locals ≤ R.locals) :
    vx_CVW R s args own C index y bytes maxL ret hh ws rm mc ms n := by
  obtain ⟨hC, hd⟩ := hd
  subst hC
  have ok : ∀ w ∈ wsV own index y.cls y ws, w.before args s = true := fun w h => ht w (hT w h).1
  have hG : GoodIn Ts ws := fun w h => hT w (by unfold wsV; exact List.mem_append_right _ h)
  have hc : Cond.codeWith y bytes maxL ret hh ∈ ws := by rw [hw]; exact List.mem_cons_self
  refine ⟨⟨hrc, hrs, hR.1, hR.2, pay_in ht hG, hc⟩, ht _ (hG _ hc).1, ok _ (by simp [wsV]), ⟨hd.1, hd.2.1⟩, fun sig h => ?_, ok _ (by simp [wsV]), ok _ (by simp [wsV]), ok _ (by simp [wsV])⟩
  have h2 := hd.2.2
  rw [h] at h2
  exact (Option.some.inj h2).symm
theorem vx_runVW {y : MethodName} {bytes cc : ByteArray} {maxL nL mc ms n index : Nat} {ret : Option FieldType} {hh : List (Nat × Nat × Nat × Nat)} {ws : List Cond} {rm : Room} {Pc : Array Value → State → Prop} {Qc : Array Value → State → Outcome → State → Prop} {free : Addr → Prop} {Ts : List Cond} {own C : String} {b : Addr} {As rest : List Value} {g : JFrame}
    (S : CallFix p m c cc nL s args Ts own) (hM : Met l y ws rm Pc Qc mc ms free) (cw : vx_CVW R s args own C index y bytes maxL ret hh ws rm mc ms n) (hp : PreV s H C b Pc As)
    (hg : g.method = m) (hn : As.length = n) (hsize : g.locals.size = nL) (hstack : g.stack = As.reverse ++ .ref b :: rest) (hW : 2 * g.monitorRoom + (rest.map fun v => v.category).sum ≤ 8) (hdg : decode cc g.pc = .ok (.invokevirtual index, 3)) (hf : cells + mc ≤ R.cells ∧ slots + ms ≤ R.slots) :
    va_Run p l e R s m args below meth c H locs cells slots mc ms g rest (Qc (Value.ref b :: As).toArray) free := by
  obtain ⟨⟨hrc, hrs, hfr, hlo, hws, hcw⟩, hcode, hini, hy, hlen, hl, hin, hse⟩ := cw
  have hK : Back l R p e below s args y 3 8 (PreOf R mc ms Pc) (PostOf Qc mc ms free) := va_backW (hh := hh) (bytes := bytes) (maxL := maxL) (ret := ret) hM hp.1 hrc hrs hfr hlo hws hcw (fun a' U hW => word_at hW (Or.inl (by first | rfl | simp [Cond.onTables, Cond.keeps, Cond.steady])) hini)
  obtain ⟨hx, hb, hml, ho, -⟩ := S
  obtain ⟨-, ⟨cellB, hcB, hoB, hclB⟩, hPc⟩ := hp
  intro T hT X
  obtain ⟨v, vm₁, ⟨U', l2, c2, s2⟩, hW₁, X', ⟨g', mk, t, L, e1, e2, hq, h1, hL, h2, h3⟩, st⟩ := vx_callVW X hx (C := C) (hh := hh) (bytes := bytes) (maxL := maxL) (ret := ret) ho hl hin hse hcode hy hK (by rw [hT]; exact hcB) hoB hclB hg (hsize.trans hml.symm) (argsL := As) (rest := rest) (fun sig h => hn.trans (hlen sig h)) hstack hW (by rw [hb]; exact hdg)
    (fun vm₁ hW₁ => ⟨hf.1, hf.2, hPc (T.setVm vm₁) hT hW₁⟩)
  dsimp only [Pt.U, Pt.locs, Pt.cells, Pt.slots] at X' e1 e2 h1 h2 h3 st
  subst h1; subst h2; subst h3
  exact ⟨v, (T.setVm vm₁).calling g' mk (Value.ref b :: As).toArray, t, U', L, hT, X', hL, e1, e2, hq, st⟩
section
variable {y : MethodName} {bytes cc : ByteArray} {maxL nL mc ms n index : Nat} {ret : Option FieldType} {ws : List Cond} {rm : Room} {Pc : Array Value → State → Prop} {Qc : Array Value → State → Outcome → State → Prop} {XC : String → State → State → Prop} {free : Addr → Prop} {Ts : List Cond} {own C : String} {b : Addr} {As rest : List Value} {g : JFrame}
theorem vx_runVX {hh : List (Nat × Nat × Nat × Nat)} (S : CallFix p m c cc nL s args Ts own) (hM : vx_Met l y ws rm Pc Qc XC mc ms free) (cw : vx_CVW R s args own C index y bytes maxL ret hh ws rm mc ms n) (hp : PreV s H C b Pc As)
    (hg : g.method = m) (hn : As.length = n) (hsize : g.locals.size = nL) (hstack : g.stack = As.reverse ++ .ref b :: rest) (hW : 2 * g.monitorRoom + (rest.map fun v => v.category).sum ≤ 8) (hdg : decode cc g.pc = .ok (.invokevirtual index, 3)) (hf : cells + mc ≤ R.cells ∧ slots + ms ≤ R.slots) :
    vx_Run p l e R s m args below meth c H locs cells slots mc ms g rest (Qc (Value.ref b :: As).toArray) XC free := by
  obtain ⟨⟨hrc, hrs, hfr, hlo, hws, hcw⟩, hcode, hini, hy, hlen, hl, hin, hse⟩ := cw
  have hK : vx_Back l R p e below s args y 3 8 (PreOf R mc ms Pc) (PostOf Qc mc ms free) (vx_Post XC mc ms free) := vx_backW (hh := hh) (bytes := bytes) (maxL := maxL) (ret := ret) hM hp.1 hrc hrs hfr hlo hws hcw (fun a' U hW => word_at hW (Or.inl (by first | rfl | simp [Cond.onTables, Cond.keeps, Cond.steady])) hini)
  obtain ⟨hx, hb, hml, ho, -⟩ := S
  obtain ⟨-, ⟨cellB, hcB, hoB, hclB⟩, hPc⟩ := hp
  intro T hT X
  rcases vx_callVX X hx (C := C) (hh := hh) (bytes := bytes) (maxL := maxL) (ret := ret) ho hl hin hse hcode hy hK (by rw [hT]; exact hcB) hoB hclB hg (hsize.trans hml.symm) (argsL := As) (rest := rest) (fun sig h => hn.trans (hlen sig h)) hstack hW (by rw [hb]; exact hdg)
    (fun vm₁ hW₁ => ⟨hf.1, hf.2, hPc (T.setVm vm₁) hT hW₁⟩) with ⟨v, vm₁, ⟨U', l2, c2, s2⟩, hW₁, X', ⟨g', mk, t, L, e1, e2, hq, h1, hL, h2, h3⟩, st⟩ | ⟨q, vm₁, ⟨U', l2, c2, s2⟩, hW₁, X', ⟨g', mk, t, L, E, ce, e1, e2, hq, hce, hcv, hcl, h1, hL, h2, h3⟩, st⟩
  · dsimp only [Pt.U, Pt.locs, Pt.cells, Pt.slots] at X' e1 e2 h1 h2 h3 st
    subst h1; subst h2; subst h3
    exact Or.inl ⟨v, (T.setVm vm₁).calling g' mk (Value.ref b :: As).toArray, t, U', L, hT, X', hL, e1, e2, hq, st⟩
  · dsimp only [Pt.U, Pt.locs, Pt.cells, Pt.slots] at X' e1 e2 h1 h2 h3 st hcl
    subst h1; subst h2; subst h3
    exact Or.inr ⟨q, (T.setVm vm₁).calling g' mk (Value.ref b :: As).toArray, t, U', L, E, ce, hT, X', hL, e1, e2, hq, hce, hcv, vx_cls hW₁ hcl, st⟩
theorem vx_runSX {hh : List (Nat × Nat × Nat × Nat)} (S : CallFix p m c cc nL s args Ts own) (hM : vx_Met l y ws rm Pc Qc XC mc ms free) (cw : vx_CSW R s args own index y bytes maxL ret hh ws rm mc ms n) (hp : PreS s H Pc As)
    (hg : g.method = m) (hn : As.length = n) (hsize : g.locals.size = nL) (hstack : g.stack = As.reverse ++ rest) (hW : 2 * g.monitorRoom + (rest.map fun v => v.category).sum ≤ 8) (hdg : decode cc g.pc = .ok (.invokestatic index, 3)) (hf : cells + mc ≤ R.cells ∧ slots + ms ≤ R.slots) :
    vx_Run p l e R s m args below meth c H locs cells slots mc ms g rest (Qc As.toArray) XC free := by
  obtain ⟨⟨hrc, hrs, hfr, hlo, hws, hcw⟩, hcode, hini, hy, hlen, hl, hstt⟩ := cw
  have hK : vx_Back l R p e below s args y 3 8 (PreOf R mc ms Pc) (PostOf Qc mc ms free) (vx_Post XC mc ms free) := vx_backW (hh := hh) (bytes := bytes) (maxL := maxL) (ret := ret) hM hp.1 hrc hrs hfr hlo hws hcw (fun a' U hW => word_at hW (Or.inl (by first | rfl | simp [Cond.onTables, Cond.keeps, Cond.steady])) hini)
  obtain ⟨hx, hb, hml, ho, -⟩ := S
  intro T hT X
  rcases vx_callSX X hx (hh := hh) (bytes := bytes) (maxL := maxL) (ret := ret) ho hl hstt hini hcode hy hK hg (hsize.trans hml.symm) (argsL := As) (rest := rest) (fun sig h => hn.trans (hlen sig h)) hstack hW (by rw [hb]; exact hdg)
    (fun vm₁ hW₁ => ⟨hf.1, hf.2, hp.2 (T.setVm vm₁) hT hW₁⟩) with ⟨v, vm₁, ⟨U', l2, c2, s2⟩, hW₁, X', ⟨g', mk, t, L, e1, e2, hq, h1, hL, h2, h3⟩, st⟩ | ⟨q, vm₁, ⟨U', l2, c2, s2⟩, hW₁, X', ⟨g', mk, t, L, E, ce, e1, e2, hq, hce, hcv, hcl, h1, hL, h2, h3⟩, st⟩
  · dsimp only [Pt.U, Pt.locs, Pt.cells, Pt.slots] at X' e1 e2 h1 h2 h3 st
    subst h1; subst h2; subst h3
    exact Or.inl ⟨v, (T.setVm vm₁).calling g' mk As.toArray, t, U', L, hT, X', hL, e1, e2, hq, st⟩
  · dsimp only [Pt.U, Pt.locs, Pt.cells, Pt.slots] at X' e1 e2 h1 h2 h3 st hcl
    subst h1; subst h2; subst h3
    exact Or.inr ⟨q, (T.setVm vm₁).calling g' mk As.toArray, t, U', L, E, ce, hT, X', hL, e1, e2, hq, hce, hcv, vx_cls hW₁ hcl, st⟩
end
end VXH
theorem vx_ofWH {l : Launch} {y : MethodName} {ws ws' : List Cond} {rm : Room} {Pc : Array Value → State → Prop} {Qc : Array Value → State → Outcome → State → Prop} {XC : String → State → State → Prop} {mc ms : Nat} {free : Addr → Prop} {cc : ByteArray} {maxL : Nat} {ret : Option FieldType} {hh : List (Nat × Nat × Nat × Nat)}
    (hy : plainName y.cls = true) (hw : ws = Cond.codeWith y cc maxL ret hh :: ws')
    (body : ∀ p e s m args below meth c s₁, BodyLoose p l y (headSpec ws rm) cc maxL ret e s m args below meth c s₁ → c.maxLocals = maxL → Pc args s →
      W p l e (headSpec ws rm).room s m args below meth c s.heap [] 0 0 (vx_MQ below Qc XC args s mc ms free) (entryFrame m args maxL)) : vx_Met l y ws rm Pc Qc XC mc ms free := by
  refine MetFree.of_bodyS (code := cc) (maxLocals := maxL) (ret := ret) hy ?_ ?_
  · intro args s m h hn
    obtain ⟨m9, meth, c, hn9, h1, h2, h3, h4, -, h5, h6, -⟩ := Cond.codeWith_spec (atoms_spec (ws := ws) h _ (by rw [hw]; exact List.mem_cons_self))
    cases hn.symm.trans hn9
    exact ⟨meth, c, h1, h2, h3, h4, h5, h6⟩
  · intro p e s m args below meth c s₁ B hml hP _
    have hh0 : s₁.heap = s.heap := by rw [B.state]; rfl
    obtain ⟨t, a1, o, b1, b2, b3⟩ := body p e s m args below meth c s₁ B hml hP s₁ hh0 (Stand.of_body B)
    exact ⟨t, o, a1, b1, b2, b3⟩
/-! ===== END ===== -/
end
section
theorem dX0_init_0 : decode cX0_init 0 = .ok (.aload_n 0, 1) := by decide +kernel
theorem dX0_init_1 : decode cX0_init 1 = .ok (.invokespecial 5, 3) := by decide +kernel
theorem dX0_init_4 : decode cX0_init 4 = .ok (.aload_n 0, 1) := by decide +kernel
theorem dX0_init_5 : decode cX0_init 5 = .ok (.sipush 324, 3) := by decide +kernel
theorem dX0_init_8 : decode cX0_init 8 = .ok (.newarray .long, 2) := by decide +kernel
theorem dX0_init_10 : decode cX0_init 10 = .ok (.putfield 11, 3) := by decide +kernel
theorem dX0_init_13 : decode cX0_init 13 = .ok (.aload_n 0, 1) := by decide +kernel
theorem dX0_init_14 : decode cX0_init 14 = .ok (.iconst 2, 1) := by decide +kernel
theorem dX0_init_15 : decode cX0_init 15 = .ok (.putfield 15, 3) := by decide +kernel
theorem dX0_init_18 : decode cX0_init 18 = .ok (.aload_n 0, 1) := by decide +kernel
theorem dX0_init_19 : decode cX0_init 19 = .ok (.iconst 0, 1) := by decide +kernel
theorem dX0_init_20 : decode cX0_init 20 = .ok (.putfield 19, 3) := by decide +kernel
theorem dX0_init_23 : decode cX0_init 23 = .ok (.aload_n 0, 1) := by decide +kernel
theorem dX0_init_24 : decode cX0_init 24 = .ok (.iconst 0, 1) := by decide +kernel
theorem dX0_init_25 : decode cX0_init 25 = .ok (.putfield 22, 3) := by decide +kernel
theorem dX0_init_28 : decode cX0_init 28 = .ok (.aload_n 0, 1) := by decide +kernel
theorem dX0_init_29 : decode cX0_init 29 = .ok (.iconst 0, 1) := by decide +kernel
theorem dX0_init_30 : decode cX0_init 30 = .ok (.putfield 25, 3) := by decide +kernel
theorem dX0_init_33 : decode cX0_init 33 = .ok (.return_, 1) := by decide +kernel
theorem dX0_blockSize_0 : decode cX0_blockSize 0 = .ok (.aload_n 0, 1) := by decide +kernel
theorem dX0_blockSize_1 : decode cX0_blockSize 1 = .ok (.getfield 15, 3) := by decide +kernel
theorem dX0_blockSize_4 : decode cX0_blockSize 4 = .ok (.ireturn, 1) := by decide +kernel
theorem dX0_hitCount_0 : decode cX0_hitCount 0 = .ok (.aload_n 0, 1) := by decide +kernel
theorem dX0_hitCount_1 : decode cX0_hitCount 1 = .ok (.getfield 19, 3) := by decide +kernel
theorem dX0_hitCount_4 : decode cX0_hitCount 4 = .ok (.ireturn, 1) := by decide +kernel
theorem dX0_missCount_0 : decode cX0_missCount 0 = .ok (.aload_n 0, 1) := by decide +kernel
theorem dX0_missCount_1 : decode cX0_missCount 1 = .ok (.getfield 22, 3) := by decide +kernel
theorem dX0_missCount_4 : decode cX0_missCount 4 = .ok (.ireturn, 1) := by decide +kernel
theorem dX0_singleCount_0 : decode cX0_singleCount 0 = .ok (.aload_n 0, 1) := by decide +kernel
theorem dX0_singleCount_1 : decode cX0_singleCount 1 = .ok (.getfield 25, 3) := by decide +kernel
theorem dX0_singleCount_4 : decode cX0_singleCount 4 = .ok (.ireturn, 1) := by decide +kernel
theorem dX0_startAnew_0 : decode cX0_startAnew 0 = .ok (.iconst 0, 1) := by decide +kernel
theorem dX0_startAnew_1 : decode cX0_startAnew 1 = .ok (.istore_n 2, 1) := by decide +kernel
theorem dX0_startAnew_2 : decode cX0_startAnew 2 = .ok (.iload_n 2, 1) := by decide +kernel
theorem dX0_startAnew_3 : decode cX0_startAnew 3 = .ok (.sipush 324, 3) := by decide +kernel
theorem dX0_startAnew_6 : decode cX0_startAnew 6 = .ok (.if_icmp .ge 16, 3) := by decide +kernel
theorem dX0_startAnew_9 : decode cX0_startAnew 9 = .ok (.aload_n 0, 1) := by decide +kernel
theorem dX0_startAnew_10 : decode cX0_startAnew 10 = .ok (.getfield 11, 3) := by decide +kernel
theorem dX0_startAnew_13 : decode cX0_startAnew 13 = .ok (.iload_n 2, 1) := by decide +kernel
theorem dX0_startAnew_14 : decode cX0_startAnew 14 = .ok (.lconst 0, 1) := by decide +kernel
theorem dX0_startAnew_15 : decode cX0_startAnew 15 = .ok (.lastore, 1) := by decide +kernel
theorem dX0_startAnew_16 : decode cX0_startAnew 16 = .ok (.iinc 2 1, 3) := by decide +kernel
theorem dX0_startAnew_19 : decode cX0_startAnew 19 = .ok (.goto (-17), 3) := by decide +kernel
theorem dX0_startAnew_22 : decode cX0_startAnew 22 = .ok (.aload_n 0, 1) := by decide +kernel
theorem dX0_startAnew_23 : decode cX0_startAnew 23 = .ok (.iload_n 1, 1) := by decide +kernel
theorem dX0_startAnew_24 : decode cX0_startAnew 24 = .ok (.putfield 15, 3) := by decide +kernel
theorem dX0_startAnew_27 : decode cX0_startAnew 27 = .ok (.aload_n 0, 1) := by decide +kernel
theorem dX0_startAnew_28 : decode cX0_startAnew 28 = .ok (.iconst 0, 1) := by decide +kernel
theorem dX0_startAnew_29 : decode cX0_startAnew 29 = .ok (.putfield 19, 3) := by decide +kernel
theorem dX0_startAnew_32 : decode cX0_startAnew 32 = .ok (.aload_n 0, 1) := by decide +kernel
theorem dX0_startAnew_33 : decode cX0_startAnew 33 = .ok (.iconst 0, 1) := by decide +kernel
theorem dX0_startAnew_34 : decode cX0_startAnew 34 = .ok (.putfield 22, 3) := by decide +kernel
theorem dX0_startAnew_37 : decode cX0_startAnew 37 = .ok (.aload_n 0, 1) := by decide +kernel
theorem dX0_startAnew_38 : decode cX0_startAnew 38 = .ok (.iconst 0, 1) := by decide +kernel
theorem dX0_startAnew_39 : decode cX0_startAnew 39 = .ok (.putfield 25, 3) := by decide +kernel
theorem dX0_startAnew_42 : decode cX0_startAnew 42 = .ok (.return_, 1) := by decide +kernel
theorem dX0_copyFrom_0 : decode cX0_copyFrom 0 = .ok (.aload_n 1, 1) := by decide +kernel
theorem dX0_copyFrom_1 : decode cX0_copyFrom 1 = .ok (.getfield 11, 3) := by decide +kernel
theorem dX0_copyFrom_4 : decode cX0_copyFrom 4 = .ok (.iconst 0, 1) := by decide +kernel
theorem dX0_copyFrom_5 : decode cX0_copyFrom 5 = .ok (.aload_n 0, 1) := by decide +kernel
theorem dX0_copyFrom_6 : decode cX0_copyFrom 6 = .ok (.getfield 11, 3) := by decide +kernel
theorem dX0_copyFrom_9 : decode cX0_copyFrom 9 = .ok (.iconst 0, 1) := by decide +kernel
theorem dX0_copyFrom_10 : decode cX0_copyFrom 10 = .ok (.sipush 324, 3) := by decide +kernel
theorem dX0_copyFrom_13 : decode cX0_copyFrom 13 = .ok (.invokestatic 28, 3) := by decide +kernel
theorem dX0_copyFrom_16 : decode cX0_copyFrom 16 = .ok (.aload_n 0, 1) := by decide +kernel
theorem dX0_copyFrom_17 : decode cX0_copyFrom 17 = .ok (.aload_n 1, 1) := by decide +kernel
theorem dX0_copyFrom_18 : decode cX0_copyFrom 18 = .ok (.getfield 15, 3) := by decide +kernel
theorem dX0_copyFrom_21 : decode cX0_copyFrom 21 = .ok (.putfield 15, 3) := by decide +kernel
theorem dX0_copyFrom_24 : decode cX0_copyFrom 24 = .ok (.aload_n 0, 1) := by decide +kernel
theorem dX0_copyFrom_25 : decode cX0_copyFrom 25 = .ok (.aload_n 1, 1) := by decide +kernel
theorem dX0_copyFrom_26 : decode cX0_copyFrom 26 = .ok (.getfield 19, 3) := by decide +kernel
theorem dX0_copyFrom_29 : decode cX0_copyFrom 29 = .ok (.putfield 19, 3) := by decide +kernel
theorem dX0_copyFrom_32 : decode cX0_copyFrom 32 = .ok (.aload_n 0, 1) := by decide +kernel
theorem dX0_copyFrom_33 : decode cX0_copyFrom 33 = .ok (.aload_n 1, 1) := by decide +kernel
theorem dX0_copyFrom_34 : decode cX0_copyFrom 34 = .ok (.getfield 22, 3) := by decide +kernel
theorem dX0_copyFrom_37 : decode cX0_copyFrom 37 = .ok (.putfield 22, 3) := by decide +kernel
theorem dX0_copyFrom_40 : decode cX0_copyFrom 40 = .ok (.aload_n 0, 1) := by decide +kernel
theorem dX0_copyFrom_41 : decode cX0_copyFrom 41 = .ok (.aload_n 1, 1) := by decide +kernel
theorem dX0_copyFrom_42 : decode cX0_copyFrom 42 = .ok (.getfield 25, 3) := by decide +kernel
theorem dX0_copyFrom_45 : decode cX0_copyFrom 45 = .ok (.putfield 25, 3) := by decide +kernel
theorem dX0_copyFrom_48 : decode cX0_copyFrom 48 = .ok (.return_, 1) := by decide +kernel
theorem dX0_meetBlocks_0 : decode cX0_meetBlocks 0 = .ok (.iconst 1, 1) := by decide +kernel
theorem dX0_meetBlocks_1 : decode cX0_meetBlocks 1 = .ok (.aload_n 0, 1) := by decide +kernel
theorem dX0_meetBlocks_2 : decode cX0_meetBlocks 2 = .ok (.getfield 15, 3) := by decide +kernel
theorem dX0_meetBlocks_5 : decode cX0_meetBlocks 5 = .ok (.invokestatic 34, 3) := by decide +kernel
theorem dX0_meetBlocks_8 : decode cX0_meetBlocks 8 = .ok (.istore 4, 2) := by decide +kernel
theorem dX0_meetBlocks_10 : decode cX0_meetBlocks 10 = .ok (.iconst 1, 1) := by decide +kernel
theorem dX0_meetBlocks_11 : decode cX0_meetBlocks 11 = .ok (.istore 5, 2) := by decide +kernel
theorem dX0_meetBlocks_13 : decode cX0_meetBlocks 13 = .ok (.iload 5, 2) := by decide +kernel
theorem dX0_meetBlocks_15 : decode cX0_meetBlocks 15 = .ok (.aload_n 2, 1) := by decide +kernel
theorem dX0_meetBlocks_16 : decode cX0_meetBlocks 16 = .ok (.invokevirtual 40, 3) := by decide +kernel
theorem dX0_meetBlocks_19 : decode cX0_meetBlocks 19 = .ok (.if_icmp .gt 113, 3) := by decide +kernel
theorem dX0_meetBlocks_22 : decode cX0_meetBlocks 22 = .ok (.iload 4, 2) := by decide +kernel
theorem dX0_meetBlocks_24 : decode cX0_meetBlocks 24 = .ok (.aload_n 2, 1) := by decide +kernel
theorem dX0_meetBlocks_25 : decode cX0_meetBlocks 25 = .ok (.invokevirtual 40, 3) := by decide +kernel
theorem dX0_meetBlocks_28 : decode cX0_meetBlocks 28 = .ok (.iload 5, 2) := by decide +kernel
theorem dX0_meetBlocks_30 : decode cX0_meetBlocks 30 = .ok (.isub, 1) := by decide +kernel
theorem dX0_meetBlocks_31 : decode cX0_meetBlocks 31 = .ok (.iconst 1, 1) := by decide +kernel
theorem dX0_meetBlocks_32 : decode cX0_meetBlocks 32 = .ok (.iadd, 1) := by decide +kernel
theorem dX0_meetBlocks_33 : decode cX0_meetBlocks 33 = .ok (.invokestatic 46, 3) := by decide +kernel
theorem dX0_meetBlocks_36 : decode cX0_meetBlocks 36 = .ok (.istore 6, 2) := by decide +kernel
theorem dX0_meetBlocks_38 : decode cX0_meetBlocks 38 = .ok (.iconst 1, 1) := by decide +kernel
theorem dX0_meetBlocks_39 : decode cX0_meetBlocks 39 = .ok (.istore 7, 2) := by decide +kernel
theorem dX0_meetBlocks_41 : decode cX0_meetBlocks 41 = .ok (.iload 7, 2) := by decide +kernel
theorem dX0_meetBlocks_43 : decode cX0_meetBlocks 43 = .ok (.aload_n 3, 1) := by decide +kernel
theorem dX0_meetBlocks_44 : decode cX0_meetBlocks 44 = .ok (.invokevirtual 40, 3) := by decide +kernel
theorem dX0_meetBlocks_47 : decode cX0_meetBlocks 47 = .ok (.if_icmp .gt 75, 3) := by decide +kernel
theorem dX0_meetBlocks_50 : decode cX0_meetBlocks 50 = .ok (.iload 4, 2) := by decide +kernel
theorem dX0_meetBlocks_52 : decode cX0_meetBlocks 52 = .ok (.aload_n 3, 1) := by decide +kernel
theorem dX0_meetBlocks_53 : decode cX0_meetBlocks 53 = .ok (.invokevirtual 40, 3) := by decide +kernel
theorem dX0_meetBlocks_56 : decode cX0_meetBlocks 56 = .ok (.iload 7, 2) := by decide +kernel
theorem dX0_meetBlocks_58 : decode cX0_meetBlocks 58 = .ok (.isub, 1) := by decide +kernel
theorem dX0_meetBlocks_59 : decode cX0_meetBlocks 59 = .ok (.iconst 1, 1) := by decide +kernel
theorem dX0_meetBlocks_60 : decode cX0_meetBlocks 60 = .ok (.iadd, 1) := by decide +kernel
theorem dX0_meetBlocks_61 : decode cX0_meetBlocks 61 = .ok (.invokestatic 46, 3) := by decide +kernel
theorem dX0_meetBlocks_64 : decode cX0_meetBlocks 64 = .ok (.istore 8, 2) := by decide +kernel
theorem dX0_meetBlocks_66 : decode cX0_meetBlocks 66 = .ok (.iload 6, 2) := by decide +kernel
theorem dX0_meetBlocks_68 : decode cX0_meetBlocks 68 = .ok (.iload 4, 2) := by decide +kernel
theorem dX0_meetBlocks_70 : decode cX0_meetBlocks 70 = .ok (.if_icmp .ne 28, 3) := by decide +kernel
theorem dX0_meetBlocks_73 : decode cX0_meetBlocks 73 = .ok (.iload 8, 2) := by decide +kernel
theorem dX0_meetBlocks_75 : decode cX0_meetBlocks 75 = .ok (.iload 4, 2) := by decide +kernel
theorem dX0_meetBlocks_77 : decode cX0_meetBlocks 77 = .ok (.if_icmp .ne 21, 3) := by decide +kernel
theorem dX0_meetBlocks_80 : decode cX0_meetBlocks 80 = .ok (.aload_n 0, 1) := by decide +kernel
theorem dX0_meetBlocks_81 : decode cX0_meetBlocks 81 = .ok (.aload_n 0, 1) := by decide +kernel
theorem dX0_meetBlocks_82 : decode cX0_meetBlocks 82 = .ok (.aload_n 1, 1) := by decide +kernel
theorem dX0_meetBlocks_83 : decode cX0_meetBlocks 83 = .ok (.aload_n 2, 1) := by decide +kernel
theorem dX0_meetBlocks_84 : decode cX0_meetBlocks 84 = .ok (.aload_n 3, 1) := by decide +kernel
theorem dX0_meetBlocks_85 : decode cX0_meetBlocks 85 = .ok (.iload 5, 2) := by decide +kernel
theorem dX0_meetBlocks_87 : decode cX0_meetBlocks 87 = .ok (.iload 7, 2) := by decide +kernel
theorem dX0_meetBlocks_89 : decode cX0_meetBlocks 89 = .ok (.invokevirtual 49, 3) := by decide +kernel
theorem dX0_meetBlocks_92 : decode cX0_meetBlocks 92 = .ok (.invokevirtual 53, 3) := by decide +kernel
theorem dX0_meetBlocks_95 : decode cX0_meetBlocks 95 = .ok (.goto 17, 3) := by decide +kernel
theorem dX0_meetBlocks_98 : decode cX0_meetBlocks 98 = .ok (.aload_n 0, 1) := by decide +kernel
theorem dX0_meetBlocks_99 : decode cX0_meetBlocks 99 = .ok (.dup, 1) := by decide +kernel
theorem dX0_meetBlocks_100 : decode cX0_meetBlocks 100 = .ok (.getfield 25, 3) := by decide +kernel
theorem dX0_meetBlocks_103 : decode cX0_meetBlocks 103 = .ok (.iload 6, 2) := by decide +kernel
theorem dX0_meetBlocks_105 : decode cX0_meetBlocks 105 = .ok (.iload 8, 2) := by decide +kernel
theorem dX0_meetBlocks_107 : decode cX0_meetBlocks 107 = .ok (.imul, 1) := by decide +kernel
theorem dX0_meetBlocks_108 : decode cX0_meetBlocks 108 = .ok (.iadd, 1) := by decide +kernel
theorem dX0_meetBlocks_109 : decode cX0_meetBlocks 109 = .ok (.putfield 25, 3) := by decide +kernel
theorem dX0_meetBlocks_112 : decode cX0_meetBlocks 112 = .ok (.iload 7, 2) := by decide +kernel
theorem dX0_meetBlocks_114 : decode cX0_meetBlocks 114 = .ok (.iload 4, 2) := by decide +kernel
theorem dX0_meetBlocks_116 : decode cX0_meetBlocks 116 = .ok (.iadd, 1) := by decide +kernel
theorem dX0_meetBlocks_117 : decode cX0_meetBlocks 117 = .ok (.istore 7, 2) := by decide +kernel
theorem dX0_meetBlocks_119 : decode cX0_meetBlocks 119 = .ok (.goto (-78), 3) := by decide +kernel
theorem dX0_meetBlocks_122 : decode cX0_meetBlocks 122 = .ok (.iload 5, 2) := by decide +kernel
theorem dX0_meetBlocks_124 : decode cX0_meetBlocks 124 = .ok (.iload 4, 2) := by decide +kernel
theorem dX0_meetBlocks_126 : decode cX0_meetBlocks 126 = .ok (.iadd, 1) := by decide +kernel
theorem dX0_meetBlocks_127 : decode cX0_meetBlocks 127 = .ok (.istore 5, 2) := by decide +kernel
theorem dX0_meetBlocks_129 : decode cX0_meetBlocks 129 = .ok (.goto (-116), 3) := by decide +kernel
theorem dX0_meetBlocks_132 : decode cX0_meetBlocks 132 = .ok (.return_, 1) := by decide +kernel
theorem dX0_keyOf_0 : decode cX0_keyOf 0 = .ok (.iconst 0, 1) := by decide +kernel
theorem dX0_keyOf_1 : decode cX0_keyOf 1 = .ok (.istore 6, 2) := by decide +kernel
theorem dX0_keyOf_3 : decode cX0_keyOf 3 = .ok (.iconst 0, 1) := by decide +kernel
theorem dX0_keyOf_4 : decode cX0_keyOf 4 = .ok (.istore 7, 2) := by decide +kernel
theorem dX0_keyOf_6 : decode cX0_keyOf 6 = .ok (.iload 7, 2) := by decide +kernel
theorem dX0_keyOf_8 : decode cX0_keyOf 8 = .ok (.aload_n 0, 1) := by decide +kernel
theorem dX0_keyOf_9 : decode cX0_keyOf 9 = .ok (.getfield 15, 3) := by decide +kernel
theorem dX0_keyOf_12 : decode cX0_keyOf 12 = .ok (.if_icmp .ge 91, 3) := by decide +kernel
theorem dX0_keyOf_15 : decode cX0_keyOf 15 = .ok (.aload_n 2, 1) := by decide +kernel
theorem dX0_keyOf_16 : decode cX0_keyOf 16 = .ok (.iload 4, 2) := by decide +kernel
theorem dX0_keyOf_18 : decode cX0_keyOf 18 = .ok (.iload 7, 2) := by decide +kernel
theorem dX0_keyOf_20 : decode cX0_keyOf 20 = .ok (.iadd, 1) := by decide +kernel
theorem dX0_keyOf_21 : decode cX0_keyOf 21 = .ok (.iconst 1, 1) := by decide +kernel
theorem dX0_keyOf_22 : decode cX0_keyOf 22 = .ok (.isub, 1) := by decide +kernel
theorem dX0_keyOf_23 : decode cX0_keyOf 23 = .ok (.invokevirtual 57, 3) := by decide +kernel
theorem dX0_keyOf_26 : decode cX0_keyOf 26 = .ok (.iconst 4, 1) := by decide +kernel
theorem dX0_keyOf_27 : decode cX0_keyOf 27 = .ok (.imul, 1) := by decide +kernel
theorem dX0_keyOf_28 : decode cX0_keyOf 28 = .ok (.aload_n 3, 1) := by decide +kernel
theorem dX0_keyOf_29 : decode cX0_keyOf 29 = .ok (.iload 5, 2) := by decide +kernel
theorem dX0_keyOf_31 : decode cX0_keyOf 31 = .ok (.iload 7, 2) := by decide +kernel
theorem dX0_keyOf_33 : decode cX0_keyOf 33 = .ok (.iadd, 1) := by decide +kernel
theorem dX0_keyOf_34 : decode cX0_keyOf 34 = .ok (.iconst 1, 1) := by decide +kernel
theorem dX0_keyOf_35 : decode cX0_keyOf 35 = .ok (.isub, 1) := by decide +kernel
theorem dX0_keyOf_36 : decode cX0_keyOf 36 = .ok (.invokevirtual 57, 3) := by decide +kernel
theorem dX0_keyOf_39 : decode cX0_keyOf 39 = .ok (.iadd, 1) := by decide +kernel
theorem dX0_keyOf_40 : decode cX0_keyOf 40 = .ok (.istore 8, 2) := by decide +kernel
theorem dX0_keyOf_42 : decode cX0_keyOf 42 = .ok (.aload_n 1, 1) := by decide +kernel
theorem dX0_keyOf_43 : decode cX0_keyOf 43 = .ok (.iload 4, 2) := by decide +kernel
theorem dX0_keyOf_45 : decode cX0_keyOf 45 = .ok (.iconst 1, 1) := by decide +kernel
theorem dX0_keyOf_46 : decode cX0_keyOf 46 = .ok (.isub, 1) := by decide +kernel
theorem dX0_keyOf_47 : decode cX0_keyOf 47 = .ok (.iload 5, 2) := by decide +kernel
theorem dX0_keyOf_49 : decode cX0_keyOf 49 = .ok (.iload 7, 2) := by decide +kernel
theorem dX0_keyOf_51 : decode cX0_keyOf 51 = .ok (.iadd, 1) := by decide +kernel
theorem dX0_keyOf_52 : decode cX0_keyOf 52 = .ok (.invokevirtual 61, 3) := by decide +kernel
theorem dX0_keyOf_55 : decode cX0_keyOf 55 = .ok (.iconst 1, 1) := by decide +kernel
theorem dX0_keyOf_56 : decode cX0_keyOf 56 = .ok (.iadd, 1) := by decide +kernel
theorem dX0_keyOf_57 : decode cX0_keyOf 57 = .ok (.istore 9, 2) := by decide +kernel
theorem dX0_keyOf_59 : decode cX0_keyOf 59 = .ok (.aload_n 1, 1) := by decide +kernel
theorem dX0_keyOf_60 : decode cX0_keyOf 60 = .ok (.iload 4, 2) := by decide +kernel
theorem dX0_keyOf_62 : decode cX0_keyOf 62 = .ok (.iload 7, 2) := by decide +kernel
theorem dX0_keyOf_64 : decode cX0_keyOf 64 = .ok (.iadd, 1) := by decide +kernel
theorem dX0_keyOf_65 : decode cX0_keyOf 65 = .ok (.iload 5, 2) := by decide +kernel
theorem dX0_keyOf_67 : decode cX0_keyOf 67 = .ok (.iconst 1, 1) := by decide +kernel
theorem dX0_keyOf_68 : decode cX0_keyOf 68 = .ok (.isub, 1) := by decide +kernel
theorem dX0_keyOf_69 : decode cX0_keyOf 69 = .ok (.invokevirtual 66, 3) := by decide +kernel
theorem dX0_keyOf_72 : decode cX0_keyOf 72 = .ok (.iconst 1, 1) := by decide +kernel
theorem dX0_keyOf_73 : decode cX0_keyOf 73 = .ok (.iadd, 1) := by decide +kernel
theorem dX0_keyOf_74 : decode cX0_keyOf 74 = .ok (.istore 10, 2) := by decide +kernel
theorem dX0_keyOf_76 : decode cX0_keyOf 76 = .ok (.iload 6, 2) := by decide +kernel
theorem dX0_keyOf_78 : decode cX0_keyOf 78 = .ok (.sipush 144, 3) := by decide +kernel
theorem dX0_keyOf_81 : decode cX0_keyOf 81 = .ok (.imul, 1) := by decide +kernel
theorem dX0_keyOf_82 : decode cX0_keyOf 82 = .ok (.iload 8, 2) := by decide +kernel
theorem dX0_keyOf_84 : decode cX0_keyOf 84 = .ok (.iconst 3, 1) := by decide +kernel
theorem dX0_keyOf_85 : decode cX0_keyOf 85 = .ok (.imul, 1) := by decide +kernel
theorem dX0_keyOf_86 : decode cX0_keyOf 86 = .ok (.iload 9, 2) := by decide +kernel
theorem dX0_keyOf_88 : decode cX0_keyOf 88 = .ok (.iadd, 1) := by decide +kernel
theorem dX0_keyOf_89 : decode cX0_keyOf 89 = .ok (.iconst 3, 1) := by decide +kernel
theorem dX0_keyOf_90 : decode cX0_keyOf 90 = .ok (.imul, 1) := by decide +kernel
theorem dX0_keyOf_91 : decode cX0_keyOf 91 = .ok (.iadd, 1) := by decide +kernel
theorem dX0_keyOf_92 : decode cX0_keyOf 92 = .ok (.iload 10, 2) := by decide +kernel
theorem dX0_keyOf_94 : decode cX0_keyOf 94 = .ok (.iadd, 1) := by decide +kernel
theorem dX0_keyOf_95 : decode cX0_keyOf 95 = .ok (.istore 6, 2) := by decide +kernel
theorem dX0_keyOf_97 : decode cX0_keyOf 97 = .ok (.iinc 7 1, 3) := by decide +kernel
theorem dX0_keyOf_100 : decode cX0_keyOf 100 = .ok (.goto (-94), 3) := by decide +kernel
theorem dX0_keyOf_103 : decode cX0_keyOf 103 = .ok (.iload 6, 2) := by decide +kernel
theorem dX0_keyOf_105 : decode cX0_keyOf 105 = .ok (.ireturn, 1) := by decide +kernel
theorem dX0_meet_0 : decode cX0_meet 0 = .ok (.iload_n 1, 1) := by decide +kernel
theorem dX0_meet_1 : decode cX0_meet 1 = .ok (.bipush 64, 2) := by decide +kernel
theorem dX0_meet_3 : decode cX0_meet 3 = .ok (.idiv, 1) := by decide +kernel
theorem dX0_meet_4 : decode cX0_meet 4 = .ok (.istore_n 2, 1) := by decide +kernel
theorem dX0_meet_5 : decode cX0_meet 5 = .ok (.iload_n 1, 1) := by decide +kernel
theorem dX0_meet_6 : decode cX0_meet 6 = .ok (.ifCond .lt 10, 3) := by decide +kernel
theorem dX0_meet_9 : decode cX0_meet 9 = .ok (.iload_n 2, 1) := by decide +kernel
theorem dX0_meet_10 : decode cX0_meet 10 = .ok (.sipush 324, 3) := by decide +kernel
theorem dX0_meet_13 : decode cX0_meet 13 = .ok (.if_icmp .lt 4, 3) := by decide +kernel
theorem dX0_meet_16 : decode cX0_meet 16 = .ok (.return_, 1) := by decide +kernel
theorem dX0_meet_17 : decode cX0_meet 17 = .ok (.lconst 1, 1) := by decide +kernel
theorem dX0_meet_18 : decode cX0_meet 18 = .ok (.iload_n 1, 1) := by decide +kernel
theorem dX0_meet_19 : decode cX0_meet 19 = .ok (.bipush 64, 2) := by decide +kernel
theorem dX0_meet_21 : decode cX0_meet 21 = .ok (.irem, 1) := by decide +kernel
theorem dX0_meet_22 : decode cX0_meet 22 = .ok (.lshl, 1) := by decide +kernel
theorem dX0_meet_23 : decode cX0_meet 23 = .ok (.lstore_n 3, 1) := by decide +kernel
theorem dX0_meet_24 : decode cX0_meet 24 = .ok (.aload_n 0, 1) := by decide +kernel
theorem dX0_meet_25 : decode cX0_meet 25 = .ok (.getfield 11, 3) := by decide +kernel
theorem dX0_meet_28 : decode cX0_meet 28 = .ok (.iload_n 2, 1) := by decide +kernel
theorem dX0_meet_29 : decode cX0_meet 29 = .ok (.laload, 1) := by decide +kernel
theorem dX0_meet_30 : decode cX0_meet 30 = .ok (.lload_n 3, 1) := by decide +kernel
theorem dX0_meet_31 : decode cX0_meet 31 = .ok (.land, 1) := by decide +kernel
theorem dX0_meet_32 : decode cX0_meet 32 = .ok (.lconst 0, 1) := by decide +kernel
theorem dX0_meet_33 : decode cX0_meet 33 = .ok (.lcmp, 1) := by decide +kernel
theorem dX0_meet_34 : decode cX0_meet 34 = .ok (.ifCond .eq 16, 3) := by decide +kernel
theorem dX0_meet_37 : decode cX0_meet 37 = .ok (.aload_n 0, 1) := by decide +kernel
theorem dX0_meet_38 : decode cX0_meet 38 = .ok (.dup, 1) := by decide +kernel
theorem dX0_meet_39 : decode cX0_meet 39 = .ok (.getfield 19, 3) := by decide +kernel
theorem dX0_meet_42 : decode cX0_meet 42 = .ok (.iconst 1, 1) := by decide +kernel
theorem dX0_meet_43 : decode cX0_meet 43 = .ok (.iadd, 1) := by decide +kernel
theorem dX0_meet_44 : decode cX0_meet 44 = .ok (.putfield 19, 3) := by decide +kernel
theorem dX0_meet_47 : decode cX0_meet 47 = .ok (.goto 27, 3) := by decide +kernel
theorem dX0_meet_50 : decode cX0_meet 50 = .ok (.aload_n 0, 1) := by decide +kernel
theorem dX0_meet_51 : decode cX0_meet 51 = .ok (.getfield 11, 3) := by decide +kernel
theorem dX0_meet_54 : decode cX0_meet 54 = .ok (.iload_n 2, 1) := by decide +kernel
theorem dX0_meet_55 : decode cX0_meet 55 = .ok (.aload_n 0, 1) := by decide +kernel
theorem dX0_meet_56 : decode cX0_meet 56 = .ok (.getfield 11, 3) := by decide +kernel
theorem dX0_meet_59 : decode cX0_meet 59 = .ok (.iload_n 2, 1) := by decide +kernel
theorem dX0_meet_60 : decode cX0_meet 60 = .ok (.laload, 1) := by decide +kernel
theorem dX0_meet_61 : decode cX0_meet 61 = .ok (.lload_n 3, 1) := by decide +kernel
theorem dX0_meet_62 : decode cX0_meet 62 = .ok (.lor, 1) := by decide +kernel
theorem dX0_meet_63 : decode cX0_meet 63 = .ok (.lastore, 1) := by decide +kernel
theorem dX0_meet_64 : decode cX0_meet 64 = .ok (.aload_n 0, 1) := by decide +kernel
theorem dX0_meet_65 : decode cX0_meet 65 = .ok (.dup, 1) := by decide +kernel
theorem dX0_meet_66 : decode cX0_meet 66 = .ok (.getfield 22, 3) := by decide +kernel
theorem dX0_meet_69 : decode cX0_meet 69 = .ok (.iconst 1, 1) := by decide +kernel
theorem dX0_meet_70 : decode cX0_meet 70 = .ok (.iadd, 1) := by decide +kernel
theorem dX0_meet_71 : decode cX0_meet 71 = .ok (.putfield 22, 3) := by decide +kernel
theorem dX0_meet_74 : decode cX0_meet 74 = .ok (.return_, 1) := by decide +kernel
theorem dX1_init_0 : decode cX1_init 0 = .ok (.aload_n 0, 1) := by decide +kernel
theorem dX1_init_1 : decode cX1_init 1 = .ok (.invokespecial 3, 3) := by decide +kernel
theorem dX1_init_4 : decode cX1_init 4 = .ok (.aload_n 0, 1) := by decide +kernel
theorem dX1_init_5 : decode cX1_init 5 = .ok (.sipush 441, 3) := by decide +kernel
theorem dX1_init_8 : decode cX1_init 8 = .ok (.newarray .int, 2) := by decide +kernel
theorem dX1_init_10 : decode cX1_init 10 = .ok (.putfield 11, 3) := by decide +kernel
theorem dX1_init_13 : decode cX1_init 13 = .ok (.return_, 1) := by decide +kernel
theorem dX1_at_0 : decode cX1_at 0 = .ok (.iload_n 1, 1) := by decide +kernel
theorem dX1_at_1 : decode cX1_at 1 = .ok (.iload_n 2, 1) := by decide +kernel
theorem dX1_at_2 : decode cX1_at 2 = .ok (.invokestatic 15, 3) := by decide +kernel
theorem dX1_at_5 : decode cX1_at 5 = .ok (.ifCond .eq 17, 3) := by decide +kernel
theorem dX1_at_8 : decode cX1_at 8 = .ok (.aload_n 0, 1) := by decide +kernel
theorem dX1_at_9 : decode cX1_at 9 = .ok (.getfield 11, 3) := by decide +kernel
theorem dX1_at_12 : decode cX1_at 12 = .ok (.iload_n 1, 1) := by decide +kernel
theorem dX1_at_13 : decode cX1_at 13 = .ok (.bipush 21, 2) := by decide +kernel
theorem dX1_at_15 : decode cX1_at 15 = .ok (.imul, 1) := by decide +kernel
theorem dX1_at_16 : decode cX1_at 16 = .ok (.iload_n 2, 1) := by decide +kernel
theorem dX1_at_17 : decode cX1_at 17 = .ok (.iadd, 1) := by decide +kernel
theorem dX1_at_18 : decode cX1_at 18 = .ok (.iaload, 1) := by decide +kernel
theorem dX1_at_19 : decode cX1_at 19 = .ok (.goto 4, 3) := by decide +kernel
theorem dX1_at_22 : decode cX1_at 22 = .ok (.iconst (-1), 1) := by decide +kernel
theorem dX1_at_23 : decode cX1_at 23 = .ok (.ireturn, 1) := by decide +kernel
theorem dX1_stepAcross_0 : decode cX1_stepAcross 0 = .ok (.aload_n 0, 1) := by decide +kernel
theorem dX1_stepAcross_1 : decode cX1_stepAcross 1 = .ok (.iload_n 1, 1) := by decide +kernel
theorem dX1_stepAcross_2 : decode cX1_stepAcross 2 = .ok (.iload_n 2, 1) := by decide +kernel
theorem dX1_stepAcross_3 : decode cX1_stepAcross 3 = .ok (.invokevirtual 19, 3) := by decide +kernel
theorem dX1_stepAcross_6 : decode cX1_stepAcross 6 = .ok (.aload_n 0, 1) := by decide +kernel
theorem dX1_stepAcross_7 : decode cX1_stepAcross 7 = .ok (.iload_n 1, 1) := by decide +kernel
theorem dX1_stepAcross_8 : decode cX1_stepAcross 8 = .ok (.iload_n 2, 1) := by decide +kernel
theorem dX1_stepAcross_9 : decode cX1_stepAcross 9 = .ok (.iconst 1, 1) := by decide +kernel
theorem dX1_stepAcross_10 : decode cX1_stepAcross 10 = .ok (.isub, 1) := by decide +kernel
theorem dX1_stepAcross_11 : decode cX1_stepAcross 11 = .ok (.invokevirtual 19, 3) := by decide +kernel
theorem dX1_stepAcross_14 : decode cX1_stepAcross 14 = .ok (.isub, 1) := by decide +kernel
theorem dX1_stepAcross_15 : decode cX1_stepAcross 15 = .ok (.ireturn, 1) := by decide +kernel
theorem dX1_stepDown_0 : decode cX1_stepDown 0 = .ok (.aload_n 0, 1) := by decide +kernel
theorem dX1_stepDown_1 : decode cX1_stepDown 1 = .ok (.iload_n 1, 1) := by decide +kernel
theorem dX1_stepDown_2 : decode cX1_stepDown 2 = .ok (.iload_n 2, 1) := by decide +kernel
theorem dX1_stepDown_3 : decode cX1_stepDown 3 = .ok (.invokevirtual 19, 3) := by decide +kernel
theorem dX1_stepDown_6 : decode cX1_stepDown 6 = .ok (.aload_n 0, 1) := by decide +kernel
theorem dX1_stepDown_7 : decode cX1_stepDown 7 = .ok (.iload_n 1, 1) := by decide +kernel
theorem dX1_stepDown_8 : decode cX1_stepDown 8 = .ok (.iconst 1, 1) := by decide +kernel
theorem dX1_stepDown_9 : decode cX1_stepDown 9 = .ok (.isub, 1) := by decide +kernel
theorem dX1_stepDown_10 : decode cX1_stepDown 10 = .ok (.iload_n 2, 1) := by decide +kernel
theorem dX1_stepDown_11 : decode cX1_stepDown 11 = .ok (.invokevirtual 19, 3) := by decide +kernel
theorem dX1_stepDown_14 : decode cX1_stepDown 14 = .ok (.isub, 1) := by decide +kernel
theorem dX1_stepDown_15 : decode cX1_stepDown 15 = .ok (.ireturn, 1) := by decide +kernel
theorem dX1_fill_0 : decode cX1_fill 0 = .ok (.iconst 0, 1) := by decide +kernel
theorem dX1_fill_1 : decode cX1_fill 1 = .ok (.istore 4, 2) := by decide +kernel
theorem dX1_fill_3 : decode cX1_fill 3 = .ok (.iload 4, 2) := by decide +kernel
theorem dX1_fill_5 : decode cX1_fill 5 = .ok (.aload_n 2, 1) := by decide +kernel
theorem dX1_fill_6 : decode cX1_fill 6 = .ok (.invokevirtual 23, 3) := by decide +kernel
theorem dX1_fill_9 : decode cX1_fill 9 = .ok (.if_icmp .gt 18, 3) := by decide +kernel
theorem dX1_fill_12 : decode cX1_fill 12 = .ok (.aload_n 0, 1) := by decide +kernel
theorem dX1_fill_13 : decode cX1_fill 13 = .ok (.iconst 0, 1) := by decide +kernel
theorem dX1_fill_14 : decode cX1_fill 14 = .ok (.iload 4, 2) := by decide +kernel
theorem dX1_fill_16 : decode cX1_fill 16 = .ok (.iload 4, 2) := by decide +kernel
theorem dX1_fill_18 : decode cX1_fill 18 = .ok (.invokevirtual 29, 3) := by decide +kernel
theorem dX1_fill_21 : decode cX1_fill 21 = .ok (.iinc 4 1, 3) := by decide +kernel
theorem dX1_fill_24 : decode cX1_fill 24 = .ok (.goto (-21), 3) := by decide +kernel
theorem dX1_fill_27 : decode cX1_fill 27 = .ok (.iconst 1, 1) := by decide +kernel
theorem dX1_fill_28 : decode cX1_fill 28 = .ok (.istore 4, 2) := by decide +kernel
theorem dX1_fill_30 : decode cX1_fill 30 = .ok (.iload 4, 2) := by decide +kernel
theorem dX1_fill_32 : decode cX1_fill 32 = .ok (.aload_n 1, 1) := by decide +kernel
theorem dX1_fill_33 : decode cX1_fill 33 = .ok (.invokevirtual 23, 3) := by decide +kernel
theorem dX1_fill_36 : decode cX1_fill 36 = .ok (.if_icmp .gt 104, 3) := by decide +kernel
theorem dX1_fill_39 : decode cX1_fill 39 = .ok (.aload_n 0, 1) := by decide +kernel
theorem dX1_fill_40 : decode cX1_fill 40 = .ok (.iload 4, 2) := by decide +kernel
theorem dX1_fill_42 : decode cX1_fill 42 = .ok (.iconst 0, 1) := by decide +kernel
theorem dX1_fill_43 : decode cX1_fill 43 = .ok (.iload 4, 2) := by decide +kernel
theorem dX1_fill_45 : decode cX1_fill 45 = .ok (.iload_n 3, 1) := by decide +kernel
theorem dX1_fill_46 : decode cX1_fill 46 = .ok (.imul, 1) := by decide +kernel
theorem dX1_fill_47 : decode cX1_fill 47 = .ok (.invokevirtual 29, 3) := by decide +kernel
theorem dX1_fill_50 : decode cX1_fill 50 = .ok (.iconst 1, 1) := by decide +kernel
theorem dX1_fill_51 : decode cX1_fill 51 = .ok (.istore 5, 2) := by decide +kernel
theorem dX1_fill_53 : decode cX1_fill 53 = .ok (.iload 5, 2) := by decide +kernel
theorem dX1_fill_55 : decode cX1_fill 55 = .ok (.aload_n 2, 1) := by decide +kernel
theorem dX1_fill_56 : decode cX1_fill 56 = .ok (.invokevirtual 23, 3) := by decide +kernel
theorem dX1_fill_59 : decode cX1_fill 59 = .ok (.if_icmp .gt 75, 3) := by decide +kernel
theorem dX1_fill_62 : decode cX1_fill 62 = .ok (.aload_n 1, 1) := by decide +kernel
theorem dX1_fill_63 : decode cX1_fill 63 = .ok (.iload 4, 2) := by decide +kernel
theorem dX1_fill_65 : decode cX1_fill 65 = .ok (.iconst 1, 1) := by decide +kernel
theorem dX1_fill_66 : decode cX1_fill 66 = .ok (.isub, 1) := by decide +kernel
theorem dX1_fill_67 : decode cX1_fill 67 = .ok (.invokevirtual 33, 3) := by decide +kernel
theorem dX1_fill_70 : decode cX1_fill 70 = .ok (.aload_n 2, 1) := by decide +kernel
theorem dX1_fill_71 : decode cX1_fill 71 = .ok (.iload 5, 2) := by decide +kernel
theorem dX1_fill_73 : decode cX1_fill 73 = .ok (.iconst 1, 1) := by decide +kernel
theorem dX1_fill_74 : decode cX1_fill 74 = .ok (.isub, 1) := by decide +kernel
theorem dX1_fill_75 : decode cX1_fill 75 = .ok (.invokevirtual 33, 3) := by decide +kernel
theorem dX1_fill_78 : decode cX1_fill 78 = .ok (.invokestatic 36, 3) := by decide +kernel
theorem dX1_fill_81 : decode cX1_fill 81 = .ok (.istore 6, 2) := by decide +kernel
theorem dX1_fill_83 : decode cX1_fill 83 = .ok (.aload_n 0, 1) := by decide +kernel
theorem dX1_fill_84 : decode cX1_fill 84 = .ok (.iload 4, 2) := by decide +kernel
theorem dX1_fill_86 : decode cX1_fill 86 = .ok (.iload 5, 2) := by decide +kernel
theorem dX1_fill_88 : decode cX1_fill 88 = .ok (.aload_n 0, 1) := by decide +kernel
theorem dX1_fill_89 : decode cX1_fill 89 = .ok (.iload 4, 2) := by decide +kernel
theorem dX1_fill_91 : decode cX1_fill 91 = .ok (.iconst 1, 1) := by decide +kernel
theorem dX1_fill_92 : decode cX1_fill 92 = .ok (.isub, 1) := by decide +kernel
theorem dX1_fill_93 : decode cX1_fill 93 = .ok (.iload 5, 2) := by decide +kernel
theorem dX1_fill_95 : decode cX1_fill 95 = .ok (.invokevirtual 19, 3) := by decide +kernel
theorem dX1_fill_98 : decode cX1_fill 98 = .ok (.aload_n 0, 1) := by decide +kernel
theorem dX1_fill_99 : decode cX1_fill 99 = .ok (.iload 4, 2) := by decide +kernel
theorem dX1_fill_101 : decode cX1_fill 101 = .ok (.iload 5, 2) := by decide +kernel
theorem dX1_fill_103 : decode cX1_fill 103 = .ok (.iconst 1, 1) := by decide +kernel
theorem dX1_fill_104 : decode cX1_fill 104 = .ok (.isub, 1) := by decide +kernel
theorem dX1_fill_105 : decode cX1_fill 105 = .ok (.invokevirtual 19, 3) := by decide +kernel
theorem dX1_fill_108 : decode cX1_fill 108 = .ok (.aload_n 0, 1) := by decide +kernel
theorem dX1_fill_109 : decode cX1_fill 109 = .ok (.iload 4, 2) := by decide +kernel
theorem dX1_fill_111 : decode cX1_fill 111 = .ok (.iconst 1, 1) := by decide +kernel
theorem dX1_fill_112 : decode cX1_fill 112 = .ok (.isub, 1) := by decide +kernel
theorem dX1_fill_113 : decode cX1_fill 113 = .ok (.iload 5, 2) := by decide +kernel
theorem dX1_fill_115 : decode cX1_fill 115 = .ok (.iconst 1, 1) := by decide +kernel
theorem dX1_fill_116 : decode cX1_fill 116 = .ok (.isub, 1) := by decide +kernel
theorem dX1_fill_117 : decode cX1_fill 117 = .ok (.invokevirtual 19, 3) := by decide +kernel
theorem dX1_fill_120 : decode cX1_fill 120 = .ok (.iload 6, 2) := by decide +kernel
theorem dX1_fill_122 : decode cX1_fill 122 = .ok (.invokestatic 39, 3) := by decide +kernel
theorem dX1_fill_125 : decode cX1_fill 125 = .ok (.invokevirtual 29, 3) := by decide +kernel
theorem dX1_fill_128 : decode cX1_fill 128 = .ok (.iinc 5 1, 3) := by decide +kernel
theorem dX1_fill_131 : decode cX1_fill 131 = .ok (.goto (-78), 3) := by decide +kernel
theorem dX1_fill_134 : decode cX1_fill 134 = .ok (.iinc 4 1, 3) := by decide +kernel
theorem dX1_fill_137 : decode cX1_fill 137 = .ok (.goto (-107), 3) := by decide +kernel
theorem dX1_fill_140 : decode cX1_fill 140 = .ok (.return_, 1) := by decide +kernel
theorem dX1_put_0 : decode cX1_put 0 = .ok (.iload_n 1, 1) := by decide +kernel
theorem dX1_put_1 : decode cX1_put 1 = .ok (.iload_n 2, 1) := by decide +kernel
theorem dX1_put_2 : decode cX1_put 2 = .ok (.invokestatic 15, 3) := by decide +kernel
theorem dX1_put_5 : decode cX1_put 5 = .ok (.ifCond .eq 15, 3) := by decide +kernel
theorem dX1_put_8 : decode cX1_put 8 = .ok (.aload_n 0, 1) := by decide +kernel
theorem dX1_put_9 : decode cX1_put 9 = .ok (.getfield 11, 3) := by decide +kernel
theorem dX1_put_12 : decode cX1_put 12 = .ok (.iload_n 1, 1) := by decide +kernel
theorem dX1_put_13 : decode cX1_put 13 = .ok (.bipush 21, 2) := by decide +kernel
theorem dX1_put_15 : decode cX1_put 15 = .ok (.imul, 1) := by decide +kernel
theorem dX1_put_16 : decode cX1_put 16 = .ok (.iload_n 2, 1) := by decide +kernel
theorem dX1_put_17 : decode cX1_put 17 = .ok (.iadd, 1) := by decide +kernel
theorem dX1_put_18 : decode cX1_put 18 = .ok (.iload_n 3, 1) := by decide +kernel
theorem dX1_put_19 : decode cX1_put 19 = .ok (.iastore, 1) := by decide +kernel
theorem dX1_put_20 : decode cX1_put 20 = .ok (.return_, 1) := by decide +kernel
theorem dX1_isInside_0 : decode cX1_isInside 0 = .ok (.iload_n 0, 1) := by decide +kernel
theorem dX1_isInside_1 : decode cX1_isInside 1 = .ok (.ifCond .lt 23, 3) := by decide +kernel
theorem dX1_isInside_4 : decode cX1_isInside 4 = .ok (.iload_n 0, 1) := by decide +kernel
theorem dX1_isInside_5 : decode cX1_isInside 5 = .ok (.bipush 21, 2) := by decide +kernel
theorem dX1_isInside_7 : decode cX1_isInside 7 = .ok (.if_icmp .ge 17, 3) := by decide +kernel
theorem dX1_isInside_10 : decode cX1_isInside 10 = .ok (.iload_n 1, 1) := by decide +kernel
theorem dX1_isInside_11 : decode cX1_isInside 11 = .ok (.ifCond .lt 13, 3) := by decide +kernel
theorem dX1_isInside_14 : decode cX1_isInside 14 = .ok (.iload_n 1, 1) := by decide +kernel
theorem dX1_isInside_15 : decode cX1_isInside 15 = .ok (.bipush 21, 2) := by decide +kernel
theorem dX1_isInside_17 : decode cX1_isInside 17 = .ok (.if_icmp .ge 7, 3) := by decide +kernel
theorem dX1_isInside_20 : decode cX1_isInside 20 = .ok (.iconst 1, 1) := by decide +kernel
theorem dX1_isInside_21 : decode cX1_isInside 21 = .ok (.goto 4, 3) := by decide +kernel
theorem dX1_isInside_24 : decode cX1_isInside 24 = .ok (.iconst 0, 1) := by decide +kernel
theorem dX1_isInside_25 : decode cX1_isInside 25 = .ok (.ireturn, 1) := by decide +kernel
theorem dX2_init_0 : decode cX2_init 0 = .ok (.aload_n 0, 1) := by decide +kernel
theorem dX2_init_1 : decode cX2_init 1 = .ok (.invokespecial 3, 3) := by decide +kernel
theorem dX2_init_4 : decode cX2_init 4 = .ok (.aload_n 0, 1) := by decide +kernel
theorem dX2_init_5 : decode cX2_init 5 = .ok (.bipush 60, 2) := by decide +kernel
theorem dX2_init_7 : decode cX2_init 7 = .ok (.newarray .int, 2) := by decide +kernel
theorem dX2_init_9 : decode cX2_init 9 = .ok (.putfield 9, 3) := by decide +kernel
theorem dX2_init_12 : decode cX2_init 12 = .ok (.aload_n 0, 1) := by decide +kernel
theorem dX2_init_13 : decode cX2_init 13 = .ok (.iconst 0, 1) := by decide +kernel
theorem dX2_init_14 : decode cX2_init 14 = .ok (.putfield 15, 3) := by decide +kernel
theorem dX2_init_17 : decode cX2_init 17 = .ok (.return_, 1) := by decide +kernel
theorem dX2_size_0 : decode cX2_size 0 = .ok (.aload_n 0, 1) := by decide +kernel
theorem dX2_size_1 : decode cX2_size 1 = .ok (.getfield 15, 3) := by decide +kernel
theorem dX2_size_4 : decode cX2_size 4 = .ok (.ireturn, 1) := by decide +kernel
theorem dX2_put_0 : decode cX2_put 0 = .ok (.aload_n 0, 1) := by decide +kernel
theorem dX2_put_1 : decode cX2_put 1 = .ok (.getfield 15, 3) := by decide +kernel
theorem dX2_put_4 : decode cX2_put 4 = .ok (.bipush 60, 2) := by decide +kernel
theorem dX2_put_6 : decode cX2_put 6 = .ok (.if_icmp .ge 23, 3) := by decide +kernel
theorem dX2_put_9 : decode cX2_put 9 = .ok (.aload_n 0, 1) := by decide +kernel
theorem dX2_put_10 : decode cX2_put 10 = .ok (.getfield 9, 3) := by decide +kernel
theorem dX2_put_13 : decode cX2_put 13 = .ok (.aload_n 0, 1) := by decide +kernel
theorem dX2_put_14 : decode cX2_put 14 = .ok (.getfield 15, 3) := by decide +kernel
theorem dX2_put_17 : decode cX2_put 17 = .ok (.iload_n 1, 1) := by decide +kernel
theorem dX2_put_18 : decode cX2_put 18 = .ok (.iastore, 1) := by decide +kernel
theorem dX2_put_19 : decode cX2_put 19 = .ok (.aload_n 0, 1) := by decide +kernel
theorem dX2_put_20 : decode cX2_put 20 = .ok (.dup, 1) := by decide +kernel
theorem dX2_put_21 : decode cX2_put 21 = .ok (.getfield 15, 3) := by decide +kernel
theorem dX2_put_24 : decode cX2_put 24 = .ok (.iconst 1, 1) := by decide +kernel
theorem dX2_put_25 : decode cX2_put 25 = .ok (.iadd, 1) := by decide +kernel
theorem dX2_put_26 : decode cX2_put 26 = .ok (.putfield 15, 3) := by decide +kernel
theorem dX2_put_29 : decode cX2_put 29 = .ok (.return_, 1) := by decide +kernel
theorem dX2_empty_0 : decode cX2_empty 0 = .ok (.aload_n 0, 1) := by decide +kernel
theorem dX2_empty_1 : decode cX2_empty 1 = .ok (.iconst 0, 1) := by decide +kernel
theorem dX2_empty_2 : decode cX2_empty 2 = .ok (.putfield 15, 3) := by decide +kernel
theorem dX2_empty_5 : decode cX2_empty 5 = .ok (.return_, 1) := by decide +kernel
theorem dX2_errorPlace_0 : decode cX2_errorPlace 0 = .ok (.iconst 0, 1) := by decide +kernel
theorem dX2_errorPlace_1 : decode cX2_errorPlace 1 = .ok (.istore_n 1, 1) := by decide +kernel
theorem dX2_errorPlace_2 : decode cX2_errorPlace 2 = .ok (.iconst 0, 1) := by decide +kernel
theorem dX2_errorPlace_3 : decode cX2_errorPlace 3 = .ok (.istore_n 2, 1) := by decide +kernel
theorem dX2_errorPlace_4 : decode cX2_errorPlace 4 = .ok (.iconst 0, 1) := by decide +kernel
theorem dX2_errorPlace_5 : decode cX2_errorPlace 5 = .ok (.istore_n 3, 1) := by decide +kernel
theorem dX2_errorPlace_6 : decode cX2_errorPlace 6 = .ok (.iload_n 3, 1) := by decide +kernel
theorem dX2_errorPlace_7 : decode cX2_errorPlace 7 = .ok (.aload_n 0, 1) := by decide +kernel
theorem dX2_errorPlace_8 : decode cX2_errorPlace 8 = .ok (.getfield 15, 3) := by decide +kernel
theorem dX2_errorPlace_11 : decode cX2_errorPlace 11 = .ok (.if_icmp .ge 57, 3) := by decide +kernel
theorem dX2_errorPlace_14 : decode cX2_errorPlace 14 = .ok (.aload_n 0, 1) := by decide +kernel
theorem dX2_errorPlace_15 : decode cX2_errorPlace 15 = .ok (.getfield 9, 3) := by decide +kernel
theorem dX2_errorPlace_18 : decode cX2_errorPlace 18 = .ok (.iload_n 3, 1) := by decide +kernel
theorem dX2_errorPlace_19 : decode cX2_errorPlace 19 = .ok (.iaload, 1) := by decide +kernel
theorem dX2_errorPlace_20 : decode cX2_errorPlace 20 = .ok (.bipush 124, 2) := by decide +kernel
theorem dX2_errorPlace_22 : decode cX2_errorPlace 22 = .ok (.if_icmp .ne 14, 3) := by decide +kernel
theorem dX2_errorPlace_25 : decode cX2_errorPlace 25 = .ok (.iload_n 2, 1) := by decide +kernel
theorem dX2_errorPlace_26 : decode cX2_errorPlace 26 = .ok (.ifCond .ne 10, 3) := by decide +kernel
theorem dX2_errorPlace_29 : decode cX2_errorPlace 29 = .ok (.iconst 1, 1) := by decide +kernel
theorem dX2_errorPlace_30 : decode cX2_errorPlace 30 = .ok (.istore_n 2, 1) := by decide +kernel
theorem dX2_errorPlace_31 : decode cX2_errorPlace 31 = .ok (.iconst 0, 1) := by decide +kernel
theorem dX2_errorPlace_32 : decode cX2_errorPlace 32 = .ok (.istore_n 1, 1) := by decide +kernel
theorem dX2_errorPlace_33 : decode cX2_errorPlace 33 = .ok (.goto 29, 3) := by decide +kernel
theorem dX2_errorPlace_36 : decode cX2_errorPlace 36 = .ok (.aload_n 0, 1) := by decide +kernel
theorem dX2_errorPlace_37 : decode cX2_errorPlace 37 = .ok (.getfield 9, 3) := by decide +kernel
theorem dX2_errorPlace_40 : decode cX2_errorPlace 40 = .ok (.iload_n 3, 1) := by decide +kernel
theorem dX2_errorPlace_41 : decode cX2_errorPlace 41 = .ok (.iaload, 1) := by decide +kernel
theorem dX2_errorPlace_42 : decode cX2_errorPlace 42 = .ok (.invokestatic 19, 3) := by decide +kernel
theorem dX2_errorPlace_45 : decode cX2_errorPlace 45 = .ok (.ifCond .eq 15, 3) := by decide +kernel
theorem dX2_errorPlace_48 : decode cX2_errorPlace 48 = .ok (.iload_n 1, 1) := by decide +kernel
theorem dX2_errorPlace_49 : decode cX2_errorPlace 49 = .ok (.bipush 20, 2) := by decide +kernel
theorem dX2_errorPlace_51 : decode cX2_errorPlace 51 = .ok (.if_icmp .ge 9, 3) := by decide +kernel
theorem dX2_errorPlace_54 : decode cX2_errorPlace 54 = .ok (.iinc 1 1, 3) := by decide +kernel
theorem dX2_errorPlace_57 : decode cX2_errorPlace 57 = .ok (.goto 5, 3) := by decide +kernel
theorem dX2_errorPlace_60 : decode cX2_errorPlace 60 = .ok (.iload_n 3, 1) := by decide +kernel
theorem dX2_errorPlace_61 : decode cX2_errorPlace 61 = .ok (.ireturn, 1) := by decide +kernel
theorem dX2_errorPlace_62 : decode cX2_errorPlace 62 = .ok (.iinc 3 1, 3) := by decide +kernel
theorem dX2_errorPlace_65 : decode cX2_errorPlace 65 = .ok (.goto (-59), 3) := by decide +kernel
theorem dX2_errorPlace_68 : decode cX2_errorPlace 68 = .ok (.aload_n 0, 1) := by decide +kernel
theorem dX2_errorPlace_69 : decode cX2_errorPlace 69 = .ok (.getfield 15, 3) := by decide +kernel
theorem dX2_errorPlace_72 : decode cX2_errorPlace 72 = .ok (.ireturn, 1) := by decide +kernel
theorem dX2_isComplete_0 : decode cX2_isComplete 0 = .ok (.aload_n 0, 1) := by decide +kernel
theorem dX2_isComplete_1 : decode cX2_isComplete 1 = .ok (.invokevirtual 23, 3) := by decide +kernel
theorem dX2_isComplete_4 : decode cX2_isComplete 4 = .ok (.aload_n 0, 1) := by decide +kernel
theorem dX2_isComplete_5 : decode cX2_isComplete 5 = .ok (.getfield 15, 3) := by decide +kernel
theorem dX2_isComplete_8 : decode cX2_isComplete 8 = .ok (.if_icmp .ne 18, 3) := by decide +kernel
theorem dX2_isComplete_11 : decode cX2_isComplete 11 = .ok (.aload_n 0, 1) := by decide +kernel
theorem dX2_isComplete_12 : decode cX2_isComplete 12 = .ok (.invokevirtual 27, 3) := by decide +kernel
theorem dX2_isComplete_15 : decode cX2_isComplete 15 = .ok (.aload_n 0, 1) := by decide +kernel
theorem dX2_isComplete_16 : decode cX2_isComplete 16 = .ok (.getfield 15, 3) := by decide +kernel
theorem dX2_isComplete_19 : decode cX2_isComplete 19 = .ok (.if_icmp .ge 7, 3) := by decide +kernel
theorem dX2_isComplete_22 : decode cX2_isComplete 22 = .ok (.iconst 1, 1) := by decide +kernel
theorem dX2_isComplete_23 : decode cX2_isComplete 23 = .ok (.goto 4, 3) := by decide +kernel
theorem dX2_isComplete_26 : decode cX2_isComplete 26 = .ok (.iconst 0, 1) := by decide +kernel
theorem dX2_isComplete_27 : decode cX2_isComplete 27 = .ok (.ireturn, 1) := by decide +kernel
theorem dX2_keepsTo_0 : decode cX2_keepsTo 0 = .ok (.iconst 0, 1) := by decide +kernel
theorem dX2_keepsTo_1 : decode cX2_keepsTo 1 = .ok (.istore_n 2, 1) := by decide +kernel
theorem dX2_keepsTo_2 : decode cX2_keepsTo 2 = .ok (.iload_n 2, 1) := by decide +kernel
theorem dX2_keepsTo_3 : decode cX2_keepsTo 3 = .ok (.aload_n 0, 1) := by decide +kernel
theorem dX2_keepsTo_4 : decode cX2_keepsTo 4 = .ok (.getfield 15, 3) := by decide +kernel
theorem dX2_keepsTo_7 : decode cX2_keepsTo 7 = .ok (.if_icmp .ge 35, 3) := by decide +kernel
theorem dX2_keepsTo_10 : decode cX2_keepsTo 10 = .ok (.aload_n 0, 1) := by decide +kernel
theorem dX2_keepsTo_11 : decode cX2_keepsTo 11 = .ok (.getfield 9, 3) := by decide +kernel
theorem dX2_keepsTo_14 : decode cX2_keepsTo 14 = .ok (.iload_n 2, 1) := by decide +kernel
theorem dX2_keepsTo_15 : decode cX2_keepsTo 15 = .ok (.iaload, 1) := by decide +kernel
theorem dX2_keepsTo_16 : decode cX2_keepsTo 16 = .ok (.bipush 124, 2) := by decide +kernel
theorem dX2_keepsTo_18 : decode cX2_keepsTo 18 = .ok (.if_icmp .eq 18, 3) := by decide +kernel
theorem dX2_keepsTo_21 : decode cX2_keepsTo 21 = .ok (.aload_n 0, 1) := by decide +kernel
theorem dX2_keepsTo_22 : decode cX2_keepsTo 22 = .ok (.getfield 9, 3) := by decide +kernel
theorem dX2_keepsTo_25 : decode cX2_keepsTo 25 = .ok (.iload_n 2, 1) := by decide +kernel
theorem dX2_keepsTo_26 : decode cX2_keepsTo 26 = .ok (.iaload, 1) := by decide +kernel
theorem dX2_keepsTo_27 : decode cX2_keepsTo 27 = .ok (.bipush 97, 2) := by decide +kernel
theorem dX2_keepsTo_29 : decode cX2_keepsTo 29 = .ok (.isub, 1) := by decide +kernel
theorem dX2_keepsTo_30 : decode cX2_keepsTo 30 = .ok (.iload_n 1, 1) := by decide +kernel
theorem dX2_keepsTo_31 : decode cX2_keepsTo 31 = .ok (.if_icmp .lt 5, 3) := by decide +kernel
theorem dX2_keepsTo_34 : decode cX2_keepsTo 34 = .ok (.iconst 0, 1) := by decide +kernel
theorem dX2_keepsTo_35 : decode cX2_keepsTo 35 = .ok (.ireturn, 1) := by decide +kernel
theorem dX2_keepsTo_36 : decode cX2_keepsTo 36 = .ok (.iinc 2 1, 3) := by decide +kernel
theorem dX2_keepsTo_39 : decode cX2_keepsTo 39 = .ok (.goto (-37), 3) := by decide +kernel
theorem dX2_keepsTo_42 : decode cX2_keepsTo 42 = .ok (.iconst 1, 1) := by decide +kernel
theorem dX2_keepsTo_43 : decode cX2_keepsTo 43 = .ok (.ireturn, 1) := by decide +kernel
theorem dX2_moveTo_0 : decode cX2_moveTo 0 = .ok (.aload_n 0, 1) := by decide +kernel
theorem dX2_moveTo_1 : decode cX2_moveTo 1 = .ok (.invokevirtual 27, 3) := by decide +kernel
theorem dX2_moveTo_4 : decode cX2_moveTo 4 = .ok (.istore_n 3, 1) := by decide +kernel
theorem dX2_moveTo_5 : decode cX2_moveTo 5 = .ok (.aload_n 1, 1) := by decide +kernel
theorem dX2_moveTo_6 : decode cX2_moveTo 6 = .ok (.invokevirtual 30, 3) := by decide +kernel
theorem dX2_moveTo_9 : decode cX2_moveTo 9 = .ok (.aload_n 2, 1) := by decide +kernel
theorem dX2_moveTo_10 : decode cX2_moveTo 10 = .ok (.invokevirtual 30, 3) := by decide +kernel
theorem dX2_moveTo_13 : decode cX2_moveTo 13 = .ok (.iconst 0, 1) := by decide +kernel
theorem dX2_moveTo_14 : decode cX2_moveTo 14 = .ok (.istore 4, 2) := by decide +kernel
theorem dX2_moveTo_16 : decode cX2_moveTo 16 = .ok (.iload 4, 2) := by decide +kernel
theorem dX2_moveTo_18 : decode cX2_moveTo 18 = .ok (.iload_n 3, 1) := by decide +kernel
theorem dX2_moveTo_19 : decode cX2_moveTo 19 = .ok (.if_icmp .ge 27, 3) := by decide +kernel
theorem dX2_moveTo_22 : decode cX2_moveTo 22 = .ok (.aload_n 1, 1) := by decide +kernel
theorem dX2_moveTo_23 : decode cX2_moveTo 23 = .ok (.aload_n 1, 1) := by decide +kernel
theorem dX2_moveTo_24 : decode cX2_moveTo 24 = .ok (.invokevirtual 35, 3) := by decide +kernel
theorem dX2_moveTo_27 : decode cX2_moveTo 27 = .ok (.aload_n 0, 1) := by decide +kernel
theorem dX2_moveTo_28 : decode cX2_moveTo 28 = .ok (.getfield 9, 3) := by decide +kernel
theorem dX2_moveTo_31 : decode cX2_moveTo 31 = .ok (.iload 4, 2) := by decide +kernel
theorem dX2_moveTo_33 : decode cX2_moveTo 33 = .ok (.iaload, 1) := by decide +kernel
theorem dX2_moveTo_34 : decode cX2_moveTo 34 = .ok (.bipush 97, 2) := by decide +kernel
theorem dX2_moveTo_36 : decode cX2_moveTo 36 = .ok (.isub, 1) := by decide +kernel
theorem dX2_moveTo_37 : decode cX2_moveTo 37 = .ok (.invokevirtual 37, 3) := by decide +kernel
theorem dX2_moveTo_40 : decode cX2_moveTo 40 = .ok (.iinc 4 1, 3) := by decide +kernel
theorem dX2_moveTo_43 : decode cX2_moveTo 43 = .ok (.goto (-27), 3) := by decide +kernel
theorem dX2_moveTo_46 : decode cX2_moveTo 46 = .ok (.iload_n 3, 1) := by decide +kernel
theorem dX2_moveTo_47 : decode cX2_moveTo 47 = .ok (.iconst 1, 1) := by decide +kernel
theorem dX2_moveTo_48 : decode cX2_moveTo 48 = .ok (.iadd, 1) := by decide +kernel
theorem dX2_moveTo_49 : decode cX2_moveTo 49 = .ok (.istore 4, 2) := by decide +kernel
theorem dX2_moveTo_51 : decode cX2_moveTo 51 = .ok (.iload 4, 2) := by decide +kernel
theorem dX2_moveTo_53 : decode cX2_moveTo 53 = .ok (.aload_n 0, 1) := by decide +kernel
theorem dX2_moveTo_54 : decode cX2_moveTo 54 = .ok (.getfield 15, 3) := by decide +kernel
theorem dX2_moveTo_57 : decode cX2_moveTo 57 = .ok (.if_icmp .ge 27, 3) := by decide +kernel
theorem dX2_moveTo_60 : decode cX2_moveTo 60 = .ok (.aload_n 2, 1) := by decide +kernel
theorem dX2_moveTo_61 : decode cX2_moveTo 61 = .ok (.aload_n 2, 1) := by decide +kernel
theorem dX2_moveTo_62 : decode cX2_moveTo 62 = .ok (.invokevirtual 35, 3) := by decide +kernel
theorem dX2_moveTo_65 : decode cX2_moveTo 65 = .ok (.aload_n 0, 1) := by decide +kernel
theorem dX2_moveTo_66 : decode cX2_moveTo 66 = .ok (.getfield 9, 3) := by decide +kernel
theorem dX2_moveTo_69 : decode cX2_moveTo 69 = .ok (.iload 4, 2) := by decide +kernel
theorem dX2_moveTo_71 : decode cX2_moveTo 71 = .ok (.iaload, 1) := by decide +kernel
theorem dX2_moveTo_72 : decode cX2_moveTo 72 = .ok (.bipush 97, 2) := by decide +kernel
theorem dX2_moveTo_74 : decode cX2_moveTo 74 = .ok (.isub, 1) := by decide +kernel
theorem dX2_moveTo_75 : decode cX2_moveTo 75 = .ok (.invokevirtual 37, 3) := by decide +kernel
theorem dX2_moveTo_78 : decode cX2_moveTo 78 = .ok (.iinc 4 1, 3) := by decide +kernel
theorem dX2_moveTo_81 : decode cX2_moveTo 81 = .ok (.goto (-30), 3) := by decide +kernel
theorem dX2_moveTo_84 : decode cX2_moveTo 84 = .ok (.aload_n 0, 1) := by decide +kernel
theorem dX2_moveTo_85 : decode cX2_moveTo 85 = .ok (.invokevirtual 41, 3) := by decide +kernel
theorem dX2_moveTo_88 : decode cX2_moveTo 88 = .ok (.return_, 1) := by decide +kernel
theorem dX2_barPlace_0 : decode cX2_barPlace 0 = .ok (.iconst 0, 1) := by decide +kernel
theorem dX2_barPlace_1 : decode cX2_barPlace 1 = .ok (.istore_n 1, 1) := by decide +kernel
theorem dX2_barPlace_2 : decode cX2_barPlace 2 = .ok (.iload_n 1, 1) := by decide +kernel
theorem dX2_barPlace_3 : decode cX2_barPlace 3 = .ok (.aload_n 0, 1) := by decide +kernel
theorem dX2_barPlace_4 : decode cX2_barPlace 4 = .ok (.getfield 15, 3) := by decide +kernel
theorem dX2_barPlace_7 : decode cX2_barPlace 7 = .ok (.if_icmp .ge 22, 3) := by decide +kernel
theorem dX2_barPlace_10 : decode cX2_barPlace 10 = .ok (.aload_n 0, 1) := by decide +kernel
theorem dX2_barPlace_11 : decode cX2_barPlace 11 = .ok (.getfield 9, 3) := by decide +kernel
theorem dX2_barPlace_14 : decode cX2_barPlace 14 = .ok (.iload_n 1, 1) := by decide +kernel
theorem dX2_barPlace_15 : decode cX2_barPlace 15 = .ok (.iaload, 1) := by decide +kernel
theorem dX2_barPlace_16 : decode cX2_barPlace 16 = .ok (.bipush 124, 2) := by decide +kernel
theorem dX2_barPlace_18 : decode cX2_barPlace 18 = .ok (.if_icmp .ne 5, 3) := by decide +kernel
theorem dX2_barPlace_21 : decode cX2_barPlace 21 = .ok (.iload_n 1, 1) := by decide +kernel
theorem dX2_barPlace_22 : decode cX2_barPlace 22 = .ok (.ireturn, 1) := by decide +kernel
theorem dX2_barPlace_23 : decode cX2_barPlace 23 = .ok (.iinc 1 1, 3) := by decide +kernel
theorem dX2_barPlace_26 : decode cX2_barPlace 26 = .ok (.goto (-24), 3) := by decide +kernel
theorem dX2_barPlace_29 : decode cX2_barPlace 29 = .ok (.aload_n 0, 1) := by decide +kernel
theorem dX2_barPlace_30 : decode cX2_barPlace 30 = .ok (.getfield 15, 3) := by decide +kernel
theorem dX2_barPlace_33 : decode cX2_barPlace 33 = .ok (.ireturn, 1) := by decide +kernel
theorem dX2_isLetter_0 : decode cX2_isLetter 0 = .ok (.iload_n 0, 1) := by decide +kernel
theorem dX2_isLetter_1 : decode cX2_isLetter 1 = .ok (.bipush 97, 2) := by decide +kernel
theorem dX2_isLetter_3 : decode cX2_isLetter 3 = .ok (.if_icmp .lt 13, 3) := by decide +kernel
theorem dX2_isLetter_6 : decode cX2_isLetter 6 = .ok (.iload_n 0, 1) := by decide +kernel
theorem dX2_isLetter_7 : decode cX2_isLetter 7 = .ok (.bipush 101, 2) := by decide +kernel
theorem dX2_isLetter_9 : decode cX2_isLetter 9 = .ok (.if_icmp .ge 7, 3) := by decide +kernel
theorem dX2_isLetter_12 : decode cX2_isLetter 12 = .ok (.iconst 1, 1) := by decide +kernel
theorem dX2_isLetter_13 : decode cX2_isLetter 13 = .ok (.goto 4, 3) := by decide +kernel
theorem dX2_isLetter_16 : decode cX2_isLetter 16 = .ok (.iconst 0, 1) := by decide +kernel
theorem dX2_isLetter_17 : decode cX2_isLetter 17 = .ok (.ireturn, 1) := by decide +kernel
theorem dX3_init_0 : decode cX3_init 0 = .ok (.aload_n 0, 1) := by decide +kernel
theorem dX3_init_1 : decode cX3_init 1 = .ok (.invokespecial 3, 3) := by decide +kernel
theorem dX3_init_4 : decode cX3_init 4 = .ok (.aload_n 0, 1) := by decide +kernel
theorem dX3_init_5 : decode cX3_init 5 = .ok (.new 9, 3) := by decide +kernel
theorem dX3_init_8 : decode cX3_init 8 = .ok (.dup, 1) := by decide +kernel
theorem dX3_init_9 : decode cX3_init 9 = .ok (.invokespecial 11, 3) := by decide +kernel
theorem dX3_init_12 : decode cX3_init 12 = .ok (.putfield 12, 3) := by decide +kernel
theorem dX3_init_15 : decode cX3_init 15 = .ok (.aload_n 0, 1) := by decide +kernel
theorem dX3_init_16 : decode cX3_init 16 = .ok (.new 9, 3) := by decide +kernel
theorem dX3_init_19 : decode cX3_init 19 = .ok (.dup, 1) := by decide +kernel
theorem dX3_init_20 : decode cX3_init 20 = .ok (.invokespecial 11, 3) := by decide +kernel
theorem dX3_init_23 : decode cX3_init 23 = .ok (.putfield 18, 3) := by decide +kernel
theorem dX3_init_26 : decode cX3_init 26 = .ok (.aload_n 0, 1) := by decide +kernel
theorem dX3_init_27 : decode cX3_init 27 = .ok (.new 21, 3) := by decide +kernel
theorem dX3_init_30 : decode cX3_init 30 = .ok (.dup, 1) := by decide +kernel
theorem dX3_init_31 : decode cX3_init 31 = .ok (.invokespecial 23, 3) := by decide +kernel
theorem dX3_init_34 : decode cX3_init 34 = .ok (.putfield 24, 3) := by decide +kernel
theorem dX3_init_37 : decode cX3_init 37 = .ok (.aload_n 0, 1) := by decide +kernel
theorem dX3_init_38 : decode cX3_init 38 = .ok (.new 21, 3) := by decide +kernel
theorem dX3_init_41 : decode cX3_init 41 = .ok (.dup, 1) := by decide +kernel
theorem dX3_init_42 : decode cX3_init 42 = .ok (.invokespecial 23, 3) := by decide +kernel
theorem dX3_init_45 : decode cX3_init 45 = .ok (.putfield 28, 3) := by decide +kernel
theorem dX3_init_48 : decode cX3_init 48 = .ok (.return_, 1) := by decide +kernel
theorem dX3_prepare_0 : decode cX3_prepare 0 = .ok (.aload_n 0, 1) := by decide +kernel
theorem dX3_prepare_1 : decode cX3_prepare 1 = .ok (.getfield 12, 3) := by decide +kernel
theorem dX3_prepare_4 : decode cX3_prepare 4 = .ok (.aload_n 1, 1) := by decide +kernel
theorem dX3_prepare_5 : decode cX3_prepare 5 = .ok (.aload_n 2, 1) := by decide +kernel
theorem dX3_prepare_6 : decode cX3_prepare 6 = .ok (.iconst 1, 1) := by decide +kernel
theorem dX3_prepare_7 : decode cX3_prepare 7 = .ok (.invokevirtual 31, 3) := by decide +kernel
theorem dX3_prepare_10 : decode cX3_prepare 10 = .ok (.aload_n 0, 1) := by decide +kernel
theorem dX3_prepare_11 : decode cX3_prepare 11 = .ok (.getfield 24, 3) := by decide +kernel
theorem dX3_prepare_14 : decode cX3_prepare 14 = .ok (.aload_n 1, 1) := by decide +kernel
theorem dX3_prepare_15 : decode cX3_prepare 15 = .ok (.invokevirtual 35, 3) := by decide +kernel
theorem dX3_prepare_18 : decode cX3_prepare 18 = .ok (.aload_n 0, 1) := by decide +kernel
theorem dX3_prepare_19 : decode cX3_prepare 19 = .ok (.getfield 28, 3) := by decide +kernel
theorem dX3_prepare_22 : decode cX3_prepare 22 = .ok (.aload_n 2, 1) := by decide +kernel
theorem dX3_prepare_23 : decode cX3_prepare 23 = .ok (.invokevirtual 35, 3) := by decide +kernel
theorem dX3_prepare_26 : decode cX3_prepare 26 = .ok (.aload_n 0, 1) := by decide +kernel
theorem dX3_prepare_27 : decode cX3_prepare 27 = .ok (.getfield 18, 3) := by decide +kernel
theorem dX3_prepare_30 : decode cX3_prepare 30 = .ok (.aload_n 0, 1) := by decide +kernel
theorem dX3_prepare_31 : decode cX3_prepare 31 = .ok (.getfield 24, 3) := by decide +kernel
theorem dX3_prepare_34 : decode cX3_prepare 34 = .ok (.aload_n 0, 1) := by decide +kernel
theorem dX3_prepare_35 : decode cX3_prepare 35 = .ok (.getfield 28, 3) := by decide +kernel
theorem dX3_prepare_38 : decode cX3_prepare 38 = .ok (.iconst 1, 1) := by decide +kernel
theorem dX3_prepare_39 : decode cX3_prepare 39 = .ok (.invokevirtual 31, 3) := by decide +kernel
theorem dX3_prepare_42 : decode cX3_prepare 42 = .ok (.return_, 1) := by decide +kernel
theorem dX3_distanceWith_0 : decode cX3_distanceWith 0 = .ok (.aload_n 2, 1) := by decide +kernel
theorem dX3_distanceWith_1 : decode cX3_distanceWith 1 = .ok (.invokevirtual 39, 3) := by decide +kernel
theorem dX3_distanceWith_4 : decode cX3_distanceWith 4 = .ok (.istore 5, 2) := by decide +kernel
theorem dX3_distanceWith_6 : decode cX3_distanceWith 6 = .ok (.aload_n 1, 1) := by decide +kernel
theorem dX3_distanceWith_7 : decode cX3_distanceWith 7 = .ok (.invokevirtual 39, 3) := by decide +kernel
theorem dX3_distanceWith_10 : decode cX3_distanceWith 10 = .ok (.iload_n 3, 1) := by decide +kernel
theorem dX3_distanceWith_11 : decode cX3_distanceWith 11 = .ok (.isub, 1) := by decide +kernel
theorem dX3_distanceWith_12 : decode cX3_distanceWith 12 = .ok (.iconst 1, 1) := by decide +kernel
theorem dX3_distanceWith_13 : decode cX3_distanceWith 13 = .ok (.isub, 1) := by decide +kernel
theorem dX3_distanceWith_14 : decode cX3_distanceWith 14 = .ok (.istore 6, 2) := by decide +kernel
theorem dX3_distanceWith_16 : decode cX3_distanceWith 16 = .ok (.iload_n 3, 1) := by decide +kernel
theorem dX3_distanceWith_17 : decode cX3_distanceWith 17 = .ok (.iconst 1, 1) := by decide +kernel
theorem dX3_distanceWith_18 : decode cX3_distanceWith 18 = .ok (.iadd, 1) := by decide +kernel
theorem dX3_distanceWith_19 : decode cX3_distanceWith 19 = .ok (.istore 7, 2) := by decide +kernel
theorem dX3_distanceWith_21 : decode cX3_distanceWith 21 = .ok (.iload 7, 2) := by decide +kernel
theorem dX3_distanceWith_23 : decode cX3_distanceWith 23 = .ok (.aload_n 0, 1) := by decide +kernel
theorem dX3_distanceWith_24 : decode cX3_distanceWith 24 = .ok (.getfield 18, 3) := by decide +kernel
theorem dX3_distanceWith_27 : decode cX3_distanceWith 27 = .ok (.iload 6, 2) := by decide +kernel
theorem dX3_distanceWith_29 : decode cX3_distanceWith 29 = .ok (.iload 5, 2) := by decide +kernel
theorem dX3_distanceWith_31 : decode cX3_distanceWith 31 = .ok (.invokevirtual 43, 3) := by decide +kernel
theorem dX3_distanceWith_34 : decode cX3_distanceWith 34 = .ok (.iadd, 1) := by decide +kernel
theorem dX3_distanceWith_35 : decode cX3_distanceWith 35 = .ok (.istore 8, 2) := by decide +kernel
theorem dX3_distanceWith_37 : decode cX3_distanceWith 37 = .ok (.iconst 1, 1) := by decide +kernel
theorem dX3_distanceWith_38 : decode cX3_distanceWith 38 = .ok (.istore 9, 2) := by decide +kernel
theorem dX3_distanceWith_40 : decode cX3_distanceWith 40 = .ok (.iload 9, 2) := by decide +kernel
theorem dX3_distanceWith_42 : decode cX3_distanceWith 42 = .ok (.iload 5, 2) := by decide +kernel
theorem dX3_distanceWith_44 : decode cX3_distanceWith 44 = .ok (.if_icmp .gt 79, 3) := by decide +kernel
theorem dX3_distanceWith_47 : decode cX3_distanceWith 47 = .ok (.iload 4, 2) := by decide +kernel
theorem dX3_distanceWith_49 : decode cX3_distanceWith 49 = .ok (.aload_n 2, 1) := by decide +kernel
theorem dX3_distanceWith_50 : decode cX3_distanceWith 50 = .ok (.iload 9, 2) := by decide +kernel
theorem dX3_distanceWith_52 : decode cX3_distanceWith 52 = .ok (.iconst 1, 1) := by decide +kernel
theorem dX3_distanceWith_53 : decode cX3_distanceWith 53 = .ok (.isub, 1) := by decide +kernel
theorem dX3_distanceWith_54 : decode cX3_distanceWith 54 = .ok (.invokevirtual 47, 3) := by decide +kernel
theorem dX3_distanceWith_57 : decode cX3_distanceWith 57 = .ok (.invokestatic 50, 3) := by decide +kernel
theorem dX3_distanceWith_60 : decode cX3_distanceWith 60 = .ok (.istore 10, 2) := by decide +kernel
theorem dX3_distanceWith_62 : decode cX3_distanceWith 62 = .ok (.aload_n 0, 1) := by decide +kernel
theorem dX3_distanceWith_63 : decode cX3_distanceWith 63 = .ok (.getfield 12, 3) := by decide +kernel
theorem dX3_distanceWith_66 : decode cX3_distanceWith 66 = .ok (.iload_n 3, 1) := by decide +kernel
theorem dX3_distanceWith_67 : decode cX3_distanceWith 67 = .ok (.iload 9, 2) := by decide +kernel
theorem dX3_distanceWith_69 : decode cX3_distanceWith 69 = .ok (.invokevirtual 43, 3) := by decide +kernel
theorem dX3_distanceWith_72 : decode cX3_distanceWith 72 = .ok (.iload 7, 2) := by decide +kernel
theorem dX3_distanceWith_74 : decode cX3_distanceWith 74 = .ok (.aload_n 0, 1) := by decide +kernel
theorem dX3_distanceWith_75 : decode cX3_distanceWith 75 = .ok (.getfield 12, 3) := by decide +kernel
theorem dX3_distanceWith_78 : decode cX3_distanceWith 78 = .ok (.iload_n 3, 1) := by decide +kernel
theorem dX3_distanceWith_79 : decode cX3_distanceWith 79 = .ok (.iload 9, 2) := by decide +kernel
theorem dX3_distanceWith_81 : decode cX3_distanceWith 81 = .ok (.iconst 1, 1) := by decide +kernel
theorem dX3_distanceWith_82 : decode cX3_distanceWith 82 = .ok (.isub, 1) := by decide +kernel
theorem dX3_distanceWith_83 : decode cX3_distanceWith 83 = .ok (.invokevirtual 43, 3) := by decide +kernel
theorem dX3_distanceWith_86 : decode cX3_distanceWith 86 = .ok (.iload 10, 2) := by decide +kernel
theorem dX3_distanceWith_88 : decode cX3_distanceWith 88 = .ok (.invokestatic 53, 3) := by decide +kernel
theorem dX3_distanceWith_91 : decode cX3_distanceWith 91 = .ok (.istore 7, 2) := by decide +kernel
theorem dX3_distanceWith_93 : decode cX3_distanceWith 93 = .ok (.iload 8, 2) := by decide +kernel
theorem dX3_distanceWith_95 : decode cX3_distanceWith 95 = .ok (.iload 7, 2) := by decide +kernel
theorem dX3_distanceWith_97 : decode cX3_distanceWith 97 = .ok (.aload_n 0, 1) := by decide +kernel
theorem dX3_distanceWith_98 : decode cX3_distanceWith 98 = .ok (.getfield 18, 3) := by decide +kernel
theorem dX3_distanceWith_101 : decode cX3_distanceWith 101 = .ok (.iload 6, 2) := by decide +kernel
theorem dX3_distanceWith_103 : decode cX3_distanceWith 103 = .ok (.iload 5, 2) := by decide +kernel
theorem dX3_distanceWith_105 : decode cX3_distanceWith 105 = .ok (.iload 9, 2) := by decide +kernel
theorem dX3_distanceWith_107 : decode cX3_distanceWith 107 = .ok (.isub, 1) := by decide +kernel
theorem dX3_distanceWith_108 : decode cX3_distanceWith 108 = .ok (.invokevirtual 43, 3) := by decide +kernel
theorem dX3_distanceWith_111 : decode cX3_distanceWith 111 = .ok (.iadd, 1) := by decide +kernel
theorem dX3_distanceWith_112 : decode cX3_distanceWith 112 = .ok (.invokestatic 57, 3) := by decide +kernel
theorem dX3_distanceWith_115 : decode cX3_distanceWith 115 = .ok (.istore 8, 2) := by decide +kernel
theorem dX3_distanceWith_117 : decode cX3_distanceWith 117 = .ok (.iinc 9 1, 3) := by decide +kernel
theorem dX3_distanceWith_120 : decode cX3_distanceWith 120 = .ok (.goto (-80), 3) := by decide +kernel
theorem dX3_distanceWith_123 : decode cX3_distanceWith 123 = .ok (.iload 8, 2) := by decide +kernel
theorem dX3_distanceWith_125 : decode cX3_distanceWith 125 = .ok (.ireturn, 1) := by decide +kernel
theorem dX4_init_0 : decode cX4_init 0 = .ok (.aload_n 0, 1) := by decide +kernel
theorem dX4_init_1 : decode cX4_init 1 = .ok (.invokespecial 3, 3) := by decide +kernel
theorem dX4_init_4 : decode cX4_init 4 = .ok (.aload_n 0, 1) := by decide +kernel
theorem dX4_init_5 : decode cX4_init 5 = .ok (.bipush 6, 2) := by decide +kernel
theorem dX4_init_7 : decode cX4_init 7 = .ok (.anewarray 9, 3) := by decide +kernel
theorem dX4_init_10 : decode cX4_init 10 = .ok (.putfield 11, 3) := by decide +kernel
theorem dX4_init_13 : decode cX4_init 13 = .ok (.aload_n 0, 1) := by decide +kernel
theorem dX4_init_14 : decode cX4_init 14 = .ok (.iconst 0, 1) := by decide +kernel
theorem dX4_init_15 : decode cX4_init 15 = .ok (.putfield 17, 3) := by decide +kernel
theorem dX4_init_18 : decode cX4_init 18 = .ok (.aload_n 0, 1) := by decide +kernel
theorem dX4_init_19 : decode cX4_init 19 = .ok (.iconst 0, 1) := by decide +kernel
theorem dX4_init_20 : decode cX4_init 20 = .ok (.putfield 21, 3) := by decide +kernel
theorem dX4_init_23 : decode cX4_init 23 = .ok (.return_, 1) := by decide +kernel
theorem dX4_size_0 : decode cX4_size 0 = .ok (.aload_n 0, 1) := by decide +kernel
theorem dX4_size_1 : decode cX4_size 1 = .ok (.getfield 21, 3) := by decide +kernel
theorem dX4_size_4 : decode cX4_size 4 = .ok (.ireturn, 1) := by decide +kernel
theorem dX4_save_0 : decode cX4_save 0 = .ok (.aload_n 0, 1) := by decide +kernel
theorem dX4_save_1 : decode cX4_save 1 = .ok (.getfield 21, 3) := by decide +kernel
theorem dX4_save_4 : decode cX4_save 4 = .ok (.bipush 6, 2) := by decide +kernel
theorem dX4_save_6 : decode cX4_save 6 = .ok (.if_icmp .lt 26, 3) := by decide +kernel
theorem dX4_save_9 : decode cX4_save 9 = .ok (.aload_n 0, 1) := by decide +kernel
theorem dX4_save_10 : decode cX4_save 10 = .ok (.aload_n 0, 1) := by decide +kernel
theorem dX4_save_11 : decode cX4_save 11 = .ok (.getfield 17, 3) := by decide +kernel
theorem dX4_save_14 : decode cX4_save 14 = .ok (.iconst 1, 1) := by decide +kernel
theorem dX4_save_15 : decode cX4_save 15 = .ok (.iadd, 1) := by decide +kernel
theorem dX4_save_16 : decode cX4_save 16 = .ok (.bipush 6, 2) := by decide +kernel
theorem dX4_save_18 : decode cX4_save 18 = .ok (.irem, 1) := by decide +kernel
theorem dX4_save_19 : decode cX4_save 19 = .ok (.putfield 17, 3) := by decide +kernel
theorem dX4_save_22 : decode cX4_save 22 = .ok (.aload_n 0, 1) := by decide +kernel
theorem dX4_save_23 : decode cX4_save 23 = .ok (.dup, 1) := by decide +kernel
theorem dX4_save_24 : decode cX4_save 24 = .ok (.getfield 21, 3) := by decide +kernel
theorem dX4_save_27 : decode cX4_save 27 = .ok (.iconst 1, 1) := by decide +kernel
theorem dX4_save_28 : decode cX4_save 28 = .ok (.isub, 1) := by decide +kernel
theorem dX4_save_29 : decode cX4_save 29 = .ok (.putfield 21, 3) := by decide +kernel
theorem dX4_save_32 : decode cX4_save 32 = .ok (.aload_n 0, 1) := by decide +kernel
theorem dX4_save_33 : decode cX4_save 33 = .ok (.getfield 17, 3) := by decide +kernel
theorem dX4_save_36 : decode cX4_save 36 = .ok (.aload_n 0, 1) := by decide +kernel
theorem dX4_save_37 : decode cX4_save 37 = .ok (.getfield 21, 3) := by decide +kernel
theorem dX4_save_40 : decode cX4_save 40 = .ok (.iadd, 1) := by decide +kernel
theorem dX4_save_41 : decode cX4_save 41 = .ok (.bipush 6, 2) := by decide +kernel
theorem dX4_save_43 : decode cX4_save 43 = .ok (.irem, 1) := by decide +kernel
theorem dX4_save_44 : decode cX4_save 44 = .ok (.istore_n 2, 1) := by decide +kernel
theorem dX4_save_45 : decode cX4_save 45 = .ok (.aload_n 0, 1) := by decide +kernel
theorem dX4_save_46 : decode cX4_save 46 = .ok (.getfield 11, 3) := by decide +kernel
theorem dX4_save_49 : decode cX4_save 49 = .ok (.iload_n 2, 1) := by decide +kernel
theorem dX4_save_50 : decode cX4_save 50 = .ok (.aaload, 1) := by decide +kernel
theorem dX4_save_51 : decode cX4_save 51 = .ok (.ifnonnull 16, 3) := by decide +kernel
theorem dX4_save_54 : decode cX4_save 54 = .ok (.aload_n 0, 1) := by decide +kernel
theorem dX4_save_55 : decode cX4_save 55 = .ok (.getfield 11, 3) := by decide +kernel
theorem dX4_save_58 : decode cX4_save 58 = .ok (.iload_n 2, 1) := by decide +kernel
theorem dX4_save_59 : decode cX4_save 59 = .ok (.new 9, 3) := by decide +kernel
theorem dX4_save_62 : decode cX4_save 62 = .ok (.dup, 1) := by decide +kernel
theorem dX4_save_63 : decode cX4_save 63 = .ok (.invokespecial 24, 3) := by decide +kernel
theorem dX4_save_66 : decode cX4_save 66 = .ok (.aastore, 1) := by decide +kernel
theorem dX4_save_67 : decode cX4_save 67 = .ok (.aload_n 0, 1) := by decide +kernel
theorem dX4_save_68 : decode cX4_save 68 = .ok (.getfield 11, 3) := by decide +kernel
theorem dX4_save_71 : decode cX4_save 71 = .ok (.iload_n 2, 1) := by decide +kernel
theorem dX4_save_72 : decode cX4_save 72 = .ok (.aaload, 1) := by decide +kernel
theorem dX4_save_73 : decode cX4_save 73 = .ok (.aload_n 1, 1) := by decide +kernel
theorem dX4_save_74 : decode cX4_save 74 = .ok (.invokevirtual 25, 3) := by decide +kernel
theorem dX4_save_77 : decode cX4_save 77 = .ok (.aload_n 0, 1) := by decide +kernel
theorem dX4_save_78 : decode cX4_save 78 = .ok (.dup, 1) := by decide +kernel
theorem dX4_save_79 : decode cX4_save 79 = .ok (.getfield 21, 3) := by decide +kernel
theorem dX4_save_82 : decode cX4_save 82 = .ok (.iconst 1, 1) := by decide +kernel
theorem dX4_save_83 : decode cX4_save 83 = .ok (.iadd, 1) := by decide +kernel
theorem dX4_save_84 : decode cX4_save 84 = .ok (.putfield 21, 3) := by decide +kernel
theorem dX4_save_87 : decode cX4_save 87 = .ok (.return_, 1) := by decide +kernel
theorem dX4_restore_0 : decode cX4_restore 0 = .ok (.aload_n 0, 1) := by decide +kernel
theorem dX4_restore_1 : decode cX4_restore 1 = .ok (.getfield 21, 3) := by decide +kernel
theorem dX4_restore_4 : decode cX4_restore 4 = .ok (.ifCond .gt 4, 3) := by decide +kernel
theorem dX4_restore_7 : decode cX4_restore 7 = .ok (.return_, 1) := by decide +kernel
theorem dX4_restore_8 : decode cX4_restore 8 = .ok (.aload_n 0, 1) := by decide +kernel
theorem dX4_restore_9 : decode cX4_restore 9 = .ok (.dup, 1) := by decide +kernel
theorem dX4_restore_10 : decode cX4_restore 10 = .ok (.getfield 21, 3) := by decide +kernel
theorem dX4_restore_13 : decode cX4_restore 13 = .ok (.iconst 1, 1) := by decide +kernel
theorem dX4_restore_14 : decode cX4_restore 14 = .ok (.isub, 1) := by decide +kernel
theorem dX4_restore_15 : decode cX4_restore 15 = .ok (.putfield 21, 3) := by decide +kernel
theorem dX4_restore_18 : decode cX4_restore 18 = .ok (.aload_n 0, 1) := by decide +kernel
theorem dX4_restore_19 : decode cX4_restore 19 = .ok (.getfield 11, 3) := by decide +kernel
theorem dX4_restore_22 : decode cX4_restore 22 = .ok (.aload_n 0, 1) := by decide +kernel
theorem dX4_restore_23 : decode cX4_restore 23 = .ok (.getfield 17, 3) := by decide +kernel
theorem dX4_restore_26 : decode cX4_restore 26 = .ok (.aload_n 0, 1) := by decide +kernel
theorem dX4_restore_27 : decode cX4_restore 27 = .ok (.getfield 21, 3) := by decide +kernel
theorem dX4_restore_30 : decode cX4_restore 30 = .ok (.iadd, 1) := by decide +kernel
theorem dX4_restore_31 : decode cX4_restore 31 = .ok (.bipush 6, 2) := by decide +kernel
theorem dX4_restore_33 : decode cX4_restore 33 = .ok (.irem, 1) := by decide +kernel
theorem dX4_restore_34 : decode cX4_restore 34 = .ok (.aaload, 1) := by decide +kernel
theorem dX4_restore_35 : decode cX4_restore 35 = .ok (.astore_n 2, 1) := by decide +kernel
theorem dX4_restore_36 : decode cX4_restore 36 = .ok (.aload_n 2, 1) := by decide +kernel
theorem dX4_restore_37 : decode cX4_restore 37 = .ok (.ifnull 8, 3) := by decide +kernel
theorem dX4_restore_40 : decode cX4_restore 40 = .ok (.aload_n 1, 1) := by decide +kernel
theorem dX4_restore_41 : decode cX4_restore 41 = .ok (.aload_n 2, 1) := by decide +kernel
theorem dX4_restore_42 : decode cX4_restore 42 = .ok (.invokevirtual 25, 3) := by decide +kernel
theorem dX4_restore_45 : decode cX4_restore 45 = .ok (.return_, 1) := by decide +kernel
theorem dX5_init_0 : decode cX5_init 0 = .ok (.aload_n 0, 1) := by decide +kernel
theorem dX5_init_1 : decode cX5_init 1 = .ok (.invokespecial 3, 3) := by decide +kernel
theorem dX5_init_4 : decode cX5_init 4 = .ok (.aload_n 0, 1) := by decide +kernel
theorem dX5_init_5 : decode cX5_init 5 = .ok (.new 9, 3) := by decide +kernel
theorem dX5_init_8 : decode cX5_init 8 = .ok (.dup, 1) := by decide +kernel
theorem dX5_init_9 : decode cX5_init 9 = .ok (.invokespecial 11, 3) := by decide +kernel
theorem dX5_init_12 : decode cX5_init 12 = .ok (.putfield 12, 3) := by decide +kernel
theorem dX5_init_15 : decode cX5_init 15 = .ok (.aload_n 0, 1) := by decide +kernel
theorem dX5_init_16 : decode cX5_init 16 = .ok (.new 9, 3) := by decide +kernel
theorem dX5_init_19 : decode cX5_init 19 = .ok (.dup, 1) := by decide +kernel
theorem dX5_init_20 : decode cX5_init 20 = .ok (.invokespecial 11, 3) := by decide +kernel
theorem dX5_init_23 : decode cX5_init 23 = .ok (.putfield 18, 3) := by decide +kernel
theorem dX5_init_26 : decode cX5_init 26 = .ok (.aload_n 0, 1) := by decide +kernel
theorem dX5_init_27 : decode cX5_init 27 = .ok (.iconst 4, 1) := by decide +kernel
theorem dX5_init_28 : decode cX5_init 28 = .ok (.putfield 21, 3) := by decide +kernel
theorem dX5_init_31 : decode cX5_init 31 = .ok (.return_, 1) := by decide +kernel
theorem dX5_text_0 : decode cX5_text 0 = .ok (.iload_n 1, 1) := by decide +kernel
theorem dX5_text_1 : decode cX5_text 1 = .ok (.ifCond .ne 10, 3) := by decide +kernel
theorem dX5_text_4 : decode cX5_text 4 = .ok (.aload_n 0, 1) := by decide +kernel
theorem dX5_text_5 : decode cX5_text 5 = .ok (.getfield 12, 3) := by decide +kernel
theorem dX5_text_8 : decode cX5_text 8 = .ok (.goto 7, 3) := by decide +kernel
theorem dX5_text_11 : decode cX5_text 11 = .ok (.aload_n 0, 1) := by decide +kernel
theorem dX5_text_12 : decode cX5_text 12 = .ok (.getfield 18, 3) := by decide +kernel
theorem dX5_text_15 : decode cX5_text 15 = .ok (.areturn, 1) := by decide +kernel
theorem dX5_alphabet_0 : decode cX5_alphabet 0 = .ok (.aload_n 0, 1) := by decide +kernel
theorem dX5_alphabet_1 : decode cX5_alphabet 1 = .ok (.getfield 21, 3) := by decide +kernel
theorem dX5_alphabet_4 : decode cX5_alphabet 4 = .ok (.ireturn, 1) := by decide +kernel
theorem dX5_setLetters_0 : decode cX5_setLetters 0 = .ok (.aload_n 0, 1) := by decide +kernel
theorem dX5_setLetters_1 : decode cX5_setLetters 1 = .ok (.iload_n 1, 1) := by decide +kernel
theorem dX5_setLetters_2 : decode cX5_setLetters 2 = .ok (.putfield 21, 3) := by decide +kernel
theorem dX5_setLetters_5 : decode cX5_setLetters 5 = .ok (.return_, 1) := by decide +kernel
theorem dX5_swapTexts_0 : decode cX5_swapTexts 0 = .ok (.aload_n 0, 1) := by decide +kernel
theorem dX5_swapTexts_1 : decode cX5_swapTexts 1 = .ok (.getfield 12, 3) := by decide +kernel
theorem dX5_swapTexts_4 : decode cX5_swapTexts 4 = .ok (.astore_n 1, 1) := by decide +kernel
theorem dX5_swapTexts_5 : decode cX5_swapTexts 5 = .ok (.aload_n 0, 1) := by decide +kernel
theorem dX5_swapTexts_6 : decode cX5_swapTexts 6 = .ok (.aload_n 0, 1) := by decide +kernel
theorem dX5_swapTexts_7 : decode cX5_swapTexts 7 = .ok (.getfield 18, 3) := by decide +kernel
theorem dX5_swapTexts_10 : decode cX5_swapTexts 10 = .ok (.putfield 12, 3) := by decide +kernel
theorem dX5_swapTexts_13 : decode cX5_swapTexts 13 = .ok (.aload_n 0, 1) := by decide +kernel
theorem dX5_swapTexts_14 : decode cX5_swapTexts 14 = .ok (.aload_n 1, 1) := by decide +kernel
theorem dX5_swapTexts_15 : decode cX5_swapTexts 15 = .ok (.putfield 18, 3) := by decide +kernel
theorem dX5_swapTexts_18 : decode cX5_swapTexts 18 = .ok (.return_, 1) := by decide +kernel
theorem dX5_copyFrom_0 : decode cX5_copyFrom 0 = .ok (.aload_n 0, 1) := by decide +kernel
theorem dX5_copyFrom_1 : decode cX5_copyFrom 1 = .ok (.getfield 12, 3) := by decide +kernel
theorem dX5_copyFrom_4 : decode cX5_copyFrom 4 = .ok (.aload_n 1, 1) := by decide +kernel
theorem dX5_copyFrom_5 : decode cX5_copyFrom 5 = .ok (.iconst 0, 1) := by decide +kernel
theorem dX5_copyFrom_6 : decode cX5_copyFrom 6 = .ok (.invokevirtual 25, 3) := by decide +kernel
theorem dX5_copyFrom_9 : decode cX5_copyFrom 9 = .ok (.invokevirtual 29, 3) := by decide +kernel
theorem dX5_copyFrom_12 : decode cX5_copyFrom 12 = .ok (.aload_n 0, 1) := by decide +kernel
theorem dX5_copyFrom_13 : decode cX5_copyFrom 13 = .ok (.getfield 18, 3) := by decide +kernel
theorem dX5_copyFrom_16 : decode cX5_copyFrom 16 = .ok (.aload_n 1, 1) := by decide +kernel
theorem dX5_copyFrom_17 : decode cX5_copyFrom 17 = .ok (.iconst 1, 1) := by decide +kernel
theorem dX5_copyFrom_18 : decode cX5_copyFrom 18 = .ok (.invokevirtual 25, 3) := by decide +kernel
theorem dX5_copyFrom_21 : decode cX5_copyFrom 21 = .ok (.invokevirtual 29, 3) := by decide +kernel
theorem dX5_copyFrom_24 : decode cX5_copyFrom 24 = .ok (.aload_n 0, 1) := by decide +kernel
theorem dX5_copyFrom_25 : decode cX5_copyFrom 25 = .ok (.aload_n 1, 1) := by decide +kernel
theorem dX5_copyFrom_26 : decode cX5_copyFrom 26 = .ok (.invokevirtual 33, 3) := by decide +kernel
theorem dX5_copyFrom_29 : decode cX5_copyFrom 29 = .ok (.putfield 21, 3) := by decide +kernel
theorem dX5_copyFrom_32 : decode cX5_copyFrom 32 = .ok (.return_, 1) := by decide +kernel
theorem dX6_init_0 : decode cX6_init 0 = .ok (.aload_n 0, 1) := by decide +kernel
theorem dX6_init_1 : decode cX6_init 1 = .ok (.invokespecial 3, 3) := by decide +kernel
theorem dX6_init_4 : decode cX6_init 4 = .ok (.aload_n 0, 1) := by decide +kernel
theorem dX6_init_5 : decode cX6_init 5 = .ok (.bipush 20, 2) := by decide +kernel
theorem dX6_init_7 : decode cX6_init 7 = .ok (.newarray .int, 2) := by decide +kernel
theorem dX6_init_9 : decode cX6_init 9 = .ok (.putfield 9, 3) := by decide +kernel
theorem dX6_init_12 : decode cX6_init 12 = .ok (.aload_n 0, 1) := by decide +kernel
theorem dX6_init_13 : decode cX6_init 13 = .ok (.iconst 0, 1) := by decide +kernel
theorem dX6_init_14 : decode cX6_init 14 = .ok (.putfield 15, 3) := by decide +kernel
theorem dX6_init_17 : decode cX6_init 17 = .ok (.return_, 1) := by decide +kernel
theorem dX6_size_0 : decode cX6_size 0 = .ok (.aload_n 0, 1) := by decide +kernel
theorem dX6_size_1 : decode cX6_size 1 = .ok (.getfield 15, 3) := by decide +kernel
theorem dX6_size_4 : decode cX6_size 4 = .ok (.ireturn, 1) := by decide +kernel
theorem dX6_at_0 : decode cX6_at 0 = .ok (.iload_n 1, 1) := by decide +kernel
theorem dX6_at_1 : decode cX6_at 1 = .ok (.ifCond .lt 20, 3) := by decide +kernel
theorem dX6_at_4 : decode cX6_at 4 = .ok (.iload_n 1, 1) := by decide +kernel
theorem dX6_at_5 : decode cX6_at 5 = .ok (.aload_n 0, 1) := by decide +kernel
theorem dX6_at_6 : decode cX6_at 6 = .ok (.getfield 15, 3) := by decide +kernel
theorem dX6_at_9 : decode cX6_at 9 = .ok (.if_icmp .ge 12, 3) := by decide +kernel
theorem dX6_at_12 : decode cX6_at 12 = .ok (.aload_n 0, 1) := by decide +kernel
theorem dX6_at_13 : decode cX6_at 13 = .ok (.getfield 9, 3) := by decide +kernel
theorem dX6_at_16 : decode cX6_at 16 = .ok (.iload_n 1, 1) := by decide +kernel
theorem dX6_at_17 : decode cX6_at 17 = .ok (.iaload, 1) := by decide +kernel
theorem dX6_at_18 : decode cX6_at 18 = .ok (.goto 4, 3) := by decide +kernel
theorem dX6_at_21 : decode cX6_at 21 = .ok (.iconst (-1), 1) := by decide +kernel
theorem dX6_at_22 : decode cX6_at 22 = .ok (.ireturn, 1) := by decide +kernel
theorem dX6_set_0 : decode cX6_set 0 = .ok (.iload_n 1, 1) := by decide +kernel
theorem dX6_set_1 : decode cX6_set 1 = .ok (.ifCond .lt 18, 3) := by decide +kernel
theorem dX6_set_4 : decode cX6_set 4 = .ok (.iload_n 1, 1) := by decide +kernel
theorem dX6_set_5 : decode cX6_set 5 = .ok (.aload_n 0, 1) := by decide +kernel
theorem dX6_set_6 : decode cX6_set 6 = .ok (.getfield 15, 3) := by decide +kernel
theorem dX6_set_9 : decode cX6_set 9 = .ok (.if_icmp .ge 10, 3) := by decide +kernel
theorem dX6_set_12 : decode cX6_set 12 = .ok (.aload_n 0, 1) := by decide +kernel
theorem dX6_set_13 : decode cX6_set 13 = .ok (.getfield 9, 3) := by decide +kernel
theorem dX6_set_16 : decode cX6_set 16 = .ok (.iload_n 1, 1) := by decide +kernel
theorem dX6_set_17 : decode cX6_set 17 = .ok (.iload_n 2, 1) := by decide +kernel
theorem dX6_set_18 : decode cX6_set 18 = .ok (.iastore, 1) := by decide +kernel
theorem dX6_set_19 : decode cX6_set 19 = .ok (.return_, 1) := by decide +kernel
theorem dX6_putIn_0 : decode cX6_putIn 0 = .ok (.iload_n 1, 1) := by decide +kernel
theorem dX6_putIn_1 : decode cX6_putIn 1 = .ok (.ifCond .lt 20, 3) := by decide +kernel
theorem dX6_putIn_4 : decode cX6_putIn 4 = .ok (.iload_n 1, 1) := by decide +kernel
theorem dX6_putIn_5 : decode cX6_putIn 5 = .ok (.aload_n 0, 1) := by decide +kernel
theorem dX6_putIn_6 : decode cX6_putIn 6 = .ok (.getfield 15, 3) := by decide +kernel
theorem dX6_putIn_9 : decode cX6_putIn 9 = .ok (.if_icmp .gt 12, 3) := by decide +kernel
theorem dX6_putIn_12 : decode cX6_putIn 12 = .ok (.aload_n 0, 1) := by decide +kernel
theorem dX6_putIn_13 : decode cX6_putIn 13 = .ok (.getfield 15, 3) := by decide +kernel
theorem dX6_putIn_16 : decode cX6_putIn 16 = .ok (.bipush 20, 2) := by decide +kernel
theorem dX6_putIn_18 : decode cX6_putIn 18 = .ok (.if_icmp .lt 4, 3) := by decide +kernel
theorem dX6_putIn_21 : decode cX6_putIn 21 = .ok (.return_, 1) := by decide +kernel
theorem dX6_putIn_22 : decode cX6_putIn 22 = .ok (.aload_n 0, 1) := by decide +kernel
theorem dX6_putIn_23 : decode cX6_putIn 23 = .ok (.getfield 15, 3) := by decide +kernel
theorem dX6_putIn_26 : decode cX6_putIn 26 = .ok (.istore_n 3, 1) := by decide +kernel
theorem dX6_putIn_27 : decode cX6_putIn 27 = .ok (.iload_n 3, 1) := by decide +kernel
theorem dX6_putIn_28 : decode cX6_putIn 28 = .ok (.iload_n 1, 1) := by decide +kernel
theorem dX6_putIn_29 : decode cX6_putIn 29 = .ok (.if_icmp .le 23, 3) := by decide +kernel
theorem dX6_putIn_32 : decode cX6_putIn 32 = .ok (.aload_n 0, 1) := by decide +kernel
theorem dX6_putIn_33 : decode cX6_putIn 33 = .ok (.getfield 9, 3) := by decide +kernel
theorem dX6_putIn_36 : decode cX6_putIn 36 = .ok (.iload_n 3, 1) := by decide +kernel
theorem dX6_putIn_37 : decode cX6_putIn 37 = .ok (.aload_n 0, 1) := by decide +kernel
theorem dX6_putIn_38 : decode cX6_putIn 38 = .ok (.getfield 9, 3) := by decide +kernel
theorem dX6_putIn_41 : decode cX6_putIn 41 = .ok (.iload_n 3, 1) := by decide +kernel
theorem dX6_putIn_42 : decode cX6_putIn 42 = .ok (.iconst 1, 1) := by decide +kernel
theorem dX6_putIn_43 : decode cX6_putIn 43 = .ok (.isub, 1) := by decide +kernel
theorem dX6_putIn_44 : decode cX6_putIn 44 = .ok (.iaload, 1) := by decide +kernel
theorem dX6_putIn_45 : decode cX6_putIn 45 = .ok (.iastore, 1) := by decide +kernel
theorem dX6_putIn_46 : decode cX6_putIn 46 = .ok (.iinc 3 (-1), 3) := by decide +kernel
theorem dX6_putIn_49 : decode cX6_putIn 49 = .ok (.goto (-22), 3) := by decide +kernel
theorem dX6_putIn_52 : decode cX6_putIn 52 = .ok (.aload_n 0, 1) := by decide +kernel
theorem dX6_putIn_53 : decode cX6_putIn 53 = .ok (.getfield 9, 3) := by decide +kernel
theorem dX6_putIn_56 : decode cX6_putIn 56 = .ok (.iload_n 1, 1) := by decide +kernel
theorem dX6_putIn_57 : decode cX6_putIn 57 = .ok (.iload_n 2, 1) := by decide +kernel
theorem dX6_putIn_58 : decode cX6_putIn 58 = .ok (.iastore, 1) := by decide +kernel
theorem dX6_putIn_59 : decode cX6_putIn 59 = .ok (.aload_n 0, 1) := by decide +kernel
theorem dX6_putIn_60 : decode cX6_putIn 60 = .ok (.dup, 1) := by decide +kernel
theorem dX6_putIn_61 : decode cX6_putIn 61 = .ok (.getfield 15, 3) := by decide +kernel
theorem dX6_putIn_64 : decode cX6_putIn 64 = .ok (.iconst 1, 1) := by decide +kernel
theorem dX6_putIn_65 : decode cX6_putIn 65 = .ok (.iadd, 1) := by decide +kernel
theorem dX6_putIn_66 : decode cX6_putIn 66 = .ok (.putfield 15, 3) := by decide +kernel
theorem dX6_putIn_69 : decode cX6_putIn 69 = .ok (.return_, 1) := by decide +kernel
theorem dX6_takeOut_0 : decode cX6_takeOut 0 = .ok (.iload_n 1, 1) := by decide +kernel
theorem dX6_takeOut_1 : decode cX6_takeOut 1 = .ok (.ifCond .lt 11, 3) := by decide +kernel
theorem dX6_takeOut_4 : decode cX6_takeOut 4 = .ok (.iload_n 1, 1) := by decide +kernel
theorem dX6_takeOut_5 : decode cX6_takeOut 5 = .ok (.aload_n 0, 1) := by decide +kernel
theorem dX6_takeOut_6 : decode cX6_takeOut 6 = .ok (.getfield 15, 3) := by decide +kernel
theorem dX6_takeOut_9 : decode cX6_takeOut 9 = .ok (.if_icmp .lt 4, 3) := by decide +kernel
theorem dX6_takeOut_12 : decode cX6_takeOut 12 = .ok (.return_, 1) := by decide +kernel
theorem dX6_takeOut_13 : decode cX6_takeOut 13 = .ok (.aload_n 0, 1) := by decide +kernel
theorem dX6_takeOut_14 : decode cX6_takeOut 14 = .ok (.dup, 1) := by decide +kernel
theorem dX6_takeOut_15 : decode cX6_takeOut 15 = .ok (.getfield 15, 3) := by decide +kernel
theorem dX6_takeOut_18 : decode cX6_takeOut 18 = .ok (.iconst 1, 1) := by decide +kernel
theorem dX6_takeOut_19 : decode cX6_takeOut 19 = .ok (.isub, 1) := by decide +kernel
theorem dX6_takeOut_20 : decode cX6_takeOut 20 = .ok (.putfield 15, 3) := by decide +kernel
theorem dX6_takeOut_23 : decode cX6_takeOut 23 = .ok (.iload_n 1, 1) := by decide +kernel
theorem dX6_takeOut_24 : decode cX6_takeOut 24 = .ok (.istore_n 2, 1) := by decide +kernel
theorem dX6_takeOut_25 : decode cX6_takeOut 25 = .ok (.iload_n 2, 1) := by decide +kernel
theorem dX6_takeOut_26 : decode cX6_takeOut 26 = .ok (.aload_n 0, 1) := by decide +kernel
theorem dX6_takeOut_27 : decode cX6_takeOut 27 = .ok (.getfield 15, 3) := by decide +kernel
theorem dX6_takeOut_30 : decode cX6_takeOut 30 = .ok (.if_icmp .ge 23, 3) := by decide +kernel
theorem dX6_takeOut_33 : decode cX6_takeOut 33 = .ok (.aload_n 0, 1) := by decide +kernel
theorem dX6_takeOut_34 : decode cX6_takeOut 34 = .ok (.getfield 9, 3) := by decide +kernel
theorem dX6_takeOut_37 : decode cX6_takeOut 37 = .ok (.iload_n 2, 1) := by decide +kernel
theorem dX6_takeOut_38 : decode cX6_takeOut 38 = .ok (.aload_n 0, 1) := by decide +kernel
theorem dX6_takeOut_39 : decode cX6_takeOut 39 = .ok (.getfield 9, 3) := by decide +kernel
theorem dX6_takeOut_42 : decode cX6_takeOut 42 = .ok (.iload_n 2, 1) := by decide +kernel
theorem dX6_takeOut_43 : decode cX6_takeOut 43 = .ok (.iconst 1, 1) := by decide +kernel
theorem dX6_takeOut_44 : decode cX6_takeOut 44 = .ok (.iadd, 1) := by decide +kernel
theorem dX6_takeOut_45 : decode cX6_takeOut 45 = .ok (.iaload, 1) := by decide +kernel
theorem dX6_takeOut_46 : decode cX6_takeOut 46 = .ok (.iastore, 1) := by decide +kernel
theorem dX6_takeOut_47 : decode cX6_takeOut 47 = .ok (.iinc 2 1, 3) := by decide +kernel
theorem dX6_takeOut_50 : decode cX6_takeOut 50 = .ok (.goto (-25), 3) := by decide +kernel
theorem dX6_takeOut_53 : decode cX6_takeOut 53 = .ok (.return_, 1) := by decide +kernel
theorem dX6_empty_0 : decode cX6_empty 0 = .ok (.aload_n 0, 1) := by decide +kernel
theorem dX6_empty_1 : decode cX6_empty 1 = .ok (.iconst 0, 1) := by decide +kernel
theorem dX6_empty_2 : decode cX6_empty 2 = .ok (.putfield 15, 3) := by decide +kernel
theorem dX6_empty_5 : decode cX6_empty 5 = .ok (.return_, 1) := by decide +kernel
theorem dX6_copyFrom_0 : decode cX6_copyFrom 0 = .ok (.aload_n 0, 1) := by decide +kernel
theorem dX6_copyFrom_1 : decode cX6_copyFrom 1 = .ok (.invokevirtual 19, 3) := by decide +kernel
theorem dX6_copyFrom_4 : decode cX6_copyFrom 4 = .ok (.iconst 0, 1) := by decide +kernel
theorem dX6_copyFrom_5 : decode cX6_copyFrom 5 = .ok (.istore_n 2, 1) := by decide +kernel
theorem dX6_copyFrom_6 : decode cX6_copyFrom 6 = .ok (.iload_n 2, 1) := by decide +kernel
theorem dX6_copyFrom_7 : decode cX6_copyFrom 7 = .ok (.aload_n 1, 1) := by decide +kernel
theorem dX6_copyFrom_8 : decode cX6_copyFrom 8 = .ok (.invokevirtual 22, 3) := by decide +kernel
theorem dX6_copyFrom_11 : decode cX6_copyFrom 11 = .ok (.if_icmp .ge 19, 3) := by decide +kernel
theorem dX6_copyFrom_14 : decode cX6_copyFrom 14 = .ok (.aload_n 0, 1) := by decide +kernel
theorem dX6_copyFrom_15 : decode cX6_copyFrom 15 = .ok (.iload_n 2, 1) := by decide +kernel
theorem dX6_copyFrom_16 : decode cX6_copyFrom 16 = .ok (.aload_n 1, 1) := by decide +kernel
theorem dX6_copyFrom_17 : decode cX6_copyFrom 17 = .ok (.iload_n 2, 1) := by decide +kernel
theorem dX6_copyFrom_18 : decode cX6_copyFrom 18 = .ok (.invokevirtual 25, 3) := by decide +kernel
theorem dX6_copyFrom_21 : decode cX6_copyFrom 21 = .ok (.invokevirtual 29, 3) := by decide +kernel
theorem dX6_copyFrom_24 : decode cX6_copyFrom 24 = .ok (.iinc 2 1, 3) := by decide +kernel
theorem dX6_copyFrom_27 : decode cX6_copyFrom 27 = .ok (.goto (-21), 3) := by decide +kernel
theorem dX6_copyFrom_30 : decode cX6_copyFrom 30 = .ok (.return_, 1) := by decide +kernel
theorem dX6_copyBackward_0 : decode cX6_copyBackward 0 = .ok (.aload_n 0, 1) := by decide +kernel
theorem dX6_copyBackward_1 : decode cX6_copyBackward 1 = .ok (.invokevirtual 19, 3) := by decide +kernel
theorem dX6_copyBackward_4 : decode cX6_copyBackward 4 = .ok (.iconst 0, 1) := by decide +kernel
theorem dX6_copyBackward_5 : decode cX6_copyBackward 5 = .ok (.istore_n 2, 1) := by decide +kernel
theorem dX6_copyBackward_6 : decode cX6_copyBackward 6 = .ok (.iload_n 2, 1) := by decide +kernel
theorem dX6_copyBackward_7 : decode cX6_copyBackward 7 = .ok (.aload_n 1, 1) := by decide +kernel
theorem dX6_copyBackward_8 : decode cX6_copyBackward 8 = .ok (.invokevirtual 22, 3) := by decide +kernel
theorem dX6_copyBackward_11 : decode cX6_copyBackward 11 = .ok (.if_icmp .ge 26, 3) := by decide +kernel
theorem dX6_copyBackward_14 : decode cX6_copyBackward 14 = .ok (.aload_n 0, 1) := by decide +kernel
theorem dX6_copyBackward_15 : decode cX6_copyBackward 15 = .ok (.iload_n 2, 1) := by decide +kernel
theorem dX6_copyBackward_16 : decode cX6_copyBackward 16 = .ok (.aload_n 1, 1) := by decide +kernel
theorem dX6_copyBackward_17 : decode cX6_copyBackward 17 = .ok (.aload_n 1, 1) := by decide +kernel
theorem dX6_copyBackward_18 : decode cX6_copyBackward 18 = .ok (.invokevirtual 22, 3) := by decide +kernel
theorem dX6_copyBackward_21 : decode cX6_copyBackward 21 = .ok (.iconst 1, 1) := by decide +kernel
theorem dX6_copyBackward_22 : decode cX6_copyBackward 22 = .ok (.isub, 1) := by decide +kernel
theorem dX6_copyBackward_23 : decode cX6_copyBackward 23 = .ok (.iload_n 2, 1) := by decide +kernel
theorem dX6_copyBackward_24 : decode cX6_copyBackward 24 = .ok (.isub, 1) := by decide +kernel
theorem dX6_copyBackward_25 : decode cX6_copyBackward 25 = .ok (.invokevirtual 25, 3) := by decide +kernel
theorem dX6_copyBackward_28 : decode cX6_copyBackward 28 = .ok (.invokevirtual 29, 3) := by decide +kernel
theorem dX6_copyBackward_31 : decode cX6_copyBackward 31 = .ok (.iinc 2 1, 3) := by decide +kernel
theorem dX6_copyBackward_34 : decode cX6_copyBackward 34 = .ok (.goto (-28), 3) := by decide +kernel
theorem dX6_copyBackward_37 : decode cX6_copyBackward 37 = .ok (.return_, 1) := by decide +kernel
theorem dX6_keepsTo_0 : decode cX6_keepsTo 0 = .ok (.iconst 0, 1) := by decide +kernel
theorem dX6_keepsTo_1 : decode cX6_keepsTo 1 = .ok (.istore_n 2, 1) := by decide +kernel
theorem dX6_keepsTo_2 : decode cX6_keepsTo 2 = .ok (.iload_n 2, 1) := by decide +kernel
theorem dX6_keepsTo_3 : decode cX6_keepsTo 3 = .ok (.aload_n 0, 1) := by decide +kernel
theorem dX6_keepsTo_4 : decode cX6_keepsTo 4 = .ok (.getfield 15, 3) := by decide +kernel
theorem dX6_keepsTo_7 : decode cX6_keepsTo 7 = .ok (.if_icmp .ge 20, 3) := by decide +kernel
theorem dX6_keepsTo_10 : decode cX6_keepsTo 10 = .ok (.aload_n 0, 1) := by decide +kernel
theorem dX6_keepsTo_11 : decode cX6_keepsTo 11 = .ok (.iload_n 2, 1) := by decide +kernel
theorem dX6_keepsTo_12 : decode cX6_keepsTo 12 = .ok (.invokevirtual 25, 3) := by decide +kernel
theorem dX6_keepsTo_15 : decode cX6_keepsTo 15 = .ok (.iload_n 1, 1) := by decide +kernel
theorem dX6_keepsTo_16 : decode cX6_keepsTo 16 = .ok (.if_icmp .lt 5, 3) := by decide +kernel
theorem dX6_keepsTo_19 : decode cX6_keepsTo 19 = .ok (.iconst 0, 1) := by decide +kernel
theorem dX6_keepsTo_20 : decode cX6_keepsTo 20 = .ok (.ireturn, 1) := by decide +kernel
theorem dX6_keepsTo_21 : decode cX6_keepsTo 21 = .ok (.iinc 2 1, 3) := by decide +kernel
theorem dX6_keepsTo_24 : decode cX6_keepsTo 24 = .ok (.goto (-22), 3) := by decide +kernel
theorem dX6_keepsTo_27 : decode cX6_keepsTo 27 = .ok (.iconst 1, 1) := by decide +kernel
theorem dX6_keepsTo_28 : decode cX6_keepsTo 28 = .ok (.ireturn, 1) := by decide +kernel
theorem dX7_init_0 : decode cX7_init 0 = .ok (.aload_n 0, 1) := by decide +kernel
theorem dX7_init_1 : decode cX7_init 1 = .ok (.invokespecial 3, 3) := by decide +kernel
theorem dX7_init_4 : decode cX7_init 4 = .ok (.aload_n 0, 1) := by decide +kernel
theorem dX7_init_5 : decode cX7_init 5 = .ok (.bipush 40, 2) := by decide +kernel
theorem dX7_init_7 : decode cX7_init 7 = .ok (.newarray .int, 2) := by decide +kernel
theorem dX7_init_9 : decode cX7_init 9 = .ok (.putfield 11, 3) := by decide +kernel
theorem dX7_init_12 : decode cX7_init 12 = .ok (.aload_n 0, 1) := by decide +kernel
theorem dX7_init_13 : decode cX7_init 13 = .ok (.iconst 0, 1) := by decide +kernel
theorem dX7_init_14 : decode cX7_init 14 = .ok (.putfield 15, 3) := by decide +kernel
theorem dX7_init_17 : decode cX7_init 17 = .ok (.return_, 1) := by decide +kernel
theorem dX7_size_0 : decode cX7_size 0 = .ok (.aload_n 0, 1) := by decide +kernel
theorem dX7_size_1 : decode cX7_size 1 = .ok (.getfield 15, 3) := by decide +kernel
theorem dX7_size_4 : decode cX7_size 4 = .ok (.ireturn, 1) := by decide +kernel
theorem dX7_at_0 : decode cX7_at 0 = .ok (.iload_n 1, 1) := by decide +kernel
theorem dX7_at_1 : decode cX7_at 1 = .ok (.ifCond .lt 27, 3) := by decide +kernel
theorem dX7_at_4 : decode cX7_at 4 = .ok (.iload_n 1, 1) := by decide +kernel
theorem dX7_at_5 : decode cX7_at 5 = .ok (.aload_n 0, 1) := by decide +kernel
theorem dX7_at_6 : decode cX7_at 6 = .ok (.getfield 15, 3) := by decide +kernel
theorem dX7_at_9 : decode cX7_at 9 = .ok (.if_icmp .ge 19, 3) := by decide +kernel
theorem dX7_at_12 : decode cX7_at 12 = .ok (.aload_n 0, 1) := by decide +kernel
theorem dX7_at_13 : decode cX7_at 13 = .ok (.getfield 11, 3) := by decide +kernel
theorem dX7_at_16 : decode cX7_at 16 = .ok (.aload_n 0, 1) := by decide +kernel
theorem dX7_at_17 : decode cX7_at 17 = .ok (.getfield 15, 3) := by decide +kernel
theorem dX7_at_20 : decode cX7_at 20 = .ok (.iconst 1, 1) := by decide +kernel
theorem dX7_at_21 : decode cX7_at 21 = .ok (.isub, 1) := by decide +kernel
theorem dX7_at_22 : decode cX7_at 22 = .ok (.iload_n 1, 1) := by decide +kernel
theorem dX7_at_23 : decode cX7_at 23 = .ok (.isub, 1) := by decide +kernel
theorem dX7_at_24 : decode cX7_at 24 = .ok (.iaload, 1) := by decide +kernel
theorem dX7_at_25 : decode cX7_at 25 = .ok (.goto 4, 3) := by decide +kernel
theorem dX7_at_28 : decode cX7_at 28 = .ok (.iconst (-1), 1) := by decide +kernel
theorem dX7_at_29 : decode cX7_at 29 = .ok (.ireturn, 1) := by decide +kernel
theorem dX7_stepsOf_0 : decode cX7_stepsOf 0 = .ok (.iconst 0, 1) := by decide +kernel
theorem dX7_stepsOf_1 : decode cX7_stepsOf 1 = .ok (.istore_n 2, 1) := by decide +kernel
theorem dX7_stepsOf_2 : decode cX7_stepsOf 2 = .ok (.iconst 0, 1) := by decide +kernel
theorem dX7_stepsOf_3 : decode cX7_stepsOf 3 = .ok (.istore_n 3, 1) := by decide +kernel
theorem dX7_stepsOf_4 : decode cX7_stepsOf 4 = .ok (.iload_n 3, 1) := by decide +kernel
theorem dX7_stepsOf_5 : decode cX7_stepsOf 5 = .ok (.aload_n 0, 1) := by decide +kernel
theorem dX7_stepsOf_6 : decode cX7_stepsOf 6 = .ok (.getfield 15, 3) := by decide +kernel
theorem dX7_stepsOf_9 : decode cX7_stepsOf 9 = .ok (.if_icmp .ge 21, 3) := by decide +kernel
theorem dX7_stepsOf_12 : decode cX7_stepsOf 12 = .ok (.aload_n 0, 1) := by decide +kernel
theorem dX7_stepsOf_13 : decode cX7_stepsOf 13 = .ok (.iload_n 3, 1) := by decide +kernel
theorem dX7_stepsOf_14 : decode cX7_stepsOf 14 = .ok (.invokevirtual 19, 3) := by decide +kernel
theorem dX7_stepsOf_17 : decode cX7_stepsOf 17 = .ok (.iload_n 1, 1) := by decide +kernel
theorem dX7_stepsOf_18 : decode cX7_stepsOf 18 = .ok (.if_icmp .ne 6, 3) := by decide +kernel
theorem dX7_stepsOf_21 : decode cX7_stepsOf 21 = .ok (.iinc 2 1, 3) := by decide +kernel
theorem dX7_stepsOf_24 : decode cX7_stepsOf 24 = .ok (.iinc 3 1, 3) := by decide +kernel
theorem dX7_stepsOf_27 : decode cX7_stepsOf 27 = .ok (.goto (-23), 3) := by decide +kernel
theorem dX7_stepsOf_30 : decode cX7_stepsOf 30 = .ok (.iload_n 2, 1) := by decide +kernel
theorem dX7_stepsOf_31 : decode cX7_stepsOf 31 = .ok (.ireturn, 1) := by decide +kernel
theorem dX7_find_0 : decode cX7_find 0 = .ok (.aload_n 2, 1) := by decide +kernel
theorem dX7_find_1 : decode cX7_find 1 = .ok (.invokevirtual 23, 3) := by decide +kernel
theorem dX7_find_4 : decode cX7_find 4 = .ok (.istore 4, 2) := by decide +kernel
theorem dX7_find_6 : decode cX7_find 6 = .ok (.aload_n 3, 1) := by decide +kernel
theorem dX7_find_7 : decode cX7_find 7 = .ok (.invokevirtual 23, 3) := by decide +kernel
theorem dX7_find_10 : decode cX7_find 10 = .ok (.istore 5, 2) := by decide +kernel
theorem dX7_find_12 : decode cX7_find 12 = .ok (.aload_n 0, 1) := by decide +kernel
theorem dX7_find_13 : decode cX7_find 13 = .ok (.iconst 0, 1) := by decide +kernel
theorem dX7_find_14 : decode cX7_find 14 = .ok (.putfield 15, 3) := by decide +kernel
theorem dX7_find_17 : decode cX7_find 17 = .ok (.iload 4, 2) := by decide +kernel
theorem dX7_find_19 : decode cX7_find 19 = .ok (.ifCond .gt 8, 3) := by decide +kernel
theorem dX7_find_22 : decode cX7_find 22 = .ok (.iload 5, 2) := by decide +kernel
theorem dX7_find_24 : decode cX7_find 24 = .ok (.ifCond .le 83, 3) := by decide +kernel
theorem dX7_find_27 : decode cX7_find 27 = .ok (.aload_n 0, 1) := by decide +kernel
theorem dX7_find_28 : decode cX7_find 28 = .ok (.getfield 15, 3) := by decide +kernel
theorem dX7_find_31 : decode cX7_find 31 = .ok (.bipush 40, 2) := by decide +kernel
theorem dX7_find_33 : decode cX7_find 33 = .ok (.if_icmp .ge 74, 3) := by decide +kernel
theorem dX7_find_36 : decode cX7_find 36 = .ok (.aload_n 1, 1) := by decide +kernel
theorem dX7_find_37 : decode cX7_find 37 = .ok (.iload 4, 2) := by decide +kernel
theorem dX7_find_39 : decode cX7_find 39 = .ok (.iload 5, 2) := by decide +kernel
theorem dX7_find_41 : decode cX7_find 41 = .ok (.aload_n 2, 1) := by decide +kernel
theorem dX7_find_42 : decode cX7_find 42 = .ok (.iload 4, 2) := by decide +kernel
theorem dX7_find_44 : decode cX7_find 44 = .ok (.iconst 1, 1) := by decide +kernel
theorem dX7_find_45 : decode cX7_find 45 = .ok (.isub, 1) := by decide +kernel
theorem dX7_find_46 : decode cX7_find 46 = .ok (.invokevirtual 28, 3) := by decide +kernel
theorem dX7_find_49 : decode cX7_find 49 = .ok (.aload_n 3, 1) := by decide +kernel
theorem dX7_find_50 : decode cX7_find 50 = .ok (.iload 5, 2) := by decide +kernel
theorem dX7_find_52 : decode cX7_find 52 = .ok (.iconst 1, 1) := by decide +kernel
theorem dX7_find_53 : decode cX7_find 53 = .ok (.isub, 1) := by decide +kernel
theorem dX7_find_54 : decode cX7_find 54 = .ok (.invokevirtual 28, 3) := by decide +kernel
theorem dX7_find_57 : decode cX7_find 57 = .ok (.invokestatic 29, 3) := by decide +kernel
theorem dX7_find_60 : decode cX7_find 60 = .ok (.invokestatic 33, 3) := by decide +kernel
theorem dX7_find_63 : decode cX7_find 63 = .ok (.istore 6, 2) := by decide +kernel
theorem dX7_find_65 : decode cX7_find 65 = .ok (.aload_n 0, 1) := by decide +kernel
theorem dX7_find_66 : decode cX7_find 66 = .ok (.getfield 11, 3) := by decide +kernel
theorem dX7_find_69 : decode cX7_find 69 = .ok (.aload_n 0, 1) := by decide +kernel
theorem dX7_find_70 : decode cX7_find 70 = .ok (.getfield 15, 3) := by decide +kernel
theorem dX7_find_73 : decode cX7_find 73 = .ok (.iload 6, 2) := by decide +kernel
theorem dX7_find_75 : decode cX7_find 75 = .ok (.iastore, 1) := by decide +kernel
theorem dX7_find_76 : decode cX7_find 76 = .ok (.aload_n 0, 1) := by decide +kernel
theorem dX7_find_77 : decode cX7_find 77 = .ok (.dup, 1) := by decide +kernel
theorem dX7_find_78 : decode cX7_find 78 = .ok (.getfield 15, 3) := by decide +kernel
theorem dX7_find_81 : decode cX7_find 81 = .ok (.iconst 1, 1) := by decide +kernel
theorem dX7_find_82 : decode cX7_find 82 = .ok (.iadd, 1) := by decide +kernel
theorem dX7_find_83 : decode cX7_find 83 = .ok (.putfield 15, 3) := by decide +kernel
theorem dX7_find_86 : decode cX7_find 86 = .ok (.iload 6, 2) := by decide +kernel
theorem dX7_find_88 : decode cX7_find 88 = .ok (.iconst 3, 1) := by decide +kernel
theorem dX7_find_89 : decode cX7_find 89 = .ok (.if_icmp .eq 6, 3) := by decide +kernel
theorem dX7_find_92 : decode cX7_find 92 = .ok (.iinc 4 (-1), 3) := by decide +kernel
theorem dX7_find_95 : decode cX7_find 95 = .ok (.iload 6, 2) := by decide +kernel
theorem dX7_find_97 : decode cX7_find 97 = .ok (.iconst 2, 1) := by decide +kernel
theorem dX7_find_98 : decode cX7_find 98 = .ok (.if_icmp .eq 6, 3) := by decide +kernel
theorem dX7_find_101 : decode cX7_find 101 = .ok (.iinc 5 (-1), 3) := by decide +kernel
theorem dX7_find_104 : decode cX7_find 104 = .ok (.goto (-87), 3) := by decide +kernel
theorem dX7_find_107 : decode cX7_find 107 = .ok (.return_, 1) := by decide +kernel
theorem dX7_lastStep_0 : decode cX7_lastStep 0 = .ok (.aload_n 0, 1) := by decide +kernel
theorem dX7_lastStep_1 : decode cX7_lastStep 1 = .ok (.iload_n 1, 1) := by decide +kernel
theorem dX7_lastStep_2 : decode cX7_lastStep 2 = .ok (.iload_n 2, 1) := by decide +kernel
theorem dX7_lastStep_3 : decode cX7_lastStep 3 = .ok (.invokevirtual 37, 3) := by decide +kernel
theorem dX7_lastStep_6 : decode cX7_lastStep 6 = .ok (.istore 4, 2) := by decide +kernel
theorem dX7_lastStep_8 : decode cX7_lastStep 8 = .ok (.iload_n 1, 1) := by decide +kernel
theorem dX7_lastStep_9 : decode cX7_lastStep 9 = .ok (.ifCond .le 26, 3) := by decide +kernel
theorem dX7_lastStep_12 : decode cX7_lastStep 12 = .ok (.iload_n 2, 1) := by decide +kernel
theorem dX7_lastStep_13 : decode cX7_lastStep 13 = .ok (.ifCond .le 22, 3) := by decide +kernel
theorem dX7_lastStep_16 : decode cX7_lastStep 16 = .ok (.iload 4, 2) := by decide +kernel
theorem dX7_lastStep_18 : decode cX7_lastStep 18 = .ok (.aload_n 0, 1) := by decide +kernel
theorem dX7_lastStep_19 : decode cX7_lastStep 19 = .ok (.iload_n 1, 1) := by decide +kernel
theorem dX7_lastStep_20 : decode cX7_lastStep 20 = .ok (.iconst 1, 1) := by decide +kernel
theorem dX7_lastStep_21 : decode cX7_lastStep 21 = .ok (.isub, 1) := by decide +kernel
theorem dX7_lastStep_22 : decode cX7_lastStep 22 = .ok (.iload_n 2, 1) := by decide +kernel
theorem dX7_lastStep_23 : decode cX7_lastStep 23 = .ok (.iconst 1, 1) := by decide +kernel
theorem dX7_lastStep_24 : decode cX7_lastStep 24 = .ok (.isub, 1) := by decide +kernel
theorem dX7_lastStep_25 : decode cX7_lastStep 25 = .ok (.invokevirtual 37, 3) := by decide +kernel
theorem dX7_lastStep_28 : decode cX7_lastStep 28 = .ok (.iload_n 3, 1) := by decide +kernel
theorem dX7_lastStep_29 : decode cX7_lastStep 29 = .ok (.iadd, 1) := by decide +kernel
theorem dX7_lastStep_30 : decode cX7_lastStep 30 = .ok (.if_icmp .ne 5, 3) := by decide +kernel
theorem dX7_lastStep_33 : decode cX7_lastStep 33 = .ok (.iload_n 3, 1) := by decide +kernel
theorem dX7_lastStep_34 : decode cX7_lastStep 34 = .ok (.ireturn, 1) := by decide +kernel
theorem dX7_lastStep_35 : decode cX7_lastStep 35 = .ok (.iload_n 1, 1) := by decide +kernel
theorem dX7_lastStep_36 : decode cX7_lastStep 36 = .ok (.ifCond .le 20, 3) := by decide +kernel
theorem dX7_lastStep_39 : decode cX7_lastStep 39 = .ok (.iload 4, 2) := by decide +kernel
theorem dX7_lastStep_41 : decode cX7_lastStep 41 = .ok (.aload_n 0, 1) := by decide +kernel
theorem dX7_lastStep_42 : decode cX7_lastStep 42 = .ok (.iload_n 1, 1) := by decide +kernel
theorem dX7_lastStep_43 : decode cX7_lastStep 43 = .ok (.iconst 1, 1) := by decide +kernel
theorem dX7_lastStep_44 : decode cX7_lastStep 44 = .ok (.isub, 1) := by decide +kernel
theorem dX7_lastStep_45 : decode cX7_lastStep 45 = .ok (.iload_n 2, 1) := by decide +kernel
theorem dX7_lastStep_46 : decode cX7_lastStep 46 = .ok (.invokevirtual 37, 3) := by decide +kernel
theorem dX7_lastStep_49 : decode cX7_lastStep 49 = .ok (.iconst 1, 1) := by decide +kernel
theorem dX7_lastStep_50 : decode cX7_lastStep 50 = .ok (.iadd, 1) := by decide +kernel
theorem dX7_lastStep_51 : decode cX7_lastStep 51 = .ok (.if_icmp .ne 5, 3) := by decide +kernel
theorem dX7_lastStep_54 : decode cX7_lastStep 54 = .ok (.iconst 2, 1) := by decide +kernel
theorem dX7_lastStep_55 : decode cX7_lastStep 55 = .ok (.ireturn, 1) := by decide +kernel
theorem dX7_lastStep_56 : decode cX7_lastStep 56 = .ok (.iconst 3, 1) := by decide +kernel
theorem dX7_lastStep_57 : decode cX7_lastStep 57 = .ok (.ireturn, 1) := by decide +kernel
theorem dX8_init_0 : decode cX8_init 0 = .ok (.aload_n 0, 1) := by decide +kernel
theorem dX8_init_1 : decode cX8_init 1 = .ok (.invokespecial 1, 3) := by decide +kernel
theorem dX8_init_4 : decode cX8_init 4 = .ok (.aload_n 0, 1) := by decide +kernel
theorem dX8_init_5 : decode cX8_init 5 = .ok (.new 7, 3) := by decide +kernel
theorem dX8_init_8 : decode cX8_init 8 = .ok (.dup, 1) := by decide +kernel
theorem dX8_init_9 : decode cX8_init 9 = .ok (.invokespecial 9, 3) := by decide +kernel
theorem dX8_init_12 : decode cX8_init 12 = .ok (.putfield 10, 3) := by decide +kernel
theorem dX8_init_15 : decode cX8_init 15 = .ok (.aload_n 0, 1) := by decide +kernel
theorem dX8_init_16 : decode cX8_init 16 = .ok (.new 16, 3) := by decide +kernel
theorem dX8_init_19 : decode cX8_init 19 = .ok (.dup, 1) := by decide +kernel
theorem dX8_init_20 : decode cX8_init 20 = .ok (.invokespecial 18, 3) := by decide +kernel
theorem dX8_init_23 : decode cX8_init 23 = .ok (.putfield 19, 3) := by decide +kernel
theorem dX8_init_26 : decode cX8_init 26 = .ok (.aload_n 0, 1) := by decide +kernel
theorem dX8_init_27 : decode cX8_init 27 = .ok (.new 23, 3) := by decide +kernel
theorem dX8_init_30 : decode cX8_init 30 = .ok (.dup, 1) := by decide +kernel
theorem dX8_init_31 : decode cX8_init 31 = .ok (.invokespecial 25, 3) := by decide +kernel
theorem dX8_init_34 : decode cX8_init 34 = .ok (.putfield 26, 3) := by decide +kernel
theorem dX8_init_37 : decode cX8_init 37 = .ok (.aload_n 0, 1) := by decide +kernel
theorem dX8_init_38 : decode cX8_init 38 = .ok (.new 30, 3) := by decide +kernel
theorem dX8_init_41 : decode cX8_init 41 = .ok (.dup, 1) := by decide +kernel
theorem dX8_init_42 : decode cX8_init 42 = .ok (.invokespecial 32, 3) := by decide +kernel
theorem dX8_init_45 : decode cX8_init 45 = .ok (.putfield 33, 3) := by decide +kernel
theorem dX8_init_48 : decode cX8_init 48 = .ok (.aload_n 0, 1) := by decide +kernel
theorem dX8_init_49 : decode cX8_init 49 = .ok (.new 30, 3) := by decide +kernel
theorem dX8_init_52 : decode cX8_init 52 = .ok (.dup, 1) := by decide +kernel
theorem dX8_init_53 : decode cX8_init 53 = .ok (.invokespecial 32, 3) := by decide +kernel
theorem dX8_init_56 : decode cX8_init 56 = .ok (.putfield 37, 3) := by decide +kernel
theorem dX8_init_59 : decode cX8_init 59 = .ok (.aload_n 0, 1) := by decide +kernel
theorem dX8_init_60 : decode cX8_init 60 = .ok (.new 40, 3) := by decide +kernel
theorem dX8_init_63 : decode cX8_init 63 = .ok (.dup, 1) := by decide +kernel
theorem dX8_init_64 : decode cX8_init 64 = .ok (.invokespecial 42, 3) := by decide +kernel
theorem dX8_init_67 : decode cX8_init 67 = .ok (.putfield 43, 3) := by decide +kernel
theorem dX8_init_70 : decode cX8_init 70 = .ok (.aload_n 0, 1) := by decide +kernel
theorem dX8_init_71 : decode cX8_init 71 = .ok (.new 47, 3) := by decide +kernel
theorem dX8_init_74 : decode cX8_init 74 = .ok (.dup, 1) := by decide +kernel
theorem dX8_init_75 : decode cX8_init 75 = .ok (.invokespecial 49, 3) := by decide +kernel
theorem dX8_init_78 : decode cX8_init 78 = .ok (.putfield 50, 3) := by decide +kernel
theorem dX8_init_81 : decode cX8_init 81 = .ok (.aload_n 0, 1) := by decide +kernel
theorem dX8_init_82 : decode cX8_init 82 = .ok (.new 47, 3) := by decide +kernel
theorem dX8_init_85 : decode cX8_init 85 = .ok (.dup, 1) := by decide +kernel
theorem dX8_init_86 : decode cX8_init 86 = .ok (.invokespecial 49, 3) := by decide +kernel
theorem dX8_init_89 : decode cX8_init 89 = .ok (.putfield 54, 3) := by decide +kernel
theorem dX8_init_92 : decode cX8_init 92 = .ok (.aload_n 0, 1) := by decide +kernel
theorem dX8_init_93 : decode cX8_init 93 = .ok (.new 57, 3) := by decide +kernel
theorem dX8_init_96 : decode cX8_init 96 = .ok (.dup, 1) := by decide +kernel
theorem dX8_init_97 : decode cX8_init 97 = .ok (.invokespecial 59, 3) := by decide +kernel
theorem dX8_init_100 : decode cX8_init 100 = .ok (.putfield 60, 3) := by decide +kernel
theorem dX8_init_103 : decode cX8_init 103 = .ok (.return_, 1) := by decide +kernel
theorem dX8_load_0 : decode cX8_load 0 = .ok (.aload_n 0, 1) := by decide +kernel
theorem dX8_load_1 : decode cX8_load 1 = .ok (.getfield 26, 3) := by decide +kernel
theorem dX8_load_4 : decode cX8_load 4 = .ok (.invokevirtual 64, 3) := by decide +kernel
theorem dX8_load_7 : decode cX8_load 7 = .ok (.ifCond .eq 20, 3) := by decide +kernel
theorem dX8_load_10 : decode cX8_load 10 = .ok (.aload_n 0, 1) := by decide +kernel
theorem dX8_load_11 : decode cX8_load 11 = .ok (.getfield 26, 3) := by decide +kernel
theorem dX8_load_14 : decode cX8_load 14 = .ok (.aload_n 0, 1) := by decide +kernel
theorem dX8_load_15 : decode cX8_load 15 = .ok (.getfield 10, 3) := by decide +kernel
theorem dX8_load_18 : decode cX8_load 18 = .ok (.invokevirtual 68, 3) := by decide +kernel
theorem dX8_load_21 : decode cX8_load 21 = .ok (.invokevirtual 72, 3) := by decide +kernel
theorem dX8_load_24 : decode cX8_load 24 = .ok (.ifCond .ne 13, 3) := by decide +kernel
theorem dX8_load_27 : decode cX8_load 27 = .ok (.new 76, 3) := by decide +kernel
theorem dX8_load_30 : decode cX8_load 30 = .ok (.dup, 1) := by decide +kernel
theorem dX8_load_31 : decode cX8_load 31 = .ok (.ldc 78, 2) := by decide +kernel
theorem dX8_load_33 : decode cX8_load 33 = .ok (.invokespecial 80, 3) := by decide +kernel
theorem dX8_load_36 : decode cX8_load 36 = .ok (.athrow, 1) := by decide +kernel
theorem dX8_load_37 : decode cX8_load 37 = .ok (.aload_n 0, 1) := by decide +kernel
theorem dX8_load_38 : decode cX8_load 38 = .ok (.getfield 19, 3) := by decide +kernel
theorem dX8_load_41 : decode cX8_load 41 = .ok (.aload_n 0, 1) := by decide +kernel
theorem dX8_load_42 : decode cX8_load 42 = .ok (.getfield 10, 3) := by decide +kernel
theorem dX8_load_45 : decode cX8_load 45 = .ok (.invokevirtual 83, 3) := by decide +kernel
theorem dX8_load_48 : decode cX8_load 48 = .ok (.aload_n 0, 1) := by decide +kernel
theorem dX8_load_49 : decode cX8_load 49 = .ok (.getfield 26, 3) := by decide +kernel
theorem dX8_load_52 : decode cX8_load 52 = .ok (.aload_n 0, 1) := by decide +kernel
theorem dX8_load_53 : decode cX8_load 53 = .ok (.getfield 10, 3) := by decide +kernel
theorem dX8_load_56 : decode cX8_load 56 = .ok (.iconst 0, 1) := by decide +kernel
theorem dX8_load_57 : decode cX8_load 57 = .ok (.invokevirtual 87, 3) := by decide +kernel
theorem dX8_load_60 : decode cX8_load 60 = .ok (.aload_n 0, 1) := by decide +kernel
theorem dX8_load_61 : decode cX8_load 61 = .ok (.getfield 10, 3) := by decide +kernel
theorem dX8_load_64 : decode cX8_load 64 = .ok (.iconst 1, 1) := by decide +kernel
theorem dX8_load_65 : decode cX8_load 65 = .ok (.invokevirtual 87, 3) := by decide +kernel
theorem dX8_load_68 : decode cX8_load 68 = .ok (.invokevirtual 91, 3) := by decide +kernel
theorem dX8_load_71 : decode cX8_load 71 = .ok (.aload_n 0, 1) := by decide +kernel
theorem dX8_load_72 : decode cX8_load 72 = .ok (.getfield 10, 3) := by decide +kernel
theorem dX8_load_75 : decode cX8_load 75 = .ok (.iconst 0, 1) := by decide +kernel
theorem dX8_load_76 : decode cX8_load 76 = .ok (.invokevirtual 87, 3) := by decide +kernel
theorem dX8_load_79 : decode cX8_load 79 = .ok (.invokevirtual 95, 3) := by decide +kernel
theorem dX8_load_82 : decode cX8_load 82 = .ok (.aload_n 0, 1) := by decide +kernel
theorem dX8_load_83 : decode cX8_load 83 = .ok (.getfield 10, 3) := by decide +kernel
theorem dX8_load_86 : decode cX8_load 86 = .ok (.iconst 1, 1) := by decide +kernel
theorem dX8_load_87 : decode cX8_load 87 = .ok (.invokevirtual 87, 3) := by decide +kernel
theorem dX8_load_90 : decode cX8_load 90 = .ok (.invokevirtual 95, 3) := by decide +kernel
theorem dX8_load_93 : decode cX8_load 93 = .ok (.iadd, 1) := by decide +kernel
theorem dX8_load_94 : decode cX8_load 94 = .ok (.ireturn, 1) := by decide +kernel
theorem dX8_insert_0 : decode cX8_insert 0 = .ok (.aload_n 0, 1) := by decide +kernel
theorem dX8_insert_1 : decode cX8_insert 1 = .ok (.iload_n 1, 1) := by decide +kernel
theorem dX8_insert_2 : decode cX8_insert 2 = .ok (.invokevirtual 100, 3) := by decide +kernel
theorem dX8_insert_5 : decode cX8_insert 5 = .ok (.astore 4, 2) := by decide +kernel
theorem dX8_insert_7 : decode cX8_insert 7 = .ok (.iload_n 2, 1) := by decide +kernel
theorem dX8_insert_8 : decode cX8_insert 8 = .ok (.ifCond .lt 12, 3) := by decide +kernel
theorem dX8_insert_11 : decode cX8_insert 11 = .ok (.iload_n 2, 1) := by decide +kernel
theorem dX8_insert_12 : decode cX8_insert 12 = .ok (.aload 4, 2) := by decide +kernel
theorem dX8_insert_14 : decode cX8_insert 14 = .ok (.invokevirtual 95, 3) := by decide +kernel
theorem dX8_insert_17 : decode cX8_insert 17 = .ok (.if_icmp .le 13, 3) := by decide +kernel
theorem dX8_insert_20 : decode cX8_insert 20 = .ok (.new 103, 3) := by decide +kernel
theorem dX8_insert_23 : decode cX8_insert 23 = .ok (.dup, 1) := by decide +kernel
theorem dX8_insert_24 : decode cX8_insert 24 = .ok (.ldc 105, 2) := by decide +kernel
theorem dX8_insert_26 : decode cX8_insert 26 = .ok (.invokespecial 107, 3) := by decide +kernel
theorem dX8_insert_29 : decode cX8_insert 29 = .ok (.athrow, 1) := by decide +kernel
theorem dX8_insert_30 : decode cX8_insert 30 = .ok (.aload_n 0, 1) := by decide +kernel
theorem dX8_insert_31 : decode cX8_insert 31 = .ok (.iload_n 3, 1) := by decide +kernel
theorem dX8_insert_32 : decode cX8_insert 32 = .ok (.invokevirtual 108, 3) := by decide +kernel
theorem dX8_insert_35 : decode cX8_insert 35 = .ok (.aload 4, 2) := by decide +kernel
theorem dX8_insert_37 : decode cX8_insert 37 = .ok (.invokevirtual 95, 3) := by decide +kernel
theorem dX8_insert_40 : decode cX8_insert 40 = .ok (.bipush 20, 2) := by decide +kernel
theorem dX8_insert_42 : decode cX8_insert 42 = .ok (.if_icmp .lt 13, 3) := by decide +kernel
theorem dX8_insert_45 : decode cX8_insert 45 = .ok (.new 112, 3) := by decide +kernel
theorem dX8_insert_48 : decode cX8_insert 48 = .ok (.dup, 1) := by decide +kernel
theorem dX8_insert_49 : decode cX8_insert 49 = .ok (.ldc 114, 2) := by decide +kernel
theorem dX8_insert_51 : decode cX8_insert 51 = .ok (.invokespecial 116, 3) := by decide +kernel
theorem dX8_insert_54 : decode cX8_insert 54 = .ok (.athrow, 1) := by decide +kernel
theorem dX8_insert_55 : decode cX8_insert 55 = .ok (.aload_n 0, 1) := by decide +kernel
theorem dX8_insert_56 : decode cX8_insert 56 = .ok (.getfield 19, 3) := by decide +kernel
theorem dX8_insert_59 : decode cX8_insert 59 = .ok (.aload_n 0, 1) := by decide +kernel
theorem dX8_insert_60 : decode cX8_insert 60 = .ok (.getfield 10, 3) := by decide +kernel
theorem dX8_insert_63 : decode cX8_insert 63 = .ok (.invokevirtual 83, 3) := by decide +kernel
theorem dX8_insert_66 : decode cX8_insert 66 = .ok (.aload 4, 2) := by decide +kernel
theorem dX8_insert_68 : decode cX8_insert 68 = .ok (.iload_n 2, 1) := by decide +kernel
theorem dX8_insert_69 : decode cX8_insert 69 = .ok (.iload_n 3, 1) := by decide +kernel
theorem dX8_insert_70 : decode cX8_insert 70 = .ok (.invokevirtual 117, 3) := by decide +kernel
theorem dX8_insert_73 : decode cX8_insert 73 = .ok (.aload 4, 2) := by decide +kernel
theorem dX8_insert_75 : decode cX8_insert 75 = .ok (.invokevirtual 95, 3) := by decide +kernel
theorem dX8_insert_78 : decode cX8_insert 78 = .ok (.ireturn, 1) := by decide +kernel
theorem dX8_remove_0 : decode cX8_remove 0 = .ok (.aload_n 0, 1) := by decide +kernel
theorem dX8_remove_1 : decode cX8_remove 1 = .ok (.iload_n 1, 1) := by decide +kernel
theorem dX8_remove_2 : decode cX8_remove 2 = .ok (.invokevirtual 100, 3) := by decide +kernel
theorem dX8_remove_5 : decode cX8_remove 5 = .ok (.astore_n 3, 1) := by decide +kernel
theorem dX8_remove_6 : decode cX8_remove 6 = .ok (.aload_n 3, 1) := by decide +kernel
theorem dX8_remove_7 : decode cX8_remove 7 = .ok (.iload_n 2, 1) := by decide +kernel
theorem dX8_remove_8 : decode cX8_remove 8 = .ok (.invokestatic 121, 3) := by decide +kernel
theorem dX8_remove_11 : decode cX8_remove 11 = .ok (.aload_n 0, 1) := by decide +kernel
theorem dX8_remove_12 : decode cX8_remove 12 = .ok (.getfield 19, 3) := by decide +kernel
theorem dX8_remove_15 : decode cX8_remove 15 = .ok (.aload_n 0, 1) := by decide +kernel
theorem dX8_remove_16 : decode cX8_remove 16 = .ok (.getfield 10, 3) := by decide +kernel
theorem dX8_remove_19 : decode cX8_remove 19 = .ok (.invokevirtual 83, 3) := by decide +kernel
theorem dX8_remove_22 : decode cX8_remove 22 = .ok (.aload_n 3, 1) := by decide +kernel
theorem dX8_remove_23 : decode cX8_remove 23 = .ok (.iload_n 2, 1) := by decide +kernel
theorem dX8_remove_24 : decode cX8_remove 24 = .ok (.invokevirtual 125, 3) := by decide +kernel
theorem dX8_remove_27 : decode cX8_remove 27 = .ok (.istore 4, 2) := by decide +kernel
theorem dX8_remove_29 : decode cX8_remove 29 = .ok (.aload_n 3, 1) := by decide +kernel
theorem dX8_remove_30 : decode cX8_remove 30 = .ok (.iload_n 2, 1) := by decide +kernel
theorem dX8_remove_31 : decode cX8_remove 31 = .ok (.invokevirtual 129, 3) := by decide +kernel
theorem dX8_remove_34 : decode cX8_remove 34 = .ok (.iload 4, 2) := by decide +kernel
theorem dX8_remove_36 : decode cX8_remove 36 = .ok (.ireturn, 1) := by decide +kernel
theorem dX8_replace_0 : decode cX8_replace 0 = .ok (.aload_n 0, 1) := by decide +kernel
theorem dX8_replace_1 : decode cX8_replace 1 = .ok (.iload_n 1, 1) := by decide +kernel
theorem dX8_replace_2 : decode cX8_replace 2 = .ok (.invokevirtual 100, 3) := by decide +kernel
theorem dX8_replace_5 : decode cX8_replace 5 = .ok (.astore 4, 2) := by decide +kernel
theorem dX8_replace_7 : decode cX8_replace 7 = .ok (.aload 4, 2) := by decide +kernel
theorem dX8_replace_9 : decode cX8_replace 9 = .ok (.iload_n 2, 1) := by decide +kernel
theorem dX8_replace_10 : decode cX8_replace 10 = .ok (.invokestatic 121, 3) := by decide +kernel
theorem dX8_replace_13 : decode cX8_replace 13 = .ok (.aload_n 0, 1) := by decide +kernel
theorem dX8_replace_14 : decode cX8_replace 14 = .ok (.iload_n 3, 1) := by decide +kernel
theorem dX8_replace_15 : decode cX8_replace 15 = .ok (.invokevirtual 108, 3) := by decide +kernel
theorem dX8_replace_18 : decode cX8_replace 18 = .ok (.aload_n 0, 1) := by decide +kernel
theorem dX8_replace_19 : decode cX8_replace 19 = .ok (.getfield 19, 3) := by decide +kernel
theorem dX8_replace_22 : decode cX8_replace 22 = .ok (.aload_n 0, 1) := by decide +kernel
theorem dX8_replace_23 : decode cX8_replace 23 = .ok (.getfield 10, 3) := by decide +kernel
theorem dX8_replace_26 : decode cX8_replace 26 = .ok (.invokevirtual 83, 3) := by decide +kernel
theorem dX8_replace_29 : decode cX8_replace 29 = .ok (.aload 4, 2) := by decide +kernel
theorem dX8_replace_31 : decode cX8_replace 31 = .ok (.iload_n 2, 1) := by decide +kernel
theorem dX8_replace_32 : decode cX8_replace 32 = .ok (.invokevirtual 125, 3) := by decide +kernel
theorem dX8_replace_35 : decode cX8_replace 35 = .ok (.istore 5, 2) := by decide +kernel
theorem dX8_replace_37 : decode cX8_replace 37 = .ok (.aload 4, 2) := by decide +kernel
theorem dX8_replace_39 : decode cX8_replace 39 = .ok (.iload_n 2, 1) := by decide +kernel
theorem dX8_replace_40 : decode cX8_replace 40 = .ok (.iload_n 3, 1) := by decide +kernel
theorem dX8_replace_41 : decode cX8_replace 41 = .ok (.invokevirtual 132, 3) := by decide +kernel
theorem dX8_replace_44 : decode cX8_replace 44 = .ok (.iload 5, 2) := by decide +kernel
theorem dX8_replace_46 : decode cX8_replace 46 = .ok (.ireturn, 1) := by decide +kernel
theorem dX8_exchange_0 : decode cX8_exchange 0 = .ok (.aload_n 0, 1) := by decide +kernel
theorem dX8_exchange_1 : decode cX8_exchange 1 = .ok (.getfield 19, 3) := by decide +kernel
theorem dX8_exchange_4 : decode cX8_exchange 4 = .ok (.aload_n 0, 1) := by decide +kernel
theorem dX8_exchange_5 : decode cX8_exchange 5 = .ok (.getfield 10, 3) := by decide +kernel
theorem dX8_exchange_8 : decode cX8_exchange 8 = .ok (.invokevirtual 83, 3) := by decide +kernel
theorem dX8_exchange_11 : decode cX8_exchange 11 = .ok (.aload_n 0, 1) := by decide +kernel
theorem dX8_exchange_12 : decode cX8_exchange 12 = .ok (.getfield 10, 3) := by decide +kernel
theorem dX8_exchange_15 : decode cX8_exchange 15 = .ok (.invokevirtual 135, 3) := by decide +kernel
theorem dX8_exchange_18 : decode cX8_exchange 18 = .ok (.aload_n 0, 1) := by decide +kernel
theorem dX8_exchange_19 : decode cX8_exchange 19 = .ok (.getfield 10, 3) := by decide +kernel
theorem dX8_exchange_22 : decode cX8_exchange 22 = .ok (.iconst 0, 1) := by decide +kernel
theorem dX8_exchange_23 : decode cX8_exchange 23 = .ok (.invokevirtual 87, 3) := by decide +kernel
theorem dX8_exchange_26 : decode cX8_exchange 26 = .ok (.invokevirtual 95, 3) := by decide +kernel
theorem dX8_exchange_29 : decode cX8_exchange 29 = .ok (.ireturn, 1) := by decide +kernel
theorem dX8_setAlphabet_0 : decode cX8_setAlphabet 0 = .ok (.iload_n 1, 1) := by decide +kernel
theorem dX8_setAlphabet_1 : decode cX8_setAlphabet 1 = .ok (.iconst 2, 1) := by decide +kernel
theorem dX8_setAlphabet_2 : decode cX8_setAlphabet 2 = .ok (.if_icmp .lt 8, 3) := by decide +kernel
theorem dX8_setAlphabet_5 : decode cX8_setAlphabet 5 = .ok (.iload_n 1, 1) := by decide +kernel
theorem dX8_setAlphabet_6 : decode cX8_setAlphabet 6 = .ok (.iconst 4, 1) := by decide +kernel
theorem dX8_setAlphabet_7 : decode cX8_setAlphabet 7 = .ok (.if_icmp .le 13, 3) := by decide +kernel
theorem dX8_setAlphabet_10 : decode cX8_setAlphabet 10 = .ok (.new 76, 3) := by decide +kernel
theorem dX8_setAlphabet_13 : decode cX8_setAlphabet 13 = .ok (.dup, 1) := by decide +kernel
theorem dX8_setAlphabet_14 : decode cX8_setAlphabet 14 = .ok (.ldc 138, 2) := by decide +kernel
theorem dX8_setAlphabet_16 : decode cX8_setAlphabet 16 = .ok (.invokespecial 80, 3) := by decide +kernel
theorem dX8_setAlphabet_19 : decode cX8_setAlphabet 19 = .ok (.athrow, 1) := by decide +kernel
theorem dX8_setAlphabet_20 : decode cX8_setAlphabet 20 = .ok (.aload_n 0, 1) := by decide +kernel
theorem dX8_setAlphabet_21 : decode cX8_setAlphabet 21 = .ok (.getfield 10, 3) := by decide +kernel
theorem dX8_setAlphabet_24 : decode cX8_setAlphabet 24 = .ok (.iconst 0, 1) := by decide +kernel
theorem dX8_setAlphabet_25 : decode cX8_setAlphabet 25 = .ok (.invokevirtual 87, 3) := by decide +kernel
theorem dX8_setAlphabet_28 : decode cX8_setAlphabet 28 = .ok (.iload_n 1, 1) := by decide +kernel
theorem dX8_setAlphabet_29 : decode cX8_setAlphabet 29 = .ok (.invokevirtual 140, 3) := by decide +kernel
theorem dX8_setAlphabet_32 : decode cX8_setAlphabet 32 = .ok (.ifCond .eq 18, 3) := by decide +kernel
theorem dX8_setAlphabet_35 : decode cX8_setAlphabet 35 = .ok (.aload_n 0, 1) := by decide +kernel
theorem dX8_setAlphabet_36 : decode cX8_setAlphabet 36 = .ok (.getfield 10, 3) := by decide +kernel
theorem dX8_setAlphabet_39 : decode cX8_setAlphabet 39 = .ok (.iconst 1, 1) := by decide +kernel
theorem dX8_setAlphabet_40 : decode cX8_setAlphabet 40 = .ok (.invokevirtual 87, 3) := by decide +kernel
theorem dX8_setAlphabet_43 : decode cX8_setAlphabet 43 = .ok (.iload_n 1, 1) := by decide +kernel
theorem dX8_setAlphabet_44 : decode cX8_setAlphabet 44 = .ok (.invokevirtual 140, 3) := by decide +kernel
theorem dX8_setAlphabet_47 : decode cX8_setAlphabet 47 = .ok (.ifCond .ne 13, 3) := by decide +kernel
theorem dX8_setAlphabet_50 : decode cX8_setAlphabet 50 = .ok (.new 112, 3) := by decide +kernel
theorem dX8_setAlphabet_53 : decode cX8_setAlphabet 53 = .ok (.dup, 1) := by decide +kernel
theorem dX8_setAlphabet_54 : decode cX8_setAlphabet 54 = .ok (.ldc 141, 2) := by decide +kernel
theorem dX8_setAlphabet_56 : decode cX8_setAlphabet 56 = .ok (.invokespecial 116, 3) := by decide +kernel
theorem dX8_setAlphabet_59 : decode cX8_setAlphabet 59 = .ok (.athrow, 1) := by decide +kernel
theorem dX8_setAlphabet_60 : decode cX8_setAlphabet 60 = .ok (.aload_n 0, 1) := by decide +kernel
theorem dX8_setAlphabet_61 : decode cX8_setAlphabet 61 = .ok (.getfield 19, 3) := by decide +kernel
theorem dX8_setAlphabet_64 : decode cX8_setAlphabet 64 = .ok (.aload_n 0, 1) := by decide +kernel
theorem dX8_setAlphabet_65 : decode cX8_setAlphabet 65 = .ok (.getfield 10, 3) := by decide +kernel
theorem dX8_setAlphabet_68 : decode cX8_setAlphabet 68 = .ok (.invokevirtual 83, 3) := by decide +kernel
theorem dX8_setAlphabet_71 : decode cX8_setAlphabet 71 = .ok (.aload_n 0, 1) := by decide +kernel
theorem dX8_setAlphabet_72 : decode cX8_setAlphabet 72 = .ok (.getfield 10, 3) := by decide +kernel
theorem dX8_setAlphabet_75 : decode cX8_setAlphabet 75 = .ok (.invokevirtual 68, 3) := by decide +kernel
theorem dX8_setAlphabet_78 : decode cX8_setAlphabet 78 = .ok (.istore_n 2, 1) := by decide +kernel
theorem dX8_setAlphabet_79 : decode cX8_setAlphabet 79 = .ok (.aload_n 0, 1) := by decide +kernel
theorem dX8_setAlphabet_80 : decode cX8_setAlphabet 80 = .ok (.getfield 10, 3) := by decide +kernel
theorem dX8_setAlphabet_83 : decode cX8_setAlphabet 83 = .ok (.iload_n 1, 1) := by decide +kernel
theorem dX8_setAlphabet_84 : decode cX8_setAlphabet 84 = .ok (.invokevirtual 143, 3) := by decide +kernel
theorem dX8_setAlphabet_87 : decode cX8_setAlphabet 87 = .ok (.iload_n 2, 1) := by decide +kernel
theorem dX8_setAlphabet_88 : decode cX8_setAlphabet 88 = .ok (.ireturn, 1) := by decide +kernel
theorem dX8_length_0 : decode cX8_length 0 = .ok (.aload_n 0, 1) := by decide +kernel
theorem dX8_length_1 : decode cX8_length 1 = .ok (.iload_n 1, 1) := by decide +kernel
theorem dX8_length_2 : decode cX8_length 2 = .ok (.invokevirtual 100, 3) := by decide +kernel
theorem dX8_length_5 : decode cX8_length 5 = .ok (.invokevirtual 95, 3) := by decide +kernel
theorem dX8_length_8 : decode cX8_length 8 = .ok (.ireturn, 1) := by decide +kernel
theorem dX8_letter_0 : decode cX8_letter 0 = .ok (.aload_n 0, 1) := by decide +kernel
theorem dX8_letter_1 : decode cX8_letter 1 = .ok (.iload_n 1, 1) := by decide +kernel
theorem dX8_letter_2 : decode cX8_letter 2 = .ok (.invokevirtual 100, 3) := by decide +kernel
theorem dX8_letter_5 : decode cX8_letter 5 = .ok (.astore_n 3, 1) := by decide +kernel
theorem dX8_letter_6 : decode cX8_letter 6 = .ok (.aload_n 3, 1) := by decide +kernel
theorem dX8_letter_7 : decode cX8_letter 7 = .ok (.iload_n 2, 1) := by decide +kernel
theorem dX8_letter_8 : decode cX8_letter 8 = .ok (.invokestatic 121, 3) := by decide +kernel
theorem dX8_letter_11 : decode cX8_letter 11 = .ok (.aload_n 3, 1) := by decide +kernel
theorem dX8_letter_12 : decode cX8_letter 12 = .ok (.iload_n 2, 1) := by decide +kernel
theorem dX8_letter_13 : decode cX8_letter 13 = .ok (.invokevirtual 125, 3) := by decide +kernel
theorem dX8_letter_16 : decode cX8_letter 16 = .ok (.ireturn, 1) := by decide +kernel
theorem dX8_distance_0 : decode cX8_distance 0 = .ok (.aload_n 0, 1) := by decide +kernel
theorem dX8_distance_1 : decode cX8_distance 1 = .ok (.invokevirtual 146, 3) := by decide +kernel
theorem dX8_distance_4 : decode cX8_distance 4 = .ok (.aload_n 0, 1) := by decide +kernel
theorem dX8_distance_5 : decode cX8_distance 5 = .ok (.getfield 10, 3) := by decide +kernel
theorem dX8_distance_8 : decode cX8_distance 8 = .ok (.iconst 0, 1) := by decide +kernel
theorem dX8_distance_9 : decode cX8_distance 9 = .ok (.invokevirtual 87, 3) := by decide +kernel
theorem dX8_distance_12 : decode cX8_distance 12 = .ok (.invokevirtual 95, 3) := by decide +kernel
theorem dX8_distance_15 : decode cX8_distance 15 = .ok (.aload_n 0, 1) := by decide +kernel
theorem dX8_distance_16 : decode cX8_distance 16 = .ok (.getfield 10, 3) := by decide +kernel
theorem dX8_distance_19 : decode cX8_distance 19 = .ok (.iconst 1, 1) := by decide +kernel
theorem dX8_distance_20 : decode cX8_distance 20 = .ok (.invokevirtual 87, 3) := by decide +kernel
theorem dX8_distance_23 : decode cX8_distance 23 = .ok (.invokevirtual 95, 3) := by decide +kernel
theorem dX8_distance_26 : decode cX8_distance 26 = .ok (.invokevirtual 150, 3) := by decide +kernel
theorem dX8_distance_29 : decode cX8_distance 29 = .ok (.ireturn, 1) := by decide +kernel
theorem dX8_prefix_0 : decode cX8_prefix 0 = .ok (.aload_n 0, 1) := by decide +kernel
theorem dX8_prefix_1 : decode cX8_prefix 1 = .ok (.iload_n 1, 1) := by decide +kernel
theorem dX8_prefix_2 : decode cX8_prefix 2 = .ok (.iload_n 2, 1) := by decide +kernel
theorem dX8_prefix_3 : decode cX8_prefix 3 = .ok (.iconst 0, 1) := by decide +kernel
theorem dX8_prefix_4 : decode cX8_prefix 4 = .ok (.invokevirtual 153, 3) := by decide +kernel
theorem dX8_prefix_7 : decode cX8_prefix 7 = .ok (.aload_n 0, 1) := by decide +kernel
theorem dX8_prefix_8 : decode cX8_prefix 8 = .ok (.invokevirtual 146, 3) := by decide +kernel
theorem dX8_prefix_11 : decode cX8_prefix 11 = .ok (.iload_n 1, 1) := by decide +kernel
theorem dX8_prefix_12 : decode cX8_prefix 12 = .ok (.iload_n 2, 1) := by decide +kernel
theorem dX8_prefix_13 : decode cX8_prefix 13 = .ok (.invokevirtual 150, 3) := by decide +kernel
theorem dX8_prefix_16 : decode cX8_prefix 16 = .ok (.ireturn, 1) := by decide +kernel
theorem dX8_steps_0 : decode cX8_steps 0 = .ok (.aload_n 0, 1) := by decide +kernel
theorem dX8_steps_1 : decode cX8_steps 1 = .ok (.invokevirtual 157, 3) := by decide +kernel
theorem dX8_steps_4 : decode cX8_steps 4 = .ok (.invokevirtual 161, 3) := by decide +kernel
theorem dX8_steps_7 : decode cX8_steps 7 = .ok (.ireturn, 1) := by decide +kernel
theorem dX8_step_0 : decode cX8_step 0 = .ok (.iload_n 1, 1) := by decide +kernel
theorem dX8_step_1 : decode cX8_step 1 = .ok (.ifCond .ge 13, 3) := by decide +kernel
theorem dX8_step_4 : decode cX8_step 4 = .ok (.new 103, 3) := by decide +kernel
theorem dX8_step_7 : decode cX8_step 7 = .ok (.dup, 1) := by decide +kernel
theorem dX8_step_8 : decode cX8_step 8 = .ok (.ldc 162, 2) := by decide +kernel
theorem dX8_step_10 : decode cX8_step 10 = .ok (.invokespecial 107, 3) := by decide +kernel
theorem dX8_step_13 : decode cX8_step 13 = .ok (.athrow, 1) := by decide +kernel
theorem dX8_step_14 : decode cX8_step 14 = .ok (.aload_n 0, 1) := by decide +kernel
theorem dX8_step_15 : decode cX8_step 15 = .ok (.invokevirtual 157, 3) := by decide +kernel
theorem dX8_step_18 : decode cX8_step 18 = .ok (.iload_n 1, 1) := by decide +kernel
theorem dX8_step_19 : decode cX8_step 19 = .ok (.invokevirtual 164, 3) := by decide +kernel
theorem dX8_step_22 : decode cX8_step 22 = .ok (.ireturn, 1) := by decide +kernel
theorem dX8_count_0 : decode cX8_count 0 = .ok (.iload_n 1, 1) := by decide +kernel
theorem dX8_count_1 : decode cX8_count 1 = .ok (.ifCond .lt 8, 3) := by decide +kernel
theorem dX8_count_4 : decode cX8_count 4 = .ok (.iload_n 1, 1) := by decide +kernel
theorem dX8_count_5 : decode cX8_count 5 = .ok (.iconst 3, 1) := by decide +kernel
theorem dX8_count_6 : decode cX8_count 6 = .ok (.if_icmp .le 13, 3) := by decide +kernel
theorem dX8_count_9 : decode cX8_count 9 = .ok (.new 103, 3) := by decide +kernel
theorem dX8_count_12 : decode cX8_count 12 = .ok (.dup, 1) := by decide +kernel
theorem dX8_count_13 : decode cX8_count 13 = .ok (.ldc 165, 2) := by decide +kernel
theorem dX8_count_15 : decode cX8_count 15 = .ok (.invokespecial 107, 3) := by decide +kernel
theorem dX8_count_18 : decode cX8_count 18 = .ok (.athrow, 1) := by decide +kernel
theorem dX8_count_19 : decode cX8_count 19 = .ok (.aload_n 0, 1) := by decide +kernel
theorem dX8_count_20 : decode cX8_count 20 = .ok (.invokevirtual 157, 3) := by decide +kernel
theorem dX8_count_23 : decode cX8_count 23 = .ok (.iload_n 1, 1) := by decide +kernel
theorem dX8_count_24 : decode cX8_count 24 = .ok (.invokevirtual 167, 3) := by decide +kernel
theorem dX8_count_27 : decode cX8_count 27 = .ok (.ireturn, 1) := by decide +kernel
theorem dX8_within_0 : decode cX8_within 0 = .ok (.iload_n 1, 1) := by decide +kernel
theorem dX8_within_1 : decode cX8_within 1 = .ok (.invokestatic 170, 3) := by decide +kernel
theorem dX8_within_4 : decode cX8_within 4 = .ok (.aload_n 0, 1) := by decide +kernel
theorem dX8_within_5 : decode cX8_within 5 = .ok (.invokevirtual 173, 3) := by decide +kernel
theorem dX8_within_8 : decode cX8_within 8 = .ok (.istore_n 2, 1) := by decide +kernel
theorem dX8_within_9 : decode cX8_within 9 = .ok (.iload_n 2, 1) := by decide +kernel
theorem dX8_within_10 : decode cX8_within 10 = .ok (.iload_n 1, 1) := by decide +kernel
theorem dX8_within_11 : decode cX8_within 11 = .ok (.if_icmp .gt 7, 3) := by decide +kernel
theorem dX8_within_14 : decode cX8_within 14 = .ok (.iload_n 2, 1) := by decide +kernel
theorem dX8_within_15 : decode cX8_within 15 = .ok (.goto 4, 3) := by decide +kernel
theorem dX8_within_18 : decode cX8_within 18 = .ok (.iconst (-1), 1) := by decide +kernel
theorem dX8_within_19 : decode cX8_within 19 = .ok (.ireturn, 1) := by decide +kernel
theorem dX8_band_0 : decode cX8_band 0 = .ok (.iload_n 1, 1) := by decide +kernel
theorem dX8_band_1 : decode cX8_band 1 = .ok (.invokestatic 170, 3) := by decide +kernel
theorem dX8_band_4 : decode cX8_band 4 = .ok (.aload_n 0, 1) := by decide +kernel
theorem dX8_band_5 : decode cX8_band 5 = .ok (.getfield 10, 3) := by decide +kernel
theorem dX8_band_8 : decode cX8_band 8 = .ok (.iconst 0, 1) := by decide +kernel
theorem dX8_band_9 : decode cX8_band 9 = .ok (.invokevirtual 87, 3) := by decide +kernel
theorem dX8_band_12 : decode cX8_band 12 = .ok (.invokevirtual 95, 3) := by decide +kernel
theorem dX8_band_15 : decode cX8_band 15 = .ok (.istore_n 2, 1) := by decide +kernel
theorem dX8_band_16 : decode cX8_band 16 = .ok (.aload_n 0, 1) := by decide +kernel
theorem dX8_band_17 : decode cX8_band 17 = .ok (.getfield 10, 3) := by decide +kernel
theorem dX8_band_20 : decode cX8_band 20 = .ok (.iconst 1, 1) := by decide +kernel
theorem dX8_band_21 : decode cX8_band 21 = .ok (.invokevirtual 87, 3) := by decide +kernel
theorem dX8_band_24 : decode cX8_band 24 = .ok (.invokevirtual 95, 3) := by decide +kernel
theorem dX8_band_27 : decode cX8_band 27 = .ok (.istore_n 3, 1) := by decide +kernel
theorem dX8_band_28 : decode cX8_band 28 = .ok (.iconst 0, 1) := by decide +kernel
theorem dX8_band_29 : decode cX8_band 29 = .ok (.istore 4, 2) := by decide +kernel
theorem dX8_band_31 : decode cX8_band 31 = .ok (.iconst 0, 1) := by decide +kernel
theorem dX8_band_32 : decode cX8_band 32 = .ok (.istore 5, 2) := by decide +kernel
theorem dX8_band_34 : decode cX8_band 34 = .ok (.iload 5, 2) := by decide +kernel
theorem dX8_band_36 : decode cX8_band 36 = .ok (.iload_n 2, 1) := by decide +kernel
theorem dX8_band_37 : decode cX8_band 37 = .ok (.if_icmp .gt 45, 3) := by decide +kernel
theorem dX8_band_40 : decode cX8_band 40 = .ok (.iconst 0, 1) := by decide +kernel
theorem dX8_band_41 : decode cX8_band 41 = .ok (.iload 5, 2) := by decide +kernel
theorem dX8_band_43 : decode cX8_band 43 = .ok (.iload_n 1, 1) := by decide +kernel
theorem dX8_band_44 : decode cX8_band 44 = .ok (.isub, 1) := by decide +kernel
theorem dX8_band_45 : decode cX8_band 45 = .ok (.invokestatic 176, 3) := by decide +kernel
theorem dX8_band_48 : decode cX8_band 48 = .ok (.istore 6, 2) := by decide +kernel
theorem dX8_band_50 : decode cX8_band 50 = .ok (.iload_n 3, 1) := by decide +kernel
theorem dX8_band_51 : decode cX8_band 51 = .ok (.iload 5, 2) := by decide +kernel
theorem dX8_band_53 : decode cX8_band 53 = .ok (.iload_n 1, 1) := by decide +kernel
theorem dX8_band_54 : decode cX8_band 54 = .ok (.iadd, 1) := by decide +kernel
theorem dX8_band_55 : decode cX8_band 55 = .ok (.invokestatic 181, 3) := by decide +kernel
theorem dX8_band_58 : decode cX8_band 58 = .ok (.istore 7, 2) := by decide +kernel
theorem dX8_band_60 : decode cX8_band 60 = .ok (.iload 4, 2) := by decide +kernel
theorem dX8_band_62 : decode cX8_band 62 = .ok (.iconst 0, 1) := by decide +kernel
theorem dX8_band_63 : decode cX8_band 63 = .ok (.iload 7, 2) := by decide +kernel
theorem dX8_band_65 : decode cX8_band 65 = .ok (.iload 6, 2) := by decide +kernel
theorem dX8_band_67 : decode cX8_band 67 = .ok (.isub, 1) := by decide +kernel
theorem dX8_band_68 : decode cX8_band 68 = .ok (.iconst 1, 1) := by decide +kernel
theorem dX8_band_69 : decode cX8_band 69 = .ok (.iadd, 1) := by decide +kernel
theorem dX8_band_70 : decode cX8_band 70 = .ok (.invokestatic 176, 3) := by decide +kernel
theorem dX8_band_73 : decode cX8_band 73 = .ok (.iadd, 1) := by decide +kernel
theorem dX8_band_74 : decode cX8_band 74 = .ok (.istore 4, 2) := by decide +kernel
theorem dX8_band_76 : decode cX8_band 76 = .ok (.iinc 5 1, 3) := by decide +kernel
theorem dX8_band_79 : decode cX8_band 79 = .ok (.goto (-45), 3) := by decide +kernel
theorem dX8_band_82 : decode cX8_band 82 = .ok (.iload 4, 2) := by decide +kernel
theorem dX8_band_84 : decode cX8_band 84 = .ok (.ireturn, 1) := by decide +kernel
theorem dX8_similarity_0 : decode cX8_similarity 0 = .ok (.aload_n 0, 1) := by decide +kernel
theorem dX8_similarity_1 : decode cX8_similarity 1 = .ok (.getfield 10, 3) := by decide +kernel
theorem dX8_similarity_4 : decode cX8_similarity 4 = .ok (.iconst 0, 1) := by decide +kernel
theorem dX8_similarity_5 : decode cX8_similarity 5 = .ok (.invokevirtual 87, 3) := by decide +kernel
theorem dX8_similarity_8 : decode cX8_similarity 8 = .ok (.invokevirtual 95, 3) := by decide +kernel
theorem dX8_similarity_11 : decode cX8_similarity 11 = .ok (.aload_n 0, 1) := by decide +kernel
theorem dX8_similarity_12 : decode cX8_similarity 12 = .ok (.getfield 10, 3) := by decide +kernel
theorem dX8_similarity_15 : decode cX8_similarity 15 = .ok (.iconst 1, 1) := by decide +kernel
theorem dX8_similarity_16 : decode cX8_similarity 16 = .ok (.invokevirtual 87, 3) := by decide +kernel
theorem dX8_similarity_19 : decode cX8_similarity 19 = .ok (.invokevirtual 95, 3) := by decide +kernel
theorem dX8_similarity_22 : decode cX8_similarity 22 = .ok (.invokestatic 176, 3) := by decide +kernel
theorem dX8_similarity_25 : decode cX8_similarity 25 = .ok (.istore_n 1, 1) := by decide +kernel
theorem dX8_similarity_26 : decode cX8_similarity 26 = .ok (.iload_n 1, 1) := by decide +kernel
theorem dX8_similarity_27 : decode cX8_similarity 27 = .ok (.ifCond .ne 5, 3) := by decide +kernel
theorem dX8_similarity_30 : decode cX8_similarity 30 = .ok (.dconst 1, 1) := by decide +kernel
theorem dX8_similarity_31 : decode cX8_similarity 31 = .ok (.dreturn, 1) := by decide +kernel
theorem dX8_similarity_32 : decode cX8_similarity 32 = .ok (.dconst 1, 1) := by decide +kernel
theorem dX8_similarity_33 : decode cX8_similarity 33 = .ok (.aload_n 0, 1) := by decide +kernel
theorem dX8_similarity_34 : decode cX8_similarity 34 = .ok (.invokevirtual 173, 3) := by decide +kernel
theorem dX8_similarity_37 : decode cX8_similarity 37 = .ok (.i2d, 1) := by decide +kernel
theorem dX8_similarity_38 : decode cX8_similarity 38 = .ok (.iload_n 1, 1) := by decide +kernel
theorem dX8_similarity_39 : decode cX8_similarity 39 = .ok (.i2d, 1) := by decide +kernel
theorem dX8_similarity_40 : decode cX8_similarity 40 = .ok (.ddiv, 1) := by decide +kernel
theorem dX8_similarity_41 : decode cX8_similarity 41 = .ok (.dsub, 1) := by decide +kernel
theorem dX8_similarity_42 : decode cX8_similarity 42 = .ok (.dreturn, 1) := by decide +kernel
theorem dX8_setBlock_0 : decode cX8_setBlock 0 = .ok (.iload_n 1, 1) := by decide +kernel
theorem dX8_setBlock_1 : decode cX8_setBlock 1 = .ok (.iconst 1, 1) := by decide +kernel
theorem dX8_setBlock_2 : decode cX8_setBlock 2 = .ok (.if_icmp .lt 8, 3) := by decide +kernel
theorem dX8_setBlock_5 : decode cX8_setBlock 5 = .ok (.iload_n 1, 1) := by decide +kernel
theorem dX8_setBlock_6 : decode cX8_setBlock 6 = .ok (.iconst 2, 1) := by decide +kernel
theorem dX8_setBlock_7 : decode cX8_setBlock 7 = .ok (.if_icmp .le 13, 3) := by decide +kernel
theorem dX8_setBlock_10 : decode cX8_setBlock 10 = .ok (.new 76, 3) := by decide +kernel
theorem dX8_setBlock_13 : decode cX8_setBlock 13 = .ok (.dup, 1) := by decide +kernel
theorem dX8_setBlock_14 : decode cX8_setBlock 14 = .ok (.ldc 184, 2) := by decide +kernel
theorem dX8_setBlock_16 : decode cX8_setBlock 16 = .ok (.invokespecial 80, 3) := by decide +kernel
theorem dX8_setBlock_19 : decode cX8_setBlock 19 = .ok (.athrow, 1) := by decide +kernel
theorem dX8_setBlock_20 : decode cX8_setBlock 20 = .ok (.aload_n 0, 1) := by decide +kernel
theorem dX8_setBlock_21 : decode cX8_setBlock 21 = .ok (.getfield 50, 3) := by decide +kernel
theorem dX8_setBlock_24 : decode cX8_setBlock 24 = .ok (.invokevirtual 186, 3) := by decide +kernel
theorem dX8_setBlock_27 : decode cX8_setBlock 27 = .ok (.istore_n 2, 1) := by decide +kernel
theorem dX8_setBlock_28 : decode cX8_setBlock 28 = .ok (.aload_n 0, 1) := by decide +kernel
theorem dX8_setBlock_29 : decode cX8_setBlock 29 = .ok (.getfield 50, 3) := by decide +kernel
theorem dX8_setBlock_32 : decode cX8_setBlock 32 = .ok (.iload_n 1, 1) := by decide +kernel
theorem dX8_setBlock_33 : decode cX8_setBlock 33 = .ok (.invokevirtual 189, 3) := by decide +kernel
theorem dX8_setBlock_36 : decode cX8_setBlock 36 = .ok (.iload_n 2, 1) := by decide +kernel
theorem dX8_setBlock_37 : decode cX8_setBlock 37 = .ok (.ireturn, 1) := by decide +kernel
theorem dX8_measure_0 : decode cX8_measure 0 = .ok (.aload_n 0, 1) := by decide +kernel
theorem dX8_measure_1 : decode cX8_measure 1 = .ok (.getfield 50, 3) := by decide +kernel
theorem dX8_measure_4 : decode cX8_measure 4 = .ok (.aload_n 0, 1) := by decide +kernel
theorem dX8_measure_5 : decode cX8_measure 5 = .ok (.invokevirtual 146, 3) := by decide +kernel
theorem dX8_measure_8 : decode cX8_measure 8 = .ok (.aload_n 0, 1) := by decide +kernel
theorem dX8_measure_9 : decode cX8_measure 9 = .ok (.getfield 10, 3) := by decide +kernel
theorem dX8_measure_12 : decode cX8_measure 12 = .ok (.iconst 0, 1) := by decide +kernel
theorem dX8_measure_13 : decode cX8_measure 13 = .ok (.invokevirtual 87, 3) := by decide +kernel
theorem dX8_measure_16 : decode cX8_measure 16 = .ok (.aload_n 0, 1) := by decide +kernel
theorem dX8_measure_17 : decode cX8_measure 17 = .ok (.getfield 10, 3) := by decide +kernel
theorem dX8_measure_20 : decode cX8_measure 20 = .ok (.iconst 1, 1) := by decide +kernel
theorem dX8_measure_21 : decode cX8_measure 21 = .ok (.invokevirtual 87, 3) := by decide +kernel
theorem dX8_measure_24 : decode cX8_measure 24 = .ok (.invokevirtual 192, 3) := by decide +kernel
theorem dX8_measure_27 : decode cX8_measure 27 = .ok (.aload_n 0, 1) := by decide +kernel
theorem dX8_measure_28 : decode cX8_measure 28 = .ok (.invokevirtual 173, 3) := by decide +kernel
theorem dX8_measure_31 : decode cX8_measure 31 = .ok (.ireturn, 1) := by decide +kernel
theorem dX8_hits_0 : decode cX8_hits 0 = .ok (.aload_n 0, 1) := by decide +kernel
theorem dX8_hits_1 : decode cX8_hits 1 = .ok (.getfield 50, 3) := by decide +kernel
theorem dX8_hits_4 : decode cX8_hits 4 = .ok (.invokevirtual 196, 3) := by decide +kernel
theorem dX8_hits_7 : decode cX8_hits 7 = .ok (.ireturn, 1) := by decide +kernel
theorem dX8_misses_0 : decode cX8_misses 0 = .ok (.aload_n 0, 1) := by decide +kernel
theorem dX8_misses_1 : decode cX8_misses 1 = .ok (.getfield 50, 3) := by decide +kernel
theorem dX8_misses_4 : decode cX8_misses 4 = .ok (.invokevirtual 199, 3) := by decide +kernel
theorem dX8_misses_7 : decode cX8_misses 7 = .ok (.ireturn, 1) := by decide +kernel
theorem dX8_singleSteps_0 : decode cX8_singleSteps 0 = .ok (.aload_n 0, 1) := by decide +kernel
theorem dX8_singleSteps_1 : decode cX8_singleSteps 1 = .ok (.getfield 50, 3) := by decide +kernel
theorem dX8_singleSteps_4 : decode cX8_singleSteps 4 = .ok (.invokevirtual 202, 3) := by decide +kernel
theorem dX8_singleSteps_7 : decode cX8_singleSteps 7 = .ok (.ireturn, 1) := by decide +kernel
theorem dX8_across_0 : decode cX8_across 0 = .ok (.aload_n 0, 1) := by decide +kernel
theorem dX8_across_1 : decode cX8_across 1 = .ok (.iload_n 1, 1) := by decide +kernel
theorem dX8_across_2 : decode cX8_across 2 = .ok (.iload_n 2, 1) := by decide +kernel
theorem dX8_across_3 : decode cX8_across 3 = .ok (.iconst 1, 1) := by decide +kernel
theorem dX8_across_4 : decode cX8_across 4 = .ok (.invokevirtual 153, 3) := by decide +kernel
theorem dX8_across_7 : decode cX8_across 7 = .ok (.aload_n 0, 1) := by decide +kernel
theorem dX8_across_8 : decode cX8_across 8 = .ok (.invokevirtual 146, 3) := by decide +kernel
theorem dX8_across_11 : decode cX8_across 11 = .ok (.iload_n 1, 1) := by decide +kernel
theorem dX8_across_12 : decode cX8_across 12 = .ok (.iload_n 2, 1) := by decide +kernel
theorem dX8_across_13 : decode cX8_across 13 = .ok (.invokevirtual 205, 3) := by decide +kernel
theorem dX8_across_16 : decode cX8_across 16 = .ok (.ireturn, 1) := by decide +kernel
theorem dX8_foundDistance_0 : decode cX8_foundDistance 0 = .ok (.aload_n 0, 1) := by decide +kernel
theorem dX8_foundDistance_1 : decode cX8_foundDistance 1 = .ok (.invokevirtual 208, 3) := by decide +kernel
theorem dX8_foundDistance_4 : decode cX8_foundDistance 4 = .ok (.istore_n 1, 1) := by decide +kernel
theorem dX8_foundDistance_5 : decode cX8_foundDistance 5 = .ok (.aload_n 0, 1) := by decide +kernel
theorem dX8_foundDistance_6 : decode cX8_foundDistance 6 = .ok (.invokevirtual 211, 3) := by decide +kernel
theorem dX8_foundDistance_9 : decode cX8_foundDistance 9 = .ok (.iload_n 1, 1) := by decide +kernel
theorem dX8_foundDistance_10 : decode cX8_foundDistance 10 = .ok (.aload_n 0, 1) := by decide +kernel
theorem dX8_foundDistance_11 : decode cX8_foundDistance 11 = .ok (.getfield 10, 3) := by decide +kernel
theorem dX8_foundDistance_14 : decode cX8_foundDistance 14 = .ok (.iconst 1, 1) := by decide +kernel
theorem dX8_foundDistance_15 : decode cX8_foundDistance 15 = .ok (.invokevirtual 87, 3) := by decide +kernel
theorem dX8_foundDistance_18 : decode cX8_foundDistance 18 = .ok (.invokevirtual 95, 3) := by decide +kernel
theorem dX8_foundDistance_21 : decode cX8_foundDistance 21 = .ok (.invokevirtual 150, 3) := by decide +kernel
theorem dX8_foundDistance_24 : decode cX8_foundDistance 24 = .ok (.ireturn, 1) := by decide +kernel
theorem dX8_foundEnd_0 : decode cX8_foundEnd 0 = .ok (.aload_n 0, 1) := by decide +kernel
theorem dX8_foundEnd_1 : decode cX8_foundEnd 1 = .ok (.getfield 10, 3) := by decide +kernel
theorem dX8_foundEnd_4 : decode cX8_foundEnd 4 = .ok (.iconst 0, 1) := by decide +kernel
theorem dX8_foundEnd_5 : decode cX8_foundEnd 5 = .ok (.invokevirtual 87, 3) := by decide +kernel
theorem dX8_foundEnd_8 : decode cX8_foundEnd 8 = .ok (.invokevirtual 95, 3) := by decide +kernel
theorem dX8_foundEnd_11 : decode cX8_foundEnd 11 = .ok (.istore_n 1, 1) := by decide +kernel
theorem dX8_foundEnd_12 : decode cX8_foundEnd 12 = .ok (.aload_n 0, 1) := by decide +kernel
theorem dX8_foundEnd_13 : decode cX8_foundEnd 13 = .ok (.getfield 10, 3) := by decide +kernel
theorem dX8_foundEnd_16 : decode cX8_foundEnd 16 = .ok (.iconst 1, 1) := by decide +kernel
theorem dX8_foundEnd_17 : decode cX8_foundEnd 17 = .ok (.invokevirtual 87, 3) := by decide +kernel
theorem dX8_foundEnd_20 : decode cX8_foundEnd 20 = .ok (.invokevirtual 95, 3) := by decide +kernel
theorem dX8_foundEnd_23 : decode cX8_foundEnd 23 = .ok (.istore_n 2, 1) := by decide +kernel
theorem dX8_foundEnd_24 : decode cX8_foundEnd 24 = .ok (.aload_n 0, 1) := by decide +kernel
theorem dX8_foundEnd_25 : decode cX8_foundEnd 25 = .ok (.invokevirtual 211, 3) := by decide +kernel
theorem dX8_foundEnd_28 : decode cX8_foundEnd 28 = .ok (.astore_n 3, 1) := by decide +kernel
theorem dX8_foundEnd_29 : decode cX8_foundEnd 29 = .ok (.iconst 0, 1) := by decide +kernel
theorem dX8_foundEnd_30 : decode cX8_foundEnd 30 = .ok (.istore 4, 2) := by decide +kernel
theorem dX8_foundEnd_32 : decode cX8_foundEnd 32 = .ok (.iconst 1, 1) := by decide +kernel
theorem dX8_foundEnd_33 : decode cX8_foundEnd 33 = .ok (.istore 5, 2) := by decide +kernel
theorem dX8_foundEnd_35 : decode cX8_foundEnd 35 = .ok (.iload 5, 2) := by decide +kernel
theorem dX8_foundEnd_37 : decode cX8_foundEnd 37 = .ok (.iload_n 1, 1) := by decide +kernel
theorem dX8_foundEnd_38 : decode cX8_foundEnd 38 = .ok (.if_icmp .gt 30, 3) := by decide +kernel
theorem dX8_foundEnd_41 : decode cX8_foundEnd 41 = .ok (.aload_n 3, 1) := by decide +kernel
theorem dX8_foundEnd_42 : decode cX8_foundEnd 42 = .ok (.iload 5, 2) := by decide +kernel
theorem dX8_foundEnd_44 : decode cX8_foundEnd 44 = .ok (.iload_n 2, 1) := by decide +kernel
theorem dX8_foundEnd_45 : decode cX8_foundEnd 45 = .ok (.invokevirtual 150, 3) := by decide +kernel
theorem dX8_foundEnd_48 : decode cX8_foundEnd 48 = .ok (.aload_n 3, 1) := by decide +kernel
theorem dX8_foundEnd_49 : decode cX8_foundEnd 49 = .ok (.iload 4, 2) := by decide +kernel
theorem dX8_foundEnd_51 : decode cX8_foundEnd 51 = .ok (.iload_n 2, 1) := by decide +kernel
theorem dX8_foundEnd_52 : decode cX8_foundEnd 52 = .ok (.invokevirtual 150, 3) := by decide +kernel
theorem dX8_foundEnd_55 : decode cX8_foundEnd 55 = .ok (.if_icmp .ge 7, 3) := by decide +kernel
theorem dX8_foundEnd_58 : decode cX8_foundEnd 58 = .ok (.iload 5, 2) := by decide +kernel
theorem dX8_foundEnd_60 : decode cX8_foundEnd 60 = .ok (.istore 4, 2) := by decide +kernel
theorem dX8_foundEnd_62 : decode cX8_foundEnd 62 = .ok (.iinc 5 1, 3) := by decide +kernel
theorem dX8_foundEnd_65 : decode cX8_foundEnd 65 = .ok (.goto (-30), 3) := by decide +kernel
theorem dX8_foundEnd_68 : decode cX8_foundEnd 68 = .ok (.iload 4, 2) := by decide +kernel
theorem dX8_foundEnd_70 : decode cX8_foundEnd 70 = .ok (.ireturn, 1) := by decide +kernel
theorem dX8_ifReplaced_0 : decode cX8_ifReplaced 0 = .ok (.aload_n 0, 1) := by decide +kernel
theorem dX8_ifReplaced_1 : decode cX8_ifReplaced 1 = .ok (.iload_n 1, 1) := by decide +kernel
theorem dX8_ifReplaced_2 : decode cX8_ifReplaced 2 = .ok (.invokevirtual 100, 3) := by decide +kernel
theorem dX8_ifReplaced_5 : decode cX8_ifReplaced 5 = .ok (.astore 4, 2) := by decide +kernel
theorem dX8_ifReplaced_7 : decode cX8_ifReplaced 7 = .ok (.aload 4, 2) := by decide +kernel
theorem dX8_ifReplaced_9 : decode cX8_ifReplaced 9 = .ok (.iload_n 2, 1) := by decide +kernel
theorem dX8_ifReplaced_10 : decode cX8_ifReplaced 10 = .ok (.invokestatic 121, 3) := by decide +kernel
theorem dX8_ifReplaced_13 : decode cX8_ifReplaced 13 = .ok (.aload_n 0, 1) := by decide +kernel
theorem dX8_ifReplaced_14 : decode cX8_ifReplaced 14 = .ok (.iload_n 3, 1) := by decide +kernel
theorem dX8_ifReplaced_15 : decode cX8_ifReplaced 15 = .ok (.invokevirtual 108, 3) := by decide +kernel
theorem dX8_ifReplaced_18 : decode cX8_ifReplaced 18 = .ok (.aload_n 0, 1) := by decide +kernel
theorem dX8_ifReplaced_19 : decode cX8_ifReplaced 19 = .ok (.iconst 1, 1) := by decide +kernel
theorem dX8_ifReplaced_20 : decode cX8_ifReplaced 20 = .ok (.iload_n 1, 1) := by decide +kernel
theorem dX8_ifReplaced_21 : decode cX8_ifReplaced 21 = .ok (.isub, 1) := by decide +kernel
theorem dX8_ifReplaced_22 : decode cX8_ifReplaced 22 = .ok (.invokevirtual 100, 3) := by decide +kernel
theorem dX8_ifReplaced_25 : decode cX8_ifReplaced 25 = .ok (.astore 5, 2) := by decide +kernel
theorem dX8_ifReplaced_27 : decode cX8_ifReplaced 27 = .ok (.aload_n 0, 1) := by decide +kernel
theorem dX8_ifReplaced_28 : decode cX8_ifReplaced 28 = .ok (.getfield 60, 3) := by decide +kernel
theorem dX8_ifReplaced_31 : decode cX8_ifReplaced 31 = .ok (.aload 4, 2) := by decide +kernel
theorem dX8_ifReplaced_33 : decode cX8_ifReplaced 33 = .ok (.aload 5, 2) := by decide +kernel
theorem dX8_ifReplaced_35 : decode cX8_ifReplaced 35 = .ok (.invokevirtual 214, 3) := by decide +kernel
theorem dX8_ifReplaced_38 : decode cX8_ifReplaced 38 = .ok (.aload_n 0, 1) := by decide +kernel
theorem dX8_ifReplaced_39 : decode cX8_ifReplaced 39 = .ok (.getfield 60, 3) := by decide +kernel
theorem dX8_ifReplaced_42 : decode cX8_ifReplaced 42 = .ok (.aload 4, 2) := by decide +kernel
theorem dX8_ifReplaced_44 : decode cX8_ifReplaced 44 = .ok (.aload 5, 2) := by decide +kernel
theorem dX8_ifReplaced_46 : decode cX8_ifReplaced 46 = .ok (.iload_n 2, 1) := by decide +kernel
theorem dX8_ifReplaced_47 : decode cX8_ifReplaced 47 = .ok (.iload_n 3, 1) := by decide +kernel
theorem dX8_ifReplaced_48 : decode cX8_ifReplaced 48 = .ok (.invokevirtual 217, 3) := by decide +kernel
theorem dX8_ifReplaced_51 : decode cX8_ifReplaced 51 = .ok (.ireturn, 1) := by decide +kernel
theorem dX8_bestReplacement_0 : decode cX8_bestReplacement 0 = .ok (.aload_n 0, 1) := by decide +kernel
theorem dX8_bestReplacement_1 : decode cX8_bestReplacement 1 = .ok (.iload_n 1, 1) := by decide +kernel
theorem dX8_bestReplacement_2 : decode cX8_bestReplacement 2 = .ok (.invokevirtual 100, 3) := by decide +kernel
theorem dX8_bestReplacement_5 : decode cX8_bestReplacement 5 = .ok (.astore_n 2, 1) := by decide +kernel
theorem dX8_bestReplacement_6 : decode cX8_bestReplacement 6 = .ok (.aload_n 0, 1) := by decide +kernel
theorem dX8_bestReplacement_7 : decode cX8_bestReplacement 7 = .ok (.iconst 1, 1) := by decide +kernel
theorem dX8_bestReplacement_8 : decode cX8_bestReplacement 8 = .ok (.iload_n 1, 1) := by decide +kernel
theorem dX8_bestReplacement_9 : decode cX8_bestReplacement 9 = .ok (.isub, 1) := by decide +kernel
theorem dX8_bestReplacement_10 : decode cX8_bestReplacement 10 = .ok (.invokevirtual 100, 3) := by decide +kernel
theorem dX8_bestReplacement_13 : decode cX8_bestReplacement 13 = .ok (.astore_n 3, 1) := by decide +kernel
theorem dX8_bestReplacement_14 : decode cX8_bestReplacement 14 = .ok (.aload_n 0, 1) := by decide +kernel
theorem dX8_bestReplacement_15 : decode cX8_bestReplacement 15 = .ok (.getfield 60, 3) := by decide +kernel
theorem dX8_bestReplacement_18 : decode cX8_bestReplacement 18 = .ok (.aload_n 2, 1) := by decide +kernel
theorem dX8_bestReplacement_19 : decode cX8_bestReplacement 19 = .ok (.aload_n 3, 1) := by decide +kernel
theorem dX8_bestReplacement_20 : decode cX8_bestReplacement 20 = .ok (.invokevirtual 214, 3) := by decide +kernel
theorem dX8_bestReplacement_23 : decode cX8_bestReplacement 23 = .ok (.iconst (-1), 1) := by decide +kernel
theorem dX8_bestReplacement_24 : decode cX8_bestReplacement 24 = .ok (.istore 4, 2) := by decide +kernel
theorem dX8_bestReplacement_26 : decode cX8_bestReplacement 26 = .ok (.ldc 223, 2) := by decide +kernel
theorem dX8_bestReplacement_28 : decode cX8_bestReplacement 28 = .ok (.istore 5, 2) := by decide +kernel
theorem dX8_bestReplacement_30 : decode cX8_bestReplacement 30 = .ok (.iconst 0, 1) := by decide +kernel
theorem dX8_bestReplacement_31 : decode cX8_bestReplacement 31 = .ok (.istore 6, 2) := by decide +kernel
theorem dX8_bestReplacement_33 : decode cX8_bestReplacement 33 = .ok (.iload 6, 2) := by decide +kernel
theorem dX8_bestReplacement_35 : decode cX8_bestReplacement 35 = .ok (.aload_n 2, 1) := by decide +kernel
theorem dX8_bestReplacement_36 : decode cX8_bestReplacement 36 = .ok (.invokevirtual 95, 3) := by decide +kernel
theorem dX8_bestReplacement_39 : decode cX8_bestReplacement 39 = .ok (.if_icmp .ge 66, 3) := by decide +kernel
theorem dX8_bestReplacement_42 : decode cX8_bestReplacement 42 = .ok (.iconst 0, 1) := by decide +kernel
theorem dX8_bestReplacement_43 : decode cX8_bestReplacement 43 = .ok (.istore 7, 2) := by decide +kernel
theorem dX8_bestReplacement_45 : decode cX8_bestReplacement 45 = .ok (.iload 7, 2) := by decide +kernel
theorem dX8_bestReplacement_47 : decode cX8_bestReplacement 47 = .ok (.aload_n 0, 1) := by decide +kernel
theorem dX8_bestReplacement_48 : decode cX8_bestReplacement 48 = .ok (.getfield 10, 3) := by decide +kernel
theorem dX8_bestReplacement_51 : decode cX8_bestReplacement 51 = .ok (.invokevirtual 68, 3) := by decide +kernel
theorem dX8_bestReplacement_54 : decode cX8_bestReplacement 54 = .ok (.if_icmp .ge 45, 3) := by decide +kernel
theorem dX8_bestReplacement_57 : decode cX8_bestReplacement 57 = .ok (.aload_n 0, 1) := by decide +kernel
theorem dX8_bestReplacement_58 : decode cX8_bestReplacement 58 = .ok (.getfield 60, 3) := by decide +kernel
theorem dX8_bestReplacement_61 : decode cX8_bestReplacement 61 = .ok (.aload_n 2, 1) := by decide +kernel
theorem dX8_bestReplacement_62 : decode cX8_bestReplacement 62 = .ok (.aload_n 3, 1) := by decide +kernel
theorem dX8_bestReplacement_63 : decode cX8_bestReplacement 63 = .ok (.iload 6, 2) := by decide +kernel
theorem dX8_bestReplacement_65 : decode cX8_bestReplacement 65 = .ok (.iload 7, 2) := by decide +kernel
theorem dX8_bestReplacement_67 : decode cX8_bestReplacement 67 = .ok (.invokevirtual 217, 3) := by decide +kernel
theorem dX8_bestReplacement_70 : decode cX8_bestReplacement 70 = .ok (.istore 8, 2) := by decide +kernel
theorem dX8_bestReplacement_72 : decode cX8_bestReplacement 72 = .ok (.iload 8, 2) := by decide +kernel
theorem dX8_bestReplacement_74 : decode cX8_bestReplacement 74 = .ok (.iload 5, 2) := by decide +kernel
theorem dX8_bestReplacement_76 : decode cX8_bestReplacement 76 = .ok (.if_icmp .ge 17, 3) := by decide +kernel
theorem dX8_bestReplacement_79 : decode cX8_bestReplacement 79 = .ok (.iload 8, 2) := by decide +kernel
theorem dX8_bestReplacement_81 : decode cX8_bestReplacement 81 = .ok (.istore 5, 2) := by decide +kernel
theorem dX8_bestReplacement_83 : decode cX8_bestReplacement 83 = .ok (.bipush 10, 2) := by decide +kernel
theorem dX8_bestReplacement_85 : decode cX8_bestReplacement 85 = .ok (.iload 6, 2) := by decide +kernel
theorem dX8_bestReplacement_87 : decode cX8_bestReplacement 87 = .ok (.imul, 1) := by decide +kernel
theorem dX8_bestReplacement_88 : decode cX8_bestReplacement 88 = .ok (.iload 7, 2) := by decide +kernel
theorem dX8_bestReplacement_90 : decode cX8_bestReplacement 90 = .ok (.iadd, 1) := by decide +kernel
theorem dX8_bestReplacement_91 : decode cX8_bestReplacement 91 = .ok (.istore 4, 2) := by decide +kernel
theorem dX8_bestReplacement_93 : decode cX8_bestReplacement 93 = .ok (.iinc 7 1, 3) := by decide +kernel
theorem dX8_bestReplacement_96 : decode cX8_bestReplacement 96 = .ok (.goto (-51), 3) := by decide +kernel
theorem dX8_bestReplacement_99 : decode cX8_bestReplacement 99 = .ok (.iinc 6 1, 3) := by decide +kernel
theorem dX8_bestReplacement_102 : decode cX8_bestReplacement 102 = .ok (.goto (-69), 3) := by decide +kernel
theorem dX8_bestReplacement_105 : decode cX8_bestReplacement 105 = .ok (.iload 4, 2) := by decide +kernel
theorem dX8_bestReplacement_107 : decode cX8_bestReplacement 107 = .ok (.ireturn, 1) := by decide +kernel
theorem dX8_missesToCome_0 : decode cX8_missesToCome 0 = .ok (.aload_n 0, 1) := by decide +kernel
theorem dX8_missesToCome_1 : decode cX8_missesToCome 1 = .ok (.getfield 54, 3) := by decide +kernel
theorem dX8_missesToCome_4 : decode cX8_missesToCome 4 = .ok (.aload_n 0, 1) := by decide +kernel
theorem dX8_missesToCome_5 : decode cX8_missesToCome 5 = .ok (.getfield 50, 3) := by decide +kernel
theorem dX8_missesToCome_8 : decode cX8_missesToCome 8 = .ok (.invokevirtual 224, 3) := by decide +kernel
end
section
theorem dX8_missesToCome_11 : decode cX8_missesToCome 11 = .ok (.aload_n 0, 1) := by decide +kernel
theorem dX8_missesToCome_12 : decode cX8_missesToCome 12 = .ok (.getfield 54, 3) := by decide +kernel
theorem dX8_missesToCome_15 : decode cX8_missesToCome 15 = .ok (.aload_n 0, 1) := by decide +kernel
theorem dX8_missesToCome_16 : decode cX8_missesToCome 16 = .ok (.invokevirtual 146, 3) := by decide +kernel
theorem dX8_missesToCome_19 : decode cX8_missesToCome 19 = .ok (.aload_n 0, 1) := by decide +kernel
theorem dX8_missesToCome_20 : decode cX8_missesToCome 20 = .ok (.getfield 10, 3) := by decide +kernel
theorem dX8_missesToCome_23 : decode cX8_missesToCome 23 = .ok (.iconst 0, 1) := by decide +kernel
theorem dX8_missesToCome_24 : decode cX8_missesToCome 24 = .ok (.invokevirtual 87, 3) := by decide +kernel
theorem dX8_missesToCome_27 : decode cX8_missesToCome 27 = .ok (.aload_n 0, 1) := by decide +kernel
theorem dX8_missesToCome_28 : decode cX8_missesToCome 28 = .ok (.getfield 10, 3) := by decide +kernel
theorem dX8_missesToCome_31 : decode cX8_missesToCome 31 = .ok (.iconst 1, 1) := by decide +kernel
theorem dX8_missesToCome_32 : decode cX8_missesToCome 32 = .ok (.invokevirtual 87, 3) := by decide +kernel
theorem dX8_missesToCome_35 : decode cX8_missesToCome 35 = .ok (.invokevirtual 192, 3) := by decide +kernel
theorem dX8_missesToCome_38 : decode cX8_missesToCome 38 = .ok (.aload_n 0, 1) := by decide +kernel
theorem dX8_missesToCome_39 : decode cX8_missesToCome 39 = .ok (.getfield 54, 3) := by decide +kernel
theorem dX8_missesToCome_42 : decode cX8_missesToCome 42 = .ok (.invokevirtual 199, 3) := by decide +kernel
theorem dX8_missesToCome_45 : decode cX8_missesToCome 45 = .ok (.aload_n 0, 1) := by decide +kernel
theorem dX8_missesToCome_46 : decode cX8_missesToCome 46 = .ok (.getfield 50, 3) := by decide +kernel
theorem dX8_missesToCome_49 : decode cX8_missesToCome 49 = .ok (.invokevirtual 199, 3) := by decide +kernel
theorem dX8_missesToCome_52 : decode cX8_missesToCome 52 = .ok (.isub, 1) := by decide +kernel
theorem dX8_missesToCome_53 : decode cX8_missesToCome 53 = .ok (.ireturn, 1) := by decide +kernel
theorem dX8_append_0 : decode cX8_append 0 = .ok (.iload_n 1, 1) := by decide +kernel
theorem dX8_append_1 : decode cX8_append 1 = .ok (.bipush 33, 2) := by decide +kernel
theorem dX8_append_3 : decode cX8_append 3 = .ok (.if_icmp .lt 9, 3) := by decide +kernel
theorem dX8_append_6 : decode cX8_append 6 = .ok (.iload_n 1, 1) := by decide +kernel
theorem dX8_append_7 : decode cX8_append 7 = .ok (.bipush 126, 2) := by decide +kernel
theorem dX8_append_9 : decode cX8_append 9 = .ok (.if_icmp .le 13, 3) := by decide +kernel
theorem dX8_append_12 : decode cX8_append 12 = .ok (.new 76, 3) := by decide +kernel
theorem dX8_append_15 : decode cX8_append 15 = .ok (.dup, 1) := by decide +kernel
theorem dX8_append_16 : decode cX8_append 16 = .ok (.ldc 228, 2) := by decide +kernel
theorem dX8_append_18 : decode cX8_append 18 = .ok (.invokespecial 80, 3) := by decide +kernel
theorem dX8_append_21 : decode cX8_append 21 = .ok (.athrow, 1) := by decide +kernel
theorem dX8_append_22 : decode cX8_append 22 = .ok (.aload_n 0, 1) := by decide +kernel
theorem dX8_append_23 : decode cX8_append 23 = .ok (.getfield 26, 3) := by decide +kernel
theorem dX8_append_26 : decode cX8_append 26 = .ok (.invokevirtual 230, 3) := by decide +kernel
theorem dX8_append_29 : decode cX8_append 29 = .ok (.bipush 60, 2) := by decide +kernel
theorem dX8_append_31 : decode cX8_append 31 = .ok (.if_icmp .lt 13, 3) := by decide +kernel
theorem dX8_append_34 : decode cX8_append 34 = .ok (.new 112, 3) := by decide +kernel
theorem dX8_append_37 : decode cX8_append 37 = .ok (.dup, 1) := by decide +kernel
theorem dX8_append_38 : decode cX8_append 38 = .ok (.ldc 231, 2) := by decide +kernel
theorem dX8_append_40 : decode cX8_append 40 = .ok (.invokespecial 116, 3) := by decide +kernel
theorem dX8_append_43 : decode cX8_append 43 = .ok (.athrow, 1) := by decide +kernel
theorem dX8_append_44 : decode cX8_append 44 = .ok (.aload_n 0, 1) := by decide +kernel
theorem dX8_append_45 : decode cX8_append 45 = .ok (.getfield 26, 3) := by decide +kernel
theorem dX8_append_48 : decode cX8_append 48 = .ok (.iload_n 1, 1) := by decide +kernel
theorem dX8_append_49 : decode cX8_append 49 = .ok (.invokevirtual 233, 3) := by decide +kernel
theorem dX8_append_52 : decode cX8_append 52 = .ok (.aload_n 0, 1) := by decide +kernel
theorem dX8_append_53 : decode cX8_append 53 = .ok (.getfield 26, 3) := by decide +kernel
theorem dX8_append_56 : decode cX8_append 56 = .ok (.invokevirtual 230, 3) := by decide +kernel
theorem dX8_append_59 : decode cX8_append 59 = .ok (.ireturn, 1) := by decide +kernel
theorem dX8_clearBuffer_0 : decode cX8_clearBuffer 0 = .ok (.aload_n 0, 1) := by decide +kernel
theorem dX8_clearBuffer_1 : decode cX8_clearBuffer 1 = .ok (.getfield 26, 3) := by decide +kernel
theorem dX8_clearBuffer_4 : decode cX8_clearBuffer 4 = .ok (.invokevirtual 230, 3) := by decide +kernel
theorem dX8_clearBuffer_7 : decode cX8_clearBuffer 7 = .ok (.istore_n 1, 1) := by decide +kernel
theorem dX8_clearBuffer_8 : decode cX8_clearBuffer 8 = .ok (.aload_n 0, 1) := by decide +kernel
theorem dX8_clearBuffer_9 : decode cX8_clearBuffer 9 = .ok (.getfield 26, 3) := by decide +kernel
theorem dX8_clearBuffer_12 : decode cX8_clearBuffer 12 = .ok (.invokevirtual 236, 3) := by decide +kernel
theorem dX8_clearBuffer_15 : decode cX8_clearBuffer 15 = .ok (.iload_n 1, 1) := by decide +kernel
theorem dX8_clearBuffer_16 : decode cX8_clearBuffer 16 = .ok (.ireturn, 1) := by decide +kernel
theorem dX8_firstError_0 : decode cX8_firstError 0 = .ok (.aload_n 0, 1) := by decide +kernel
theorem dX8_firstError_1 : decode cX8_firstError 1 = .ok (.getfield 26, 3) := by decide +kernel
theorem dX8_firstError_4 : decode cX8_firstError 4 = .ok (.invokevirtual 239, 3) := by decide +kernel
theorem dX8_firstError_7 : decode cX8_firstError 7 = .ok (.ireturn, 1) := by decide +kernel
theorem dX8_undo_0 : decode cX8_undo 0 = .ok (.aload_n 0, 1) := by decide +kernel
theorem dX8_undo_1 : decode cX8_undo 1 = .ok (.getfield 19, 3) := by decide +kernel
theorem dX8_undo_4 : decode cX8_undo 4 = .ok (.invokevirtual 242, 3) := by decide +kernel
theorem dX8_undo_7 : decode cX8_undo 7 = .ok (.ifCond .ne 13, 3) := by decide +kernel
theorem dX8_undo_10 : decode cX8_undo 10 = .ok (.new 112, 3) := by decide +kernel
theorem dX8_undo_13 : decode cX8_undo 13 = .ok (.dup, 1) := by decide +kernel
theorem dX8_undo_14 : decode cX8_undo 14 = .ok (.ldc 243, 2) := by decide +kernel
theorem dX8_undo_16 : decode cX8_undo 16 = .ok (.invokespecial 116, 3) := by decide +kernel
theorem dX8_undo_19 : decode cX8_undo 19 = .ok (.athrow, 1) := by decide +kernel
theorem dX8_undo_20 : decode cX8_undo 20 = .ok (.aload_n 0, 1) := by decide +kernel
theorem dX8_undo_21 : decode cX8_undo 21 = .ok (.getfield 19, 3) := by decide +kernel
theorem dX8_undo_24 : decode cX8_undo 24 = .ok (.aload_n 0, 1) := by decide +kernel
theorem dX8_undo_25 : decode cX8_undo 25 = .ok (.getfield 10, 3) := by decide +kernel
theorem dX8_undo_28 : decode cX8_undo 28 = .ok (.invokevirtual 245, 3) := by decide +kernel
theorem dX8_undo_31 : decode cX8_undo 31 = .ok (.aload_n 0, 1) := by decide +kernel
theorem dX8_undo_32 : decode cX8_undo 32 = .ok (.getfield 19, 3) := by decide +kernel
theorem dX8_undo_35 : decode cX8_undo 35 = .ok (.invokevirtual 242, 3) := by decide +kernel
theorem dX8_undo_38 : decode cX8_undo 38 = .ok (.ireturn, 1) := by decide +kernel
theorem dX8_savedStates_0 : decode cX8_savedStates 0 = .ok (.aload_n 0, 1) := by decide +kernel
theorem dX8_savedStates_1 : decode cX8_savedStates 1 = .ok (.getfield 19, 3) := by decide +kernel
theorem dX8_savedStates_4 : decode cX8_savedStates 4 = .ok (.invokevirtual 242, 3) := by decide +kernel
theorem dX8_savedStates_7 : decode cX8_savedStates 7 = .ok (.ireturn, 1) := by decide +kernel
theorem dX8_digest_0 : decode cX8_digest 0 = .ok (.ldc2_w 248, 3) := by decide +kernel
theorem dX8_digest_3 : decode cX8_digest 3 = .ok (.aload_n 0, 1) := by decide +kernel
theorem dX8_digest_4 : decode cX8_digest 4 = .ok (.getfield 10, 3) := by decide +kernel
theorem dX8_digest_7 : decode cX8_digest 7 = .ok (.invokevirtual 68, 3) := by decide +kernel
theorem dX8_digest_10 : decode cX8_digest 10 = .ok (.i2l, 1) := by decide +kernel
theorem dX8_digest_11 : decode cX8_digest 11 = .ok (.invokestatic 250, 3) := by decide +kernel
theorem dX8_digest_14 : decode cX8_digest 14 = .ok (.lstore_n 1, 1) := by decide +kernel
theorem dX8_digest_15 : decode cX8_digest 15 = .ok (.lload_n 1, 1) := by decide +kernel
theorem dX8_digest_16 : decode cX8_digest 16 = .ok (.aload_n 0, 1) := by decide +kernel
theorem dX8_digest_17 : decode cX8_digest 17 = .ok (.getfield 10, 3) := by decide +kernel
theorem dX8_digest_20 : decode cX8_digest 20 = .ok (.iconst 0, 1) := by decide +kernel
theorem dX8_digest_21 : decode cX8_digest 21 = .ok (.invokevirtual 87, 3) := by decide +kernel
theorem dX8_digest_24 : decode cX8_digest 24 = .ok (.invokestatic 254, 3) := by decide +kernel
theorem dX8_digest_27 : decode cX8_digest 27 = .ok (.lstore_n 1, 1) := by decide +kernel
theorem dX8_digest_28 : decode cX8_digest 28 = .ok (.lload_n 1, 1) := by decide +kernel
theorem dX8_digest_29 : decode cX8_digest 29 = .ok (.aload_n 0, 1) := by decide +kernel
theorem dX8_digest_30 : decode cX8_digest 30 = .ok (.getfield 10, 3) := by decide +kernel
theorem dX8_digest_33 : decode cX8_digest 33 = .ok (.iconst 1, 1) := by decide +kernel
theorem dX8_digest_34 : decode cX8_digest 34 = .ok (.invokevirtual 87, 3) := by decide +kernel
theorem dX8_digest_37 : decode cX8_digest 37 = .ok (.invokestatic 254, 3) := by decide +kernel
theorem dX8_digest_40 : decode cX8_digest 40 = .ok (.lstore_n 1, 1) := by decide +kernel
theorem dX8_digest_41 : decode cX8_digest 41 = .ok (.lload_n 1, 1) := by decide +kernel
theorem dX8_digest_42 : decode cX8_digest 42 = .ok (.aload_n 0, 1) := by decide +kernel
theorem dX8_digest_43 : decode cX8_digest 43 = .ok (.invokevirtual 173, 3) := by decide +kernel
theorem dX8_digest_46 : decode cX8_digest 46 = .ok (.i2l, 1) := by decide +kernel
theorem dX8_digest_47 : decode cX8_digest 47 = .ok (.invokestatic 250, 3) := by decide +kernel
theorem dX8_digest_50 : decode cX8_digest 50 = .ok (.lstore_n 1, 1) := by decide +kernel
theorem dX8_digest_51 : decode cX8_digest 51 = .ok (.lload_n 1, 1) := by decide +kernel
theorem dX8_digest_52 : decode cX8_digest 52 = .ok (.aload_n 0, 1) := by decide +kernel
theorem dX8_digest_53 : decode cX8_digest 53 = .ok (.invokevirtual 258, 3) := by decide +kernel
theorem dX8_digest_56 : decode cX8_digest 56 = .ok (.i2l, 1) := by decide +kernel
theorem dX8_digest_57 : decode cX8_digest 57 = .ok (.invokestatic 250, 3) := by decide +kernel
theorem dX8_digest_60 : decode cX8_digest 60 = .ok (.lstore_n 1, 1) := by decide +kernel
theorem dX8_digest_61 : decode cX8_digest 61 = .ok (.lload_n 1, 1) := by decide +kernel
theorem dX8_digest_62 : decode cX8_digest 62 = .ok (.aload_n 0, 1) := by decide +kernel
theorem dX8_digest_63 : decode cX8_digest 63 = .ok (.invokevirtual 261, 3) := by decide +kernel
theorem dX8_digest_66 : decode cX8_digest 66 = .ok (.i2l, 1) := by decide +kernel
theorem dX8_digest_67 : decode cX8_digest 67 = .ok (.invokestatic 250, 3) := by decide +kernel
theorem dX8_digest_70 : decode cX8_digest 70 = .ok (.lstore_n 1, 1) := by decide +kernel
theorem dX8_digest_71 : decode cX8_digest 71 = .ok (.lload_n 1, 1) := by decide +kernel
theorem dX8_digest_72 : decode cX8_digest 72 = .ok (.aload_n 0, 1) := by decide +kernel
theorem dX8_digest_73 : decode cX8_digest 73 = .ok (.invokevirtual 208, 3) := by decide +kernel
theorem dX8_digest_76 : decode cX8_digest 76 = .ok (.i2l, 1) := by decide +kernel
theorem dX8_digest_77 : decode cX8_digest 77 = .ok (.invokestatic 250, 3) := by decide +kernel
theorem dX8_digest_80 : decode cX8_digest 80 = .ok (.lstore_n 1, 1) := by decide +kernel
theorem dX8_digest_81 : decode cX8_digest 81 = .ok (.lload_n 1, 1) := by decide +kernel
theorem dX8_digest_82 : decode cX8_digest 82 = .ok (.aload_n 0, 1) := by decide +kernel
theorem dX8_digest_83 : decode cX8_digest 83 = .ok (.invokevirtual 264, 3) := by decide +kernel
theorem dX8_digest_86 : decode cX8_digest 86 = .ok (.i2l, 1) := by decide +kernel
theorem dX8_digest_87 : decode cX8_digest 87 = .ok (.invokestatic 250, 3) := by decide +kernel
theorem dX8_digest_90 : decode cX8_digest 90 = .ok (.lstore_n 1, 1) := by decide +kernel
theorem dX8_digest_91 : decode cX8_digest 91 = .ok (.lload_n 1, 1) := by decide +kernel
theorem dX8_digest_92 : decode cX8_digest 92 = .ok (.aload_n 0, 1) := by decide +kernel
theorem dX8_digest_93 : decode cX8_digest 93 = .ok (.invokevirtual 267, 3) := by decide +kernel
theorem dX8_digest_96 : decode cX8_digest 96 = .ok (.i2l, 1) := by decide +kernel
theorem dX8_digest_97 : decode cX8_digest 97 = .ok (.invokestatic 250, 3) := by decide +kernel
theorem dX8_digest_100 : decode cX8_digest 100 = .ok (.lstore_n 1, 1) := by decide +kernel
theorem dX8_digest_101 : decode cX8_digest 101 = .ok (.lload_n 1, 1) := by decide +kernel
theorem dX8_digest_102 : decode cX8_digest 102 = .ok (.aload_n 0, 1) := by decide +kernel
theorem dX8_digest_103 : decode cX8_digest 103 = .ok (.invokevirtual 270, 3) := by decide +kernel
theorem dX8_digest_106 : decode cX8_digest 106 = .ok (.i2l, 1) := by decide +kernel
theorem dX8_digest_107 : decode cX8_digest 107 = .ok (.invokestatic 250, 3) := by decide +kernel
theorem dX8_digest_110 : decode cX8_digest 110 = .ok (.lstore_n 1, 1) := by decide +kernel
theorem dX8_digest_111 : decode cX8_digest 111 = .ok (.lload_n 1, 1) := by decide +kernel
theorem dX8_digest_112 : decode cX8_digest 112 = .ok (.aload_n 0, 1) := by decide +kernel
theorem dX8_digest_113 : decode cX8_digest 113 = .ok (.invokevirtual 273, 3) := by decide +kernel
theorem dX8_digest_116 : decode cX8_digest 116 = .ok (.i2l, 1) := by decide +kernel
theorem dX8_digest_117 : decode cX8_digest 117 = .ok (.invokestatic 250, 3) := by decide +kernel
theorem dX8_digest_120 : decode cX8_digest 120 = .ok (.lstore_n 1, 1) := by decide +kernel
theorem dX8_digest_121 : decode cX8_digest 121 = .ok (.lload_n 1, 1) := by decide +kernel
theorem dX8_digest_122 : decode cX8_digest 122 = .ok (.aload_n 0, 1) := by decide +kernel
theorem dX8_digest_123 : decode cX8_digest 123 = .ok (.invokevirtual 157, 3) := by decide +kernel
theorem dX8_digest_126 : decode cX8_digest 126 = .ok (.invokestatic 276, 3) := by decide +kernel
theorem dX8_digest_129 : decode cX8_digest 129 = .ok (.lstore_n 1, 1) := by decide +kernel
theorem dX8_digest_130 : decode cX8_digest 130 = .ok (.lload_n 1, 1) := by decide +kernel
theorem dX8_digest_131 : decode cX8_digest 131 = .ok (.aload_n 0, 1) := by decide +kernel
theorem dX8_digest_132 : decode cX8_digest 132 = .ok (.iconst 0, 1) := by decide +kernel
theorem dX8_digest_133 : decode cX8_digest 133 = .ok (.invokevirtual 280, 3) := by decide +kernel
theorem dX8_digest_136 : decode cX8_digest 136 = .ok (.i2l, 1) := by decide +kernel
theorem dX8_digest_137 : decode cX8_digest 137 = .ok (.invokestatic 250, 3) := by decide +kernel
theorem dX8_digest_140 : decode cX8_digest 140 = .ok (.lstore_n 1, 1) := by decide +kernel
theorem dX8_digest_141 : decode cX8_digest 141 = .ok (.lload_n 1, 1) := by decide +kernel
theorem dX8_digest_142 : decode cX8_digest 142 = .ok (.aload_n 0, 1) := by decide +kernel
theorem dX8_digest_143 : decode cX8_digest 143 = .ok (.iconst 1, 1) := by decide +kernel
theorem dX8_digest_144 : decode cX8_digest 144 = .ok (.invokevirtual 280, 3) := by decide +kernel
theorem dX8_digest_147 : decode cX8_digest 147 = .ok (.i2l, 1) := by decide +kernel
theorem dX8_digest_148 : decode cX8_digest 148 = .ok (.invokestatic 250, 3) := by decide +kernel
theorem dX8_digest_151 : decode cX8_digest 151 = .ok (.lstore_n 1, 1) := by decide +kernel
theorem dX8_digest_152 : decode cX8_digest 152 = .ok (.aload_n 0, 1) := by decide +kernel
theorem dX8_digest_153 : decode cX8_digest 153 = .ok (.lload_n 1, 1) := by decide +kernel
theorem dX8_digest_154 : decode cX8_digest 154 = .ok (.aload_n 0, 1) := by decide +kernel
theorem dX8_digest_155 : decode cX8_digest 155 = .ok (.invokevirtual 146, 3) := by decide +kernel
theorem dX8_digest_158 : decode cX8_digest 158 = .ok (.invokevirtual 283, 3) := by decide +kernel
theorem dX8_digest_161 : decode cX8_digest 161 = .ok (.lreturn, 1) := by decide +kernel
theorem dX8_mix_0 : decode cX8_mix 0 = .ok (.ldc2_w 287, 3) := by decide +kernel
theorem dX8_mix_3 : decode cX8_mix 3 = .ok (.lload_n 0, 1) := by decide +kernel
theorem dX8_mix_4 : decode cX8_mix 4 = .ok (.lmul, 1) := by decide +kernel
theorem dX8_mix_5 : decode cX8_mix 5 = .ok (.lload_n 2, 1) := by decide +kernel
theorem dX8_mix_6 : decode cX8_mix 6 = .ok (.ladd, 1) := by decide +kernel
theorem dX8_mix_7 : decode cX8_mix 7 = .ok (.lreturn, 1) := by decide +kernel
theorem dX8_mixText_0 : decode cX8_mixText 0 = .ok (.lload_n 0, 1) := by decide +kernel
theorem dX8_mixText_1 : decode cX8_mixText 1 = .ok (.aload_n 2, 1) := by decide +kernel
theorem dX8_mixText_2 : decode cX8_mixText 2 = .ok (.invokevirtual 95, 3) := by decide +kernel
theorem dX8_mixText_5 : decode cX8_mixText 5 = .ok (.i2l, 1) := by decide +kernel
theorem dX8_mixText_6 : decode cX8_mixText 6 = .ok (.invokestatic 250, 3) := by decide +kernel
theorem dX8_mixText_9 : decode cX8_mixText 9 = .ok (.lstore_n 3, 1) := by decide +kernel
theorem dX8_mixText_10 : decode cX8_mixText 10 = .ok (.iconst 0, 1) := by decide +kernel
theorem dX8_mixText_11 : decode cX8_mixText 11 = .ok (.istore 5, 2) := by decide +kernel
theorem dX8_mixText_13 : decode cX8_mixText 13 = .ok (.iload 5, 2) := by decide +kernel
theorem dX8_mixText_15 : decode cX8_mixText 15 = .ok (.aload_n 2, 1) := by decide +kernel
theorem dX8_mixText_16 : decode cX8_mixText 16 = .ok (.invokevirtual 95, 3) := by decide +kernel
theorem dX8_mixText_19 : decode cX8_mixText 19 = .ok (.if_icmp .ge 21, 3) := by decide +kernel
theorem dX8_mixText_22 : decode cX8_mixText 22 = .ok (.lload_n 3, 1) := by decide +kernel
theorem dX8_mixText_23 : decode cX8_mixText 23 = .ok (.aload_n 2, 1) := by decide +kernel
theorem dX8_mixText_24 : decode cX8_mixText 24 = .ok (.iload 5, 2) := by decide +kernel
theorem dX8_mixText_26 : decode cX8_mixText 26 = .ok (.invokevirtual 125, 3) := by decide +kernel
theorem dX8_mixText_29 : decode cX8_mixText 29 = .ok (.i2l, 1) := by decide +kernel
theorem dX8_mixText_30 : decode cX8_mixText 30 = .ok (.invokestatic 250, 3) := by decide +kernel
theorem dX8_mixText_33 : decode cX8_mixText 33 = .ok (.lstore_n 3, 1) := by decide +kernel
theorem dX8_mixText_34 : decode cX8_mixText 34 = .ok (.iinc 5 1, 3) := by decide +kernel
theorem dX8_mixText_37 : decode cX8_mixText 37 = .ok (.goto (-24), 3) := by decide +kernel
theorem dX8_mixText_40 : decode cX8_mixText 40 = .ok (.lload_n 3, 1) := by decide +kernel
theorem dX8_mixText_41 : decode cX8_mixText 41 = .ok (.lreturn, 1) := by decide +kernel
theorem dX8_mixWay_0 : decode cX8_mixWay 0 = .ok (.lload_n 0, 1) := by decide +kernel
theorem dX8_mixWay_1 : decode cX8_mixWay 1 = .ok (.lstore_n 3, 1) := by decide +kernel
theorem dX8_mixWay_2 : decode cX8_mixWay 2 = .ok (.iconst 0, 1) := by decide +kernel
theorem dX8_mixWay_3 : decode cX8_mixWay 3 = .ok (.istore 5, 2) := by decide +kernel
theorem dX8_mixWay_5 : decode cX8_mixWay 5 = .ok (.iload 5, 2) := by decide +kernel
theorem dX8_mixWay_7 : decode cX8_mixWay 7 = .ok (.aload_n 2, 1) := by decide +kernel
theorem dX8_mixWay_8 : decode cX8_mixWay 8 = .ok (.invokevirtual 161, 3) := by decide +kernel
theorem dX8_mixWay_11 : decode cX8_mixWay 11 = .ok (.if_icmp .ge 21, 3) := by decide +kernel
theorem dX8_mixWay_14 : decode cX8_mixWay 14 = .ok (.lload_n 3, 1) := by decide +kernel
theorem dX8_mixWay_15 : decode cX8_mixWay 15 = .ok (.aload_n 2, 1) := by decide +kernel
theorem dX8_mixWay_16 : decode cX8_mixWay 16 = .ok (.iload 5, 2) := by decide +kernel
theorem dX8_mixWay_18 : decode cX8_mixWay 18 = .ok (.invokevirtual 164, 3) := by decide +kernel
theorem dX8_mixWay_21 : decode cX8_mixWay 21 = .ok (.i2l, 1) := by decide +kernel
theorem dX8_mixWay_22 : decode cX8_mixWay 22 = .ok (.invokestatic 250, 3) := by decide +kernel
theorem dX8_mixWay_25 : decode cX8_mixWay 25 = .ok (.lstore_n 3, 1) := by decide +kernel
theorem dX8_mixWay_26 : decode cX8_mixWay 26 = .ok (.iinc 5 1, 3) := by decide +kernel
theorem dX8_mixWay_29 : decode cX8_mixWay 29 = .ok (.goto (-24), 3) := by decide +kernel
theorem dX8_mixWay_32 : decode cX8_mixWay 32 = .ok (.lload_n 3, 1) := by decide +kernel
theorem dX8_mixWay_33 : decode cX8_mixWay 33 = .ok (.lreturn, 1) := by decide +kernel
theorem dX8_mixGrid_0 : decode cX8_mixGrid 0 = .ok (.aload_n 0, 1) := by decide +kernel
theorem dX8_mixGrid_1 : decode cX8_mixGrid 1 = .ok (.getfield 10, 3) := by decide +kernel
theorem dX8_mixGrid_4 : decode cX8_mixGrid 4 = .ok (.iconst 0, 1) := by decide +kernel
theorem dX8_mixGrid_5 : decode cX8_mixGrid 5 = .ok (.invokevirtual 87, 3) := by decide +kernel
theorem dX8_mixGrid_8 : decode cX8_mixGrid 8 = .ok (.invokevirtual 95, 3) := by decide +kernel
theorem dX8_mixGrid_11 : decode cX8_mixGrid 11 = .ok (.istore 4, 2) := by decide +kernel
theorem dX8_mixGrid_13 : decode cX8_mixGrid 13 = .ok (.aload_n 0, 1) := by decide +kernel
theorem dX8_mixGrid_14 : decode cX8_mixGrid 14 = .ok (.getfield 10, 3) := by decide +kernel
theorem dX8_mixGrid_17 : decode cX8_mixGrid 17 = .ok (.iconst 1, 1) := by decide +kernel
theorem dX8_mixGrid_18 : decode cX8_mixGrid 18 = .ok (.invokevirtual 87, 3) := by decide +kernel
theorem dX8_mixGrid_21 : decode cX8_mixGrid 21 = .ok (.invokevirtual 95, 3) := by decide +kernel
theorem dX8_mixGrid_24 : decode cX8_mixGrid 24 = .ok (.istore 5, 2) := by decide +kernel
theorem dX8_mixGrid_26 : decode cX8_mixGrid 26 = .ok (.lload_n 1, 1) := by decide +kernel
theorem dX8_mixGrid_27 : decode cX8_mixGrid 27 = .ok (.lstore 6, 2) := by decide +kernel
theorem dX8_mixGrid_29 : decode cX8_mixGrid 29 = .ok (.iconst 0, 1) := by decide +kernel
theorem dX8_mixGrid_30 : decode cX8_mixGrid 30 = .ok (.istore 8, 2) := by decide +kernel
theorem dX8_mixGrid_32 : decode cX8_mixGrid 32 = .ok (.iload 8, 2) := by decide +kernel
theorem dX8_mixGrid_34 : decode cX8_mixGrid 34 = .ok (.iload 4, 2) := by decide +kernel
theorem dX8_mixGrid_36 : decode cX8_mixGrid 36 = .ok (.if_icmp .gt 41, 3) := by decide +kernel
theorem dX8_mixGrid_39 : decode cX8_mixGrid 39 = .ok (.iconst 0, 1) := by decide +kernel
theorem dX8_mixGrid_40 : decode cX8_mixGrid 40 = .ok (.istore 9, 2) := by decide +kernel
theorem dX8_mixGrid_42 : decode cX8_mixGrid 42 = .ok (.iload 9, 2) := by decide +kernel
theorem dX8_mixGrid_44 : decode cX8_mixGrid 44 = .ok (.iload 5, 2) := by decide +kernel
theorem dX8_mixGrid_46 : decode cX8_mixGrid 46 = .ok (.if_icmp .gt 25, 3) := by decide +kernel
theorem dX8_mixGrid_49 : decode cX8_mixGrid 49 = .ok (.lload 6, 2) := by decide +kernel
theorem dX8_mixGrid_51 : decode cX8_mixGrid 51 = .ok (.aload_n 3, 1) := by decide +kernel
theorem dX8_mixGrid_52 : decode cX8_mixGrid 52 = .ok (.iload 8, 2) := by decide +kernel
theorem dX8_mixGrid_54 : decode cX8_mixGrid 54 = .ok (.iload 9, 2) := by decide +kernel
theorem dX8_mixGrid_56 : decode cX8_mixGrid 56 = .ok (.invokevirtual 150, 3) := by decide +kernel
theorem dX8_mixGrid_59 : decode cX8_mixGrid 59 = .ok (.i2l, 1) := by decide +kernel
theorem dX8_mixGrid_60 : decode cX8_mixGrid 60 = .ok (.invokestatic 250, 3) := by decide +kernel
theorem dX8_mixGrid_63 : decode cX8_mixGrid 63 = .ok (.lstore 6, 2) := by decide +kernel
theorem dX8_mixGrid_65 : decode cX8_mixGrid 65 = .ok (.iinc 9 1, 3) := by decide +kernel
theorem dX8_mixGrid_68 : decode cX8_mixGrid 68 = .ok (.goto (-26), 3) := by decide +kernel
theorem dX8_mixGrid_71 : decode cX8_mixGrid 71 = .ok (.iinc 8 1, 3) := by decide +kernel
theorem dX8_mixGrid_74 : decode cX8_mixGrid 74 = .ok (.goto (-42), 3) := by decide +kernel
theorem dX8_mixGrid_77 : decode cX8_mixGrid 77 = .ok (.lload 6, 2) := by decide +kernel
theorem dX8_mixGrid_79 : decode cX8_mixGrid 79 = .ok (.lreturn, 1) := by decide +kernel
theorem dX8_currentDistances_0 : decode cX8_currentDistances 0 = .ok (.aload_n 0, 1) := by decide +kernel
theorem dX8_currentDistances_1 : decode cX8_currentDistances 1 = .ok (.getfield 33, 3) := by decide +kernel
theorem dX8_currentDistances_4 : decode cX8_currentDistances 4 = .ok (.aload_n 0, 1) := by decide +kernel
theorem dX8_currentDistances_5 : decode cX8_currentDistances 5 = .ok (.getfield 10, 3) := by decide +kernel
theorem dX8_currentDistances_8 : decode cX8_currentDistances 8 = .ok (.iconst 0, 1) := by decide +kernel
theorem dX8_currentDistances_9 : decode cX8_currentDistances 9 = .ok (.invokevirtual 87, 3) := by decide +kernel
theorem dX8_currentDistances_12 : decode cX8_currentDistances 12 = .ok (.aload_n 0, 1) := by decide +kernel
theorem dX8_currentDistances_13 : decode cX8_currentDistances 13 = .ok (.getfield 10, 3) := by decide +kernel
theorem dX8_currentDistances_16 : decode cX8_currentDistances 16 = .ok (.iconst 1, 1) := by decide +kernel
theorem dX8_currentDistances_17 : decode cX8_currentDistances 17 = .ok (.invokevirtual 87, 3) := by decide +kernel
theorem dX8_currentDistances_20 : decode cX8_currentDistances 20 = .ok (.iconst 1, 1) := by decide +kernel
theorem dX8_currentDistances_21 : decode cX8_currentDistances 21 = .ok (.invokevirtual 289, 3) := by decide +kernel
theorem dX8_currentDistances_24 : decode cX8_currentDistances 24 = .ok (.aload_n 0, 1) := by decide +kernel
theorem dX8_currentDistances_25 : decode cX8_currentDistances 25 = .ok (.getfield 33, 3) := by decide +kernel
theorem dX8_currentDistances_28 : decode cX8_currentDistances 28 = .ok (.areturn, 1) := by decide +kernel
theorem dX8_currentSearch_0 : decode cX8_currentSearch 0 = .ok (.aload_n 0, 1) := by decide +kernel
theorem dX8_currentSearch_1 : decode cX8_currentSearch 1 = .ok (.getfield 37, 3) := by decide +kernel
theorem dX8_currentSearch_4 : decode cX8_currentSearch 4 = .ok (.aload_n 0, 1) := by decide +kernel
theorem dX8_currentSearch_5 : decode cX8_currentSearch 5 = .ok (.getfield 10, 3) := by decide +kernel
theorem dX8_currentSearch_8 : decode cX8_currentSearch 8 = .ok (.iconst 0, 1) := by decide +kernel
theorem dX8_currentSearch_9 : decode cX8_currentSearch 9 = .ok (.invokevirtual 87, 3) := by decide +kernel
theorem dX8_currentSearch_12 : decode cX8_currentSearch 12 = .ok (.aload_n 0, 1) := by decide +kernel
theorem dX8_currentSearch_13 : decode cX8_currentSearch 13 = .ok (.getfield 10, 3) := by decide +kernel
theorem dX8_currentSearch_16 : decode cX8_currentSearch 16 = .ok (.iconst 1, 1) := by decide +kernel
theorem dX8_currentSearch_17 : decode cX8_currentSearch 17 = .ok (.invokevirtual 87, 3) := by decide +kernel
theorem dX8_currentSearch_20 : decode cX8_currentSearch 20 = .ok (.iconst 0, 1) := by decide +kernel
theorem dX8_currentSearch_21 : decode cX8_currentSearch 21 = .ok (.invokevirtual 289, 3) := by decide +kernel
theorem dX8_currentSearch_24 : decode cX8_currentSearch 24 = .ok (.aload_n 0, 1) := by decide +kernel
theorem dX8_currentSearch_25 : decode cX8_currentSearch 25 = .ok (.getfield 37, 3) := by decide +kernel
theorem dX8_currentSearch_28 : decode cX8_currentSearch 28 = .ok (.areturn, 1) := by decide +kernel
theorem dX8_currentWay_0 : decode cX8_currentWay 0 = .ok (.aload_n 0, 1) := by decide +kernel
theorem dX8_currentWay_1 : decode cX8_currentWay 1 = .ok (.getfield 43, 3) := by decide +kernel
theorem dX8_currentWay_4 : decode cX8_currentWay 4 = .ok (.aload_n 0, 1) := by decide +kernel
theorem dX8_currentWay_5 : decode cX8_currentWay 5 = .ok (.invokevirtual 146, 3) := by decide +kernel
theorem dX8_currentWay_8 : decode cX8_currentWay 8 = .ok (.aload_n 0, 1) := by decide +kernel
theorem dX8_currentWay_9 : decode cX8_currentWay 9 = .ok (.getfield 10, 3) := by decide +kernel
theorem dX8_currentWay_12 : decode cX8_currentWay 12 = .ok (.iconst 0, 1) := by decide +kernel
theorem dX8_currentWay_13 : decode cX8_currentWay 13 = .ok (.invokevirtual 87, 3) := by decide +kernel
theorem dX8_currentWay_16 : decode cX8_currentWay 16 = .ok (.aload_n 0, 1) := by decide +kernel
theorem dX8_currentWay_17 : decode cX8_currentWay 17 = .ok (.getfield 10, 3) := by decide +kernel
theorem dX8_currentWay_20 : decode cX8_currentWay 20 = .ok (.iconst 1, 1) := by decide +kernel
theorem dX8_currentWay_21 : decode cX8_currentWay 21 = .ok (.invokevirtual 87, 3) := by decide +kernel
theorem dX8_currentWay_24 : decode cX8_currentWay 24 = .ok (.invokevirtual 293, 3) := by decide +kernel
theorem dX8_currentWay_27 : decode cX8_currentWay 27 = .ok (.aload_n 0, 1) := by decide +kernel
theorem dX8_currentWay_28 : decode cX8_currentWay 28 = .ok (.getfield 43, 3) := by decide +kernel
theorem dX8_currentWay_31 : decode cX8_currentWay 31 = .ok (.areturn, 1) := by decide +kernel
theorem dX8_textOf_0 : decode cX8_textOf 0 = .ok (.iload_n 1, 1) := by decide +kernel
theorem dX8_textOf_1 : decode cX8_textOf 1 = .ok (.ifCond .eq 19, 3) := by decide +kernel
theorem dX8_textOf_4 : decode cX8_textOf 4 = .ok (.iload_n 1, 1) := by decide +kernel
theorem dX8_textOf_5 : decode cX8_textOf 5 = .ok (.iconst 1, 1) := by decide +kernel
theorem dX8_textOf_6 : decode cX8_textOf 6 = .ok (.if_icmp .eq 14, 3) := by decide +kernel
theorem dX8_textOf_9 : decode cX8_textOf 9 = .ok (.new 103, 3) := by decide +kernel
theorem dX8_textOf_12 : decode cX8_textOf 12 = .ok (.dup, 1) := by decide +kernel
theorem dX8_textOf_13 : decode cX8_textOf 13 = .ok (.ldc_w 296, 3) := by decide +kernel
theorem dX8_textOf_16 : decode cX8_textOf 16 = .ok (.invokespecial 107, 3) := by decide +kernel
theorem dX8_textOf_19 : decode cX8_textOf 19 = .ok (.athrow, 1) := by decide +kernel
theorem dX8_textOf_20 : decode cX8_textOf 20 = .ok (.aload_n 0, 1) := by decide +kernel
theorem dX8_textOf_21 : decode cX8_textOf 21 = .ok (.getfield 10, 3) := by decide +kernel
theorem dX8_textOf_24 : decode cX8_textOf 24 = .ok (.iload_n 1, 1) := by decide +kernel
theorem dX8_textOf_25 : decode cX8_textOf 25 = .ok (.invokevirtual 87, 3) := by decide +kernel
theorem dX8_textOf_28 : decode cX8_textOf 28 = .ok (.areturn, 1) := by decide +kernel
theorem dX8_checkPlace_0 : decode cX8_checkPlace 0 = .ok (.iload_n 1, 1) := by decide +kernel
theorem dX8_checkPlace_1 : decode cX8_checkPlace 1 = .ok (.ifCond .lt 11, 3) := by decide +kernel
theorem dX8_checkPlace_4 : decode cX8_checkPlace 4 = .ok (.iload_n 1, 1) := by decide +kernel
theorem dX8_checkPlace_5 : decode cX8_checkPlace 5 = .ok (.aload_n 0, 1) := by decide +kernel
theorem dX8_checkPlace_6 : decode cX8_checkPlace 6 = .ok (.invokevirtual 95, 3) := by decide +kernel
theorem dX8_checkPlace_9 : decode cX8_checkPlace 9 = .ok (.if_icmp .lt 14, 3) := by decide +kernel
theorem dX8_checkPlace_12 : decode cX8_checkPlace 12 = .ok (.new 103, 3) := by decide +kernel
theorem dX8_checkPlace_15 : decode cX8_checkPlace 15 = .ok (.dup, 1) := by decide +kernel
theorem dX8_checkPlace_16 : decode cX8_checkPlace 16 = .ok (.ldc_w 298, 3) := by decide +kernel
theorem dX8_checkPlace_19 : decode cX8_checkPlace 19 = .ok (.invokespecial 107, 3) := by decide +kernel
theorem dX8_checkPlace_22 : decode cX8_checkPlace 22 = .ok (.athrow, 1) := by decide +kernel
theorem dX8_checkPlace_23 : decode cX8_checkPlace 23 = .ok (.return_, 1) := by decide +kernel
theorem dX8_checkLetter_0 : decode cX8_checkLetter 0 = .ok (.iload_n 1, 1) := by decide +kernel
theorem dX8_checkLetter_1 : decode cX8_checkLetter 1 = .ok (.ifCond .lt 14, 3) := by decide +kernel
theorem dX8_checkLetter_4 : decode cX8_checkLetter 4 = .ok (.iload_n 1, 1) := by decide +kernel
theorem dX8_checkLetter_5 : decode cX8_checkLetter 5 = .ok (.aload_n 0, 1) := by decide +kernel
theorem dX8_checkLetter_6 : decode cX8_checkLetter 6 = .ok (.getfield 10, 3) := by decide +kernel
theorem dX8_checkLetter_9 : decode cX8_checkLetter 9 = .ok (.invokevirtual 68, 3) := by decide +kernel
theorem dX8_checkLetter_12 : decode cX8_checkLetter 12 = .ok (.if_icmp .lt 14, 3) := by decide +kernel
theorem dX8_checkLetter_15 : decode cX8_checkLetter 15 = .ok (.new 76, 3) := by decide +kernel
theorem dX8_checkLetter_18 : decode cX8_checkLetter 18 = .ok (.dup, 1) := by decide +kernel
theorem dX8_checkLetter_19 : decode cX8_checkLetter 19 = .ok (.ldc_w 300, 3) := by decide +kernel
theorem dX8_checkLetter_22 : decode cX8_checkLetter 22 = .ok (.invokespecial 80, 3) := by decide +kernel
theorem dX8_checkLetter_25 : decode cX8_checkLetter 25 = .ok (.athrow, 1) := by decide +kernel
theorem dX8_checkLetter_26 : decode cX8_checkLetter 26 = .ok (.return_, 1) := by decide +kernel
theorem dX8_checkPrefixes_0 : decode cX8_checkPrefixes 0 = .ok (.iload_n 1, 1) := by decide +kernel
theorem dX8_checkPrefixes_1 : decode cX8_checkPrefixes 1 = .ok (.ifCond .lt 38, 3) := by decide +kernel
theorem dX8_checkPrefixes_4 : decode cX8_checkPrefixes 4 = .ok (.iload_n 1, 1) := by decide +kernel
theorem dX8_checkPrefixes_5 : decode cX8_checkPrefixes 5 = .ok (.aload_n 0, 1) := by decide +kernel
theorem dX8_checkPrefixes_6 : decode cX8_checkPrefixes 6 = .ok (.getfield 10, 3) := by decide +kernel
theorem dX8_checkPrefixes_9 : decode cX8_checkPrefixes 9 = .ok (.iconst 0, 1) := by decide +kernel
theorem dX8_checkPrefixes_10 : decode cX8_checkPrefixes 10 = .ok (.invokevirtual 87, 3) := by decide +kernel
theorem dX8_checkPrefixes_13 : decode cX8_checkPrefixes 13 = .ok (.invokevirtual 95, 3) := by decide +kernel
theorem dX8_checkPrefixes_16 : decode cX8_checkPrefixes 16 = .ok (.if_icmp .gt 23, 3) := by decide +kernel
theorem dX8_checkPrefixes_19 : decode cX8_checkPrefixes 19 = .ok (.iload_n 2, 1) := by decide +kernel
theorem dX8_checkPrefixes_20 : decode cX8_checkPrefixes 20 = .ok (.iload_n 3, 1) := by decide +kernel
theorem dX8_checkPrefixes_21 : decode cX8_checkPrefixes 21 = .ok (.if_icmp .lt 18, 3) := by decide +kernel
theorem dX8_checkPrefixes_24 : decode cX8_checkPrefixes 24 = .ok (.iload_n 2, 1) := by decide +kernel
theorem dX8_checkPrefixes_25 : decode cX8_checkPrefixes 25 = .ok (.aload_n 0, 1) := by decide +kernel
theorem dX8_checkPrefixes_26 : decode cX8_checkPrefixes 26 = .ok (.getfield 10, 3) := by decide +kernel
theorem dX8_checkPrefixes_29 : decode cX8_checkPrefixes 29 = .ok (.iconst 1, 1) := by decide +kernel
theorem dX8_checkPrefixes_30 : decode cX8_checkPrefixes 30 = .ok (.invokevirtual 87, 3) := by decide +kernel
theorem dX8_checkPrefixes_33 : decode cX8_checkPrefixes 33 = .ok (.invokevirtual 95, 3) := by decide +kernel
theorem dX8_checkPrefixes_36 : decode cX8_checkPrefixes 36 = .ok (.if_icmp .le 14, 3) := by decide +kernel
theorem dX8_checkPrefixes_39 : decode cX8_checkPrefixes 39 = .ok (.new 103, 3) := by decide +kernel
theorem dX8_checkPrefixes_42 : decode cX8_checkPrefixes 42 = .ok (.dup, 1) := by decide +kernel
theorem dX8_checkPrefixes_43 : decode cX8_checkPrefixes 43 = .ok (.ldc_w 302, 3) := by decide +kernel
theorem dX8_checkPrefixes_46 : decode cX8_checkPrefixes 46 = .ok (.invokespecial 107, 3) := by decide +kernel
theorem dX8_checkPrefixes_49 : decode cX8_checkPrefixes 49 = .ok (.athrow, 1) := by decide +kernel
theorem dX8_checkPrefixes_50 : decode cX8_checkPrefixes 50 = .ok (.return_, 1) := by decide +kernel
theorem dX8_checkBound_0 : decode cX8_checkBound 0 = .ok (.iload_n 0, 1) := by decide +kernel
theorem dX8_checkBound_1 : decode cX8_checkBound 1 = .ok (.ifCond .lt 9, 3) := by decide +kernel
theorem dX8_checkBound_4 : decode cX8_checkBound 4 = .ok (.iload_n 0, 1) := by decide +kernel
theorem dX8_checkBound_5 : decode cX8_checkBound 5 = .ok (.bipush 20, 2) := by decide +kernel
theorem dX8_checkBound_7 : decode cX8_checkBound 7 = .ok (.if_icmp .le 14, 3) := by decide +kernel
theorem dX8_checkBound_10 : decode cX8_checkBound 10 = .ok (.new 76, 3) := by decide +kernel
theorem dX8_checkBound_13 : decode cX8_checkBound 13 = .ok (.dup, 1) := by decide +kernel
theorem dX8_checkBound_14 : decode cX8_checkBound 14 = .ok (.ldc_w 304, 3) := by decide +kernel
theorem dX8_checkBound_17 : decode cX8_checkBound 17 = .ok (.invokespecial 80, 3) := by decide +kernel
theorem dX8_checkBound_20 : decode cX8_checkBound 20 = .ok (.athrow, 1) := by decide +kernel
theorem dX8_checkBound_21 : decode cX8_checkBound 21 = .ok (.return_, 1) := by decide +kernel
theorem dX8_replaceCost_0 : decode cX8_replaceCost 0 = .ok (.iload_n 0, 1) := by decide +kernel
theorem dX8_replaceCost_1 : decode cX8_replaceCost 1 = .ok (.iload_n 1, 1) := by decide +kernel
theorem dX8_replaceCost_2 : decode cX8_replaceCost 2 = .ok (.if_icmp .ne 7, 3) := by decide +kernel
theorem dX8_replaceCost_5 : decode cX8_replaceCost 5 = .ok (.iconst 0, 1) := by decide +kernel
theorem dX8_replaceCost_6 : decode cX8_replaceCost 6 = .ok (.goto 4, 3) := by decide +kernel
theorem dX8_replaceCost_9 : decode cX8_replaceCost 9 = .ok (.iconst 1, 1) := by decide +kernel
theorem dX8_replaceCost_10 : decode cX8_replaceCost 10 = .ok (.ireturn, 1) := by decide +kernel
theorem dX8_leastCost_0 : decode cX8_leastCost 0 = .ok (.iload_n 0, 1) := by decide +kernel
theorem dX8_leastCost_1 : decode cX8_leastCost 1 = .ok (.iload_n 1, 1) := by decide +kernel
theorem dX8_leastCost_2 : decode cX8_leastCost 2 = .ok (.invokestatic 181, 3) := by decide +kernel
theorem dX8_leastCost_5 : decode cX8_leastCost 5 = .ok (.iconst 1, 1) := by decide +kernel
theorem dX8_leastCost_6 : decode cX8_leastCost 6 = .ok (.iadd, 1) := by decide +kernel
theorem dX8_leastCost_7 : decode cX8_leastCost 7 = .ok (.iload_n 2, 1) := by decide +kernel
theorem dX8_leastCost_8 : decode cX8_leastCost 8 = .ok (.iload_n 3, 1) := by decide +kernel
theorem dX8_leastCost_9 : decode cX8_leastCost 9 = .ok (.iadd, 1) := by decide +kernel
theorem dX8_leastCost_10 : decode cX8_leastCost 10 = .ok (.invokestatic 181, 3) := by decide +kernel
theorem dX8_leastCost_13 : decode cX8_leastCost 13 = .ok (.ireturn, 1) := by decide +kernel
theorem dX9_init_0 : decode cX9_init 0 = .ok (.aload_n 0, 1) := by decide +kernel
theorem dX9_init_1 : decode cX9_init 1 = .ok (.invokespecial 1, 3) := by decide +kernel
theorem dX9_init_4 : decode cX9_init 4 = .ok (.aload_n 0, 1) := by decide +kernel
theorem dX9_init_5 : decode cX9_init 5 = .ok (.bipush 43, 2) := by decide +kernel
theorem dX9_init_7 : decode cX9_init 7 = .ok (.newarray .int, 2) := by decide +kernel
theorem dX9_init_9 : decode cX9_init 9 = .ok (.putfield 7, 3) := by decide +kernel
theorem dX9_init_12 : decode cX9_init 12 = .ok (.aload_n 0, 1) := by decide +kernel
theorem dX9_init_13 : decode cX9_init 13 = .ok (.sipush 258, 3) := by decide +kernel
theorem dX9_init_16 : decode cX9_init 16 = .ok (.newarray .int, 2) := by decide +kernel
theorem dX9_init_18 : decode cX9_init 18 = .ok (.putfield 13, 3) := by decide +kernel
theorem dX9_init_21 : decode cX9_init 21 = .ok (.aload_n 0, 1) := by decide +kernel
theorem dX9_init_22 : decode cX9_init 22 = .ok (.iconst 2, 1) := by decide +kernel
theorem dX9_init_23 : decode cX9_init 23 = .ok (.putfield 16, 3) := by decide +kernel
theorem dX9_init_26 : decode cX9_init 26 = .ok (.aload_n 0, 1) := by decide +kernel
theorem dX9_init_27 : decode cX9_init 27 = .ok (.sipush 20736, 3) := by decide +kernel
theorem dX9_init_30 : decode cX9_init 30 = .ok (.newarray .boolean, 2) := by decide +kernel
theorem dX9_init_32 : decode cX9_init 32 = .ok (.putfield 20, 3) := by decide +kernel
theorem dX9_init_35 : decode cX9_init 35 = .ok (.aload_n 0, 1) := by decide +kernel
theorem dX9_init_36 : decode cX9_init 36 = .ok (.sipush 20736, 3) := by decide +kernel
theorem dX9_init_39 : decode cX9_init 39 = .ok (.newarray .int, 2) := by decide +kernel
theorem dX9_init_41 : decode cX9_init 41 = .ok (.putfield 24, 3) := by decide +kernel
theorem dX9_init_44 : decode cX9_init 44 = .ok (.aload_n 0, 1) := by decide +kernel
theorem dX9_init_45 : decode cX9_init 45 = .ok (.bipush 60, 2) := by decide +kernel
theorem dX9_init_47 : decode cX9_init 47 = .ok (.newarray .int, 2) := by decide +kernel
theorem dX9_init_49 : decode cX9_init 49 = .ok (.putfield 27, 3) := by decide +kernel
theorem dX9_init_52 : decode cX9_init 52 = .ok (.aload_n 0, 1) := by decide +kernel
theorem dX9_init_53 : decode cX9_init 53 = .ok (.sipush 441, 3) := by decide +kernel
theorem dX9_init_56 : decode cX9_init 56 = .ok (.newarray .int, 2) := by decide +kernel
theorem dX9_init_58 : decode cX9_init 58 = .ok (.putfield 30, 3) := by decide +kernel
theorem dX9_init_61 : decode cX9_init 61 = .ok (.aload_n 0, 1) := by decide +kernel
theorem dX9_init_62 : decode cX9_init 62 = .ok (.bipush 40, 2) := by decide +kernel
theorem dX9_init_64 : decode cX9_init 64 = .ok (.newarray .int, 2) := by decide +kernel
theorem dX9_init_66 : decode cX9_init 66 = .ok (.putfield 33, 3) := by decide +kernel
theorem dX9_init_69 : decode cX9_init 69 = .ok (.aload_n 0, 1) := by decide +kernel
theorem dX9_init_70 : decode cX9_init 70 = .ok (.getfield 7, 3) := by decide +kernel
theorem dX9_init_73 : decode cX9_init 73 = .ok (.iconst 2, 1) := by decide +kernel
theorem dX9_init_74 : decode cX9_init 74 = .ok (.iconst 4, 1) := by decide +kernel
theorem dX9_init_75 : decode cX9_init 75 = .ok (.iastore, 1) := by decide +kernel
theorem dX9_init_76 : decode cX9_init 76 = .ok (.return_, 1) := by decide +kernel
theorem dX9_thrown_0 : decode cX9_thrown 0 = .ok (.aload_n 0, 1) := by decide +kernel
theorem dX9_thrown_1 : decode cX9_thrown 1 = .ok (.getfield 36, 3) := by decide +kernel
theorem dX9_thrown_4 : decode cX9_thrown 4 = .ok (.ireturn, 1) := by decide +kernel
theorem dX9_throwing_0 : decode cX9_throwing 0 = .ok (.aload_n 0, 1) := by decide +kernel
theorem dX9_throwing_1 : decode cX9_throwing 1 = .ok (.iload_n 1, 1) := by decide +kernel
theorem dX9_throwing_2 : decode cX9_throwing 2 = .ok (.putfield 36, 3) := by decide +kernel
theorem dX9_throwing_5 : decode cX9_throwing 5 = .ok (.iconst 0, 1) := by decide +kernel
theorem dX9_throwing_6 : decode cX9_throwing 6 = .ok (.ireturn, 1) := by decide +kernel
theorem dX9_in_0 : decode cX9_in 0 = .ok (.iload_n 0, 1) := by decide +kernel
theorem dX9_in_1 : decode cX9_in 1 = .ok (.iload_n 1, 1) := by decide +kernel
theorem dX9_in_2 : decode cX9_in 2 = .ok (.if_icmp .lt 12, 3) := by decide +kernel
theorem dX9_in_5 : decode cX9_in 5 = .ok (.iload_n 0, 1) := by decide +kernel
theorem dX9_in_6 : decode cX9_in 6 = .ok (.iload_n 2, 1) := by decide +kernel
theorem dX9_in_7 : decode cX9_in 7 = .ok (.if_icmp .gt 7, 3) := by decide +kernel
theorem dX9_in_10 : decode cX9_in 10 = .ok (.iconst 1, 1) := by decide +kernel
theorem dX9_in_11 : decode cX9_in 11 = .ok (.goto 4, 3) := by decide +kernel
theorem dX9_in_14 : decode cX9_in 14 = .ok (.iconst 0, 1) := by decide +kernel
theorem dX9_in_15 : decode cX9_in 15 = .ok (.ireturn, 1) := by decide +kernel
theorem dX9_save_0 : decode cX9_save 0 = .ok (.aload_n 0, 1) := by decide +kernel
theorem dX9_save_1 : decode cX9_save 1 = .ok (.getfield 39, 3) := by decide +kernel
theorem dX9_save_4 : decode cX9_save 4 = .ok (.bipush 6, 2) := by decide +kernel
theorem dX9_save_6 : decode cX9_save 6 = .ok (.if_icmp .ne 43, 3) := by decide +kernel
theorem dX9_save_9 : decode cX9_save 9 = .ok (.iconst 0, 1) := by decide +kernel
theorem dX9_save_10 : decode cX9_save 10 = .ok (.istore_n 1, 1) := by decide +kernel
theorem dX9_save_11 : decode cX9_save 11 = .ok (.iload_n 1, 1) := by decide +kernel
theorem dX9_save_12 : decode cX9_save 12 = .ok (.sipush 215, 3) := by decide +kernel
theorem dX9_save_15 : decode cX9_save 15 = .ok (.if_icmp .ge 24, 3) := by decide +kernel
theorem dX9_save_18 : decode cX9_save 18 = .ok (.aload_n 0, 1) := by decide +kernel
theorem dX9_save_19 : decode cX9_save 19 = .ok (.getfield 13, 3) := by decide +kernel
theorem dX9_save_22 : decode cX9_save 22 = .ok (.iload_n 1, 1) := by decide +kernel
theorem dX9_save_23 : decode cX9_save 23 = .ok (.aload_n 0, 1) := by decide +kernel
theorem dX9_save_24 : decode cX9_save 24 = .ok (.getfield 13, 3) := by decide +kernel
theorem dX9_save_27 : decode cX9_save 27 = .ok (.bipush 43, 2) := by decide +kernel
theorem dX9_save_29 : decode cX9_save 29 = .ok (.iload_n 1, 1) := by decide +kernel
theorem dX9_save_30 : decode cX9_save 30 = .ok (.iadd, 1) := by decide +kernel
theorem dX9_save_31 : decode cX9_save 31 = .ok (.iaload, 1) := by decide +kernel
theorem dX9_save_32 : decode cX9_save 32 = .ok (.iastore, 1) := by decide +kernel
theorem dX9_save_33 : decode cX9_save 33 = .ok (.iinc 1 1, 3) := by decide +kernel
theorem dX9_save_36 : decode cX9_save 36 = .ok (.goto (-25), 3) := by decide +kernel
theorem dX9_save_39 : decode cX9_save 39 = .ok (.aload_n 0, 1) := by decide +kernel
theorem dX9_save_40 : decode cX9_save 40 = .ok (.dup, 1) := by decide +kernel
theorem dX9_save_41 : decode cX9_save 41 = .ok (.getfield 39, 3) := by decide +kernel
theorem dX9_save_44 : decode cX9_save 44 = .ok (.iconst 1, 1) := by decide +kernel
theorem dX9_save_45 : decode cX9_save 45 = .ok (.isub, 1) := by decide +kernel
theorem dX9_save_46 : decode cX9_save 46 = .ok (.putfield 39, 3) := by decide +kernel
theorem dX9_save_49 : decode cX9_save 49 = .ok (.iconst 0, 1) := by decide +kernel
theorem dX9_save_50 : decode cX9_save 50 = .ok (.istore_n 1, 1) := by decide +kernel
theorem dX9_save_51 : decode cX9_save 51 = .ok (.iload_n 1, 1) := by decide +kernel
theorem dX9_save_52 : decode cX9_save 52 = .ok (.bipush 43, 2) := by decide +kernel
theorem dX9_save_54 : decode cX9_save 54 = .ok (.if_icmp .ge 29, 3) := by decide +kernel
theorem dX9_save_57 : decode cX9_save 57 = .ok (.aload_n 0, 1) := by decide +kernel
theorem dX9_save_58 : decode cX9_save 58 = .ok (.getfield 13, 3) := by decide +kernel
theorem dX9_save_61 : decode cX9_save 61 = .ok (.bipush 43, 2) := by decide +kernel
theorem dX9_save_63 : decode cX9_save 63 = .ok (.aload_n 0, 1) := by decide +kernel
theorem dX9_save_64 : decode cX9_save 64 = .ok (.getfield 39, 3) := by decide +kernel
theorem dX9_save_67 : decode cX9_save 67 = .ok (.imul, 1) := by decide +kernel
theorem dX9_save_68 : decode cX9_save 68 = .ok (.iload_n 1, 1) := by decide +kernel
theorem dX9_save_69 : decode cX9_save 69 = .ok (.iadd, 1) := by decide +kernel
theorem dX9_save_70 : decode cX9_save 70 = .ok (.aload_n 0, 1) := by decide +kernel
theorem dX9_save_71 : decode cX9_save 71 = .ok (.getfield 7, 3) := by decide +kernel
theorem dX9_save_74 : decode cX9_save 74 = .ok (.iload_n 1, 1) := by decide +kernel
theorem dX9_save_75 : decode cX9_save 75 = .ok (.iaload, 1) := by decide +kernel
theorem dX9_save_76 : decode cX9_save 76 = .ok (.iastore, 1) := by decide +kernel
theorem dX9_save_77 : decode cX9_save 77 = .ok (.iinc 1 1, 3) := by decide +kernel
theorem dX9_save_80 : decode cX9_save 80 = .ok (.goto (-29), 3) := by decide +kernel
theorem dX9_save_83 : decode cX9_save 83 = .ok (.aload_n 0, 1) := by decide +kernel
theorem dX9_save_84 : decode cX9_save 84 = .ok (.dup, 1) := by decide +kernel
theorem dX9_save_85 : decode cX9_save 85 = .ok (.getfield 39, 3) := by decide +kernel
theorem dX9_save_88 : decode cX9_save 88 = .ok (.iconst 1, 1) := by decide +kernel
theorem dX9_save_89 : decode cX9_save 89 = .ok (.iadd, 1) := by decide +kernel
theorem dX9_save_90 : decode cX9_save 90 = .ok (.putfield 39, 3) := by decide +kernel
theorem dX9_save_93 : decode cX9_save 93 = .ok (.return_, 1) := by decide +kernel
theorem dX9_isText_0 : decode cX9_isText 0 = .ok (.iload_n 0, 1) := by decide +kernel
theorem dX9_isText_1 : decode cX9_isText 1 = .ok (.iconst 0, 1) := by decide +kernel
theorem dX9_isText_2 : decode cX9_isText 2 = .ok (.iconst 1, 1) := by decide +kernel
theorem dX9_isText_3 : decode cX9_isText 3 = .ok (.invokestatic 42, 3) := by decide +kernel
theorem dX9_isText_6 : decode cX9_isText 6 = .ok (.ireturn, 1) := by decide +kernel
theorem dX9_of_0 : decode cX9_of 0 = .ok (.aload_n 0, 1) := by decide +kernel
theorem dX9_of_1 : decode cX9_of 1 = .ok (.getfield 7, 3) := by decide +kernel
theorem dX9_of_4 : decode cX9_of 4 = .ok (.iconst 3, 1) := by decide +kernel
theorem dX9_of_5 : decode cX9_of 5 = .ok (.bipush 20, 2) := by decide +kernel
theorem dX9_of_7 : decode cX9_of 7 = .ok (.iload_n 1, 1) := by decide +kernel
theorem dX9_of_8 : decode cX9_of 8 = .ok (.imul, 1) := by decide +kernel
theorem dX9_of_9 : decode cX9_of 9 = .ok (.iadd, 1) := by decide +kernel
theorem dX9_of_10 : decode cX9_of 10 = .ok (.iload_n 2, 1) := by decide +kernel
theorem dX9_of_11 : decode cX9_of 11 = .ok (.iadd, 1) := by decide +kernel
theorem dX9_of_12 : decode cX9_of 12 = .ok (.iaload, 1) := by decide +kernel
theorem dX9_of_13 : decode cX9_of 13 = .ok (.ireturn, 1) := by decide +kernel
theorem dX9_isLetter_0 : decode cX9_isLetter 0 = .ok (.iload_n 1, 1) := by decide +kernel
theorem dX9_isLetter_1 : decode cX9_isLetter 1 = .ok (.iconst 0, 1) := by decide +kernel
theorem dX9_isLetter_2 : decode cX9_isLetter 2 = .ok (.aload_n 0, 1) := by decide +kernel
theorem dX9_isLetter_3 : decode cX9_isLetter 3 = .ok (.getfield 7, 3) := by decide +kernel
theorem dX9_isLetter_6 : decode cX9_isLetter 6 = .ok (.iconst 2, 1) := by decide +kernel
theorem dX9_isLetter_7 : decode cX9_isLetter 7 = .ok (.iaload, 1) := by decide +kernel
theorem dX9_isLetter_8 : decode cX9_isLetter 8 = .ok (.iconst 1, 1) := by decide +kernel
theorem dX9_isLetter_9 : decode cX9_isLetter 9 = .ok (.isub, 1) := by decide +kernel
theorem dX9_isLetter_10 : decode cX9_isLetter 10 = .ok (.invokestatic 42, 3) := by decide +kernel
theorem dX9_isLetter_13 : decode cX9_isLetter 13 = .ok (.ireturn, 1) := by decide +kernel
theorem dX9_least_0 : decode cX9_least 0 = .ok (.iload_n 0, 1) := by decide +kernel
theorem dX9_least_1 : decode cX9_least 1 = .ok (.iload_n 1, 1) := by decide +kernel
theorem dX9_least_2 : decode cX9_least 2 = .ok (.if_icmp .ge 7, 3) := by decide +kernel
theorem dX9_least_5 : decode cX9_least 5 = .ok (.iload_n 0, 1) := by decide +kernel
theorem dX9_least_6 : decode cX9_least 6 = .ok (.goto 4, 3) := by decide +kernel
theorem dX9_least_9 : decode cX9_least 9 = .ok (.iload_n 1, 1) := by decide +kernel
theorem dX9_least_10 : decode cX9_least 10 = .ok (.istore_n 3, 1) := by decide +kernel
theorem dX9_least_11 : decode cX9_least 11 = .ok (.iload_n 3, 1) := by decide +kernel
theorem dX9_least_12 : decode cX9_least 12 = .ok (.iload_n 2, 1) := by decide +kernel
theorem dX9_least_13 : decode cX9_least 13 = .ok (.if_icmp .ge 7, 3) := by decide +kernel
theorem dX9_least_16 : decode cX9_least 16 = .ok (.iload_n 3, 1) := by decide +kernel
theorem dX9_least_17 : decode cX9_least 17 = .ok (.goto 4, 3) := by decide +kernel
theorem dX9_least_20 : decode cX9_least 20 = .ok (.iload_n 2, 1) := by decide +kernel
theorem dX9_least_21 : decode cX9_least 21 = .ok (.ireturn, 1) := by decide +kernel
theorem dX9_d_0 : decode cX9_d 0 = .ok (.aload_n 0, 1) := by decide +kernel
theorem dX9_d_1 : decode cX9_d 1 = .ok (.getfield 30, 3) := by decide +kernel
theorem dX9_d_4 : decode cX9_d 4 = .ok (.bipush 21, 2) := by decide +kernel
theorem dX9_d_6 : decode cX9_d 6 = .ok (.iload_n 1, 1) := by decide +kernel
theorem dX9_d_7 : decode cX9_d 7 = .ok (.imul, 1) := by decide +kernel
theorem dX9_d_8 : decode cX9_d 8 = .ok (.iload_n 2, 1) := by decide +kernel
theorem dX9_d_9 : decode cX9_d 9 = .ok (.iadd, 1) := by decide +kernel
theorem dX9_d_10 : decode cX9_d 10 = .ok (.iaload, 1) := by decide +kernel
theorem dX9_d_11 : decode cX9_d 11 = .ok (.ireturn, 1) := by decide +kernel
theorem dX9_cost_0 : decode cX9_cost 0 = .ok (.aload_n 0, 1) := by decide +kernel
theorem dX9_cost_1 : decode cX9_cost 1 = .ok (.iconst 0, 1) := by decide +kernel
theorem dX9_cost_2 : decode cX9_cost 2 = .ok (.iload_n 1, 1) := by decide +kernel
theorem dX9_cost_3 : decode cX9_cost 3 = .ok (.iconst 1, 1) := by decide +kernel
theorem dX9_cost_4 : decode cX9_cost 4 = .ok (.isub, 1) := by decide +kernel
theorem dX9_cost_5 : decode cX9_cost 5 = .ok (.invokevirtual 46, 3) := by decide +kernel
theorem dX9_cost_8 : decode cX9_cost 8 = .ok (.aload_n 0, 1) := by decide +kernel
theorem dX9_cost_9 : decode cX9_cost 9 = .ok (.iconst 1, 1) := by decide +kernel
theorem dX9_cost_10 : decode cX9_cost 10 = .ok (.iload_n 2, 1) := by decide +kernel
theorem dX9_cost_11 : decode cX9_cost 11 = .ok (.iconst 1, 1) := by decide +kernel
theorem dX9_cost_12 : decode cX9_cost 12 = .ok (.isub, 1) := by decide +kernel
theorem dX9_cost_13 : decode cX9_cost 13 = .ok (.invokevirtual 46, 3) := by decide +kernel
theorem dX9_cost_16 : decode cX9_cost 16 = .ok (.if_icmp .ne 7, 3) := by decide +kernel
theorem dX9_cost_19 : decode cX9_cost 19 = .ok (.iconst 0, 1) := by decide +kernel
theorem dX9_cost_20 : decode cX9_cost 20 = .ok (.goto 4, 3) := by decide +kernel
theorem dX9_cost_23 : decode cX9_cost 23 = .ok (.iconst 1, 1) := by decide +kernel
theorem dX9_cost_24 : decode cX9_cost 24 = .ok (.ireturn, 1) := by decide +kernel
theorem dX9_lay_0 : decode cX9_lay 0 = .ok (.iconst 0, 1) := by decide +kernel
theorem dX9_lay_1 : decode cX9_lay 1 = .ok (.istore_n 2, 1) := by decide +kernel
theorem dX9_lay_2 : decode cX9_lay 2 = .ok (.iload_n 2, 1) := by decide +kernel
theorem dX9_lay_3 : decode cX9_lay 3 = .ok (.aload_n 0, 1) := by decide +kernel
theorem dX9_lay_4 : decode cX9_lay 4 = .ok (.getfield 7, 3) := by decide +kernel
theorem dX9_lay_7 : decode cX9_lay 7 = .ok (.iconst 0, 1) := by decide +kernel
theorem dX9_lay_8 : decode cX9_lay 8 = .ok (.iaload, 1) := by decide +kernel
theorem dX9_lay_9 : decode cX9_lay 9 = .ok (.if_icmp .gt 102, 3) := by decide +kernel
theorem dX9_lay_12 : decode cX9_lay 12 = .ok (.iconst 0, 1) := by decide +kernel
theorem dX9_lay_13 : decode cX9_lay 13 = .ok (.istore_n 3, 1) := by decide +kernel
theorem dX9_lay_14 : decode cX9_lay 14 = .ok (.iload_n 3, 1) := by decide +kernel
theorem dX9_lay_15 : decode cX9_lay 15 = .ok (.aload_n 0, 1) := by decide +kernel
theorem dX9_lay_16 : decode cX9_lay 16 = .ok (.getfield 7, 3) := by decide +kernel
theorem dX9_lay_19 : decode cX9_lay 19 = .ok (.iconst 1, 1) := by decide +kernel
theorem dX9_lay_20 : decode cX9_lay 20 = .ok (.iaload, 1) := by decide +kernel
theorem dX9_lay_21 : decode cX9_lay 21 = .ok (.if_icmp .gt 84, 3) := by decide +kernel
theorem dX9_lay_24 : decode cX9_lay 24 = .ok (.aload_n 0, 1) := by decide +kernel
theorem dX9_lay_25 : decode cX9_lay 25 = .ok (.getfield 30, 3) := by decide +kernel
theorem dX9_lay_28 : decode cX9_lay 28 = .ok (.bipush 21, 2) := by decide +kernel
theorem dX9_lay_30 : decode cX9_lay 30 = .ok (.iload_n 2, 1) := by decide +kernel
theorem dX9_lay_31 : decode cX9_lay 31 = .ok (.imul, 1) := by decide +kernel
theorem dX9_lay_32 : decode cX9_lay 32 = .ok (.iload_n 3, 1) := by decide +kernel
theorem dX9_lay_33 : decode cX9_lay 33 = .ok (.iadd, 1) := by decide +kernel
theorem dX9_lay_34 : decode cX9_lay 34 = .ok (.iload_n 3, 1) := by decide +kernel
theorem dX9_lay_35 : decode cX9_lay 35 = .ok (.ifCond .ne 15, 3) := by decide +kernel
theorem dX9_lay_38 : decode cX9_lay 38 = .ok (.iload_n 1, 1) := by decide +kernel
theorem dX9_lay_39 : decode cX9_lay 39 = .ok (.ifCond .eq 7, 3) := by decide +kernel
theorem dX9_lay_42 : decode cX9_lay 42 = .ok (.iconst 0, 1) := by decide +kernel
theorem dX9_lay_43 : decode cX9_lay 43 = .ok (.goto 55, 3) := by decide +kernel
theorem dX9_lay_46 : decode cX9_lay 46 = .ok (.iload_n 2, 1) := by decide +kernel
theorem dX9_lay_47 : decode cX9_lay 47 = .ok (.goto 51, 3) := by decide +kernel
theorem dX9_lay_50 : decode cX9_lay 50 = .ok (.iload_n 2, 1) := by decide +kernel
theorem dX9_lay_51 : decode cX9_lay 51 = .ok (.ifCond .ne 7, 3) := by decide +kernel
theorem dX9_lay_54 : decode cX9_lay 54 = .ok (.iload_n 3, 1) := by decide +kernel
theorem dX9_lay_55 : decode cX9_lay 55 = .ok (.goto 43, 3) := by decide +kernel
theorem dX9_lay_58 : decode cX9_lay 58 = .ok (.aload_n 0, 1) := by decide +kernel
theorem dX9_lay_59 : decode cX9_lay 59 = .ok (.iload_n 2, 1) := by decide +kernel
theorem dX9_lay_60 : decode cX9_lay 60 = .ok (.iconst 1, 1) := by decide +kernel
theorem dX9_lay_61 : decode cX9_lay 61 = .ok (.isub, 1) := by decide +kernel
theorem dX9_lay_62 : decode cX9_lay 62 = .ok (.iload_n 3, 1) := by decide +kernel
theorem dX9_lay_63 : decode cX9_lay 63 = .ok (.invokevirtual 50, 3) := by decide +kernel
theorem dX9_lay_66 : decode cX9_lay 66 = .ok (.iconst 1, 1) := by decide +kernel
theorem dX9_lay_67 : decode cX9_lay 67 = .ok (.iadd, 1) := by decide +kernel
theorem dX9_lay_68 : decode cX9_lay 68 = .ok (.aload_n 0, 1) := by decide +kernel
theorem dX9_lay_69 : decode cX9_lay 69 = .ok (.iload_n 2, 1) := by decide +kernel
theorem dX9_lay_70 : decode cX9_lay 70 = .ok (.iload_n 3, 1) := by decide +kernel
theorem dX9_lay_71 : decode cX9_lay 71 = .ok (.iconst 1, 1) := by decide +kernel
theorem dX9_lay_72 : decode cX9_lay 72 = .ok (.isub, 1) := by decide +kernel
theorem dX9_lay_73 : decode cX9_lay 73 = .ok (.invokevirtual 50, 3) := by decide +kernel
theorem dX9_lay_76 : decode cX9_lay 76 = .ok (.iconst 1, 1) := by decide +kernel
theorem dX9_lay_77 : decode cX9_lay 77 = .ok (.iadd, 1) := by decide +kernel
theorem dX9_lay_78 : decode cX9_lay 78 = .ok (.aload_n 0, 1) := by decide +kernel
theorem dX9_lay_79 : decode cX9_lay 79 = .ok (.iload_n 2, 1) := by decide +kernel
theorem dX9_lay_80 : decode cX9_lay 80 = .ok (.iconst 1, 1) := by decide +kernel
theorem dX9_lay_81 : decode cX9_lay 81 = .ok (.isub, 1) := by decide +kernel
theorem dX9_lay_82 : decode cX9_lay 82 = .ok (.iload_n 3, 1) := by decide +kernel
theorem dX9_lay_83 : decode cX9_lay 83 = .ok (.iconst 1, 1) := by decide +kernel
theorem dX9_lay_84 : decode cX9_lay 84 = .ok (.isub, 1) := by decide +kernel
theorem dX9_lay_85 : decode cX9_lay 85 = .ok (.invokevirtual 50, 3) := by decide +kernel
theorem dX9_lay_88 : decode cX9_lay 88 = .ok (.aload_n 0, 1) := by decide +kernel
theorem dX9_lay_89 : decode cX9_lay 89 = .ok (.iload_n 2, 1) := by decide +kernel
theorem dX9_lay_90 : decode cX9_lay 90 = .ok (.iload_n 3, 1) := by decide +kernel
theorem dX9_lay_91 : decode cX9_lay 91 = .ok (.invokevirtual 53, 3) := by decide +kernel
theorem dX9_lay_94 : decode cX9_lay 94 = .ok (.iadd, 1) := by decide +kernel
theorem dX9_lay_95 : decode cX9_lay 95 = .ok (.invokestatic 56, 3) := by decide +kernel
theorem dX9_lay_98 : decode cX9_lay 98 = .ok (.iastore, 1) := by decide +kernel
theorem dX9_lay_99 : decode cX9_lay 99 = .ok (.iinc 3 1, 3) := by decide +kernel
theorem dX9_lay_102 : decode cX9_lay 102 = .ok (.goto (-88), 3) := by decide +kernel
theorem dX9_lay_105 : decode cX9_lay 105 = .ok (.iinc 2 1, 3) := by decide +kernel
theorem dX9_lay_108 : decode cX9_lay 108 = .ok (.goto (-106), 3) := by decide +kernel
theorem dX9_lay_111 : decode cX9_lay 111 = .ok (.return_, 1) := by decide +kernel
theorem dX9_whole_0 : decode cX9_whole 0 = .ok (.aload_n 0, 1) := by decide +kernel
theorem dX9_whole_1 : decode cX9_whole 1 = .ok (.iconst 0, 1) := by decide +kernel
theorem dX9_whole_2 : decode cX9_whole 2 = .ok (.invokevirtual 60, 3) := by decide +kernel
theorem dX9_whole_5 : decode cX9_whole 5 = .ok (.aload_n 0, 1) := by decide +kernel
theorem dX9_whole_6 : decode cX9_whole 6 = .ok (.aload_n 0, 1) := by decide +kernel
theorem dX9_whole_7 : decode cX9_whole 7 = .ok (.getfield 7, 3) := by decide +kernel
theorem dX9_whole_10 : decode cX9_whole 10 = .ok (.iconst 0, 1) := by decide +kernel
theorem dX9_whole_11 : decode cX9_whole 11 = .ok (.iaload, 1) := by decide +kernel
theorem dX9_whole_12 : decode cX9_whole 12 = .ok (.aload_n 0, 1) := by decide +kernel
theorem dX9_whole_13 : decode cX9_whole 13 = .ok (.getfield 7, 3) := by decide +kernel
theorem dX9_whole_16 : decode cX9_whole 16 = .ok (.iconst 1, 1) := by decide +kernel
theorem dX9_whole_17 : decode cX9_whole 17 = .ok (.iaload, 1) := by decide +kernel
theorem dX9_whole_18 : decode cX9_whole 18 = .ok (.invokevirtual 50, 3) := by decide +kernel
theorem dX9_whole_21 : decode cX9_whole 21 = .ok (.ireturn, 1) := by decide +kernel
theorem dX9_layWay_0 : decode cX9_layWay 0 = .ok (.aload_n 0, 1) := by decide +kernel
theorem dX9_layWay_1 : decode cX9_layWay 1 = .ok (.iconst 0, 1) := by decide +kernel
theorem dX9_layWay_2 : decode cX9_layWay 2 = .ok (.invokevirtual 60, 3) := by decide +kernel
theorem dX9_layWay_5 : decode cX9_layWay 5 = .ok (.aload_n 0, 1) := by decide +kernel
theorem dX9_layWay_6 : decode cX9_layWay 6 = .ok (.getfield 7, 3) := by decide +kernel
theorem dX9_layWay_9 : decode cX9_layWay 9 = .ok (.iconst 0, 1) := by decide +kernel
theorem dX9_layWay_10 : decode cX9_layWay 10 = .ok (.iaload, 1) := by decide +kernel
theorem dX9_layWay_11 : decode cX9_layWay 11 = .ok (.istore_n 1, 1) := by decide +kernel
theorem dX9_layWay_12 : decode cX9_layWay 12 = .ok (.aload_n 0, 1) := by decide +kernel
theorem dX9_layWay_13 : decode cX9_layWay 13 = .ok (.getfield 7, 3) := by decide +kernel
theorem dX9_layWay_16 : decode cX9_layWay 16 = .ok (.iconst 1, 1) := by decide +kernel
theorem dX9_layWay_17 : decode cX9_layWay 17 = .ok (.iaload, 1) := by decide +kernel
theorem dX9_layWay_18 : decode cX9_layWay 18 = .ok (.istore_n 2, 1) := by decide +kernel
theorem dX9_layWay_19 : decode cX9_layWay 19 = .ok (.aload_n 0, 1) := by decide +kernel
theorem dX9_layWay_20 : decode cX9_layWay 20 = .ok (.iconst 0, 1) := by decide +kernel
theorem dX9_layWay_21 : decode cX9_layWay 21 = .ok (.putfield 64, 3) := by decide +kernel
theorem dX9_layWay_24 : decode cX9_layWay 24 = .ok (.iload_n 1, 1) := by decide +kernel
theorem dX9_layWay_25 : decode cX9_layWay 25 = .ok (.ifCond .gt 7, 3) := by decide +kernel
theorem dX9_layWay_28 : decode cX9_layWay 28 = .ok (.iload_n 2, 1) := by decide +kernel
theorem dX9_layWay_29 : decode cX9_layWay 29 = .ok (.ifCond .le 123, 3) := by decide +kernel
theorem dX9_layWay_32 : decode cX9_layWay 32 = .ok (.iconst 3, 1) := by decide +kernel
theorem dX9_layWay_33 : decode cX9_layWay 33 = .ok (.istore_n 3, 1) := by decide +kernel
theorem dX9_layWay_34 : decode cX9_layWay 34 = .ok (.iload_n 1, 1) := by decide +kernel
theorem dX9_layWay_35 : decode cX9_layWay 35 = .ok (.ifCond .le 43, 3) := by decide +kernel
theorem dX9_layWay_38 : decode cX9_layWay 38 = .ok (.iload_n 2, 1) := by decide +kernel
theorem dX9_layWay_39 : decode cX9_layWay 39 = .ok (.ifCond .le 39, 3) := by decide +kernel
theorem dX9_layWay_42 : decode cX9_layWay 42 = .ok (.aload_n 0, 1) := by decide +kernel
theorem dX9_layWay_43 : decode cX9_layWay 43 = .ok (.iload_n 1, 1) := by decide +kernel
theorem dX9_layWay_44 : decode cX9_layWay 44 = .ok (.iload_n 2, 1) := by decide +kernel
theorem dX9_layWay_45 : decode cX9_layWay 45 = .ok (.invokevirtual 50, 3) := by decide +kernel
theorem dX9_layWay_48 : decode cX9_layWay 48 = .ok (.aload_n 0, 1) := by decide +kernel
theorem dX9_layWay_49 : decode cX9_layWay 49 = .ok (.iload_n 1, 1) := by decide +kernel
theorem dX9_layWay_50 : decode cX9_layWay 50 = .ok (.iconst 1, 1) := by decide +kernel
theorem dX9_layWay_51 : decode cX9_layWay 51 = .ok (.isub, 1) := by decide +kernel
theorem dX9_layWay_52 : decode cX9_layWay 52 = .ok (.iload_n 2, 1) := by decide +kernel
theorem dX9_layWay_53 : decode cX9_layWay 53 = .ok (.iconst 1, 1) := by decide +kernel
theorem dX9_layWay_54 : decode cX9_layWay 54 = .ok (.isub, 1) := by decide +kernel
theorem dX9_layWay_55 : decode cX9_layWay 55 = .ok (.invokevirtual 50, 3) := by decide +kernel
theorem dX9_layWay_58 : decode cX9_layWay 58 = .ok (.aload_n 0, 1) := by decide +kernel
theorem dX9_layWay_59 : decode cX9_layWay 59 = .ok (.iload_n 1, 1) := by decide +kernel
theorem dX9_layWay_60 : decode cX9_layWay 60 = .ok (.iload_n 2, 1) := by decide +kernel
theorem dX9_layWay_61 : decode cX9_layWay 61 = .ok (.invokevirtual 53, 3) := by decide +kernel
theorem dX9_layWay_64 : decode cX9_layWay 64 = .ok (.iadd, 1) := by decide +kernel
theorem dX9_layWay_65 : decode cX9_layWay 65 = .ok (.if_icmp .ne 13, 3) := by decide +kernel
theorem dX9_layWay_68 : decode cX9_layWay 68 = .ok (.aload_n 0, 1) := by decide +kernel
theorem dX9_layWay_69 : decode cX9_layWay 69 = .ok (.iload_n 1, 1) := by decide +kernel
theorem dX9_layWay_70 : decode cX9_layWay 70 = .ok (.iload_n 2, 1) := by decide +kernel
theorem dX9_layWay_71 : decode cX9_layWay 71 = .ok (.invokevirtual 53, 3) := by decide +kernel
theorem dX9_layWay_74 : decode cX9_layWay 74 = .ok (.istore_n 3, 1) := by decide +kernel
theorem dX9_layWay_75 : decode cX9_layWay 75 = .ok (.goto 28, 3) := by decide +kernel
theorem dX9_layWay_78 : decode cX9_layWay 78 = .ok (.iload_n 1, 1) := by decide +kernel
theorem dX9_layWay_79 : decode cX9_layWay 79 = .ok (.ifCond .le 24, 3) := by decide +kernel
theorem dX9_layWay_82 : decode cX9_layWay 82 = .ok (.aload_n 0, 1) := by decide +kernel
theorem dX9_layWay_83 : decode cX9_layWay 83 = .ok (.iload_n 1, 1) := by decide +kernel
theorem dX9_layWay_84 : decode cX9_layWay 84 = .ok (.iload_n 2, 1) := by decide +kernel
theorem dX9_layWay_85 : decode cX9_layWay 85 = .ok (.invokevirtual 50, 3) := by decide +kernel
theorem dX9_layWay_88 : decode cX9_layWay 88 = .ok (.aload_n 0, 1) := by decide +kernel
theorem dX9_layWay_89 : decode cX9_layWay 89 = .ok (.iload_n 1, 1) := by decide +kernel
theorem dX9_layWay_90 : decode cX9_layWay 90 = .ok (.iconst 1, 1) := by decide +kernel
theorem dX9_layWay_91 : decode cX9_layWay 91 = .ok (.isub, 1) := by decide +kernel
theorem dX9_layWay_92 : decode cX9_layWay 92 = .ok (.iload_n 2, 1) := by decide +kernel
theorem dX9_layWay_93 : decode cX9_layWay 93 = .ok (.invokevirtual 50, 3) := by decide +kernel
theorem dX9_layWay_96 : decode cX9_layWay 96 = .ok (.iconst 1, 1) := by decide +kernel
theorem dX9_layWay_97 : decode cX9_layWay 97 = .ok (.iadd, 1) := by decide +kernel
theorem dX9_layWay_98 : decode cX9_layWay 98 = .ok (.if_icmp .ne 5, 3) := by decide +kernel
theorem dX9_layWay_101 : decode cX9_layWay 101 = .ok (.iconst 2, 1) := by decide +kernel
theorem dX9_layWay_102 : decode cX9_layWay 102 = .ok (.istore_n 3, 1) := by decide +kernel
theorem dX9_layWay_103 : decode cX9_layWay 103 = .ok (.aload_n 0, 1) := by decide +kernel
theorem dX9_layWay_104 : decode cX9_layWay 104 = .ok (.getfield 33, 3) := by decide +kernel
theorem dX9_layWay_107 : decode cX9_layWay 107 = .ok (.aload_n 0, 1) := by decide +kernel
theorem dX9_layWay_108 : decode cX9_layWay 108 = .ok (.getfield 64, 3) := by decide +kernel
theorem dX9_layWay_111 : decode cX9_layWay 111 = .ok (.iload_n 3, 1) := by decide +kernel
theorem dX9_layWay_112 : decode cX9_layWay 112 = .ok (.iastore, 1) := by decide +kernel
theorem dX9_layWay_113 : decode cX9_layWay 113 = .ok (.aload_n 0, 1) := by decide +kernel
theorem dX9_layWay_114 : decode cX9_layWay 114 = .ok (.dup, 1) := by decide +kernel
theorem dX9_layWay_115 : decode cX9_layWay 115 = .ok (.getfield 64, 3) := by decide +kernel
theorem dX9_layWay_118 : decode cX9_layWay 118 = .ok (.iconst 1, 1) := by decide +kernel
theorem dX9_layWay_119 : decode cX9_layWay 119 = .ok (.iadd, 1) := by decide +kernel
theorem dX9_layWay_120 : decode cX9_layWay 120 = .ok (.putfield 64, 3) := by decide +kernel
theorem dX9_layWay_123 : decode cX9_layWay 123 = .ok (.iload_n 1, 1) := by decide +kernel
theorem dX9_layWay_124 : decode cX9_layWay 124 = .ok (.iload_n 3, 1) := by decide +kernel
theorem dX9_layWay_125 : decode cX9_layWay 125 = .ok (.iconst 3, 1) := by decide +kernel
theorem dX9_layWay_126 : decode cX9_layWay 126 = .ok (.if_icmp .ne 7, 3) := by decide +kernel
theorem dX9_layWay_129 : decode cX9_layWay 129 = .ok (.iconst 0, 1) := by decide +kernel
theorem dX9_layWay_130 : decode cX9_layWay 130 = .ok (.goto 4, 3) := by decide +kernel
theorem dX9_layWay_133 : decode cX9_layWay 133 = .ok (.iconst 1, 1) := by decide +kernel
theorem dX9_layWay_134 : decode cX9_layWay 134 = .ok (.isub, 1) := by decide +kernel
theorem dX9_layWay_135 : decode cX9_layWay 135 = .ok (.istore_n 1, 1) := by decide +kernel
theorem dX9_layWay_136 : decode cX9_layWay 136 = .ok (.iload_n 2, 1) := by decide +kernel
theorem dX9_layWay_137 : decode cX9_layWay 137 = .ok (.iload_n 3, 1) := by decide +kernel
theorem dX9_layWay_138 : decode cX9_layWay 138 = .ok (.iconst 2, 1) := by decide +kernel
theorem dX9_layWay_139 : decode cX9_layWay 139 = .ok (.if_icmp .ne 7, 3) := by decide +kernel
theorem dX9_layWay_142 : decode cX9_layWay 142 = .ok (.iconst 0, 1) := by decide +kernel
theorem dX9_layWay_143 : decode cX9_layWay 143 = .ok (.goto 4, 3) := by decide +kernel
theorem dX9_layWay_146 : decode cX9_layWay 146 = .ok (.iconst 1, 1) := by decide +kernel
theorem dX9_layWay_147 : decode cX9_layWay 147 = .ok (.isub, 1) := by decide +kernel
theorem dX9_layWay_148 : decode cX9_layWay 148 = .ok (.istore_n 2, 1) := by decide +kernel
theorem dX9_layWay_149 : decode cX9_layWay 149 = .ok (.goto (-125), 3) := by decide +kernel
theorem dX9_layWay_152 : decode cX9_layWay 152 = .ok (.return_, 1) := by decide +kernel
theorem dX9_keyOf_0 : decode cX9_keyOf 0 = .ok (.iconst 0, 1) := by decide +kernel
theorem dX9_keyOf_1 : decode cX9_keyOf 1 = .ok (.istore_n 3, 1) := by decide +kernel
theorem dX9_keyOf_2 : decode cX9_keyOf 2 = .ok (.iconst 0, 1) := by decide +kernel
theorem dX9_keyOf_3 : decode cX9_keyOf 3 = .ok (.istore 4, 2) := by decide +kernel
theorem dX9_keyOf_5 : decode cX9_keyOf 5 = .ok (.iload 4, 2) := by decide +kernel
theorem dX9_keyOf_7 : decode cX9_keyOf 7 = .ok (.aload_n 0, 1) := by decide +kernel
theorem dX9_keyOf_8 : decode cX9_keyOf 8 = .ok (.getfield 16, 3) := by decide +kernel
theorem dX9_keyOf_11 : decode cX9_keyOf 11 = .ok (.if_icmp .ge 25, 3) := by decide +kernel
theorem dX9_keyOf_14 : decode cX9_keyOf 14 = .ok (.iconst 4, 1) := by decide +kernel
theorem dX9_keyOf_15 : decode cX9_keyOf 15 = .ok (.iload_n 3, 1) := by decide +kernel
theorem dX9_keyOf_16 : decode cX9_keyOf 16 = .ok (.imul, 1) := by decide +kernel
theorem dX9_keyOf_17 : decode cX9_keyOf 17 = .ok (.aload_n 0, 1) := by decide +kernel
theorem dX9_keyOf_18 : decode cX9_keyOf 18 = .ok (.iconst 0, 1) := by decide +kernel
theorem dX9_keyOf_19 : decode cX9_keyOf 19 = .ok (.iload_n 1, 1) := by decide +kernel
theorem dX9_keyOf_20 : decode cX9_keyOf 20 = .ok (.iload 4, 2) := by decide +kernel
theorem dX9_keyOf_22 : decode cX9_keyOf 22 = .ok (.iadd, 1) := by decide +kernel
theorem dX9_keyOf_23 : decode cX9_keyOf 23 = .ok (.iconst 1, 1) := by decide +kernel
theorem dX9_keyOf_24 : decode cX9_keyOf 24 = .ok (.isub, 1) := by decide +kernel
theorem dX9_keyOf_25 : decode cX9_keyOf 25 = .ok (.invokevirtual 46, 3) := by decide +kernel
theorem dX9_keyOf_28 : decode cX9_keyOf 28 = .ok (.iadd, 1) := by decide +kernel
theorem dX9_keyOf_29 : decode cX9_keyOf 29 = .ok (.istore_n 3, 1) := by decide +kernel
theorem dX9_keyOf_30 : decode cX9_keyOf 30 = .ok (.iinc 4 1, 3) := by decide +kernel
theorem dX9_keyOf_33 : decode cX9_keyOf 33 = .ok (.goto (-28), 3) := by decide +kernel
theorem dX9_keyOf_36 : decode cX9_keyOf 36 = .ok (.iconst 0, 1) := by decide +kernel
theorem dX9_keyOf_37 : decode cX9_keyOf 37 = .ok (.istore 4, 2) := by decide +kernel
theorem dX9_keyOf_39 : decode cX9_keyOf 39 = .ok (.iload 4, 2) := by decide +kernel
theorem dX9_keyOf_41 : decode cX9_keyOf 41 = .ok (.aload_n 0, 1) := by decide +kernel
theorem dX9_keyOf_42 : decode cX9_keyOf 42 = .ok (.getfield 16, 3) := by decide +kernel
theorem dX9_keyOf_45 : decode cX9_keyOf 45 = .ok (.if_icmp .ge 25, 3) := by decide +kernel
theorem dX9_keyOf_48 : decode cX9_keyOf 48 = .ok (.iconst 4, 1) := by decide +kernel
theorem dX9_keyOf_49 : decode cX9_keyOf 49 = .ok (.iload_n 3, 1) := by decide +kernel
theorem dX9_keyOf_50 : decode cX9_keyOf 50 = .ok (.imul, 1) := by decide +kernel
theorem dX9_keyOf_51 : decode cX9_keyOf 51 = .ok (.aload_n 0, 1) := by decide +kernel
theorem dX9_keyOf_52 : decode cX9_keyOf 52 = .ok (.iconst 1, 1) := by decide +kernel
theorem dX9_keyOf_53 : decode cX9_keyOf 53 = .ok (.iload_n 2, 1) := by decide +kernel
theorem dX9_keyOf_54 : decode cX9_keyOf 54 = .ok (.iload 4, 2) := by decide +kernel
theorem dX9_keyOf_56 : decode cX9_keyOf 56 = .ok (.iadd, 1) := by decide +kernel
theorem dX9_keyOf_57 : decode cX9_keyOf 57 = .ok (.iconst 1, 1) := by decide +kernel
theorem dX9_keyOf_58 : decode cX9_keyOf 58 = .ok (.isub, 1) := by decide +kernel
theorem dX9_keyOf_59 : decode cX9_keyOf 59 = .ok (.invokevirtual 46, 3) := by decide +kernel
theorem dX9_keyOf_62 : decode cX9_keyOf 62 = .ok (.iadd, 1) := by decide +kernel
theorem dX9_keyOf_63 : decode cX9_keyOf 63 = .ok (.istore_n 3, 1) := by decide +kernel
theorem dX9_keyOf_64 : decode cX9_keyOf 64 = .ok (.iinc 4 1, 3) := by decide +kernel
theorem dX9_keyOf_67 : decode cX9_keyOf 67 = .ok (.goto (-28), 3) := by decide +kernel
theorem dX9_keyOf_70 : decode cX9_keyOf 70 = .ok (.iconst 0, 1) := by decide +kernel
theorem dX9_keyOf_71 : decode cX9_keyOf 71 = .ok (.istore 4, 2) := by decide +kernel
theorem dX9_keyOf_73 : decode cX9_keyOf 73 = .ok (.iload 4, 2) := by decide +kernel
theorem dX9_keyOf_75 : decode cX9_keyOf 75 = .ok (.aload_n 0, 1) := by decide +kernel
theorem dX9_keyOf_76 : decode cX9_keyOf 76 = .ok (.getfield 16, 3) := by decide +kernel
theorem dX9_keyOf_79 : decode cX9_keyOf 79 = .ok (.if_icmp .ge 41, 3) := by decide +kernel
theorem dX9_keyOf_82 : decode cX9_keyOf 82 = .ok (.iconst 3, 1) := by decide +kernel
theorem dX9_keyOf_83 : decode cX9_keyOf 83 = .ok (.iload_n 3, 1) := by decide +kernel
theorem dX9_keyOf_84 : decode cX9_keyOf 84 = .ok (.imul, 1) := by decide +kernel
theorem dX9_keyOf_85 : decode cX9_keyOf 85 = .ok (.iconst 1, 1) := by decide +kernel
theorem dX9_keyOf_86 : decode cX9_keyOf 86 = .ok (.iadd, 1) := by decide +kernel
theorem dX9_keyOf_87 : decode cX9_keyOf 87 = .ok (.aload_n 0, 1) := by decide +kernel
theorem dX9_keyOf_88 : decode cX9_keyOf 88 = .ok (.iload_n 1, 1) := by decide +kernel
theorem dX9_keyOf_89 : decode cX9_keyOf 89 = .ok (.iconst 1, 1) := by decide +kernel
theorem dX9_keyOf_90 : decode cX9_keyOf 90 = .ok (.isub, 1) := by decide +kernel
theorem dX9_keyOf_91 : decode cX9_keyOf 91 = .ok (.iload_n 2, 1) := by decide +kernel
theorem dX9_keyOf_92 : decode cX9_keyOf 92 = .ok (.iload 4, 2) := by decide +kernel
theorem dX9_keyOf_94 : decode cX9_keyOf 94 = .ok (.iadd, 1) := by decide +kernel
theorem dX9_keyOf_95 : decode cX9_keyOf 95 = .ok (.invokevirtual 50, 3) := by decide +kernel
theorem dX9_keyOf_98 : decode cX9_keyOf 98 = .ok (.iadd, 1) := by decide +kernel
theorem dX9_keyOf_99 : decode cX9_keyOf 99 = .ok (.aload_n 0, 1) := by decide +kernel
theorem dX9_keyOf_100 : decode cX9_keyOf 100 = .ok (.iload_n 1, 1) := by decide +kernel
theorem dX9_keyOf_101 : decode cX9_keyOf 101 = .ok (.iconst 1, 1) := by decide +kernel
theorem dX9_keyOf_102 : decode cX9_keyOf 102 = .ok (.isub, 1) := by decide +kernel
theorem dX9_keyOf_103 : decode cX9_keyOf 103 = .ok (.iload_n 2, 1) := by decide +kernel
theorem dX9_keyOf_104 : decode cX9_keyOf 104 = .ok (.iload 4, 2) := by decide +kernel
theorem dX9_keyOf_106 : decode cX9_keyOf 106 = .ok (.iadd, 1) := by decide +kernel
theorem dX9_keyOf_107 : decode cX9_keyOf 107 = .ok (.iconst 1, 1) := by decide +kernel
theorem dX9_keyOf_108 : decode cX9_keyOf 108 = .ok (.isub, 1) := by decide +kernel
theorem dX9_keyOf_109 : decode cX9_keyOf 109 = .ok (.invokevirtual 50, 3) := by decide +kernel
theorem dX9_keyOf_112 : decode cX9_keyOf 112 = .ok (.isub, 1) := by decide +kernel
theorem dX9_keyOf_113 : decode cX9_keyOf 113 = .ok (.istore_n 3, 1) := by decide +kernel
theorem dX9_keyOf_114 : decode cX9_keyOf 114 = .ok (.iinc 4 1, 3) := by decide +kernel
theorem dX9_keyOf_117 : decode cX9_keyOf 117 = .ok (.goto (-44), 3) := by decide +kernel
theorem dX9_keyOf_120 : decode cX9_keyOf 120 = .ok (.iconst 0, 1) := by decide +kernel
theorem dX9_keyOf_121 : decode cX9_keyOf 121 = .ok (.istore 4, 2) := by decide +kernel
theorem dX9_keyOf_123 : decode cX9_keyOf 123 = .ok (.iload 4, 2) := by decide +kernel
theorem dX9_keyOf_125 : decode cX9_keyOf 125 = .ok (.aload_n 0, 1) := by decide +kernel
theorem dX9_keyOf_126 : decode cX9_keyOf 126 = .ok (.getfield 16, 3) := by decide +kernel
theorem dX9_keyOf_129 : decode cX9_keyOf 129 = .ok (.if_icmp .ge 41, 3) := by decide +kernel
theorem dX9_keyOf_132 : decode cX9_keyOf 132 = .ok (.iconst 3, 1) := by decide +kernel
theorem dX9_keyOf_133 : decode cX9_keyOf 133 = .ok (.iload_n 3, 1) := by decide +kernel
theorem dX9_keyOf_134 : decode cX9_keyOf 134 = .ok (.imul, 1) := by decide +kernel
theorem dX9_keyOf_135 : decode cX9_keyOf 135 = .ok (.iconst 1, 1) := by decide +kernel
theorem dX9_keyOf_136 : decode cX9_keyOf 136 = .ok (.iadd, 1) := by decide +kernel
theorem dX9_keyOf_137 : decode cX9_keyOf 137 = .ok (.aload_n 0, 1) := by decide +kernel
theorem dX9_keyOf_138 : decode cX9_keyOf 138 = .ok (.iload_n 1, 1) := by decide +kernel
theorem dX9_keyOf_139 : decode cX9_keyOf 139 = .ok (.iload 4, 2) := by decide +kernel
theorem dX9_keyOf_141 : decode cX9_keyOf 141 = .ok (.iadd, 1) := by decide +kernel
theorem dX9_keyOf_142 : decode cX9_keyOf 142 = .ok (.iload_n 2, 1) := by decide +kernel
theorem dX9_keyOf_143 : decode cX9_keyOf 143 = .ok (.iconst 1, 1) := by decide +kernel
theorem dX9_keyOf_144 : decode cX9_keyOf 144 = .ok (.isub, 1) := by decide +kernel
theorem dX9_keyOf_145 : decode cX9_keyOf 145 = .ok (.invokevirtual 50, 3) := by decide +kernel
theorem dX9_keyOf_148 : decode cX9_keyOf 148 = .ok (.iadd, 1) := by decide +kernel
theorem dX9_keyOf_149 : decode cX9_keyOf 149 = .ok (.aload_n 0, 1) := by decide +kernel
theorem dX9_keyOf_150 : decode cX9_keyOf 150 = .ok (.iload_n 1, 1) := by decide +kernel
theorem dX9_keyOf_151 : decode cX9_keyOf 151 = .ok (.iload 4, 2) := by decide +kernel
theorem dX9_keyOf_153 : decode cX9_keyOf 153 = .ok (.iadd, 1) := by decide +kernel
theorem dX9_keyOf_154 : decode cX9_keyOf 154 = .ok (.iconst 1, 1) := by decide +kernel
theorem dX9_keyOf_155 : decode cX9_keyOf 155 = .ok (.isub, 1) := by decide +kernel
theorem dX9_keyOf_156 : decode cX9_keyOf 156 = .ok (.iload_n 2, 1) := by decide +kernel
theorem dX9_keyOf_157 : decode cX9_keyOf 157 = .ok (.iconst 1, 1) := by decide +kernel
theorem dX9_keyOf_158 : decode cX9_keyOf 158 = .ok (.isub, 1) := by decide +kernel
theorem dX9_keyOf_159 : decode cX9_keyOf 159 = .ok (.invokevirtual 50, 3) := by decide +kernel
theorem dX9_keyOf_162 : decode cX9_keyOf 162 = .ok (.isub, 1) := by decide +kernel
theorem dX9_keyOf_163 : decode cX9_keyOf 163 = .ok (.istore_n 3, 1) := by decide +kernel
theorem dX9_keyOf_164 : decode cX9_keyOf 164 = .ok (.iinc 4 1, 3) := by decide +kernel
theorem dX9_keyOf_167 : decode cX9_keyOf 167 = .ok (.goto (-44), 3) := by decide +kernel
theorem dX9_keyOf_170 : decode cX9_keyOf 170 = .ok (.iload_n 3, 1) := by decide +kernel
theorem dX9_keyOf_171 : decode cX9_keyOf 171 = .ok (.ireturn, 1) := by decide +kernel
theorem dX9_goBlocks_0 : decode cX9_goBlocks 0 = .ok (.aload_n 0, 1) := by decide +kernel
theorem dX9_goBlocks_1 : decode cX9_goBlocks 1 = .ok (.iconst 0, 1) := by decide +kernel
theorem dX9_goBlocks_2 : decode cX9_goBlocks 2 = .ok (.invokevirtual 60, 3) := by decide +kernel
theorem dX9_goBlocks_5 : decode cX9_goBlocks 5 = .ok (.aload_n 0, 1) := by decide +kernel
theorem dX9_goBlocks_6 : decode cX9_goBlocks 6 = .ok (.dup, 1) := by decide +kernel
theorem dX9_goBlocks_7 : decode cX9_goBlocks 7 = .ok (.getfield 67, 3) := by decide +kernel
theorem dX9_goBlocks_10 : decode cX9_goBlocks 10 = .ok (.iconst 1, 1) := by decide +kernel
theorem dX9_goBlocks_11 : decode cX9_goBlocks 11 = .ok (.iadd, 1) := by decide +kernel
theorem dX9_goBlocks_12 : decode cX9_goBlocks 12 = .ok (.putfield 67, 3) := by decide +kernel
theorem dX9_goBlocks_15 : decode cX9_goBlocks 15 = .ok (.iconst 0, 1) := by decide +kernel
theorem dX9_goBlocks_16 : decode cX9_goBlocks 16 = .ok (.istore_n 2, 1) := by decide +kernel
theorem dX9_goBlocks_17 : decode cX9_goBlocks 17 = .ok (.iconst 1, 1) := by decide +kernel
theorem dX9_goBlocks_18 : decode cX9_goBlocks 18 = .ok (.istore_n 3, 1) := by decide +kernel
theorem dX9_goBlocks_19 : decode cX9_goBlocks 19 = .ok (.iload_n 3, 1) := by decide +kernel
theorem dX9_goBlocks_20 : decode cX9_goBlocks 20 = .ok (.aload_n 0, 1) := by decide +kernel
theorem dX9_goBlocks_21 : decode cX9_goBlocks 21 = .ok (.getfield 7, 3) := by decide +kernel
theorem dX9_goBlocks_24 : decode cX9_goBlocks 24 = .ok (.iconst 0, 1) := by decide +kernel
theorem dX9_goBlocks_25 : decode cX9_goBlocks 25 = .ok (.iaload, 1) := by decide +kernel
theorem dX9_goBlocks_26 : decode cX9_goBlocks 26 = .ok (.if_icmp .gt 251, 3) := by decide +kernel
theorem dX9_goBlocks_29 : decode cX9_goBlocks 29 = .ok (.iconst 1, 1) := by decide +kernel
theorem dX9_goBlocks_30 : decode cX9_goBlocks 30 = .ok (.istore 4, 2) := by decide +kernel
theorem dX9_goBlocks_32 : decode cX9_goBlocks 32 = .ok (.iload 4, 2) := by decide +kernel
theorem dX9_goBlocks_34 : decode cX9_goBlocks 34 = .ok (.aload_n 0, 1) := by decide +kernel
theorem dX9_goBlocks_35 : decode cX9_goBlocks 35 = .ok (.getfield 7, 3) := by decide +kernel
theorem dX9_goBlocks_38 : decode cX9_goBlocks 38 = .ok (.iconst 1, 1) := by decide +kernel
theorem dX9_goBlocks_39 : decode cX9_goBlocks 39 = .ok (.iaload, 1) := by decide +kernel
theorem dX9_goBlocks_40 : decode cX9_goBlocks 40 = .ok (.if_icmp .gt 227, 3) := by decide +kernel
theorem dX9_goBlocks_43 : decode cX9_goBlocks 43 = .ok (.iload_n 3, 1) := by decide +kernel
theorem dX9_goBlocks_44 : decode cX9_goBlocks 44 = .ok (.aload_n 0, 1) := by decide +kernel
theorem dX9_goBlocks_45 : decode cX9_goBlocks 45 = .ok (.getfield 16, 3) := by decide +kernel
theorem dX9_goBlocks_48 : decode cX9_goBlocks 48 = .ok (.iadd, 1) := by decide +kernel
theorem dX9_goBlocks_49 : decode cX9_goBlocks 49 = .ok (.iconst 1, 1) := by decide +kernel
theorem dX9_goBlocks_50 : decode cX9_goBlocks 50 = .ok (.isub, 1) := by decide +kernel
theorem dX9_goBlocks_51 : decode cX9_goBlocks 51 = .ok (.aload_n 0, 1) := by decide +kernel
theorem dX9_goBlocks_52 : decode cX9_goBlocks 52 = .ok (.getfield 7, 3) := by decide +kernel
theorem dX9_goBlocks_55 : decode cX9_goBlocks 55 = .ok (.iconst 0, 1) := by decide +kernel
theorem dX9_goBlocks_56 : decode cX9_goBlocks 56 = .ok (.iaload, 1) := by decide +kernel
theorem dX9_goBlocks_57 : decode cX9_goBlocks 57 = .ok (.if_icmp .gt 10, 3) := by decide +kernel
theorem dX9_goBlocks_60 : decode cX9_goBlocks 60 = .ok (.aload_n 0, 1) := by decide +kernel
theorem dX9_goBlocks_61 : decode cX9_goBlocks 61 = .ok (.getfield 16, 3) := by decide +kernel
theorem dX9_goBlocks_64 : decode cX9_goBlocks 64 = .ok (.goto 4, 3) := by decide +kernel
theorem dX9_goBlocks_67 : decode cX9_goBlocks 67 = .ok (.iconst 1, 1) := by decide +kernel
theorem dX9_goBlocks_68 : decode cX9_goBlocks 68 = .ok (.istore 5, 2) := by decide +kernel
theorem dX9_goBlocks_70 : decode cX9_goBlocks 70 = .ok (.iload 4, 2) := by decide +kernel
theorem dX9_goBlocks_72 : decode cX9_goBlocks 72 = .ok (.aload_n 0, 1) := by decide +kernel
theorem dX9_goBlocks_73 : decode cX9_goBlocks 73 = .ok (.getfield 16, 3) := by decide +kernel
theorem dX9_goBlocks_76 : decode cX9_goBlocks 76 = .ok (.iadd, 1) := by decide +kernel
theorem dX9_goBlocks_77 : decode cX9_goBlocks 77 = .ok (.iconst 1, 1) := by decide +kernel
theorem dX9_goBlocks_78 : decode cX9_goBlocks 78 = .ok (.isub, 1) := by decide +kernel
theorem dX9_goBlocks_79 : decode cX9_goBlocks 79 = .ok (.aload_n 0, 1) := by decide +kernel
theorem dX9_goBlocks_80 : decode cX9_goBlocks 80 = .ok (.getfield 7, 3) := by decide +kernel
theorem dX9_goBlocks_83 : decode cX9_goBlocks 83 = .ok (.iconst 1, 1) := by decide +kernel
theorem dX9_goBlocks_84 : decode cX9_goBlocks 84 = .ok (.iaload, 1) := by decide +kernel
theorem dX9_goBlocks_85 : decode cX9_goBlocks 85 = .ok (.if_icmp .gt 10, 3) := by decide +kernel
theorem dX9_goBlocks_88 : decode cX9_goBlocks 88 = .ok (.aload_n 0, 1) := by decide +kernel
theorem dX9_goBlocks_89 : decode cX9_goBlocks 89 = .ok (.getfield 16, 3) := by decide +kernel
theorem dX9_goBlocks_92 : decode cX9_goBlocks 92 = .ok (.goto 4, 3) := by decide +kernel
theorem dX9_goBlocks_95 : decode cX9_goBlocks 95 = .ok (.iconst 1, 1) := by decide +kernel
theorem dX9_goBlocks_96 : decode cX9_goBlocks 96 = .ok (.istore 6, 2) := by decide +kernel
theorem dX9_goBlocks_98 : decode cX9_goBlocks 98 = .ok (.iload 5, 2) := by decide +kernel
theorem dX9_goBlocks_100 : decode cX9_goBlocks 100 = .ok (.aload_n 0, 1) := by decide +kernel
theorem dX9_goBlocks_101 : decode cX9_goBlocks 101 = .ok (.getfield 16, 3) := by decide +kernel
theorem dX9_goBlocks_104 : decode cX9_goBlocks 104 = .ok (.if_icmp .ne 129, 3) := by decide +kernel
theorem dX9_goBlocks_107 : decode cX9_goBlocks 107 = .ok (.iload 6, 2) := by decide +kernel
theorem dX9_goBlocks_109 : decode cX9_goBlocks 109 = .ok (.aload_n 0, 1) := by decide +kernel
theorem dX9_goBlocks_110 : decode cX9_goBlocks 110 = .ok (.getfield 16, 3) := by decide +kernel
theorem dX9_goBlocks_113 : decode cX9_goBlocks 113 = .ok (.if_icmp .ne 120, 3) := by decide +kernel
theorem dX9_goBlocks_116 : decode cX9_goBlocks 116 = .ok (.aload_n 0, 1) := by decide +kernel
theorem dX9_goBlocks_117 : decode cX9_goBlocks 117 = .ok (.iload_n 3, 1) := by decide +kernel
theorem dX9_goBlocks_118 : decode cX9_goBlocks 118 = .ok (.iload 4, 2) := by decide +kernel
theorem dX9_goBlocks_120 : decode cX9_goBlocks 120 = .ok (.invokevirtual 70, 3) := by decide +kernel
theorem dX9_goBlocks_123 : decode cX9_goBlocks 123 = .ok (.istore 7, 2) := by decide +kernel
theorem dX9_goBlocks_125 : decode cX9_goBlocks 125 = .ok (.aload_n 0, 1) := by decide +kernel
theorem dX9_goBlocks_126 : decode cX9_goBlocks 126 = .ok (.getfield 20, 3) := by decide +kernel
theorem dX9_goBlocks_129 : decode cX9_goBlocks 129 = .ok (.iload 7, 2) := by decide +kernel
theorem dX9_goBlocks_131 : decode cX9_goBlocks 131 = .ok (.baload, 1) := by decide +kernel
theorem dX9_goBlocks_132 : decode cX9_goBlocks 132 = .ok (.ifCond .ne 17, 3) := by decide +kernel
theorem dX9_goBlocks_135 : decode cX9_goBlocks 135 = .ok (.aload_n 0, 1) := by decide +kernel
theorem dX9_goBlocks_136 : decode cX9_goBlocks 136 = .ok (.getfield 24, 3) := by decide +kernel
theorem dX9_goBlocks_139 : decode cX9_goBlocks 139 = .ok (.iload 7, 2) := by decide +kernel
theorem dX9_goBlocks_141 : decode cX9_goBlocks 141 = .ok (.iaload, 1) := by decide +kernel
theorem dX9_goBlocks_142 : decode cX9_goBlocks 142 = .ok (.aload_n 0, 1) := by decide +kernel
theorem dX9_goBlocks_143 : decode cX9_goBlocks 143 = .ok (.getfield 67, 3) := by decide +kernel
theorem dX9_goBlocks_146 : decode cX9_goBlocks 146 = .ok (.if_icmp .ne 7, 3) := by decide +kernel
theorem dX9_goBlocks_149 : decode cX9_goBlocks 149 = .ok (.iconst 1, 1) := by decide +kernel
theorem dX9_goBlocks_150 : decode cX9_goBlocks 150 = .ok (.goto 4, 3) := by decide +kernel
theorem dX9_goBlocks_153 : decode cX9_goBlocks 153 = .ok (.iconst 0, 1) := by decide +kernel
theorem dX9_goBlocks_154 : decode cX9_goBlocks 154 = .ok (.istore 8, 2) := by decide +kernel
theorem dX9_goBlocks_156 : decode cX9_goBlocks 156 = .ok (.aload_n 0, 1) := by decide +kernel
theorem dX9_goBlocks_157 : decode cX9_goBlocks 157 = .ok (.getfield 24, 3) := by decide +kernel
theorem dX9_goBlocks_160 : decode cX9_goBlocks 160 = .ok (.iload 7, 2) := by decide +kernel
theorem dX9_goBlocks_162 : decode cX9_goBlocks 162 = .ok (.aload_n 0, 1) := by decide +kernel
theorem dX9_goBlocks_163 : decode cX9_goBlocks 163 = .ok (.getfield 67, 3) := by decide +kernel
theorem dX9_goBlocks_166 : decode cX9_goBlocks 166 = .ok (.iastore, 1) := by decide +kernel
theorem dX9_goBlocks_167 : decode cX9_goBlocks 167 = .ok (.iload_n 2, 1) := by decide +kernel
theorem dX9_goBlocks_168 : decode cX9_goBlocks 168 = .ok (.iload 8, 2) := by decide +kernel
theorem dX9_goBlocks_170 : decode cX9_goBlocks 170 = .ok (.ifCond .eq 7, 3) := by decide +kernel
theorem dX9_goBlocks_173 : decode cX9_goBlocks 173 = .ok (.iconst 0, 1) := by decide +kernel
theorem dX9_goBlocks_174 : decode cX9_goBlocks 174 = .ok (.goto 4, 3) := by decide +kernel
theorem dX9_goBlocks_177 : decode cX9_goBlocks 177 = .ok (.iconst 1, 1) := by decide +kernel
theorem dX9_goBlocks_178 : decode cX9_goBlocks 178 = .ok (.iadd, 1) := by decide +kernel
theorem dX9_goBlocks_179 : decode cX9_goBlocks 179 = .ok (.istore_n 2, 1) := by decide +kernel
theorem dX9_goBlocks_180 : decode cX9_goBlocks 180 = .ok (.iload_n 1, 1) := by decide +kernel
theorem dX9_goBlocks_181 : decode cX9_goBlocks 181 = .ok (.ifCond .eq 49, 3) := by decide +kernel
theorem dX9_goBlocks_184 : decode cX9_goBlocks 184 = .ok (.aload_n 0, 1) := by decide +kernel
theorem dX9_goBlocks_185 : decode cX9_goBlocks 185 = .ok (.getfield 20, 3) := by decide +kernel
theorem dX9_goBlocks_188 : decode cX9_goBlocks 188 = .ok (.iload 7, 2) := by decide +kernel
theorem dX9_goBlocks_190 : decode cX9_goBlocks 190 = .ok (.iconst 1, 1) := by decide +kernel
theorem dX9_goBlocks_191 : decode cX9_goBlocks 191 = .ok (.bastore, 1) := by decide +kernel
theorem dX9_goBlocks_192 : decode cX9_goBlocks 192 = .ok (.aload_n 0, 1) := by decide +kernel
theorem dX9_goBlocks_193 : decode cX9_goBlocks 193 = .ok (.dup, 1) := by decide +kernel
theorem dX9_goBlocks_194 : decode cX9_goBlocks 194 = .ok (.getfield 73, 3) := by decide +kernel
theorem dX9_goBlocks_197 : decode cX9_goBlocks 197 = .ok (.iload 8, 2) := by decide +kernel
theorem dX9_goBlocks_199 : decode cX9_goBlocks 199 = .ok (.ifCond .eq 7, 3) := by decide +kernel
theorem dX9_goBlocks_202 : decode cX9_goBlocks 202 = .ok (.iconst 1, 1) := by decide +kernel
theorem dX9_goBlocks_203 : decode cX9_goBlocks 203 = .ok (.goto 4, 3) := by decide +kernel
theorem dX9_goBlocks_206 : decode cX9_goBlocks 206 = .ok (.iconst 0, 1) := by decide +kernel
theorem dX9_goBlocks_207 : decode cX9_goBlocks 207 = .ok (.iadd, 1) := by decide +kernel
theorem dX9_goBlocks_208 : decode cX9_goBlocks 208 = .ok (.putfield 73, 3) := by decide +kernel
theorem dX9_goBlocks_211 : decode cX9_goBlocks 211 = .ok (.aload_n 0, 1) := by decide +kernel
theorem dX9_goBlocks_212 : decode cX9_goBlocks 212 = .ok (.dup, 1) := by decide +kernel
theorem dX9_goBlocks_213 : decode cX9_goBlocks 213 = .ok (.getfield 76, 3) := by decide +kernel
theorem dX9_goBlocks_216 : decode cX9_goBlocks 216 = .ok (.iload 8, 2) := by decide +kernel
theorem dX9_goBlocks_218 : decode cX9_goBlocks 218 = .ok (.ifCond .eq 7, 3) := by decide +kernel
theorem dX9_goBlocks_221 : decode cX9_goBlocks 221 = .ok (.iconst 0, 1) := by decide +kernel
theorem dX9_goBlocks_222 : decode cX9_goBlocks 222 = .ok (.goto 4, 3) := by decide +kernel
theorem dX9_goBlocks_225 : decode cX9_goBlocks 225 = .ok (.iconst 1, 1) := by decide +kernel
theorem dX9_goBlocks_226 : decode cX9_goBlocks 226 = .ok (.iadd, 1) := by decide +kernel
theorem dX9_goBlocks_227 : decode cX9_goBlocks 227 = .ok (.putfield 76, 3) := by decide +kernel
theorem dX9_goBlocks_230 : decode cX9_goBlocks 230 = .ok (.goto 25, 3) := by decide +kernel
theorem dX9_goBlocks_233 : decode cX9_goBlocks 233 = .ok (.aload_n 0, 1) := by decide +kernel
theorem dX9_goBlocks_234 : decode cX9_goBlocks 234 = .ok (.dup, 1) := by decide +kernel
theorem dX9_goBlocks_235 : decode cX9_goBlocks 235 = .ok (.getfield 79, 3) := by decide +kernel
theorem dX9_goBlocks_238 : decode cX9_goBlocks 238 = .ok (.iload_n 1, 1) := by decide +kernel
theorem dX9_goBlocks_239 : decode cX9_goBlocks 239 = .ok (.ifCond .eq 11, 3) := by decide +kernel
theorem dX9_goBlocks_242 : decode cX9_goBlocks 242 = .ok (.iload 5, 2) := by decide +kernel
theorem dX9_goBlocks_244 : decode cX9_goBlocks 244 = .ok (.iload 6, 2) := by decide +kernel
theorem dX9_goBlocks_246 : decode cX9_goBlocks 246 = .ok (.imul, 1) := by decide +kernel
theorem dX9_goBlocks_247 : decode cX9_goBlocks 247 = .ok (.goto 4, 3) := by decide +kernel
theorem dX9_goBlocks_250 : decode cX9_goBlocks 250 = .ok (.iconst 0, 1) := by decide +kernel
theorem dX9_goBlocks_251 : decode cX9_goBlocks 251 = .ok (.iadd, 1) := by decide +kernel
theorem dX9_goBlocks_252 : decode cX9_goBlocks 252 = .ok (.putfield 79, 3) := by decide +kernel
theorem dX9_goBlocks_255 : decode cX9_goBlocks 255 = .ok (.iload 4, 2) := by decide +kernel
theorem dX9_goBlocks_257 : decode cX9_goBlocks 257 = .ok (.aload_n 0, 1) := by decide +kernel
theorem dX9_goBlocks_258 : decode cX9_goBlocks 258 = .ok (.getfield 16, 3) := by decide +kernel
theorem dX9_goBlocks_261 : decode cX9_goBlocks 261 = .ok (.iadd, 1) := by decide +kernel
theorem dX9_goBlocks_262 : decode cX9_goBlocks 262 = .ok (.istore 4, 2) := by decide +kernel
theorem dX9_goBlocks_264 : decode cX9_goBlocks 264 = .ok (.goto (-232), 3) := by decide +kernel
theorem dX9_goBlocks_267 : decode cX9_goBlocks 267 = .ok (.iload_n 3, 1) := by decide +kernel
theorem dX9_goBlocks_268 : decode cX9_goBlocks 268 = .ok (.aload_n 0, 1) := by decide +kernel
theorem dX9_goBlocks_269 : decode cX9_goBlocks 269 = .ok (.getfield 16, 3) := by decide +kernel
theorem dX9_goBlocks_272 : decode cX9_goBlocks 272 = .ok (.iadd, 1) := by decide +kernel
theorem dX9_goBlocks_273 : decode cX9_goBlocks 273 = .ok (.istore_n 3, 1) := by decide +kernel
theorem dX9_goBlocks_274 : decode cX9_goBlocks 274 = .ok (.goto (-255), 3) := by decide +kernel
theorem dX9_goBlocks_277 : decode cX9_goBlocks 277 = .ok (.iload_n 2, 1) := by decide +kernel
theorem dX9_goBlocks_278 : decode cX9_goBlocks 278 = .ok (.ireturn, 1) := by decide +kernel
theorem dX9_go_0 : decode cX9_go 0 = .ok (.aload_n 0, 1) := by decide +kernel
theorem dX9_go_1 : decode cX9_go 1 = .ok (.iconst 0, 1) := by decide +kernel
theorem dX9_go_2 : decode cX9_go 2 = .ok (.putfield 82, 3) := by decide +kernel
theorem dX9_go_5 : decode cX9_go 5 = .ok (.aload_n 0, 1) := by decide +kernel
theorem dX9_go_6 : decode cX9_go 6 = .ok (.iconst 0, 1) := by decide +kernel
theorem dX9_go_7 : decode cX9_go 7 = .ok (.putfield 85, 3) := by decide +kernel
theorem dX9_go_10 : decode cX9_go 10 = .ok (.aload_n 0, 1) := by decide +kernel
theorem dX9_go_11 : decode cX9_go 11 = .ok (.iconst (-1), 1) := by decide +kernel
theorem dX9_go_12 : decode cX9_go 12 = .ok (.putfield 89, 3) := by decide +kernel
theorem dX9_go_15 : decode cX9_go 15 = .ok (.aload_n 0, 1) := by decide +kernel
theorem dX9_go_16 : decode cX9_go 16 = .ok (.getfield 82, 3) := by decide +kernel
theorem dX9_go_19 : decode cX9_go 19 = .ok (.aload_n 0, 1) := by decide +kernel
theorem dX9_go_20 : decode cX9_go 20 = .ok (.getfield 92, 3) := by decide +kernel
theorem dX9_go_23 : decode cX9_go 23 = .ok (.if_icmp .ge 135, 3) := by decide +kernel
theorem dX9_go_26 : decode cX9_go 26 = .ok (.aload_n 0, 1) := by decide +kernel
theorem dX9_go_27 : decode cX9_go 27 = .ok (.getfield 85, 3) := by decide +kernel
theorem dX9_go_30 : decode cX9_go 30 = .ok (.ifCond .ne 128, 3) := by decide +kernel
theorem dX9_go_33 : decode cX9_go 33 = .ok (.aload_n 0, 1) := by decide +kernel
theorem dX9_go_34 : decode cX9_go 34 = .ok (.getfield 27, 3) := by decide +kernel
theorem dX9_go_37 : decode cX9_go 37 = .ok (.aload_n 0, 1) := by decide +kernel
theorem dX9_go_38 : decode cX9_go 38 = .ok (.getfield 82, 3) := by decide +kernel
theorem dX9_go_41 : decode cX9_go 41 = .ok (.iaload, 1) := by decide +kernel
theorem dX9_go_42 : decode cX9_go 42 = .ok (.istore_n 1, 1) := by decide +kernel
theorem dX9_go_43 : decode cX9_go 43 = .ok (.aload_n 0, 1) := by decide +kernel
theorem dX9_go_44 : decode cX9_go 44 = .ok (.getfield 89, 3) := by decide +kernel
theorem dX9_go_47 : decode cX9_go 47 = .ok (.iconst 1, 1) := by decide +kernel
theorem dX9_go_48 : decode cX9_go 48 = .ok (.iadd, 1) := by decide +kernel
theorem dX9_go_49 : decode cX9_go 49 = .ok (.istore_n 2, 1) := by decide +kernel
theorem dX9_go_50 : decode cX9_go 50 = .ok (.iload_n 1, 1) := by decide +kernel
theorem dX9_go_51 : decode cX9_go 51 = .ok (.bipush 97, 2) := by decide +kernel
theorem dX9_go_53 : decode cX9_go 53 = .ok (.bipush 100, 2) := by decide +kernel
theorem dX9_go_55 : decode cX9_go 55 = .ok (.invokestatic 42, 3) := by decide +kernel
theorem dX9_go_58 : decode cX9_go 58 = .ok (.ifCond .eq 22, 3) := by decide +kernel
theorem dX9_go_61 : decode cX9_go 61 = .ok (.aload_n 0, 1) := by decide +kernel
theorem dX9_go_62 : decode cX9_go 62 = .ok (.getfield 82, 3) := by decide +kernel
theorem dX9_go_65 : decode cX9_go 65 = .ok (.iload_n 2, 1) := by decide +kernel
theorem dX9_go_66 : decode cX9_go 66 = .ok (.isub, 1) := by decide +kernel
theorem dX9_go_67 : decode cX9_go 67 = .ok (.bipush 20, 2) := by decide +kernel
theorem dX9_go_69 : decode cX9_go 69 = .ok (.if_icmp .ge 7, 3) := by decide +kernel
theorem dX9_go_72 : decode cX9_go 72 = .ok (.iconst 1, 1) := by decide +kernel
theorem dX9_go_73 : decode cX9_go 73 = .ok (.goto 25, 3) := by decide +kernel
theorem dX9_go_76 : decode cX9_go 76 = .ok (.iconst 0, 1) := by decide +kernel
theorem dX9_go_77 : decode cX9_go 77 = .ok (.goto 21, 3) := by decide +kernel
theorem dX9_go_80 : decode cX9_go 80 = .ok (.iload_n 1, 1) := by decide +kernel
theorem dX9_go_81 : decode cX9_go 81 = .ok (.bipush 124, 2) := by decide +kernel
theorem dX9_go_83 : decode cX9_go 83 = .ok (.if_icmp .ne 14, 3) := by decide +kernel
theorem dX9_go_86 : decode cX9_go 86 = .ok (.aload_n 0, 1) := by decide +kernel
theorem dX9_go_87 : decode cX9_go 87 = .ok (.getfield 89, 3) := by decide +kernel
theorem dX9_go_90 : decode cX9_go 90 = .ok (.ifCond .ge 7, 3) := by decide +kernel
theorem dX9_go_93 : decode cX9_go 93 = .ok (.iconst 1, 1) := by decide +kernel
theorem dX9_go_94 : decode cX9_go 94 = .ok (.goto 4, 3) := by decide +kernel
theorem dX9_go_97 : decode cX9_go 97 = .ok (.iconst 0, 1) := by decide +kernel
theorem dX9_go_98 : decode cX9_go 98 = .ok (.istore_n 3, 1) := by decide +kernel
theorem dX9_go_99 : decode cX9_go 99 = .ok (.aload_n 0, 1) := by decide +kernel
theorem dX9_go_100 : decode cX9_go 100 = .ok (.iload_n 1, 1) := by decide +kernel
theorem dX9_go_101 : decode cX9_go 101 = .ok (.bipush 124, 2) := by decide +kernel
theorem dX9_go_103 : decode cX9_go 103 = .ok (.if_icmp .ne 14, 3) := by decide +kernel
theorem dX9_go_106 : decode cX9_go 106 = .ok (.iload_n 3, 1) := by decide +kernel
theorem dX9_go_107 : decode cX9_go 107 = .ok (.ifCond .eq 10, 3) := by decide +kernel
theorem dX9_go_110 : decode cX9_go 110 = .ok (.aload_n 0, 1) := by decide +kernel
theorem dX9_go_111 : decode cX9_go 111 = .ok (.getfield 82, 3) := by decide +kernel
theorem dX9_go_114 : decode cX9_go 114 = .ok (.goto 7, 3) := by decide +kernel
theorem dX9_go_117 : decode cX9_go 117 = .ok (.aload_n 0, 1) := by decide +kernel
theorem dX9_go_118 : decode cX9_go 118 = .ok (.getfield 89, 3) := by decide +kernel
theorem dX9_go_121 : decode cX9_go 121 = .ok (.putfield 89, 3) := by decide +kernel
theorem dX9_go_124 : decode cX9_go 124 = .ok (.aload_n 0, 1) := by decide +kernel
theorem dX9_go_125 : decode cX9_go 125 = .ok (.iload_n 3, 1) := by decide +kernel
theorem dX9_go_126 : decode cX9_go 126 = .ok (.ifCond .ne 7, 3) := by decide +kernel
theorem dX9_go_129 : decode cX9_go 129 = .ok (.iconst 1, 1) := by decide +kernel
theorem dX9_go_130 : decode cX9_go 130 = .ok (.goto 4, 3) := by decide +kernel
theorem dX9_go_133 : decode cX9_go 133 = .ok (.iconst 0, 1) := by decide +kernel
theorem dX9_go_134 : decode cX9_go 134 = .ok (.putfield 85, 3) := by decide +kernel
theorem dX9_go_137 : decode cX9_go 137 = .ok (.aload_n 0, 1) := by decide +kernel
theorem dX9_go_138 : decode cX9_go 138 = .ok (.dup, 1) := by decide +kernel
theorem dX9_go_139 : decode cX9_go 139 = .ok (.getfield 82, 3) := by decide +kernel
theorem dX9_go_142 : decode cX9_go 142 = .ok (.iload_n 3, 1) := by decide +kernel
theorem dX9_go_143 : decode cX9_go 143 = .ok (.ifCond .eq 7, 3) := by decide +kernel
theorem dX9_go_146 : decode cX9_go 146 = .ok (.iconst 1, 1) := by decide +kernel
theorem dX9_go_147 : decode cX9_go 147 = .ok (.goto 4, 3) := by decide +kernel
theorem dX9_go_150 : decode cX9_go 150 = .ok (.iconst 0, 1) := by decide +kernel
theorem dX9_go_151 : decode cX9_go 151 = .ok (.iadd, 1) := by decide +kernel
theorem dX9_go_152 : decode cX9_go 152 = .ok (.putfield 82, 3) := by decide +kernel
theorem dX9_go_155 : decode cX9_go 155 = .ok (.goto (-140), 3) := by decide +kernel
theorem dX9_go_158 : decode cX9_go 158 = .ok (.return_, 1) := by decide +kernel
theorem dX9_load_0 : decode cX9_load 0 = .ok (.aload_n 0, 1) := by decide +kernel
theorem dX9_load_1 : decode cX9_load 1 = .ok (.iconst 0, 1) := by decide +kernel
theorem dX9_load_2 : decode cX9_load 2 = .ok (.putfield 36, 3) := by decide +kernel
theorem dX9_load_5 : decode cX9_load 5 = .ok (.aload_n 0, 1) := by decide +kernel
theorem dX9_load_6 : decode cX9_load 6 = .ok (.invokevirtual 95, 3) := by decide +kernel
theorem dX9_load_9 : decode cX9_load 9 = .ok (.aload_n 0, 1) := by decide +kernel
theorem dX9_load_10 : decode cX9_load 10 = .ok (.getfield 85, 3) := by decide +kernel
theorem dX9_load_13 : decode cX9_load 13 = .ok (.ifCond .ne 10, 3) := by decide +kernel
theorem dX9_load_16 : decode cX9_load 16 = .ok (.aload_n 0, 1) := by decide +kernel
theorem dX9_load_17 : decode cX9_load 17 = .ok (.getfield 89, 3) := by decide +kernel
theorem dX9_load_20 : decode cX9_load 20 = .ok (.ifCond .ge 9, 3) := by decide +kernel
theorem dX9_load_23 : decode cX9_load 23 = .ok (.aload_n 0, 1) := by decide +kernel
theorem dX9_load_24 : decode cX9_load 24 = .ok (.iconst 1, 1) := by decide +kernel
theorem dX9_load_25 : decode cX9_load 25 = .ok (.invokevirtual 98, 3) := by decide +kernel
theorem dX9_load_28 : decode cX9_load 28 = .ok (.ireturn, 1) := by decide +kernel
theorem dX9_load_29 : decode cX9_load 29 = .ok (.iconst 0, 1) := by decide +kernel
theorem dX9_load_30 : decode cX9_load 30 = .ok (.istore_n 1, 1) := by decide +kernel
theorem dX9_load_31 : decode cX9_load 31 = .ok (.iload_n 1, 1) := by decide +kernel
theorem dX9_load_32 : decode cX9_load 32 = .ok (.aload_n 0, 1) := by decide +kernel
theorem dX9_load_33 : decode cX9_load 33 = .ok (.getfield 92, 3) := by decide +kernel
theorem dX9_load_36 : decode cX9_load 36 = .ok (.if_icmp .ge 39, 3) := by decide +kernel
theorem dX9_load_39 : decode cX9_load 39 = .ok (.iload_n 1, 1) := by decide +kernel
theorem dX9_load_40 : decode cX9_load 40 = .ok (.aload_n 0, 1) := by decide +kernel
theorem dX9_load_41 : decode cX9_load 41 = .ok (.getfield 89, 3) := by decide +kernel
theorem dX9_load_44 : decode cX9_load 44 = .ok (.if_icmp .eq 25, 3) := by decide +kernel
theorem dX9_load_47 : decode cX9_load 47 = .ok (.aload_n 0, 1) := by decide +kernel
theorem dX9_load_48 : decode cX9_load 48 = .ok (.aload_n 0, 1) := by decide +kernel
theorem dX9_load_49 : decode cX9_load 49 = .ok (.getfield 27, 3) := by decide +kernel
theorem dX9_load_52 : decode cX9_load 52 = .ok (.iload_n 1, 1) := by decide +kernel
theorem dX9_load_53 : decode cX9_load 53 = .ok (.iaload, 1) := by decide +kernel
theorem dX9_load_54 : decode cX9_load 54 = .ok (.bipush 97, 2) := by decide +kernel
theorem dX9_load_56 : decode cX9_load 56 = .ok (.isub, 1) := by decide +kernel
theorem dX9_load_57 : decode cX9_load 57 = .ok (.invokevirtual 102, 3) := by decide +kernel
theorem dX9_load_60 : decode cX9_load 60 = .ok (.ifCond .ne 9, 3) := by decide +kernel
theorem dX9_load_63 : decode cX9_load 63 = .ok (.aload_n 0, 1) := by decide +kernel
theorem dX9_load_64 : decode cX9_load 64 = .ok (.iconst 1, 1) := by decide +kernel
theorem dX9_load_65 : decode cX9_load 65 = .ok (.invokevirtual 98, 3) := by decide +kernel
theorem dX9_load_68 : decode cX9_load 68 = .ok (.ireturn, 1) := by decide +kernel
theorem dX9_load_69 : decode cX9_load 69 = .ok (.iinc 1 1, 3) := by decide +kernel
theorem dX9_load_72 : decode cX9_load 72 = .ok (.goto (-41), 3) := by decide +kernel
theorem dX9_load_75 : decode cX9_load 75 = .ok (.aload_n 0, 1) := by decide +kernel
theorem dX9_load_76 : decode cX9_load 76 = .ok (.invokevirtual 106, 3) := by decide +kernel
theorem dX9_load_79 : decode cX9_load 79 = .ok (.aload_n 0, 1) := by decide +kernel
theorem dX9_load_80 : decode cX9_load 80 = .ok (.getfield 7, 3) := by decide +kernel
theorem dX9_load_83 : decode cX9_load 83 = .ok (.iconst 0, 1) := by decide +kernel
theorem dX9_load_84 : decode cX9_load 84 = .ok (.aload_n 0, 1) := by decide +kernel
theorem dX9_load_85 : decode cX9_load 85 = .ok (.getfield 89, 3) := by decide +kernel
theorem dX9_load_88 : decode cX9_load 88 = .ok (.iastore, 1) := by decide +kernel
theorem dX9_load_89 : decode cX9_load 89 = .ok (.aload_n 0, 1) := by decide +kernel
theorem dX9_load_90 : decode cX9_load 90 = .ok (.getfield 7, 3) := by decide +kernel
theorem dX9_load_93 : decode cX9_load 93 = .ok (.iconst 1, 1) := by decide +kernel
theorem dX9_load_94 : decode cX9_load 94 = .ok (.aload_n 0, 1) := by decide +kernel
theorem dX9_load_95 : decode cX9_load 95 = .ok (.getfield 92, 3) := by decide +kernel
theorem dX9_load_98 : decode cX9_load 98 = .ok (.aload_n 0, 1) := by decide +kernel
theorem dX9_load_99 : decode cX9_load 99 = .ok (.getfield 89, 3) := by decide +kernel
theorem dX9_load_102 : decode cX9_load 102 = .ok (.isub, 1) := by decide +kernel
theorem dX9_load_103 : decode cX9_load 103 = .ok (.iconst 1, 1) := by decide +kernel
theorem dX9_load_104 : decode cX9_load 104 = .ok (.isub, 1) := by decide +kernel
theorem dX9_load_105 : decode cX9_load 105 = .ok (.iastore, 1) := by decide +kernel
theorem dX9_load_106 : decode cX9_load 106 = .ok (.iconst 0, 1) := by decide +kernel
theorem dX9_load_107 : decode cX9_load 107 = .ok (.istore_n 1, 1) := by decide +kernel
theorem dX9_load_108 : decode cX9_load 108 = .ok (.iload_n 1, 1) := by decide +kernel
theorem dX9_load_109 : decode cX9_load 109 = .ok (.bipush 40, 2) := by decide +kernel
theorem dX9_load_111 : decode cX9_load 111 = .ok (.if_icmp .ge 66, 3) := by decide +kernel
theorem dX9_load_114 : decode cX9_load 114 = .ok (.iload_n 1, 1) := by decide +kernel
theorem dX9_load_115 : decode cX9_load 115 = .ok (.bipush 20, 2) := by decide +kernel
theorem dX9_load_117 : decode cX9_load 117 = .ok (.idiv, 1) := by decide +kernel
theorem dX9_load_118 : decode cX9_load 118 = .ok (.istore_n 2, 1) := by decide +kernel
theorem dX9_load_119 : decode cX9_load 119 = .ok (.iload_n 1, 1) := by decide +kernel
theorem dX9_load_120 : decode cX9_load 120 = .ok (.bipush 20, 2) := by decide +kernel
theorem dX9_load_122 : decode cX9_load 122 = .ok (.irem, 1) := by decide +kernel
theorem dX9_load_123 : decode cX9_load 123 = .ok (.istore_n 3, 1) := by decide +kernel
theorem dX9_load_124 : decode cX9_load 124 = .ok (.aload_n 0, 1) := by decide +kernel
theorem dX9_load_125 : decode cX9_load 125 = .ok (.getfield 7, 3) := by decide +kernel
theorem dX9_load_128 : decode cX9_load 128 = .ok (.iconst 3, 1) := by decide +kernel
theorem dX9_load_129 : decode cX9_load 129 = .ok (.iload_n 1, 1) := by decide +kernel
theorem dX9_load_130 : decode cX9_load 130 = .ok (.iadd, 1) := by decide +kernel
theorem dX9_load_131 : decode cX9_load 131 = .ok (.iload_n 3, 1) := by decide +kernel
theorem dX9_load_132 : decode cX9_load 132 = .ok (.aload_n 0, 1) := by decide +kernel
theorem dX9_load_133 : decode cX9_load 133 = .ok (.getfield 7, 3) := by decide +kernel
theorem dX9_load_136 : decode cX9_load 136 = .ok (.iload_n 2, 1) := by decide +kernel
theorem dX9_load_137 : decode cX9_load 137 = .ok (.iaload, 1) := by decide +kernel
theorem dX9_load_138 : decode cX9_load 138 = .ok (.if_icmp .ge 31, 3) := by decide +kernel
theorem dX9_load_141 : decode cX9_load 141 = .ok (.aload_n 0, 1) := by decide +kernel
theorem dX9_load_142 : decode cX9_load 142 = .ok (.getfield 27, 3) := by decide +kernel
theorem dX9_load_145 : decode cX9_load 145 = .ok (.iload_n 3, 1) := by decide +kernel
theorem dX9_load_146 : decode cX9_load 146 = .ok (.iload_n 2, 1) := by decide +kernel
theorem dX9_load_147 : decode cX9_load 147 = .ok (.iconst 1, 1) := by decide +kernel
theorem dX9_load_148 : decode cX9_load 148 = .ok (.if_icmp .ne 12, 3) := by decide +kernel
theorem dX9_load_151 : decode cX9_load 151 = .ok (.aload_n 0, 1) := by decide +kernel
theorem dX9_load_152 : decode cX9_load 152 = .ok (.getfield 89, 3) := by decide +kernel
theorem dX9_load_155 : decode cX9_load 155 = .ok (.iconst 1, 1) := by decide +kernel
theorem dX9_load_156 : decode cX9_load 156 = .ok (.iadd, 1) := by decide +kernel
theorem dX9_load_157 : decode cX9_load 157 = .ok (.goto 4, 3) := by decide +kernel
theorem dX9_load_160 : decode cX9_load 160 = .ok (.iconst 0, 1) := by decide +kernel
theorem dX9_load_161 : decode cX9_load 161 = .ok (.iadd, 1) := by decide +kernel
theorem dX9_load_162 : decode cX9_load 162 = .ok (.iaload, 1) := by decide +kernel
theorem dX9_load_163 : decode cX9_load 163 = .ok (.bipush 97, 2) := by decide +kernel
theorem dX9_load_165 : decode cX9_load 165 = .ok (.isub, 1) := by decide +kernel
theorem dX9_load_166 : decode cX9_load 166 = .ok (.goto 4, 3) := by decide +kernel
theorem dX9_load_169 : decode cX9_load 169 = .ok (.iconst 0, 1) := by decide +kernel
theorem dX9_load_170 : decode cX9_load 170 = .ok (.iastore, 1) := by decide +kernel
theorem dX9_load_171 : decode cX9_load 171 = .ok (.iinc 1 1, 3) := by decide +kernel
theorem dX9_load_174 : decode cX9_load 174 = .ok (.goto (-66), 3) := by decide +kernel
theorem dX9_load_177 : decode cX9_load 177 = .ok (.aload_n 0, 1) := by decide +kernel
theorem dX9_load_178 : decode cX9_load 178 = .ok (.iconst 0, 1) := by decide +kernel
theorem dX9_load_179 : decode cX9_load 179 = .ok (.putfield 92, 3) := by decide +kernel
theorem dX9_load_182 : decode cX9_load 182 = .ok (.aload_n 0, 1) := by decide +kernel
theorem dX9_load_183 : decode cX9_load 183 = .ok (.getfield 7, 3) := by decide +kernel
theorem dX9_load_186 : decode cX9_load 186 = .ok (.iconst 0, 1) := by decide +kernel
theorem dX9_load_187 : decode cX9_load 187 = .ok (.iaload, 1) := by decide +kernel
theorem dX9_load_188 : decode cX9_load 188 = .ok (.aload_n 0, 1) := by decide +kernel
theorem dX9_load_189 : decode cX9_load 189 = .ok (.getfield 7, 3) := by decide +kernel
theorem dX9_load_192 : decode cX9_load 192 = .ok (.iconst 1, 1) := by decide +kernel
theorem dX9_load_193 : decode cX9_load 193 = .ok (.iaload, 1) := by decide +kernel
theorem dX9_load_194 : decode cX9_load 194 = .ok (.iadd, 1) := by decide +kernel
theorem dX9_load_195 : decode cX9_load 195 = .ok (.ireturn, 1) := by decide +kernel
theorem dX9_insert_0 : decode cX9_insert 0 = .ok (.aload_n 0, 1) := by decide +kernel
theorem dX9_insert_1 : decode cX9_insert 1 = .ok (.iconst 0, 1) := by decide +kernel
theorem dX9_insert_2 : decode cX9_insert 2 = .ok (.putfield 36, 3) := by decide +kernel
theorem dX9_insert_5 : decode cX9_insert 5 = .ok (.iload_n 1, 1) := by decide +kernel
theorem dX9_insert_6 : decode cX9_insert 6 = .ok (.invokestatic 109, 3) := by decide +kernel
theorem dX9_insert_9 : decode cX9_insert 9 = .ok (.ifCond .eq 17, 3) := by decide +kernel
theorem dX9_insert_12 : decode cX9_insert 12 = .ok (.iload_n 2, 1) := by decide +kernel
theorem dX9_insert_13 : decode cX9_insert 13 = .ok (.iconst 0, 1) := by decide +kernel
theorem dX9_insert_14 : decode cX9_insert 14 = .ok (.aload_n 0, 1) := by decide +kernel
theorem dX9_insert_15 : decode cX9_insert 15 = .ok (.getfield 7, 3) := by decide +kernel
theorem dX9_insert_18 : decode cX9_insert 18 = .ok (.iload_n 1, 1) := by decide +kernel
theorem dX9_insert_19 : decode cX9_insert 19 = .ok (.iaload, 1) := by decide +kernel
theorem dX9_insert_20 : decode cX9_insert 20 = .ok (.invokestatic 42, 3) := by decide +kernel
theorem dX9_insert_23 : decode cX9_insert 23 = .ok (.ifCond .ne 9, 3) := by decide +kernel
theorem dX9_insert_26 : decode cX9_insert 26 = .ok (.aload_n 0, 1) := by decide +kernel
theorem dX9_insert_27 : decode cX9_insert 27 = .ok (.iconst 1, 1) := by decide +kernel
theorem dX9_insert_28 : decode cX9_insert 28 = .ok (.invokevirtual 98, 3) := by decide +kernel
theorem dX9_insert_31 : decode cX9_insert 31 = .ok (.ireturn, 1) := by decide +kernel
theorem dX9_insert_32 : decode cX9_insert 32 = .ok (.aload_n 0, 1) := by decide +kernel
theorem dX9_insert_33 : decode cX9_insert 33 = .ok (.iload_n 3, 1) := by decide +kernel
theorem dX9_insert_34 : decode cX9_insert 34 = .ok (.invokevirtual 102, 3) := by decide +kernel
theorem dX9_insert_37 : decode cX9_insert 37 = .ok (.ifCond .ne 9, 3) := by decide +kernel
theorem dX9_insert_40 : decode cX9_insert 40 = .ok (.aload_n 0, 1) := by decide +kernel
theorem dX9_insert_41 : decode cX9_insert 41 = .ok (.iconst 2, 1) := by decide +kernel
theorem dX9_insert_42 : decode cX9_insert 42 = .ok (.invokevirtual 98, 3) := by decide +kernel
theorem dX9_insert_45 : decode cX9_insert 45 = .ok (.ireturn, 1) := by decide +kernel
theorem dX9_insert_46 : decode cX9_insert 46 = .ok (.aload_n 0, 1) := by decide +kernel
theorem dX9_insert_47 : decode cX9_insert 47 = .ok (.getfield 7, 3) := by decide +kernel
theorem dX9_insert_50 : decode cX9_insert 50 = .ok (.iload_n 1, 1) := by decide +kernel
theorem dX9_insert_51 : decode cX9_insert 51 = .ok (.iaload, 1) := by decide +kernel
theorem dX9_insert_52 : decode cX9_insert 52 = .ok (.bipush 20, 2) := by decide +kernel
theorem dX9_insert_54 : decode cX9_insert 54 = .ok (.if_icmp .ne 9, 3) := by decide +kernel
theorem dX9_insert_57 : decode cX9_insert 57 = .ok (.aload_n 0, 1) := by decide +kernel
theorem dX9_insert_58 : decode cX9_insert 58 = .ok (.iconst 3, 1) := by decide +kernel
theorem dX9_insert_59 : decode cX9_insert 59 = .ok (.invokevirtual 98, 3) := by decide +kernel
theorem dX9_insert_62 : decode cX9_insert 62 = .ok (.ireturn, 1) := by decide +kernel
theorem dX9_insert_63 : decode cX9_insert 63 = .ok (.aload_n 0, 1) := by decide +kernel
theorem dX9_insert_64 : decode cX9_insert 64 = .ok (.invokevirtual 106, 3) := by decide +kernel
theorem dX9_insert_67 : decode cX9_insert 67 = .ok (.aload_n 0, 1) := by decide +kernel
theorem dX9_insert_68 : decode cX9_insert 68 = .ok (.getfield 7, 3) := by decide +kernel
theorem dX9_insert_71 : decode cX9_insert 71 = .ok (.iload_n 1, 1) := by decide +kernel
theorem dX9_insert_72 : decode cX9_insert 72 = .ok (.iaload, 1) := by decide +kernel
theorem dX9_insert_73 : decode cX9_insert 73 = .ok (.istore 4, 2) := by decide +kernel
theorem dX9_insert_75 : decode cX9_insert 75 = .ok (.iload 4, 2) := by decide +kernel
theorem dX9_insert_77 : decode cX9_insert 77 = .ok (.iload_n 2, 1) := by decide +kernel
theorem dX9_insert_78 : decode cX9_insert 78 = .ok (.if_icmp .le 32, 3) := by decide +kernel
theorem dX9_insert_81 : decode cX9_insert 81 = .ok (.aload_n 0, 1) := by decide +kernel
theorem dX9_insert_82 : decode cX9_insert 82 = .ok (.getfield 7, 3) := by decide +kernel
theorem dX9_insert_85 : decode cX9_insert 85 = .ok (.iconst 3, 1) := by decide +kernel
theorem dX9_insert_86 : decode cX9_insert 86 = .ok (.bipush 20, 2) := by decide +kernel
theorem dX9_insert_88 : decode cX9_insert 88 = .ok (.iload_n 1, 1) := by decide +kernel
theorem dX9_insert_89 : decode cX9_insert 89 = .ok (.imul, 1) := by decide +kernel
theorem dX9_insert_90 : decode cX9_insert 90 = .ok (.iadd, 1) := by decide +kernel
theorem dX9_insert_91 : decode cX9_insert 91 = .ok (.iload 4, 2) := by decide +kernel
theorem dX9_insert_93 : decode cX9_insert 93 = .ok (.iadd, 1) := by decide +kernel
theorem dX9_insert_94 : decode cX9_insert 94 = .ok (.aload_n 0, 1) := by decide +kernel
theorem dX9_insert_95 : decode cX9_insert 95 = .ok (.iload_n 1, 1) := by decide +kernel
theorem dX9_insert_96 : decode cX9_insert 96 = .ok (.iload 4, 2) := by decide +kernel
theorem dX9_insert_98 : decode cX9_insert 98 = .ok (.iconst 1, 1) := by decide +kernel
theorem dX9_insert_99 : decode cX9_insert 99 = .ok (.isub, 1) := by decide +kernel
theorem dX9_insert_100 : decode cX9_insert 100 = .ok (.invokevirtual 46, 3) := by decide +kernel
theorem dX9_insert_103 : decode cX9_insert 103 = .ok (.iastore, 1) := by decide +kernel
theorem dX9_insert_104 : decode cX9_insert 104 = .ok (.iinc 4 (-1), 3) := by decide +kernel
theorem dX9_insert_107 : decode cX9_insert 107 = .ok (.goto (-32), 3) := by decide +kernel
theorem dX9_insert_110 : decode cX9_insert 110 = .ok (.aload_n 0, 1) := by decide +kernel
theorem dX9_insert_111 : decode cX9_insert 111 = .ok (.getfield 7, 3) := by decide +kernel
theorem dX9_insert_114 : decode cX9_insert 114 = .ok (.iconst 3, 1) := by decide +kernel
theorem dX9_insert_115 : decode cX9_insert 115 = .ok (.bipush 20, 2) := by decide +kernel
theorem dX9_insert_117 : decode cX9_insert 117 = .ok (.iload_n 1, 1) := by decide +kernel
theorem dX9_insert_118 : decode cX9_insert 118 = .ok (.imul, 1) := by decide +kernel
theorem dX9_insert_119 : decode cX9_insert 119 = .ok (.iadd, 1) := by decide +kernel
theorem dX9_insert_120 : decode cX9_insert 120 = .ok (.iload_n 2, 1) := by decide +kernel
theorem dX9_insert_121 : decode cX9_insert 121 = .ok (.iadd, 1) := by decide +kernel
theorem dX9_insert_122 : decode cX9_insert 122 = .ok (.iload_n 3, 1) := by decide +kernel
theorem dX9_insert_123 : decode cX9_insert 123 = .ok (.iastore, 1) := by decide +kernel
theorem dX9_insert_124 : decode cX9_insert 124 = .ok (.aload_n 0, 1) := by decide +kernel
theorem dX9_insert_125 : decode cX9_insert 125 = .ok (.getfield 7, 3) := by decide +kernel
theorem dX9_insert_128 : decode cX9_insert 128 = .ok (.iload_n 1, 1) := by decide +kernel
theorem dX9_insert_129 : decode cX9_insert 129 = .ok (.dup2, 1) := by decide +kernel
theorem dX9_insert_130 : decode cX9_insert 130 = .ok (.iaload, 1) := by decide +kernel
theorem dX9_insert_131 : decode cX9_insert 131 = .ok (.iconst 1, 1) := by decide +kernel
theorem dX9_insert_132 : decode cX9_insert 132 = .ok (.iadd, 1) := by decide +kernel
theorem dX9_insert_133 : decode cX9_insert 133 = .ok (.iastore, 1) := by decide +kernel
theorem dX9_insert_134 : decode cX9_insert 134 = .ok (.aload_n 0, 1) := by decide +kernel
theorem dX9_insert_135 : decode cX9_insert 135 = .ok (.getfield 7, 3) := by decide +kernel
theorem dX9_insert_138 : decode cX9_insert 138 = .ok (.iload_n 1, 1) := by decide +kernel
theorem dX9_insert_139 : decode cX9_insert 139 = .ok (.iaload, 1) := by decide +kernel
theorem dX9_insert_140 : decode cX9_insert 140 = .ok (.ireturn, 1) := by decide +kernel
theorem dX9_remove_0 : decode cX9_remove 0 = .ok (.aload_n 0, 1) := by decide +kernel
theorem dX9_remove_1 : decode cX9_remove 1 = .ok (.iconst 0, 1) := by decide +kernel
theorem dX9_remove_2 : decode cX9_remove 2 = .ok (.putfield 36, 3) := by decide +kernel
theorem dX9_remove_5 : decode cX9_remove 5 = .ok (.iload_n 1, 1) := by decide +kernel
theorem dX9_remove_6 : decode cX9_remove 6 = .ok (.invokestatic 109, 3) := by decide +kernel
theorem dX9_remove_9 : decode cX9_remove 9 = .ok (.ifCond .eq 19, 3) := by decide +kernel
theorem dX9_remove_12 : decode cX9_remove 12 = .ok (.iload_n 2, 1) := by decide +kernel
theorem dX9_remove_13 : decode cX9_remove 13 = .ok (.iconst 0, 1) := by decide +kernel
theorem dX9_remove_14 : decode cX9_remove 14 = .ok (.aload_n 0, 1) := by decide +kernel
theorem dX9_remove_15 : decode cX9_remove 15 = .ok (.getfield 7, 3) := by decide +kernel
theorem dX9_remove_18 : decode cX9_remove 18 = .ok (.iload_n 1, 1) := by decide +kernel
theorem dX9_remove_19 : decode cX9_remove 19 = .ok (.iaload, 1) := by decide +kernel
theorem dX9_remove_20 : decode cX9_remove 20 = .ok (.iconst 1, 1) := by decide +kernel
theorem dX9_remove_21 : decode cX9_remove 21 = .ok (.isub, 1) := by decide +kernel
theorem dX9_remove_22 : decode cX9_remove 22 = .ok (.invokestatic 42, 3) := by decide +kernel
theorem dX9_remove_25 : decode cX9_remove 25 = .ok (.ifCond .ne 9, 3) := by decide +kernel
theorem dX9_remove_28 : decode cX9_remove 28 = .ok (.aload_n 0, 1) := by decide +kernel
theorem dX9_remove_29 : decode cX9_remove 29 = .ok (.iconst 1, 1) := by decide +kernel
theorem dX9_remove_30 : decode cX9_remove 30 = .ok (.invokevirtual 98, 3) := by decide +kernel
theorem dX9_remove_33 : decode cX9_remove 33 = .ok (.ireturn, 1) := by decide +kernel
theorem dX9_remove_34 : decode cX9_remove 34 = .ok (.aload_n 0, 1) := by decide +kernel
theorem dX9_remove_35 : decode cX9_remove 35 = .ok (.invokevirtual 106, 3) := by decide +kernel
theorem dX9_remove_38 : decode cX9_remove 38 = .ok (.aload_n 0, 1) := by decide +kernel
theorem dX9_remove_39 : decode cX9_remove 39 = .ok (.iload_n 1, 1) := by decide +kernel
theorem dX9_remove_40 : decode cX9_remove 40 = .ok (.iload_n 2, 1) := by decide +kernel
theorem dX9_remove_41 : decode cX9_remove 41 = .ok (.invokevirtual 46, 3) := by decide +kernel
theorem dX9_remove_44 : decode cX9_remove 44 = .ok (.istore_n 3, 1) := by decide +kernel
theorem dX9_remove_45 : decode cX9_remove 45 = .ok (.aload_n 0, 1) := by decide +kernel
theorem dX9_remove_46 : decode cX9_remove 46 = .ok (.getfield 7, 3) := by decide +kernel
theorem dX9_remove_49 : decode cX9_remove 49 = .ok (.iload_n 1, 1) := by decide +kernel
theorem dX9_remove_50 : decode cX9_remove 50 = .ok (.dup2, 1) := by decide +kernel
theorem dX9_remove_51 : decode cX9_remove 51 = .ok (.iaload, 1) := by decide +kernel
theorem dX9_remove_52 : decode cX9_remove 52 = .ok (.iconst 1, 1) := by decide +kernel
theorem dX9_remove_53 : decode cX9_remove 53 = .ok (.isub, 1) := by decide +kernel
theorem dX9_remove_54 : decode cX9_remove 54 = .ok (.iastore, 1) := by decide +kernel
theorem dX9_remove_55 : decode cX9_remove 55 = .ok (.iload_n 2, 1) := by decide +kernel
theorem dX9_remove_56 : decode cX9_remove 56 = .ok (.istore 4, 2) := by decide +kernel
theorem dX9_remove_58 : decode cX9_remove 58 = .ok (.iload 4, 2) := by decide +kernel
theorem dX9_remove_60 : decode cX9_remove 60 = .ok (.aload_n 0, 1) := by decide +kernel
theorem dX9_remove_61 : decode cX9_remove 61 = .ok (.getfield 7, 3) := by decide +kernel
theorem dX9_remove_64 : decode cX9_remove 64 = .ok (.iload_n 1, 1) := by decide +kernel
theorem dX9_remove_65 : decode cX9_remove 65 = .ok (.iaload, 1) := by decide +kernel
theorem dX9_remove_66 : decode cX9_remove 66 = .ok (.if_icmp .ge 32, 3) := by decide +kernel
theorem dX9_remove_69 : decode cX9_remove 69 = .ok (.aload_n 0, 1) := by decide +kernel
theorem dX9_remove_70 : decode cX9_remove 70 = .ok (.getfield 7, 3) := by decide +kernel
theorem dX9_remove_73 : decode cX9_remove 73 = .ok (.iconst 3, 1) := by decide +kernel
theorem dX9_remove_74 : decode cX9_remove 74 = .ok (.bipush 20, 2) := by decide +kernel
theorem dX9_remove_76 : decode cX9_remove 76 = .ok (.iload_n 1, 1) := by decide +kernel
theorem dX9_remove_77 : decode cX9_remove 77 = .ok (.imul, 1) := by decide +kernel
theorem dX9_remove_78 : decode cX9_remove 78 = .ok (.iadd, 1) := by decide +kernel
theorem dX9_remove_79 : decode cX9_remove 79 = .ok (.iload 4, 2) := by decide +kernel
theorem dX9_remove_81 : decode cX9_remove 81 = .ok (.iadd, 1) := by decide +kernel
theorem dX9_remove_82 : decode cX9_remove 82 = .ok (.aload_n 0, 1) := by decide +kernel
theorem dX9_remove_83 : decode cX9_remove 83 = .ok (.iload_n 1, 1) := by decide +kernel
theorem dX9_remove_84 : decode cX9_remove 84 = .ok (.iload 4, 2) := by decide +kernel
theorem dX9_remove_86 : decode cX9_remove 86 = .ok (.iconst 1, 1) := by decide +kernel
theorem dX9_remove_87 : decode cX9_remove 87 = .ok (.iadd, 1) := by decide +kernel
theorem dX9_remove_88 : decode cX9_remove 88 = .ok (.invokevirtual 46, 3) := by decide +kernel
theorem dX9_remove_91 : decode cX9_remove 91 = .ok (.iastore, 1) := by decide +kernel
theorem dX9_remove_92 : decode cX9_remove 92 = .ok (.iinc 4 1, 3) := by decide +kernel
theorem dX9_remove_95 : decode cX9_remove 95 = .ok (.goto (-37), 3) := by decide +kernel
theorem dX9_remove_98 : decode cX9_remove 98 = .ok (.aload_n 0, 1) := by decide +kernel
theorem dX9_remove_99 : decode cX9_remove 99 = .ok (.getfield 7, 3) := by decide +kernel
theorem dX9_remove_102 : decode cX9_remove 102 = .ok (.iconst 3, 1) := by decide +kernel
theorem dX9_remove_103 : decode cX9_remove 103 = .ok (.bipush 20, 2) := by decide +kernel
theorem dX9_remove_105 : decode cX9_remove 105 = .ok (.iload_n 1, 1) := by decide +kernel
theorem dX9_remove_106 : decode cX9_remove 106 = .ok (.imul, 1) := by decide +kernel
theorem dX9_remove_107 : decode cX9_remove 107 = .ok (.iadd, 1) := by decide +kernel
theorem dX9_remove_108 : decode cX9_remove 108 = .ok (.aload_n 0, 1) := by decide +kernel
theorem dX9_remove_109 : decode cX9_remove 109 = .ok (.getfield 7, 3) := by decide +kernel
theorem dX9_remove_112 : decode cX9_remove 112 = .ok (.iload_n 1, 1) := by decide +kernel
theorem dX9_remove_113 : decode cX9_remove 113 = .ok (.iaload, 1) := by decide +kernel
theorem dX9_remove_114 : decode cX9_remove 114 = .ok (.iadd, 1) := by decide +kernel
theorem dX9_remove_115 : decode cX9_remove 115 = .ok (.iconst 0, 1) := by decide +kernel
theorem dX9_remove_116 : decode cX9_remove 116 = .ok (.iastore, 1) := by decide +kernel
theorem dX9_remove_117 : decode cX9_remove 117 = .ok (.iload_n 3, 1) := by decide +kernel
theorem dX9_remove_118 : decode cX9_remove 118 = .ok (.ireturn, 1) := by decide +kernel
theorem dX9_replace_0 : decode cX9_replace 0 = .ok (.aload_n 0, 1) := by decide +kernel
theorem dX9_replace_1 : decode cX9_replace 1 = .ok (.iconst 0, 1) := by decide +kernel
theorem dX9_replace_2 : decode cX9_replace 2 = .ok (.putfield 36, 3) := by decide +kernel
theorem dX9_replace_5 : decode cX9_replace 5 = .ok (.iload_n 1, 1) := by decide +kernel
theorem dX9_replace_6 : decode cX9_replace 6 = .ok (.invokestatic 109, 3) := by decide +kernel
theorem dX9_replace_9 : decode cX9_replace 9 = .ok (.ifCond .eq 19, 3) := by decide +kernel
theorem dX9_replace_12 : decode cX9_replace 12 = .ok (.iload_n 2, 1) := by decide +kernel
theorem dX9_replace_13 : decode cX9_replace 13 = .ok (.iconst 0, 1) := by decide +kernel
theorem dX9_replace_14 : decode cX9_replace 14 = .ok (.aload_n 0, 1) := by decide +kernel
theorem dX9_replace_15 : decode cX9_replace 15 = .ok (.getfield 7, 3) := by decide +kernel
theorem dX9_replace_18 : decode cX9_replace 18 = .ok (.iload_n 1, 1) := by decide +kernel
theorem dX9_replace_19 : decode cX9_replace 19 = .ok (.iaload, 1) := by decide +kernel
theorem dX9_replace_20 : decode cX9_replace 20 = .ok (.iconst 1, 1) := by decide +kernel
theorem dX9_replace_21 : decode cX9_replace 21 = .ok (.isub, 1) := by decide +kernel
theorem dX9_replace_22 : decode cX9_replace 22 = .ok (.invokestatic 42, 3) := by decide +kernel
theorem dX9_replace_25 : decode cX9_replace 25 = .ok (.ifCond .ne 9, 3) := by decide +kernel
theorem dX9_replace_28 : decode cX9_replace 28 = .ok (.aload_n 0, 1) := by decide +kernel
theorem dX9_replace_29 : decode cX9_replace 29 = .ok (.iconst 1, 1) := by decide +kernel
theorem dX9_replace_30 : decode cX9_replace 30 = .ok (.invokevirtual 98, 3) := by decide +kernel
theorem dX9_replace_33 : decode cX9_replace 33 = .ok (.ireturn, 1) := by decide +kernel
theorem dX9_replace_34 : decode cX9_replace 34 = .ok (.aload_n 0, 1) := by decide +kernel
theorem dX9_replace_35 : decode cX9_replace 35 = .ok (.iload_n 3, 1) := by decide +kernel
theorem dX9_replace_36 : decode cX9_replace 36 = .ok (.invokevirtual 102, 3) := by decide +kernel
theorem dX9_replace_39 : decode cX9_replace 39 = .ok (.ifCond .ne 9, 3) := by decide +kernel
theorem dX9_replace_42 : decode cX9_replace 42 = .ok (.aload_n 0, 1) := by decide +kernel
theorem dX9_replace_43 : decode cX9_replace 43 = .ok (.iconst 2, 1) := by decide +kernel
theorem dX9_replace_44 : decode cX9_replace 44 = .ok (.invokevirtual 98, 3) := by decide +kernel
theorem dX9_replace_47 : decode cX9_replace 47 = .ok (.ireturn, 1) := by decide +kernel
theorem dX9_replace_48 : decode cX9_replace 48 = .ok (.aload_n 0, 1) := by decide +kernel
theorem dX9_replace_49 : decode cX9_replace 49 = .ok (.invokevirtual 106, 3) := by decide +kernel
theorem dX9_replace_52 : decode cX9_replace 52 = .ok (.aload_n 0, 1) := by decide +kernel
theorem dX9_replace_53 : decode cX9_replace 53 = .ok (.iload_n 1, 1) := by decide +kernel
theorem dX9_replace_54 : decode cX9_replace 54 = .ok (.iload_n 2, 1) := by decide +kernel
theorem dX9_replace_55 : decode cX9_replace 55 = .ok (.invokevirtual 46, 3) := by decide +kernel
theorem dX9_replace_58 : decode cX9_replace 58 = .ok (.istore 4, 2) := by decide +kernel
theorem dX9_replace_60 : decode cX9_replace 60 = .ok (.aload_n 0, 1) := by decide +kernel
theorem dX9_replace_61 : decode cX9_replace 61 = .ok (.getfield 7, 3) := by decide +kernel
theorem dX9_replace_64 : decode cX9_replace 64 = .ok (.iconst 3, 1) := by decide +kernel
theorem dX9_replace_65 : decode cX9_replace 65 = .ok (.bipush 20, 2) := by decide +kernel
theorem dX9_replace_67 : decode cX9_replace 67 = .ok (.iload_n 1, 1) := by decide +kernel
theorem dX9_replace_68 : decode cX9_replace 68 = .ok (.imul, 1) := by decide +kernel
theorem dX9_replace_69 : decode cX9_replace 69 = .ok (.iadd, 1) := by decide +kernel
theorem dX9_replace_70 : decode cX9_replace 70 = .ok (.iload_n 2, 1) := by decide +kernel
theorem dX9_replace_71 : decode cX9_replace 71 = .ok (.iadd, 1) := by decide +kernel
theorem dX9_replace_72 : decode cX9_replace 72 = .ok (.iload_n 3, 1) := by decide +kernel
theorem dX9_replace_73 : decode cX9_replace 73 = .ok (.iastore, 1) := by decide +kernel
theorem dX9_replace_74 : decode cX9_replace 74 = .ok (.iload 4, 2) := by decide +kernel
theorem dX9_replace_76 : decode cX9_replace 76 = .ok (.ireturn, 1) := by decide +kernel
theorem dX9_exchange_0 : decode cX9_exchange 0 = .ok (.aload_n 0, 1) := by decide +kernel
theorem dX9_exchange_1 : decode cX9_exchange 1 = .ok (.iconst 0, 1) := by decide +kernel
theorem dX9_exchange_2 : decode cX9_exchange 2 = .ok (.putfield 36, 3) := by decide +kernel
theorem dX9_exchange_5 : decode cX9_exchange 5 = .ok (.aload_n 0, 1) := by decide +kernel
theorem dX9_exchange_6 : decode cX9_exchange 6 = .ok (.invokevirtual 106, 3) := by decide +kernel
theorem dX9_exchange_9 : decode cX9_exchange 9 = .ok (.aload_n 0, 1) := by decide +kernel
theorem dX9_exchange_10 : decode cX9_exchange 10 = .ok (.getfield 7, 3) := by decide +kernel
theorem dX9_exchange_13 : decode cX9_exchange 13 = .ok (.iconst 0, 1) := by decide +kernel
theorem dX9_exchange_14 : decode cX9_exchange 14 = .ok (.iaload, 1) := by decide +kernel
theorem dX9_exchange_15 : decode cX9_exchange 15 = .ok (.istore_n 1, 1) := by decide +kernel
theorem dX9_exchange_16 : decode cX9_exchange 16 = .ok (.aload_n 0, 1) := by decide +kernel
theorem dX9_exchange_17 : decode cX9_exchange 17 = .ok (.getfield 7, 3) := by decide +kernel
theorem dX9_exchange_20 : decode cX9_exchange 20 = .ok (.iconst 0, 1) := by decide +kernel
theorem dX9_exchange_21 : decode cX9_exchange 21 = .ok (.aload_n 0, 1) := by decide +kernel
theorem dX9_exchange_22 : decode cX9_exchange 22 = .ok (.getfield 7, 3) := by decide +kernel
theorem dX9_exchange_25 : decode cX9_exchange 25 = .ok (.iconst 1, 1) := by decide +kernel
theorem dX9_exchange_26 : decode cX9_exchange 26 = .ok (.iaload, 1) := by decide +kernel
theorem dX9_exchange_27 : decode cX9_exchange 27 = .ok (.iastore, 1) := by decide +kernel
theorem dX9_exchange_28 : decode cX9_exchange 28 = .ok (.aload_n 0, 1) := by decide +kernel
theorem dX9_exchange_29 : decode cX9_exchange 29 = .ok (.getfield 7, 3) := by decide +kernel
theorem dX9_exchange_32 : decode cX9_exchange 32 = .ok (.iconst 1, 1) := by decide +kernel
theorem dX9_exchange_33 : decode cX9_exchange 33 = .ok (.iload_n 1, 1) := by decide +kernel
theorem dX9_exchange_34 : decode cX9_exchange 34 = .ok (.iastore, 1) := by decide +kernel
theorem dX9_exchange_35 : decode cX9_exchange 35 = .ok (.iconst 0, 1) := by decide +kernel
theorem dX9_exchange_36 : decode cX9_exchange 36 = .ok (.istore_n 2, 1) := by decide +kernel
theorem dX9_exchange_37 : decode cX9_exchange 37 = .ok (.iload_n 2, 1) := by decide +kernel
theorem dX9_exchange_38 : decode cX9_exchange 38 = .ok (.bipush 20, 2) := by decide +kernel
theorem dX9_exchange_40 : decode cX9_exchange 40 = .ok (.if_icmp .ge 40, 3) := by decide +kernel
theorem dX9_exchange_43 : decode cX9_exchange 43 = .ok (.aload_n 0, 1) := by decide +kernel
theorem dX9_exchange_44 : decode cX9_exchange 44 = .ok (.iconst 0, 1) := by decide +kernel
theorem dX9_exchange_45 : decode cX9_exchange 45 = .ok (.iload_n 2, 1) := by decide +kernel
theorem dX9_exchange_46 : decode cX9_exchange 46 = .ok (.invokevirtual 46, 3) := by decide +kernel
theorem dX9_exchange_49 : decode cX9_exchange 49 = .ok (.istore_n 3, 1) := by decide +kernel
theorem dX9_exchange_50 : decode cX9_exchange 50 = .ok (.aload_n 0, 1) := by decide +kernel
theorem dX9_exchange_51 : decode cX9_exchange 51 = .ok (.getfield 7, 3) := by decide +kernel
theorem dX9_exchange_54 : decode cX9_exchange 54 = .ok (.iconst 3, 1) := by decide +kernel
theorem dX9_exchange_55 : decode cX9_exchange 55 = .ok (.iload_n 2, 1) := by decide +kernel
theorem dX9_exchange_56 : decode cX9_exchange 56 = .ok (.iadd, 1) := by decide +kernel
theorem dX9_exchange_57 : decode cX9_exchange 57 = .ok (.aload_n 0, 1) := by decide +kernel
theorem dX9_exchange_58 : decode cX9_exchange 58 = .ok (.iconst 1, 1) := by decide +kernel
theorem dX9_exchange_59 : decode cX9_exchange 59 = .ok (.iload_n 2, 1) := by decide +kernel
theorem dX9_exchange_60 : decode cX9_exchange 60 = .ok (.invokevirtual 46, 3) := by decide +kernel
theorem dX9_exchange_63 : decode cX9_exchange 63 = .ok (.iastore, 1) := by decide +kernel
theorem dX9_exchange_64 : decode cX9_exchange 64 = .ok (.aload_n 0, 1) := by decide +kernel
theorem dX9_exchange_65 : decode cX9_exchange 65 = .ok (.getfield 7, 3) := by decide +kernel
theorem dX9_exchange_68 : decode cX9_exchange 68 = .ok (.bipush 23, 2) := by decide +kernel
theorem dX9_exchange_70 : decode cX9_exchange 70 = .ok (.iload_n 2, 1) := by decide +kernel
theorem dX9_exchange_71 : decode cX9_exchange 71 = .ok (.iadd, 1) := by decide +kernel
theorem dX9_exchange_72 : decode cX9_exchange 72 = .ok (.iload_n 3, 1) := by decide +kernel
theorem dX9_exchange_73 : decode cX9_exchange 73 = .ok (.iastore, 1) := by decide +kernel
theorem dX9_exchange_74 : decode cX9_exchange 74 = .ok (.iinc 2 1, 3) := by decide +kernel
theorem dX9_exchange_77 : decode cX9_exchange 77 = .ok (.goto (-40), 3) := by decide +kernel
theorem dX9_exchange_80 : decode cX9_exchange 80 = .ok (.aload_n 0, 1) := by decide +kernel
theorem dX9_exchange_81 : decode cX9_exchange 81 = .ok (.getfield 7, 3) := by decide +kernel
theorem dX9_exchange_84 : decode cX9_exchange 84 = .ok (.iconst 0, 1) := by decide +kernel
theorem dX9_exchange_85 : decode cX9_exchange 85 = .ok (.iaload, 1) := by decide +kernel
theorem dX9_exchange_86 : decode cX9_exchange 86 = .ok (.ireturn, 1) := by decide +kernel
theorem dX9_setAlphabet_0 : decode cX9_setAlphabet 0 = .ok (.aload_n 0, 1) := by decide +kernel
theorem dX9_setAlphabet_1 : decode cX9_setAlphabet 1 = .ok (.iconst 0, 1) := by decide +kernel
theorem dX9_setAlphabet_2 : decode cX9_setAlphabet 2 = .ok (.putfield 36, 3) := by decide +kernel
theorem dX9_setAlphabet_5 : decode cX9_setAlphabet 5 = .ok (.iload_n 1, 1) := by decide +kernel
theorem dX9_setAlphabet_6 : decode cX9_setAlphabet 6 = .ok (.iconst 2, 1) := by decide +kernel
theorem dX9_setAlphabet_7 : decode cX9_setAlphabet 7 = .ok (.iconst 4, 1) := by decide +kernel
theorem dX9_setAlphabet_8 : decode cX9_setAlphabet 8 = .ok (.invokestatic 42, 3) := by decide +kernel
theorem dX9_setAlphabet_11 : decode cX9_setAlphabet 11 = .ok (.ifCond .ne 9, 3) := by decide +kernel
theorem dX9_setAlphabet_14 : decode cX9_setAlphabet 14 = .ok (.aload_n 0, 1) := by decide +kernel
theorem dX9_setAlphabet_15 : decode cX9_setAlphabet 15 = .ok (.iconst 1, 1) := by decide +kernel
theorem dX9_setAlphabet_16 : decode cX9_setAlphabet 16 = .ok (.invokevirtual 98, 3) := by decide +kernel
theorem dX9_setAlphabet_19 : decode cX9_setAlphabet 19 = .ok (.ireturn, 1) := by decide +kernel
theorem dX9_setAlphabet_20 : decode cX9_setAlphabet 20 = .ok (.iconst 0, 1) := by decide +kernel
theorem dX9_setAlphabet_21 : decode cX9_setAlphabet 21 = .ok (.istore_n 2, 1) := by decide +kernel
theorem dX9_setAlphabet_22 : decode cX9_setAlphabet 22 = .ok (.iload_n 2, 1) := by decide +kernel
theorem dX9_setAlphabet_23 : decode cX9_setAlphabet 23 = .ok (.bipush 40, 2) := by decide +kernel
theorem dX9_setAlphabet_25 : decode cX9_setAlphabet 25 = .ok (.if_icmp .ge 43, 3) := by decide +kernel
theorem dX9_setAlphabet_28 : decode cX9_setAlphabet 28 = .ok (.iload_n 2, 1) := by decide +kernel
theorem dX9_setAlphabet_29 : decode cX9_setAlphabet 29 = .ok (.bipush 20, 2) := by decide +kernel
theorem dX9_setAlphabet_31 : decode cX9_setAlphabet 31 = .ok (.irem, 1) := by decide +kernel
theorem dX9_setAlphabet_32 : decode cX9_setAlphabet 32 = .ok (.aload_n 0, 1) := by decide +kernel
theorem dX9_setAlphabet_33 : decode cX9_setAlphabet 33 = .ok (.getfield 7, 3) := by decide +kernel
theorem dX9_setAlphabet_36 : decode cX9_setAlphabet 36 = .ok (.iload_n 2, 1) := by decide +kernel
theorem dX9_setAlphabet_37 : decode cX9_setAlphabet 37 = .ok (.bipush 20, 2) := by decide +kernel
theorem dX9_setAlphabet_39 : decode cX9_setAlphabet 39 = .ok (.idiv, 1) := by decide +kernel
theorem dX9_setAlphabet_40 : decode cX9_setAlphabet 40 = .ok (.iaload, 1) := by decide +kernel
theorem dX9_setAlphabet_41 : decode cX9_setAlphabet 41 = .ok (.if_icmp .ge 21, 3) := by decide +kernel
theorem dX9_setAlphabet_44 : decode cX9_setAlphabet 44 = .ok (.aload_n 0, 1) := by decide +kernel
theorem dX9_setAlphabet_45 : decode cX9_setAlphabet 45 = .ok (.getfield 7, 3) := by decide +kernel
theorem dX9_setAlphabet_48 : decode cX9_setAlphabet 48 = .ok (.iconst 3, 1) := by decide +kernel
theorem dX9_setAlphabet_49 : decode cX9_setAlphabet 49 = .ok (.iload_n 2, 1) := by decide +kernel
theorem dX9_setAlphabet_50 : decode cX9_setAlphabet 50 = .ok (.iadd, 1) := by decide +kernel
theorem dX9_setAlphabet_51 : decode cX9_setAlphabet 51 = .ok (.iaload, 1) := by decide +kernel
theorem dX9_setAlphabet_52 : decode cX9_setAlphabet 52 = .ok (.iload_n 1, 1) := by decide +kernel
theorem dX9_setAlphabet_53 : decode cX9_setAlphabet 53 = .ok (.if_icmp .lt 9, 3) := by decide +kernel
theorem dX9_setAlphabet_56 : decode cX9_setAlphabet 56 = .ok (.aload_n 0, 1) := by decide +kernel
theorem dX9_setAlphabet_57 : decode cX9_setAlphabet 57 = .ok (.iconst 2, 1) := by decide +kernel
theorem dX9_setAlphabet_58 : decode cX9_setAlphabet 58 = .ok (.invokevirtual 98, 3) := by decide +kernel
theorem dX9_setAlphabet_61 : decode cX9_setAlphabet 61 = .ok (.ireturn, 1) := by decide +kernel
theorem dX9_setAlphabet_62 : decode cX9_setAlphabet 62 = .ok (.iinc 2 1, 3) := by decide +kernel
theorem dX9_setAlphabet_65 : decode cX9_setAlphabet 65 = .ok (.goto (-43), 3) := by decide +kernel
theorem dX9_setAlphabet_68 : decode cX9_setAlphabet 68 = .ok (.aload_n 0, 1) := by decide +kernel
theorem dX9_setAlphabet_69 : decode cX9_setAlphabet 69 = .ok (.invokevirtual 106, 3) := by decide +kernel
theorem dX9_setAlphabet_72 : decode cX9_setAlphabet 72 = .ok (.aload_n 0, 1) := by decide +kernel
theorem dX9_setAlphabet_73 : decode cX9_setAlphabet 73 = .ok (.getfield 7, 3) := by decide +kernel
theorem dX9_setAlphabet_76 : decode cX9_setAlphabet 76 = .ok (.iconst 2, 1) := by decide +kernel
theorem dX9_setAlphabet_77 : decode cX9_setAlphabet 77 = .ok (.iaload, 1) := by decide +kernel
theorem dX9_setAlphabet_78 : decode cX9_setAlphabet 78 = .ok (.istore_n 2, 1) := by decide +kernel
theorem dX9_setAlphabet_79 : decode cX9_setAlphabet 79 = .ok (.aload_n 0, 1) := by decide +kernel
theorem dX9_setAlphabet_80 : decode cX9_setAlphabet 80 = .ok (.getfield 7, 3) := by decide +kernel
theorem dX9_setAlphabet_83 : decode cX9_setAlphabet 83 = .ok (.iconst 2, 1) := by decide +kernel
theorem dX9_setAlphabet_84 : decode cX9_setAlphabet 84 = .ok (.iload_n 1, 1) := by decide +kernel
theorem dX9_setAlphabet_85 : decode cX9_setAlphabet 85 = .ok (.iastore, 1) := by decide +kernel
theorem dX9_setAlphabet_86 : decode cX9_setAlphabet 86 = .ok (.iload_n 2, 1) := by decide +kernel
theorem dX9_setAlphabet_87 : decode cX9_setAlphabet 87 = .ok (.ireturn, 1) := by decide +kernel
theorem dX9_length_0 : decode cX9_length 0 = .ok (.aload_n 0, 1) := by decide +kernel
theorem dX9_length_1 : decode cX9_length 1 = .ok (.iconst 0, 1) := by decide +kernel
theorem dX9_length_2 : decode cX9_length 2 = .ok (.putfield 36, 3) := by decide +kernel
theorem dX9_length_5 : decode cX9_length 5 = .ok (.iload_n 1, 1) := by decide +kernel
theorem dX9_length_6 : decode cX9_length 6 = .ok (.invokestatic 109, 3) := by decide +kernel
theorem dX9_length_9 : decode cX9_length 9 = .ok (.ifCond .eq 12, 3) := by decide +kernel
theorem dX9_length_12 : decode cX9_length 12 = .ok (.aload_n 0, 1) := by decide +kernel
theorem dX9_length_13 : decode cX9_length 13 = .ok (.getfield 7, 3) := by decide +kernel
theorem dX9_length_16 : decode cX9_length 16 = .ok (.iload_n 1, 1) := by decide +kernel
theorem dX9_length_17 : decode cX9_length 17 = .ok (.iaload, 1) := by decide +kernel
theorem dX9_length_18 : decode cX9_length 18 = .ok (.goto 8, 3) := by decide +kernel
theorem dX9_length_21 : decode cX9_length 21 = .ok (.aload_n 0, 1) := by decide +kernel
theorem dX9_length_22 : decode cX9_length 22 = .ok (.iconst 1, 1) := by decide +kernel
theorem dX9_length_23 : decode cX9_length 23 = .ok (.invokevirtual 98, 3) := by decide +kernel
theorem dX9_length_26 : decode cX9_length 26 = .ok (.ireturn, 1) := by decide +kernel
theorem dX9_letter_0 : decode cX9_letter 0 = .ok (.aload_n 0, 1) := by decide +kernel
theorem dX9_letter_1 : decode cX9_letter 1 = .ok (.iconst 0, 1) := by decide +kernel
theorem dX9_letter_2 : decode cX9_letter 2 = .ok (.putfield 36, 3) := by decide +kernel
theorem dX9_letter_5 : decode cX9_letter 5 = .ok (.iload_n 1, 1) := by decide +kernel
theorem dX9_letter_6 : decode cX9_letter 6 = .ok (.invokestatic 109, 3) := by decide +kernel
theorem dX9_letter_9 : decode cX9_letter 9 = .ok (.ifCond .eq 28, 3) := by decide +kernel
theorem dX9_letter_12 : decode cX9_letter 12 = .ok (.iload_n 2, 1) := by decide +kernel
theorem dX9_letter_13 : decode cX9_letter 13 = .ok (.iconst 0, 1) := by decide +kernel
theorem dX9_letter_14 : decode cX9_letter 14 = .ok (.aload_n 0, 1) := by decide +kernel
theorem dX9_letter_15 : decode cX9_letter 15 = .ok (.getfield 7, 3) := by decide +kernel
theorem dX9_letter_18 : decode cX9_letter 18 = .ok (.iload_n 1, 1) := by decide +kernel
theorem dX9_letter_19 : decode cX9_letter 19 = .ok (.iaload, 1) := by decide +kernel
theorem dX9_letter_20 : decode cX9_letter 20 = .ok (.iconst 1, 1) := by decide +kernel
theorem dX9_letter_21 : decode cX9_letter 21 = .ok (.isub, 1) := by decide +kernel
theorem dX9_letter_22 : decode cX9_letter 22 = .ok (.invokestatic 42, 3) := by decide +kernel
theorem dX9_letter_25 : decode cX9_letter 25 = .ok (.ifCond .eq 12, 3) := by decide +kernel
theorem dX9_letter_28 : decode cX9_letter 28 = .ok (.aload_n 0, 1) := by decide +kernel
theorem dX9_letter_29 : decode cX9_letter 29 = .ok (.iload_n 1, 1) := by decide +kernel
theorem dX9_letter_30 : decode cX9_letter 30 = .ok (.iload_n 2, 1) := by decide +kernel
theorem dX9_letter_31 : decode cX9_letter 31 = .ok (.invokevirtual 46, 3) := by decide +kernel
theorem dX9_letter_34 : decode cX9_letter 34 = .ok (.goto 8, 3) := by decide +kernel
theorem dX9_letter_37 : decode cX9_letter 37 = .ok (.aload_n 0, 1) := by decide +kernel
theorem dX9_letter_38 : decode cX9_letter 38 = .ok (.iconst 1, 1) := by decide +kernel
theorem dX9_letter_39 : decode cX9_letter 39 = .ok (.invokevirtual 98, 3) := by decide +kernel
theorem dX9_letter_42 : decode cX9_letter 42 = .ok (.ireturn, 1) := by decide +kernel
theorem dX9_distance_0 : decode cX9_distance 0 = .ok (.aload_n 0, 1) := by decide +kernel
theorem dX9_distance_1 : decode cX9_distance 1 = .ok (.iconst 0, 1) := by decide +kernel
theorem dX9_distance_2 : decode cX9_distance 2 = .ok (.putfield 36, 3) := by decide +kernel
theorem dX9_distance_5 : decode cX9_distance 5 = .ok (.aload_n 0, 1) := by decide +kernel
theorem dX9_distance_6 : decode cX9_distance 6 = .ok (.invokevirtual 112, 3) := by decide +kernel
theorem dX9_distance_9 : decode cX9_distance 9 = .ok (.ireturn, 1) := by decide +kernel
theorem dX9_prefix_0 : decode cX9_prefix 0 = .ok (.aload_n 0, 1) := by decide +kernel
theorem dX9_prefix_1 : decode cX9_prefix 1 = .ok (.iconst 0, 1) := by decide +kernel
theorem dX9_prefix_2 : decode cX9_prefix 2 = .ok (.putfield 36, 3) := by decide +kernel
theorem dX9_prefix_5 : decode cX9_prefix 5 = .ok (.aload_n 0, 1) := by decide +kernel
theorem dX9_prefix_6 : decode cX9_prefix 6 = .ok (.iconst 0, 1) := by decide +kernel
theorem dX9_prefix_7 : decode cX9_prefix 7 = .ok (.invokevirtual 60, 3) := by decide +kernel
theorem dX9_prefix_10 : decode cX9_prefix 10 = .ok (.iload_n 1, 1) := by decide +kernel
theorem dX9_prefix_11 : decode cX9_prefix 11 = .ok (.iconst 0, 1) := by decide +kernel
theorem dX9_prefix_12 : decode cX9_prefix 12 = .ok (.aload_n 0, 1) := by decide +kernel
theorem dX9_prefix_13 : decode cX9_prefix 13 = .ok (.getfield 7, 3) := by decide +kernel
theorem dX9_prefix_16 : decode cX9_prefix 16 = .ok (.iconst 0, 1) := by decide +kernel
theorem dX9_prefix_17 : decode cX9_prefix 17 = .ok (.iaload, 1) := by decide +kernel
theorem dX9_prefix_18 : decode cX9_prefix 18 = .ok (.invokestatic 42, 3) := by decide +kernel
theorem dX9_prefix_21 : decode cX9_prefix 21 = .ok (.ifCond .eq 26, 3) := by decide +kernel
theorem dX9_prefix_24 : decode cX9_prefix 24 = .ok (.iload_n 2, 1) := by decide +kernel
theorem dX9_prefix_25 : decode cX9_prefix 25 = .ok (.iconst 0, 1) := by decide +kernel
theorem dX9_prefix_26 : decode cX9_prefix 26 = .ok (.aload_n 0, 1) := by decide +kernel
theorem dX9_prefix_27 : decode cX9_prefix 27 = .ok (.getfield 7, 3) := by decide +kernel
theorem dX9_prefix_30 : decode cX9_prefix 30 = .ok (.iconst 1, 1) := by decide +kernel
theorem dX9_prefix_31 : decode cX9_prefix 31 = .ok (.iaload, 1) := by decide +kernel
theorem dX9_prefix_32 : decode cX9_prefix 32 = .ok (.invokestatic 42, 3) := by decide +kernel
theorem dX9_prefix_35 : decode cX9_prefix 35 = .ok (.ifCond .eq 12, 3) := by decide +kernel
theorem dX9_prefix_38 : decode cX9_prefix 38 = .ok (.aload_n 0, 1) := by decide +kernel
theorem dX9_prefix_39 : decode cX9_prefix 39 = .ok (.iload_n 1, 1) := by decide +kernel
theorem dX9_prefix_40 : decode cX9_prefix 40 = .ok (.iload_n 2, 1) := by decide +kernel
theorem dX9_prefix_41 : decode cX9_prefix 41 = .ok (.invokevirtual 50, 3) := by decide +kernel
theorem dX9_prefix_44 : decode cX9_prefix 44 = .ok (.goto 8, 3) := by decide +kernel
theorem dX9_prefix_47 : decode cX9_prefix 47 = .ok (.aload_n 0, 1) := by decide +kernel
theorem dX9_prefix_48 : decode cX9_prefix 48 = .ok (.iconst 1, 1) := by decide +kernel
theorem dX9_prefix_49 : decode cX9_prefix 49 = .ok (.invokevirtual 98, 3) := by decide +kernel
theorem dX9_prefix_52 : decode cX9_prefix 52 = .ok (.ireturn, 1) := by decide +kernel
theorem dX9_steps_0 : decode cX9_steps 0 = .ok (.aload_n 0, 1) := by decide +kernel
theorem dX9_steps_1 : decode cX9_steps 1 = .ok (.iconst 0, 1) := by decide +kernel
theorem dX9_steps_2 : decode cX9_steps 2 = .ok (.putfield 36, 3) := by decide +kernel
theorem dX9_steps_5 : decode cX9_steps 5 = .ok (.aload_n 0, 1) := by decide +kernel
theorem dX9_steps_6 : decode cX9_steps 6 = .ok (.invokevirtual 116, 3) := by decide +kernel
theorem dX9_steps_9 : decode cX9_steps 9 = .ok (.aload_n 0, 1) := by decide +kernel
theorem dX9_steps_10 : decode cX9_steps 10 = .ok (.getfield 64, 3) := by decide +kernel
theorem dX9_steps_13 : decode cX9_steps 13 = .ok (.ireturn, 1) := by decide +kernel
theorem dX9_step_0 : decode cX9_step 0 = .ok (.aload_n 0, 1) := by decide +kernel
theorem dX9_step_1 : decode cX9_step 1 = .ok (.iconst 0, 1) := by decide +kernel
theorem dX9_step_2 : decode cX9_step 2 = .ok (.putfield 36, 3) := by decide +kernel
theorem dX9_step_5 : decode cX9_step 5 = .ok (.iload_n 1, 1) := by decide +kernel
theorem dX9_step_6 : decode cX9_step 6 = .ok (.ifCond .ge 9, 3) := by decide +kernel
theorem dX9_step_9 : decode cX9_step 9 = .ok (.aload_n 0, 1) := by decide +kernel
theorem dX9_step_10 : decode cX9_step 10 = .ok (.iconst 1, 1) := by decide +kernel
theorem dX9_step_11 : decode cX9_step 11 = .ok (.invokevirtual 98, 3) := by decide +kernel
theorem dX9_step_14 : decode cX9_step 14 = .ok (.ireturn, 1) := by decide +kernel
theorem dX9_step_15 : decode cX9_step 15 = .ok (.aload_n 0, 1) := by decide +kernel
theorem dX9_step_16 : decode cX9_step 16 = .ok (.invokevirtual 116, 3) := by decide +kernel
theorem dX9_step_19 : decode cX9_step 19 = .ok (.iload_n 1, 1) := by decide +kernel
theorem dX9_step_20 : decode cX9_step 20 = .ok (.aload_n 0, 1) := by decide +kernel
theorem dX9_step_21 : decode cX9_step 21 = .ok (.getfield 64, 3) := by decide +kernel
theorem dX9_step_24 : decode cX9_step 24 = .ok (.if_icmp .ge 19, 3) := by decide +kernel
theorem dX9_step_27 : decode cX9_step 27 = .ok (.aload_n 0, 1) := by decide +kernel
theorem dX9_step_28 : decode cX9_step 28 = .ok (.getfield 33, 3) := by decide +kernel
theorem dX9_step_31 : decode cX9_step 31 = .ok (.aload_n 0, 1) := by decide +kernel
theorem dX9_step_32 : decode cX9_step 32 = .ok (.getfield 64, 3) := by decide +kernel
theorem dX9_step_35 : decode cX9_step 35 = .ok (.iconst 1, 1) := by decide +kernel
theorem dX9_step_36 : decode cX9_step 36 = .ok (.isub, 1) := by decide +kernel
theorem dX9_step_37 : decode cX9_step 37 = .ok (.iload_n 1, 1) := by decide +kernel
theorem dX9_step_38 : decode cX9_step 38 = .ok (.isub, 1) := by decide +kernel
theorem dX9_step_39 : decode cX9_step 39 = .ok (.iaload, 1) := by decide +kernel
theorem dX9_step_40 : decode cX9_step 40 = .ok (.goto 4, 3) := by decide +kernel
theorem dX9_step_43 : decode cX9_step 43 = .ok (.iconst (-1), 1) := by decide +kernel
theorem dX9_step_44 : decode cX9_step 44 = .ok (.ireturn, 1) := by decide +kernel
theorem dX9_count_0 : decode cX9_count 0 = .ok (.aload_n 0, 1) := by decide +kernel
theorem dX9_count_1 : decode cX9_count 1 = .ok (.iconst 0, 1) := by decide +kernel
theorem dX9_count_2 : decode cX9_count 2 = .ok (.putfield 36, 3) := by decide +kernel
theorem dX9_count_5 : decode cX9_count 5 = .ok (.iload_n 1, 1) := by decide +kernel
theorem dX9_count_6 : decode cX9_count 6 = .ok (.iconst 0, 1) := by decide +kernel
theorem dX9_count_7 : decode cX9_count 7 = .ok (.iconst 3, 1) := by decide +kernel
theorem dX9_count_8 : decode cX9_count 8 = .ok (.invokestatic 42, 3) := by decide +kernel
theorem dX9_count_11 : decode cX9_count 11 = .ok (.ifCond .ne 9, 3) := by decide +kernel
theorem dX9_count_14 : decode cX9_count 14 = .ok (.aload_n 0, 1) := by decide +kernel
theorem dX9_count_15 : decode cX9_count 15 = .ok (.iconst 1, 1) := by decide +kernel
theorem dX9_count_16 : decode cX9_count 16 = .ok (.invokevirtual 98, 3) := by decide +kernel
theorem dX9_count_19 : decode cX9_count 19 = .ok (.ireturn, 1) := by decide +kernel
theorem dX9_count_20 : decode cX9_count 20 = .ok (.aload_n 0, 1) := by decide +kernel
theorem dX9_count_21 : decode cX9_count 21 = .ok (.invokevirtual 116, 3) := by decide +kernel
theorem dX9_count_24 : decode cX9_count 24 = .ok (.iconst 0, 1) := by decide +kernel
theorem dX9_count_25 : decode cX9_count 25 = .ok (.istore_n 2, 1) := by decide +kernel
theorem dX9_count_26 : decode cX9_count 26 = .ok (.iconst 0, 1) := by decide +kernel
theorem dX9_count_27 : decode cX9_count 27 = .ok (.istore_n 3, 1) := by decide +kernel
theorem dX9_count_28 : decode cX9_count 28 = .ok (.iload_n 3, 1) := by decide +kernel
theorem dX9_count_29 : decode cX9_count 29 = .ok (.aload_n 0, 1) := by decide +kernel
theorem dX9_count_30 : decode cX9_count 30 = .ok (.getfield 64, 3) := by decide +kernel
theorem dX9_count_33 : decode cX9_count 33 = .ok (.if_icmp .ge 27, 3) := by decide +kernel
theorem dX9_count_36 : decode cX9_count 36 = .ok (.iload_n 2, 1) := by decide +kernel
theorem dX9_count_37 : decode cX9_count 37 = .ok (.aload_n 0, 1) := by decide +kernel
theorem dX9_count_38 : decode cX9_count 38 = .ok (.getfield 33, 3) := by decide +kernel
theorem dX9_count_41 : decode cX9_count 41 = .ok (.iload_n 3, 1) := by decide +kernel
theorem dX9_count_42 : decode cX9_count 42 = .ok (.iaload, 1) := by decide +kernel
theorem dX9_count_43 : decode cX9_count 43 = .ok (.iload_n 1, 1) := by decide +kernel
theorem dX9_count_44 : decode cX9_count 44 = .ok (.if_icmp .ne 7, 3) := by decide +kernel
theorem dX9_count_47 : decode cX9_count 47 = .ok (.iconst 1, 1) := by decide +kernel
theorem dX9_count_48 : decode cX9_count 48 = .ok (.goto 4, 3) := by decide +kernel
theorem dX9_count_51 : decode cX9_count 51 = .ok (.iconst 0, 1) := by decide +kernel
theorem dX9_count_52 : decode cX9_count 52 = .ok (.iadd, 1) := by decide +kernel
theorem dX9_count_53 : decode cX9_count 53 = .ok (.istore_n 2, 1) := by decide +kernel
theorem dX9_count_54 : decode cX9_count 54 = .ok (.iinc 3 1, 3) := by decide +kernel
theorem dX9_count_57 : decode cX9_count 57 = .ok (.goto (-29), 3) := by decide +kernel
theorem dX9_count_60 : decode cX9_count 60 = .ok (.iload_n 2, 1) := by decide +kernel
theorem dX9_count_61 : decode cX9_count 61 = .ok (.ireturn, 1) := by decide +kernel
theorem dX9_within_0 : decode cX9_within 0 = .ok (.aload_n 0, 1) := by decide +kernel
theorem dX9_within_1 : decode cX9_within 1 = .ok (.iconst 0, 1) := by decide +kernel
theorem dX9_within_2 : decode cX9_within 2 = .ok (.putfield 36, 3) := by decide +kernel
theorem dX9_within_5 : decode cX9_within 5 = .ok (.iload_n 1, 1) := by decide +kernel
theorem dX9_within_6 : decode cX9_within 6 = .ok (.iconst 0, 1) := by decide +kernel
theorem dX9_within_7 : decode cX9_within 7 = .ok (.bipush 20, 2) := by decide +kernel
theorem dX9_within_9 : decode cX9_within 9 = .ok (.invokestatic 42, 3) := by decide +kernel
theorem dX9_within_12 : decode cX9_within 12 = .ok (.ifCond .ne 9, 3) := by decide +kernel
theorem dX9_within_15 : decode cX9_within 15 = .ok (.aload_n 0, 1) := by decide +kernel
theorem dX9_within_16 : decode cX9_within 16 = .ok (.iconst 1, 1) := by decide +kernel
theorem dX9_within_17 : decode cX9_within 17 = .ok (.invokevirtual 98, 3) := by decide +kernel
theorem dX9_within_20 : decode cX9_within 20 = .ok (.ireturn, 1) := by decide +kernel
theorem dX9_within_21 : decode cX9_within 21 = .ok (.aload_n 0, 1) := by decide +kernel
theorem dX9_within_22 : decode cX9_within 22 = .ok (.invokevirtual 112, 3) := by decide +kernel
theorem dX9_within_25 : decode cX9_within 25 = .ok (.istore_n 2, 1) := by decide +kernel
theorem dX9_within_26 : decode cX9_within 26 = .ok (.iload_n 2, 1) := by decide +kernel
theorem dX9_within_27 : decode cX9_within 27 = .ok (.iload_n 1, 1) := by decide +kernel
theorem dX9_within_28 : decode cX9_within 28 = .ok (.if_icmp .le 7, 3) := by decide +kernel
theorem dX9_within_31 : decode cX9_within 31 = .ok (.iconst (-1), 1) := by decide +kernel
theorem dX9_within_32 : decode cX9_within 32 = .ok (.goto 4, 3) := by decide +kernel
theorem dX9_within_35 : decode cX9_within 35 = .ok (.iload_n 2, 1) := by decide +kernel
theorem dX9_within_36 : decode cX9_within 36 = .ok (.ireturn, 1) := by decide +kernel
theorem dX9_band_0 : decode cX9_band 0 = .ok (.aload_n 0, 1) := by decide +kernel
theorem dX9_band_1 : decode cX9_band 1 = .ok (.iconst 0, 1) := by decide +kernel
theorem dX9_band_2 : decode cX9_band 2 = .ok (.putfield 36, 3) := by decide +kernel
theorem dX9_band_5 : decode cX9_band 5 = .ok (.iload_n 1, 1) := by decide +kernel
theorem dX9_band_6 : decode cX9_band 6 = .ok (.iconst 0, 1) := by decide +kernel
theorem dX9_band_7 : decode cX9_band 7 = .ok (.bipush 20, 2) := by decide +kernel
theorem dX9_band_9 : decode cX9_band 9 = .ok (.invokestatic 42, 3) := by decide +kernel
theorem dX9_band_12 : decode cX9_band 12 = .ok (.ifCond .ne 9, 3) := by decide +kernel
theorem dX9_band_15 : decode cX9_band 15 = .ok (.aload_n 0, 1) := by decide +kernel
theorem dX9_band_16 : decode cX9_band 16 = .ok (.iconst 1, 1) := by decide +kernel
theorem dX9_band_17 : decode cX9_band 17 = .ok (.invokevirtual 98, 3) := by decide +kernel
theorem dX9_band_20 : decode cX9_band 20 = .ok (.ireturn, 1) := by decide +kernel
theorem dX9_band_21 : decode cX9_band 21 = .ok (.iconst 0, 1) := by decide +kernel
theorem dX9_band_22 : decode cX9_band 22 = .ok (.istore_n 2, 1) := by decide +kernel
theorem dX9_band_23 : decode cX9_band 23 = .ok (.iconst 0, 1) := by decide +kernel
theorem dX9_band_24 : decode cX9_band 24 = .ok (.istore_n 3, 1) := by decide +kernel
theorem dX9_band_25 : decode cX9_band 25 = .ok (.iload_n 3, 1) := by decide +kernel
theorem dX9_band_26 : decode cX9_band 26 = .ok (.aload_n 0, 1) := by decide +kernel
theorem dX9_band_27 : decode cX9_band 27 = .ok (.getfield 7, 3) := by decide +kernel
theorem dX9_band_30 : decode cX9_band 30 = .ok (.iconst 0, 1) := by decide +kernel
theorem dX9_band_31 : decode cX9_band 31 = .ok (.iaload, 1) := by decide +kernel
theorem dX9_band_32 : decode cX9_band 32 = .ok (.if_icmp .gt 50, 3) := by decide +kernel
theorem dX9_band_35 : decode cX9_band 35 = .ok (.iconst 0, 1) := by decide +kernel
theorem dX9_band_36 : decode cX9_band 36 = .ok (.istore 4, 2) := by decide +kernel
theorem dX9_band_38 : decode cX9_band 38 = .ok (.iload 4, 2) := by decide +kernel
theorem dX9_band_40 : decode cX9_band 40 = .ok (.aload_n 0, 1) := by decide +kernel
theorem dX9_band_41 : decode cX9_band 41 = .ok (.getfield 7, 3) := by decide +kernel
theorem dX9_band_44 : decode cX9_band 44 = .ok (.iconst 1, 1) := by decide +kernel
theorem dX9_band_45 : decode cX9_band 45 = .ok (.iaload, 1) := by decide +kernel
theorem dX9_band_46 : decode cX9_band 46 = .ok (.if_icmp .gt 30, 3) := by decide +kernel
theorem dX9_band_49 : decode cX9_band 49 = .ok (.iload_n 2, 1) := by decide +kernel
theorem dX9_band_50 : decode cX9_band 50 = .ok (.iload_n 3, 1) := by decide +kernel
theorem dX9_band_51 : decode cX9_band 51 = .ok (.iload 4, 2) := by decide +kernel
theorem dX9_band_53 : decode cX9_band 53 = .ok (.isub, 1) := by decide +kernel
theorem dX9_band_54 : decode cX9_band 54 = .ok (.iload_n 1, 1) := by decide +kernel
theorem dX9_band_55 : decode cX9_band 55 = .ok (.ineg, 1) := by decide +kernel
theorem dX9_band_56 : decode cX9_band 56 = .ok (.iload_n 1, 1) := by decide +kernel
theorem dX9_band_57 : decode cX9_band 57 = .ok (.invokestatic 42, 3) := by decide +kernel
theorem dX9_band_60 : decode cX9_band 60 = .ok (.ifCond .eq 7, 3) := by decide +kernel
theorem dX9_band_63 : decode cX9_band 63 = .ok (.iconst 1, 1) := by decide +kernel
theorem dX9_band_64 : decode cX9_band 64 = .ok (.goto 4, 3) := by decide +kernel
theorem dX9_band_67 : decode cX9_band 67 = .ok (.iconst 0, 1) := by decide +kernel
theorem dX9_band_68 : decode cX9_band 68 = .ok (.iadd, 1) := by decide +kernel
theorem dX9_band_69 : decode cX9_band 69 = .ok (.istore_n 2, 1) := by decide +kernel
theorem dX9_band_70 : decode cX9_band 70 = .ok (.iinc 4 1, 3) := by decide +kernel
theorem dX9_band_73 : decode cX9_band 73 = .ok (.goto (-35), 3) := by decide +kernel
end
section
theorem dX9_band_76 : decode cX9_band 76 = .ok (.iinc 3 1, 3) := by decide +kernel
theorem dX9_band_79 : decode cX9_band 79 = .ok (.goto (-54), 3) := by decide +kernel
theorem dX9_band_82 : decode cX9_band 82 = .ok (.iload_n 2, 1) := by decide +kernel
theorem dX9_band_83 : decode cX9_band 83 = .ok (.ireturn, 1) := by decide +kernel
theorem dX9_similarity_0 : decode cX9_similarity 0 = .ok (.aload_n 0, 1) := by decide +kernel
theorem dX9_similarity_1 : decode cX9_similarity 1 = .ok (.iconst 0, 1) := by decide +kernel
theorem dX9_similarity_2 : decode cX9_similarity 2 = .ok (.putfield 36, 3) := by decide +kernel
theorem dX9_similarity_5 : decode cX9_similarity 5 = .ok (.aload_n 0, 1) := by decide +kernel
theorem dX9_similarity_6 : decode cX9_similarity 6 = .ok (.getfield 7, 3) := by decide +kernel
theorem dX9_similarity_9 : decode cX9_similarity 9 = .ok (.iconst 0, 1) := by decide +kernel
theorem dX9_similarity_10 : decode cX9_similarity 10 = .ok (.iaload, 1) := by decide +kernel
theorem dX9_similarity_11 : decode cX9_similarity 11 = .ok (.aload_n 0, 1) := by decide +kernel
theorem dX9_similarity_12 : decode cX9_similarity 12 = .ok (.getfield 7, 3) := by decide +kernel
theorem dX9_similarity_15 : decode cX9_similarity 15 = .ok (.iconst 1, 1) := by decide +kernel
theorem dX9_similarity_16 : decode cX9_similarity 16 = .ok (.iaload, 1) := by decide +kernel
theorem dX9_similarity_17 : decode cX9_similarity 17 = .ok (.if_icmp .le 12, 3) := by decide +kernel
theorem dX9_similarity_20 : decode cX9_similarity 20 = .ok (.aload_n 0, 1) := by decide +kernel
theorem dX9_similarity_21 : decode cX9_similarity 21 = .ok (.getfield 7, 3) := by decide +kernel
theorem dX9_similarity_24 : decode cX9_similarity 24 = .ok (.iconst 0, 1) := by decide +kernel
theorem dX9_similarity_25 : decode cX9_similarity 25 = .ok (.iaload, 1) := by decide +kernel
theorem dX9_similarity_26 : decode cX9_similarity 26 = .ok (.goto 9, 3) := by decide +kernel
theorem dX9_similarity_29 : decode cX9_similarity 29 = .ok (.aload_n 0, 1) := by decide +kernel
theorem dX9_similarity_30 : decode cX9_similarity 30 = .ok (.getfield 7, 3) := by decide +kernel
theorem dX9_similarity_33 : decode cX9_similarity 33 = .ok (.iconst 1, 1) := by decide +kernel
theorem dX9_similarity_34 : decode cX9_similarity 34 = .ok (.iaload, 1) := by decide +kernel
theorem dX9_similarity_35 : decode cX9_similarity 35 = .ok (.istore_n 1, 1) := by decide +kernel
theorem dX9_similarity_36 : decode cX9_similarity 36 = .ok (.iload_n 1, 1) := by decide +kernel
theorem dX9_similarity_37 : decode cX9_similarity 37 = .ok (.ifCond .ne 7, 3) := by decide +kernel
theorem dX9_similarity_40 : decode cX9_similarity 40 = .ok (.dconst 1, 1) := by decide +kernel
theorem dX9_similarity_41 : decode cX9_similarity 41 = .ok (.goto 13, 3) := by decide +kernel
theorem dX9_similarity_44 : decode cX9_similarity 44 = .ok (.dconst 1, 1) := by decide +kernel
theorem dX9_similarity_45 : decode cX9_similarity 45 = .ok (.aload_n 0, 1) := by decide +kernel
theorem dX9_similarity_46 : decode cX9_similarity 46 = .ok (.invokevirtual 112, 3) := by decide +kernel
theorem dX9_similarity_49 : decode cX9_similarity 49 = .ok (.i2d, 1) := by decide +kernel
theorem dX9_similarity_50 : decode cX9_similarity 50 = .ok (.iload_n 1, 1) := by decide +kernel
theorem dX9_similarity_51 : decode cX9_similarity 51 = .ok (.i2d, 1) := by decide +kernel
theorem dX9_similarity_52 : decode cX9_similarity 52 = .ok (.ddiv, 1) := by decide +kernel
theorem dX9_similarity_53 : decode cX9_similarity 53 = .ok (.dsub, 1) := by decide +kernel
theorem dX9_similarity_54 : decode cX9_similarity 54 = .ok (.dreturn, 1) := by decide +kernel
theorem dX9_setBlock_0 : decode cX9_setBlock 0 = .ok (.aload_n 0, 1) := by decide +kernel
theorem dX9_setBlock_1 : decode cX9_setBlock 1 = .ok (.iconst 0, 1) := by decide +kernel
theorem dX9_setBlock_2 : decode cX9_setBlock 2 = .ok (.putfield 36, 3) := by decide +kernel
theorem dX9_setBlock_5 : decode cX9_setBlock 5 = .ok (.iload_n 1, 1) := by decide +kernel
theorem dX9_setBlock_6 : decode cX9_setBlock 6 = .ok (.iconst 1, 1) := by decide +kernel
theorem dX9_setBlock_7 : decode cX9_setBlock 7 = .ok (.iconst 2, 1) := by decide +kernel
theorem dX9_setBlock_8 : decode cX9_setBlock 8 = .ok (.invokestatic 42, 3) := by decide +kernel
theorem dX9_setBlock_11 : decode cX9_setBlock 11 = .ok (.ifCond .ne 9, 3) := by decide +kernel
theorem dX9_setBlock_14 : decode cX9_setBlock 14 = .ok (.aload_n 0, 1) := by decide +kernel
theorem dX9_setBlock_15 : decode cX9_setBlock 15 = .ok (.iconst 1, 1) := by decide +kernel
theorem dX9_setBlock_16 : decode cX9_setBlock 16 = .ok (.invokevirtual 98, 3) := by decide +kernel
theorem dX9_setBlock_19 : decode cX9_setBlock 19 = .ok (.ireturn, 1) := by decide +kernel
theorem dX9_setBlock_20 : decode cX9_setBlock 20 = .ok (.aload_n 0, 1) := by decide +kernel
theorem dX9_setBlock_21 : decode cX9_setBlock 21 = .ok (.getfield 16, 3) := by decide +kernel
theorem dX9_setBlock_24 : decode cX9_setBlock 24 = .ok (.istore_n 2, 1) := by decide +kernel
theorem dX9_setBlock_25 : decode cX9_setBlock 25 = .ok (.aload_n 0, 1) := by decide +kernel
theorem dX9_setBlock_26 : decode cX9_setBlock 26 = .ok (.iload_n 1, 1) := by decide +kernel
theorem dX9_setBlock_27 : decode cX9_setBlock 27 = .ok (.putfield 16, 3) := by decide +kernel
theorem dX9_setBlock_30 : decode cX9_setBlock 30 = .ok (.iconst 0, 1) := by decide +kernel
theorem dX9_setBlock_31 : decode cX9_setBlock 31 = .ok (.istore_n 3, 1) := by decide +kernel
theorem dX9_setBlock_32 : decode cX9_setBlock 32 = .ok (.iload_n 3, 1) := by decide +kernel
theorem dX9_setBlock_33 : decode cX9_setBlock 33 = .ok (.sipush 20736, 3) := by decide +kernel
theorem dX9_setBlock_36 : decode cX9_setBlock 36 = .ok (.if_icmp .ge 16, 3) := by decide +kernel
theorem dX9_setBlock_39 : decode cX9_setBlock 39 = .ok (.aload_n 0, 1) := by decide +kernel
theorem dX9_setBlock_40 : decode cX9_setBlock 40 = .ok (.getfield 20, 3) := by decide +kernel
theorem dX9_setBlock_43 : decode cX9_setBlock 43 = .ok (.iload_n 3, 1) := by decide +kernel
theorem dX9_setBlock_44 : decode cX9_setBlock 44 = .ok (.iconst 0, 1) := by decide +kernel
theorem dX9_setBlock_45 : decode cX9_setBlock 45 = .ok (.bastore, 1) := by decide +kernel
theorem dX9_setBlock_46 : decode cX9_setBlock 46 = .ok (.iinc 3 1, 3) := by decide +kernel
theorem dX9_setBlock_49 : decode cX9_setBlock 49 = .ok (.goto (-17), 3) := by decide +kernel
theorem dX9_setBlock_52 : decode cX9_setBlock 52 = .ok (.aload_n 0, 1) := by decide +kernel
theorem dX9_setBlock_53 : decode cX9_setBlock 53 = .ok (.iconst 0, 1) := by decide +kernel
theorem dX9_setBlock_54 : decode cX9_setBlock 54 = .ok (.putfield 73, 3) := by decide +kernel
theorem dX9_setBlock_57 : decode cX9_setBlock 57 = .ok (.aload_n 0, 1) := by decide +kernel
theorem dX9_setBlock_58 : decode cX9_setBlock 58 = .ok (.iconst 0, 1) := by decide +kernel
theorem dX9_setBlock_59 : decode cX9_setBlock 59 = .ok (.putfield 76, 3) := by decide +kernel
theorem dX9_setBlock_62 : decode cX9_setBlock 62 = .ok (.aload_n 0, 1) := by decide +kernel
theorem dX9_setBlock_63 : decode cX9_setBlock 63 = .ok (.iconst 0, 1) := by decide +kernel
theorem dX9_setBlock_64 : decode cX9_setBlock 64 = .ok (.putfield 79, 3) := by decide +kernel
theorem dX9_setBlock_67 : decode cX9_setBlock 67 = .ok (.iload_n 2, 1) := by decide +kernel
theorem dX9_setBlock_68 : decode cX9_setBlock 68 = .ok (.ireturn, 1) := by decide +kernel
theorem dX9_measure_0 : decode cX9_measure 0 = .ok (.aload_n 0, 1) := by decide +kernel
theorem dX9_measure_1 : decode cX9_measure 1 = .ok (.iconst 0, 1) := by decide +kernel
theorem dX9_measure_2 : decode cX9_measure 2 = .ok (.putfield 36, 3) := by decide +kernel
theorem dX9_measure_5 : decode cX9_measure 5 = .ok (.aload_n 0, 1) := by decide +kernel
theorem dX9_measure_6 : decode cX9_measure 6 = .ok (.iconst 1, 1) := by decide +kernel
theorem dX9_measure_7 : decode cX9_measure 7 = .ok (.invokevirtual 119, 3) := by decide +kernel
theorem dX9_measure_10 : decode cX9_measure 10 = .ok (.istore_n 1, 1) := by decide +kernel
theorem dX9_measure_11 : decode cX9_measure 11 = .ok (.aload_n 0, 1) := by decide +kernel
theorem dX9_measure_12 : decode cX9_measure 12 = .ok (.aload_n 0, 1) := by decide +kernel
theorem dX9_measure_13 : decode cX9_measure 13 = .ok (.getfield 7, 3) := by decide +kernel
theorem dX9_measure_16 : decode cX9_measure 16 = .ok (.iconst 0, 1) := by decide +kernel
theorem dX9_measure_17 : decode cX9_measure 17 = .ok (.iaload, 1) := by decide +kernel
theorem dX9_measure_18 : decode cX9_measure 18 = .ok (.aload_n 0, 1) := by decide +kernel
theorem dX9_measure_19 : decode cX9_measure 19 = .ok (.getfield 7, 3) := by decide +kernel
theorem dX9_measure_22 : decode cX9_measure 22 = .ok (.iconst 1, 1) := by decide +kernel
theorem dX9_measure_23 : decode cX9_measure 23 = .ok (.iaload, 1) := by decide +kernel
theorem dX9_measure_24 : decode cX9_measure 24 = .ok (.invokevirtual 50, 3) := by decide +kernel
theorem dX9_measure_27 : decode cX9_measure 27 = .ok (.ireturn, 1) := by decide +kernel
theorem dX9_hits_0 : decode cX9_hits 0 = .ok (.aload_n 0, 1) := by decide +kernel
theorem dX9_hits_1 : decode cX9_hits 1 = .ok (.iconst 0, 1) := by decide +kernel
theorem dX9_hits_2 : decode cX9_hits 2 = .ok (.putfield 36, 3) := by decide +kernel
theorem dX9_hits_5 : decode cX9_hits 5 = .ok (.aload_n 0, 1) := by decide +kernel
theorem dX9_hits_6 : decode cX9_hits 6 = .ok (.getfield 73, 3) := by decide +kernel
theorem dX9_hits_9 : decode cX9_hits 9 = .ok (.ireturn, 1) := by decide +kernel
theorem dX9_misses_0 : decode cX9_misses 0 = .ok (.aload_n 0, 1) := by decide +kernel
theorem dX9_misses_1 : decode cX9_misses 1 = .ok (.iconst 0, 1) := by decide +kernel
theorem dX9_misses_2 : decode cX9_misses 2 = .ok (.putfield 36, 3) := by decide +kernel
theorem dX9_misses_5 : decode cX9_misses 5 = .ok (.aload_n 0, 1) := by decide +kernel
theorem dX9_misses_6 : decode cX9_misses 6 = .ok (.getfield 76, 3) := by decide +kernel
theorem dX9_misses_9 : decode cX9_misses 9 = .ok (.ireturn, 1) := by decide +kernel
theorem dX9_singleSteps_0 : decode cX9_singleSteps 0 = .ok (.aload_n 0, 1) := by decide +kernel
theorem dX9_singleSteps_1 : decode cX9_singleSteps 1 = .ok (.iconst 0, 1) := by decide +kernel
theorem dX9_singleSteps_2 : decode cX9_singleSteps 2 = .ok (.putfield 36, 3) := by decide +kernel
theorem dX9_singleSteps_5 : decode cX9_singleSteps 5 = .ok (.aload_n 0, 1) := by decide +kernel
theorem dX9_singleSteps_6 : decode cX9_singleSteps 6 = .ok (.getfield 79, 3) := by decide +kernel
theorem dX9_singleSteps_9 : decode cX9_singleSteps 9 = .ok (.ireturn, 1) := by decide +kernel
theorem dX9_across_0 : decode cX9_across 0 = .ok (.aload_n 0, 1) := by decide +kernel
theorem dX9_across_1 : decode cX9_across 1 = .ok (.iconst 0, 1) := by decide +kernel
theorem dX9_across_2 : decode cX9_across 2 = .ok (.putfield 36, 3) := by decide +kernel
theorem dX9_across_5 : decode cX9_across 5 = .ok (.iload_n 1, 1) := by decide +kernel
theorem dX9_across_6 : decode cX9_across 6 = .ok (.iconst 0, 1) := by decide +kernel
theorem dX9_across_7 : decode cX9_across 7 = .ok (.aload_n 0, 1) := by decide +kernel
theorem dX9_across_8 : decode cX9_across 8 = .ok (.getfield 7, 3) := by decide +kernel
theorem dX9_across_11 : decode cX9_across 11 = .ok (.iconst 0, 1) := by decide +kernel
theorem dX9_across_12 : decode cX9_across 12 = .ok (.iaload, 1) := by decide +kernel
theorem dX9_across_13 : decode cX9_across 13 = .ok (.invokestatic 42, 3) := by decide +kernel
theorem dX9_across_16 : decode cX9_across 16 = .ok (.ifCond .eq 17, 3) := by decide +kernel
theorem dX9_across_19 : decode cX9_across 19 = .ok (.iload_n 2, 1) := by decide +kernel
theorem dX9_across_20 : decode cX9_across 20 = .ok (.iconst 1, 1) := by decide +kernel
theorem dX9_across_21 : decode cX9_across 21 = .ok (.aload_n 0, 1) := by decide +kernel
theorem dX9_across_22 : decode cX9_across 22 = .ok (.getfield 7, 3) := by decide +kernel
theorem dX9_across_25 : decode cX9_across 25 = .ok (.iconst 1, 1) := by decide +kernel
theorem dX9_across_26 : decode cX9_across 26 = .ok (.iaload, 1) := by decide +kernel
theorem dX9_across_27 : decode cX9_across 27 = .ok (.invokestatic 42, 3) := by decide +kernel
theorem dX9_across_30 : decode cX9_across 30 = .ok (.ifCond .ne 9, 3) := by decide +kernel
theorem dX9_across_33 : decode cX9_across 33 = .ok (.aload_n 0, 1) := by decide +kernel
theorem dX9_across_34 : decode cX9_across 34 = .ok (.iconst 1, 1) := by decide +kernel
theorem dX9_across_35 : decode cX9_across 35 = .ok (.invokevirtual 98, 3) := by decide +kernel
theorem dX9_across_38 : decode cX9_across 38 = .ok (.ireturn, 1) := by decide +kernel
theorem dX9_across_39 : decode cX9_across 39 = .ok (.aload_n 0, 1) := by decide +kernel
theorem dX9_across_40 : decode cX9_across 40 = .ok (.iconst 0, 1) := by decide +kernel
theorem dX9_across_41 : decode cX9_across 41 = .ok (.invokevirtual 60, 3) := by decide +kernel
theorem dX9_across_44 : decode cX9_across 44 = .ok (.aload_n 0, 1) := by decide +kernel
theorem dX9_across_45 : decode cX9_across 45 = .ok (.iload_n 1, 1) := by decide +kernel
theorem dX9_across_46 : decode cX9_across 46 = .ok (.iload_n 2, 1) := by decide +kernel
theorem dX9_across_47 : decode cX9_across 47 = .ok (.invokevirtual 50, 3) := by decide +kernel
theorem dX9_across_50 : decode cX9_across 50 = .ok (.aload_n 0, 1) := by decide +kernel
theorem dX9_across_51 : decode cX9_across 51 = .ok (.iload_n 1, 1) := by decide +kernel
theorem dX9_across_52 : decode cX9_across 52 = .ok (.iload_n 2, 1) := by decide +kernel
theorem dX9_across_53 : decode cX9_across 53 = .ok (.iconst 1, 1) := by decide +kernel
theorem dX9_across_54 : decode cX9_across 54 = .ok (.isub, 1) := by decide +kernel
theorem dX9_across_55 : decode cX9_across 55 = .ok (.invokevirtual 50, 3) := by decide +kernel
theorem dX9_across_58 : decode cX9_across 58 = .ok (.isub, 1) := by decide +kernel
theorem dX9_across_59 : decode cX9_across 59 = .ok (.ireturn, 1) := by decide +kernel
theorem dX9_found_0 : decode cX9_found 0 = .ok (.aload_n 0, 1) := by decide +kernel
theorem dX9_found_1 : decode cX9_found 1 = .ok (.iconst 1, 1) := by decide +kernel
theorem dX9_found_2 : decode cX9_found 2 = .ok (.invokevirtual 60, 3) := by decide +kernel
theorem dX9_found_5 : decode cX9_found 5 = .ok (.aload_n 0, 1) := by decide +kernel
theorem dX9_found_6 : decode cX9_found 6 = .ok (.iconst 0, 1) := by decide +kernel
theorem dX9_found_7 : decode cX9_found 7 = .ok (.aload_n 0, 1) := by decide +kernel
theorem dX9_found_8 : decode cX9_found 8 = .ok (.getfield 7, 3) := by decide +kernel
theorem dX9_found_11 : decode cX9_found 11 = .ok (.iconst 1, 1) := by decide +kernel
theorem dX9_found_12 : decode cX9_found 12 = .ok (.iaload, 1) := by decide +kernel
theorem dX9_found_13 : decode cX9_found 13 = .ok (.invokevirtual 50, 3) := by decide +kernel
theorem dX9_found_16 : decode cX9_found 16 = .ok (.istore_n 1, 1) := by decide +kernel
theorem dX9_found_17 : decode cX9_found 17 = .ok (.iconst 1, 1) := by decide +kernel
theorem dX9_found_18 : decode cX9_found 18 = .ok (.istore_n 2, 1) := by decide +kernel
theorem dX9_found_19 : decode cX9_found 19 = .ok (.iload_n 2, 1) := by decide +kernel
theorem dX9_found_20 : decode cX9_found 20 = .ok (.aload_n 0, 1) := by decide +kernel
theorem dX9_found_21 : decode cX9_found 21 = .ok (.getfield 7, 3) := by decide +kernel
theorem dX9_found_24 : decode cX9_found 24 = .ok (.iconst 0, 1) := by decide +kernel
theorem dX9_found_25 : decode cX9_found 25 = .ok (.iaload, 1) := by decide +kernel
theorem dX9_found_26 : decode cX9_found 26 = .ok (.if_icmp .gt 40, 3) := by decide +kernel
theorem dX9_found_29 : decode cX9_found 29 = .ok (.aload_n 0, 1) := by decide +kernel
theorem dX9_found_30 : decode cX9_found 30 = .ok (.iload_n 2, 1) := by decide +kernel
theorem dX9_found_31 : decode cX9_found 31 = .ok (.aload_n 0, 1) := by decide +kernel
theorem dX9_found_32 : decode cX9_found 32 = .ok (.getfield 7, 3) := by decide +kernel
theorem dX9_found_35 : decode cX9_found 35 = .ok (.iconst 1, 1) := by decide +kernel
theorem dX9_found_36 : decode cX9_found 36 = .ok (.iaload, 1) := by decide +kernel
theorem dX9_found_37 : decode cX9_found 37 = .ok (.invokevirtual 50, 3) := by decide +kernel
theorem dX9_found_40 : decode cX9_found 40 = .ok (.iload_n 1, 1) := by decide +kernel
theorem dX9_found_41 : decode cX9_found 41 = .ok (.if_icmp .ge 17, 3) := by decide +kernel
theorem dX9_found_44 : decode cX9_found 44 = .ok (.aload_n 0, 1) := by decide +kernel
theorem dX9_found_45 : decode cX9_found 45 = .ok (.iload_n 2, 1) := by decide +kernel
theorem dX9_found_46 : decode cX9_found 46 = .ok (.aload_n 0, 1) := by decide +kernel
theorem dX9_found_47 : decode cX9_found 47 = .ok (.getfield 7, 3) := by decide +kernel
theorem dX9_found_50 : decode cX9_found 50 = .ok (.iconst 1, 1) := by decide +kernel
theorem dX9_found_51 : decode cX9_found 51 = .ok (.iaload, 1) := by decide +kernel
theorem dX9_found_52 : decode cX9_found 52 = .ok (.invokevirtual 50, 3) := by decide +kernel
theorem dX9_found_55 : decode cX9_found 55 = .ok (.goto 4, 3) := by decide +kernel
theorem dX9_found_58 : decode cX9_found 58 = .ok (.iload_n 1, 1) := by decide +kernel
theorem dX9_found_59 : decode cX9_found 59 = .ok (.istore_n 1, 1) := by decide +kernel
theorem dX9_found_60 : decode cX9_found 60 = .ok (.iinc 2 1, 3) := by decide +kernel
theorem dX9_found_63 : decode cX9_found 63 = .ok (.goto (-44), 3) := by decide +kernel
theorem dX9_found_66 : decode cX9_found 66 = .ok (.iload_n 1, 1) := by decide +kernel
theorem dX9_found_67 : decode cX9_found 67 = .ok (.ireturn, 1) := by decide +kernel
theorem dX9_end_0 : decode cX9_end 0 = .ok (.aload_n 0, 1) := by decide +kernel
theorem dX9_end_1 : decode cX9_end 1 = .ok (.invokevirtual 123, 3) := by decide +kernel
theorem dX9_end_4 : decode cX9_end 4 = .ok (.istore_n 1, 1) := by decide +kernel
theorem dX9_end_5 : decode cX9_end 5 = .ok (.iconst 0, 1) := by decide +kernel
theorem dX9_end_6 : decode cX9_end 6 = .ok (.istore_n 2, 1) := by decide +kernel
theorem dX9_end_7 : decode cX9_end 7 = .ok (.aload_n 0, 1) := by decide +kernel
theorem dX9_end_8 : decode cX9_end 8 = .ok (.iload_n 2, 1) := by decide +kernel
theorem dX9_end_9 : decode cX9_end 9 = .ok (.aload_n 0, 1) := by decide +kernel
theorem dX9_end_10 : decode cX9_end 10 = .ok (.getfield 7, 3) := by decide +kernel
theorem dX9_end_13 : decode cX9_end 13 = .ok (.iconst 1, 1) := by decide +kernel
theorem dX9_end_14 : decode cX9_end 14 = .ok (.iaload, 1) := by decide +kernel
theorem dX9_end_15 : decode cX9_end 15 = .ok (.invokevirtual 50, 3) := by decide +kernel
theorem dX9_end_18 : decode cX9_end 18 = .ok (.iload_n 1, 1) := by decide +kernel
theorem dX9_end_19 : decode cX9_end 19 = .ok (.if_icmp .eq 9, 3) := by decide +kernel
theorem dX9_end_22 : decode cX9_end 22 = .ok (.iinc 2 1, 3) := by decide +kernel
theorem dX9_end_25 : decode cX9_end 25 = .ok (.goto (-18), 3) := by decide +kernel
theorem dX9_end_28 : decode cX9_end 28 = .ok (.iload_n 2, 1) := by decide +kernel
theorem dX9_end_29 : decode cX9_end 29 = .ok (.ireturn, 1) := by decide +kernel
theorem dX9_foundDistance_0 : decode cX9_foundDistance 0 = .ok (.aload_n 0, 1) := by decide +kernel
theorem dX9_foundDistance_1 : decode cX9_foundDistance 1 = .ok (.iconst 0, 1) := by decide +kernel
theorem dX9_foundDistance_2 : decode cX9_foundDistance 2 = .ok (.putfield 36, 3) := by decide +kernel
theorem dX9_foundDistance_5 : decode cX9_foundDistance 5 = .ok (.aload_n 0, 1) := by decide +kernel
theorem dX9_foundDistance_6 : decode cX9_foundDistance 6 = .ok (.invokevirtual 123, 3) := by decide +kernel
theorem dX9_foundDistance_9 : decode cX9_foundDistance 9 = .ok (.ireturn, 1) := by decide +kernel
theorem dX9_foundEnd_0 : decode cX9_foundEnd 0 = .ok (.aload_n 0, 1) := by decide +kernel
theorem dX9_foundEnd_1 : decode cX9_foundEnd 1 = .ok (.iconst 0, 1) := by decide +kernel
theorem dX9_foundEnd_2 : decode cX9_foundEnd 2 = .ok (.putfield 36, 3) := by decide +kernel
theorem dX9_foundEnd_5 : decode cX9_foundEnd 5 = .ok (.aload_n 0, 1) := by decide +kernel
theorem dX9_foundEnd_6 : decode cX9_foundEnd 6 = .ok (.invokevirtual 126, 3) := by decide +kernel
theorem dX9_foundEnd_9 : decode cX9_foundEnd 9 = .ok (.ireturn, 1) := by decide +kernel
theorem dX9_tried_0 : decode cX9_tried 0 = .ok (.aload_n 0, 1) := by decide +kernel
theorem dX9_tried_1 : decode cX9_tried 1 = .ok (.iload_n 1, 1) := by decide +kernel
theorem dX9_tried_2 : decode cX9_tried 2 = .ok (.iload_n 2, 1) := by decide +kernel
theorem dX9_tried_3 : decode cX9_tried 3 = .ok (.invokevirtual 46, 3) := by decide +kernel
theorem dX9_tried_6 : decode cX9_tried 6 = .ok (.istore 4, 2) := by decide +kernel
theorem dX9_tried_8 : decode cX9_tried 8 = .ok (.aload_n 0, 1) := by decide +kernel
theorem dX9_tried_9 : decode cX9_tried 9 = .ok (.getfield 7, 3) := by decide +kernel
theorem dX9_tried_12 : decode cX9_tried 12 = .ok (.iconst 3, 1) := by decide +kernel
theorem dX9_tried_13 : decode cX9_tried 13 = .ok (.bipush 20, 2) := by decide +kernel
theorem dX9_tried_15 : decode cX9_tried 15 = .ok (.iload_n 1, 1) := by decide +kernel
theorem dX9_tried_16 : decode cX9_tried 16 = .ok (.imul, 1) := by decide +kernel
theorem dX9_tried_17 : decode cX9_tried 17 = .ok (.iadd, 1) := by decide +kernel
theorem dX9_tried_18 : decode cX9_tried 18 = .ok (.iload_n 2, 1) := by decide +kernel
theorem dX9_tried_19 : decode cX9_tried 19 = .ok (.iadd, 1) := by decide +kernel
theorem dX9_tried_20 : decode cX9_tried 20 = .ok (.iload_n 3, 1) := by decide +kernel
theorem dX9_tried_21 : decode cX9_tried 21 = .ok (.iastore, 1) := by decide +kernel
theorem dX9_tried_22 : decode cX9_tried 22 = .ok (.aload_n 0, 1) := by decide +kernel
theorem dX9_tried_23 : decode cX9_tried 23 = .ok (.invokevirtual 112, 3) := by decide +kernel
theorem dX9_tried_26 : decode cX9_tried 26 = .ok (.istore 5, 2) := by decide +kernel
theorem dX9_tried_28 : decode cX9_tried 28 = .ok (.aload_n 0, 1) := by decide +kernel
theorem dX9_tried_29 : decode cX9_tried 29 = .ok (.getfield 7, 3) := by decide +kernel
theorem dX9_tried_32 : decode cX9_tried 32 = .ok (.iconst 3, 1) := by decide +kernel
theorem dX9_tried_33 : decode cX9_tried 33 = .ok (.bipush 20, 2) := by decide +kernel
theorem dX9_tried_35 : decode cX9_tried 35 = .ok (.iload_n 1, 1) := by decide +kernel
theorem dX9_tried_36 : decode cX9_tried 36 = .ok (.imul, 1) := by decide +kernel
theorem dX9_tried_37 : decode cX9_tried 37 = .ok (.iadd, 1) := by decide +kernel
theorem dX9_tried_38 : decode cX9_tried 38 = .ok (.iload_n 2, 1) := by decide +kernel
theorem dX9_tried_39 : decode cX9_tried 39 = .ok (.iadd, 1) := by decide +kernel
theorem dX9_tried_40 : decode cX9_tried 40 = .ok (.iload 4, 2) := by decide +kernel
theorem dX9_tried_42 : decode cX9_tried 42 = .ok (.iastore, 1) := by decide +kernel
theorem dX9_tried_43 : decode cX9_tried 43 = .ok (.iload 5, 2) := by decide +kernel
theorem dX9_tried_45 : decode cX9_tried 45 = .ok (.ireturn, 1) := by decide +kernel
theorem dX9_ifReplaced_0 : decode cX9_ifReplaced 0 = .ok (.aload_n 0, 1) := by decide +kernel
theorem dX9_ifReplaced_1 : decode cX9_ifReplaced 1 = .ok (.iconst 0, 1) := by decide +kernel
theorem dX9_ifReplaced_2 : decode cX9_ifReplaced 2 = .ok (.putfield 36, 3) := by decide +kernel
theorem dX9_ifReplaced_5 : decode cX9_ifReplaced 5 = .ok (.iload_n 1, 1) := by decide +kernel
theorem dX9_ifReplaced_6 : decode cX9_ifReplaced 6 = .ok (.invokestatic 109, 3) := by decide +kernel
theorem dX9_ifReplaced_9 : decode cX9_ifReplaced 9 = .ok (.ifCond .eq 19, 3) := by decide +kernel
theorem dX9_ifReplaced_12 : decode cX9_ifReplaced 12 = .ok (.iload_n 2, 1) := by decide +kernel
theorem dX9_ifReplaced_13 : decode cX9_ifReplaced 13 = .ok (.iconst 0, 1) := by decide +kernel
theorem dX9_ifReplaced_14 : decode cX9_ifReplaced 14 = .ok (.aload_n 0, 1) := by decide +kernel
theorem dX9_ifReplaced_15 : decode cX9_ifReplaced 15 = .ok (.getfield 7, 3) := by decide +kernel
theorem dX9_ifReplaced_18 : decode cX9_ifReplaced 18 = .ok (.iload_n 1, 1) := by decide +kernel
theorem dX9_ifReplaced_19 : decode cX9_ifReplaced 19 = .ok (.iaload, 1) := by decide +kernel
theorem dX9_ifReplaced_20 : decode cX9_ifReplaced 20 = .ok (.iconst 1, 1) := by decide +kernel
theorem dX9_ifReplaced_21 : decode cX9_ifReplaced 21 = .ok (.isub, 1) := by decide +kernel
theorem dX9_ifReplaced_22 : decode cX9_ifReplaced 22 = .ok (.invokestatic 42, 3) := by decide +kernel
theorem dX9_ifReplaced_25 : decode cX9_ifReplaced 25 = .ok (.ifCond .ne 9, 3) := by decide +kernel
theorem dX9_ifReplaced_28 : decode cX9_ifReplaced 28 = .ok (.aload_n 0, 1) := by decide +kernel
theorem dX9_ifReplaced_29 : decode cX9_ifReplaced 29 = .ok (.iconst 1, 1) := by decide +kernel
theorem dX9_ifReplaced_30 : decode cX9_ifReplaced 30 = .ok (.invokevirtual 98, 3) := by decide +kernel
theorem dX9_ifReplaced_33 : decode cX9_ifReplaced 33 = .ok (.ireturn, 1) := by decide +kernel
theorem dX9_ifReplaced_34 : decode cX9_ifReplaced 34 = .ok (.aload_n 0, 1) := by decide +kernel
theorem dX9_ifReplaced_35 : decode cX9_ifReplaced 35 = .ok (.iload_n 3, 1) := by decide +kernel
theorem dX9_ifReplaced_36 : decode cX9_ifReplaced 36 = .ok (.invokevirtual 102, 3) := by decide +kernel
theorem dX9_ifReplaced_39 : decode cX9_ifReplaced 39 = .ok (.ifCond .eq 13, 3) := by decide +kernel
theorem dX9_ifReplaced_42 : decode cX9_ifReplaced 42 = .ok (.aload_n 0, 1) := by decide +kernel
theorem dX9_ifReplaced_43 : decode cX9_ifReplaced 43 = .ok (.iload_n 1, 1) := by decide +kernel
theorem dX9_ifReplaced_44 : decode cX9_ifReplaced 44 = .ok (.iload_n 2, 1) := by decide +kernel
theorem dX9_ifReplaced_45 : decode cX9_ifReplaced 45 = .ok (.iload_n 3, 1) := by decide +kernel
theorem dX9_ifReplaced_46 : decode cX9_ifReplaced 46 = .ok (.invokevirtual 129, 3) := by decide +kernel
theorem dX9_ifReplaced_49 : decode cX9_ifReplaced 49 = .ok (.goto 8, 3) := by decide +kernel
theorem dX9_ifReplaced_52 : decode cX9_ifReplaced 52 = .ok (.aload_n 0, 1) := by decide +kernel
theorem dX9_ifReplaced_53 : decode cX9_ifReplaced 53 = .ok (.iconst 2, 1) := by decide +kernel
theorem dX9_ifReplaced_54 : decode cX9_ifReplaced 54 = .ok (.invokevirtual 98, 3) := by decide +kernel
theorem dX9_ifReplaced_57 : decode cX9_ifReplaced 57 = .ok (.ireturn, 1) := by decide +kernel
theorem dX9_best_0 : decode cX9_best 0 = .ok (.iconst (-1), 1) := by decide +kernel
theorem dX9_best_1 : decode cX9_best 1 = .ok (.istore_n 2, 1) := by decide +kernel
theorem dX9_best_2 : decode cX9_best 2 = .ok (.iconst 0, 1) := by decide +kernel
theorem dX9_best_3 : decode cX9_best 3 = .ok (.istore_n 3, 1) := by decide +kernel
theorem dX9_best_4 : decode cX9_best 4 = .ok (.iconst 0, 1) := by decide +kernel
theorem dX9_best_5 : decode cX9_best 5 = .ok (.istore 4, 2) := by decide +kernel
theorem dX9_best_7 : decode cX9_best 7 = .ok (.iload 4, 2) := by decide +kernel
theorem dX9_best_9 : decode cX9_best 9 = .ok (.aload_n 0, 1) := by decide +kernel
theorem dX9_best_10 : decode cX9_best 10 = .ok (.getfield 7, 3) := by decide +kernel
theorem dX9_best_13 : decode cX9_best 13 = .ok (.iload_n 1, 1) := by decide +kernel
theorem dX9_best_14 : decode cX9_best 14 = .ok (.iaload, 1) := by decide +kernel
theorem dX9_best_15 : decode cX9_best 15 = .ok (.if_icmp .ge 87, 3) := by decide +kernel
theorem dX9_best_18 : decode cX9_best 18 = .ok (.iconst 0, 1) := by decide +kernel
theorem dX9_best_19 : decode cX9_best 19 = .ok (.istore 5, 2) := by decide +kernel
theorem dX9_best_21 : decode cX9_best 21 = .ok (.iload 5, 2) := by decide +kernel
theorem dX9_best_23 : decode cX9_best 23 = .ok (.aload_n 0, 1) := by decide +kernel
theorem dX9_best_24 : decode cX9_best 24 = .ok (.getfield 7, 3) := by decide +kernel
theorem dX9_best_27 : decode cX9_best 27 = .ok (.iconst 2, 1) := by decide +kernel
theorem dX9_best_28 : decode cX9_best 28 = .ok (.iaload, 1) := by decide +kernel
theorem dX9_best_29 : decode cX9_best 29 = .ok (.if_icmp .ge 67, 3) := by decide +kernel
theorem dX9_best_32 : decode cX9_best 32 = .ok (.aload_n 0, 1) := by decide +kernel
theorem dX9_best_33 : decode cX9_best 33 = .ok (.iload_n 1, 1) := by decide +kernel
theorem dX9_best_34 : decode cX9_best 34 = .ok (.iload 4, 2) := by decide +kernel
theorem dX9_best_36 : decode cX9_best 36 = .ok (.iload 5, 2) := by decide +kernel
theorem dX9_best_38 : decode cX9_best 38 = .ok (.invokevirtual 129, 3) := by decide +kernel
theorem dX9_best_41 : decode cX9_best 41 = .ok (.istore 6, 2) := by decide +kernel
theorem dX9_best_43 : decode cX9_best 43 = .ok (.iload_n 2, 1) := by decide +kernel
theorem dX9_best_44 : decode cX9_best 44 = .ok (.ifCond .lt 9, 3) := by decide +kernel
theorem dX9_best_47 : decode cX9_best 47 = .ok (.iload 6, 2) := by decide +kernel
theorem dX9_best_49 : decode cX9_best 49 = .ok (.iload_n 3, 1) := by decide +kernel
theorem dX9_best_50 : decode cX9_best 50 = .ok (.if_icmp .ge 7, 3) := by decide +kernel
theorem dX9_best_53 : decode cX9_best 53 = .ok (.iconst 1, 1) := by decide +kernel
theorem dX9_best_54 : decode cX9_best 54 = .ok (.goto 4, 3) := by decide +kernel
theorem dX9_best_57 : decode cX9_best 57 = .ok (.iconst 0, 1) := by decide +kernel
theorem dX9_best_58 : decode cX9_best 58 = .ok (.istore 7, 2) := by decide +kernel
theorem dX9_best_60 : decode cX9_best 60 = .ok (.iload 7, 2) := by decide +kernel
theorem dX9_best_62 : decode cX9_best 62 = .ok (.ifCond .eq 14, 3) := by decide +kernel
theorem dX9_best_65 : decode cX9_best 65 = .ok (.bipush 10, 2) := by decide +kernel
theorem dX9_best_67 : decode cX9_best 67 = .ok (.iload 4, 2) := by decide +kernel
theorem dX9_best_69 : decode cX9_best 69 = .ok (.imul, 1) := by decide +kernel
theorem dX9_best_70 : decode cX9_best 70 = .ok (.iload 5, 2) := by decide +kernel
theorem dX9_best_72 : decode cX9_best 72 = .ok (.iadd, 1) := by decide +kernel
theorem dX9_best_73 : decode cX9_best 73 = .ok (.goto 4, 3) := by decide +kernel
theorem dX9_best_76 : decode cX9_best 76 = .ok (.iload_n 2, 1) := by decide +kernel
theorem dX9_best_77 : decode cX9_best 77 = .ok (.istore_n 2, 1) := by decide +kernel
theorem dX9_best_78 : decode cX9_best 78 = .ok (.iload 7, 2) := by decide +kernel
theorem dX9_best_80 : decode cX9_best 80 = .ok (.ifCond .eq 8, 3) := by decide +kernel
theorem dX9_best_83 : decode cX9_best 83 = .ok (.iload 6, 2) := by decide +kernel
theorem dX9_best_85 : decode cX9_best 85 = .ok (.goto 4, 3) := by decide +kernel
theorem dX9_best_88 : decode cX9_best 88 = .ok (.iload_n 3, 1) := by decide +kernel
theorem dX9_best_89 : decode cX9_best 89 = .ok (.istore_n 3, 1) := by decide +kernel
theorem dX9_best_90 : decode cX9_best 90 = .ok (.iinc 5 1, 3) := by decide +kernel
theorem dX9_best_93 : decode cX9_best 93 = .ok (.goto (-72), 3) := by decide +kernel
theorem dX9_best_96 : decode cX9_best 96 = .ok (.iinc 4 1, 3) := by decide +kernel
theorem dX9_best_99 : decode cX9_best 99 = .ok (.goto (-92), 3) := by decide +kernel
theorem dX9_best_102 : decode cX9_best 102 = .ok (.iload_n 2, 1) := by decide +kernel
theorem dX9_best_103 : decode cX9_best 103 = .ok (.ireturn, 1) := by decide +kernel
theorem dX9_bestReplacement_0 : decode cX9_bestReplacement 0 = .ok (.aload_n 0, 1) := by decide +kernel
theorem dX9_bestReplacement_1 : decode cX9_bestReplacement 1 = .ok (.iconst 0, 1) := by decide +kernel
theorem dX9_bestReplacement_2 : decode cX9_bestReplacement 2 = .ok (.putfield 36, 3) := by decide +kernel
theorem dX9_bestReplacement_5 : decode cX9_bestReplacement 5 = .ok (.iload_n 1, 1) := by decide +kernel
theorem dX9_bestReplacement_6 : decode cX9_bestReplacement 6 = .ok (.invokestatic 109, 3) := by decide +kernel
theorem dX9_bestReplacement_9 : decode cX9_bestReplacement 9 = .ok (.ifCond .eq 11, 3) := by decide +kernel
theorem dX9_bestReplacement_12 : decode cX9_bestReplacement 12 = .ok (.aload_n 0, 1) := by decide +kernel
theorem dX9_bestReplacement_13 : decode cX9_bestReplacement 13 = .ok (.iload_n 1, 1) := by decide +kernel
theorem dX9_bestReplacement_14 : decode cX9_bestReplacement 14 = .ok (.invokevirtual 132, 3) := by decide +kernel
theorem dX9_bestReplacement_17 : decode cX9_bestReplacement 17 = .ok (.goto 8, 3) := by decide +kernel
theorem dX9_bestReplacement_20 : decode cX9_bestReplacement 20 = .ok (.aload_n 0, 1) := by decide +kernel
theorem dX9_bestReplacement_21 : decode cX9_bestReplacement 21 = .ok (.iconst 1, 1) := by decide +kernel
theorem dX9_bestReplacement_22 : decode cX9_bestReplacement 22 = .ok (.invokevirtual 98, 3) := by decide +kernel
theorem dX9_bestReplacement_25 : decode cX9_bestReplacement 25 = .ok (.ireturn, 1) := by decide +kernel
theorem dX9_missesToCome_0 : decode cX9_missesToCome 0 = .ok (.aload_n 0, 1) := by decide +kernel
theorem dX9_missesToCome_1 : decode cX9_missesToCome 1 = .ok (.iconst 0, 1) := by decide +kernel
theorem dX9_missesToCome_2 : decode cX9_missesToCome 2 = .ok (.putfield 36, 3) := by decide +kernel
theorem dX9_missesToCome_5 : decode cX9_missesToCome 5 = .ok (.aload_n 0, 1) := by decide +kernel
theorem dX9_missesToCome_6 : decode cX9_missesToCome 6 = .ok (.iconst 0, 1) := by decide +kernel
theorem dX9_missesToCome_7 : decode cX9_missesToCome 7 = .ok (.invokevirtual 119, 3) := by decide +kernel
theorem dX9_missesToCome_10 : decode cX9_missesToCome 10 = .ok (.ireturn, 1) := by decide +kernel
theorem dX9_append_0 : decode cX9_append 0 = .ok (.aload_n 0, 1) := by decide +kernel
theorem dX9_append_1 : decode cX9_append 1 = .ok (.iconst 0, 1) := by decide +kernel
theorem dX9_append_2 : decode cX9_append 2 = .ok (.putfield 36, 3) := by decide +kernel
theorem dX9_append_5 : decode cX9_append 5 = .ok (.iload_n 1, 1) := by decide +kernel
theorem dX9_append_6 : decode cX9_append 6 = .ok (.bipush 33, 2) := by decide +kernel
theorem dX9_append_8 : decode cX9_append 8 = .ok (.bipush 126, 2) := by decide +kernel
theorem dX9_append_10 : decode cX9_append 10 = .ok (.invokestatic 42, 3) := by decide +kernel
theorem dX9_append_13 : decode cX9_append 13 = .ok (.ifCond .ne 9, 3) := by decide +kernel
theorem dX9_append_16 : decode cX9_append 16 = .ok (.aload_n 0, 1) := by decide +kernel
theorem dX9_append_17 : decode cX9_append 17 = .ok (.iconst 1, 1) := by decide +kernel
theorem dX9_append_18 : decode cX9_append 18 = .ok (.invokevirtual 98, 3) := by decide +kernel
theorem dX9_append_21 : decode cX9_append 21 = .ok (.ireturn, 1) := by decide +kernel
theorem dX9_append_22 : decode cX9_append 22 = .ok (.aload_n 0, 1) := by decide +kernel
theorem dX9_append_23 : decode cX9_append 23 = .ok (.getfield 92, 3) := by decide +kernel
theorem dX9_append_26 : decode cX9_append 26 = .ok (.bipush 60, 2) := by decide +kernel
theorem dX9_append_28 : decode cX9_append 28 = .ok (.if_icmp .ne 9, 3) := by decide +kernel
theorem dX9_append_31 : decode cX9_append 31 = .ok (.aload_n 0, 1) := by decide +kernel
theorem dX9_append_32 : decode cX9_append 32 = .ok (.iconst 2, 1) := by decide +kernel
theorem dX9_append_33 : decode cX9_append 33 = .ok (.invokevirtual 98, 3) := by decide +kernel
theorem dX9_append_36 : decode cX9_append 36 = .ok (.ireturn, 1) := by decide +kernel
theorem dX9_append_37 : decode cX9_append 37 = .ok (.aload_n 0, 1) := by decide +kernel
theorem dX9_append_38 : decode cX9_append 38 = .ok (.getfield 27, 3) := by decide +kernel
theorem dX9_append_41 : decode cX9_append 41 = .ok (.aload_n 0, 1) := by decide +kernel
theorem dX9_append_42 : decode cX9_append 42 = .ok (.getfield 92, 3) := by decide +kernel
theorem dX9_append_45 : decode cX9_append 45 = .ok (.iload_n 1, 1) := by decide +kernel
theorem dX9_append_46 : decode cX9_append 46 = .ok (.iastore, 1) := by decide +kernel
theorem dX9_append_47 : decode cX9_append 47 = .ok (.aload_n 0, 1) := by decide +kernel
theorem dX9_append_48 : decode cX9_append 48 = .ok (.dup, 1) := by decide +kernel
theorem dX9_append_49 : decode cX9_append 49 = .ok (.getfield 92, 3) := by decide +kernel
theorem dX9_append_52 : decode cX9_append 52 = .ok (.iconst 1, 1) := by decide +kernel
theorem dX9_append_53 : decode cX9_append 53 = .ok (.iadd, 1) := by decide +kernel
theorem dX9_append_54 : decode cX9_append 54 = .ok (.putfield 92, 3) := by decide +kernel
theorem dX9_append_57 : decode cX9_append 57 = .ok (.aload_n 0, 1) := by decide +kernel
theorem dX9_append_58 : decode cX9_append 58 = .ok (.getfield 92, 3) := by decide +kernel
theorem dX9_append_61 : decode cX9_append 61 = .ok (.ireturn, 1) := by decide +kernel
theorem dX9_clearBuffer_0 : decode cX9_clearBuffer 0 = .ok (.aload_n 0, 1) := by decide +kernel
theorem dX9_clearBuffer_1 : decode cX9_clearBuffer 1 = .ok (.iconst 0, 1) := by decide +kernel
theorem dX9_clearBuffer_2 : decode cX9_clearBuffer 2 = .ok (.putfield 36, 3) := by decide +kernel
theorem dX9_clearBuffer_5 : decode cX9_clearBuffer 5 = .ok (.aload_n 0, 1) := by decide +kernel
theorem dX9_clearBuffer_6 : decode cX9_clearBuffer 6 = .ok (.getfield 92, 3) := by decide +kernel
theorem dX9_clearBuffer_9 : decode cX9_clearBuffer 9 = .ok (.istore_n 1, 1) := by decide +kernel
theorem dX9_clearBuffer_10 : decode cX9_clearBuffer 10 = .ok (.aload_n 0, 1) := by decide +kernel
theorem dX9_clearBuffer_11 : decode cX9_clearBuffer 11 = .ok (.iconst 0, 1) := by decide +kernel
theorem dX9_clearBuffer_12 : decode cX9_clearBuffer 12 = .ok (.putfield 92, 3) := by decide +kernel
theorem dX9_clearBuffer_15 : decode cX9_clearBuffer 15 = .ok (.iload_n 1, 1) := by decide +kernel
theorem dX9_clearBuffer_16 : decode cX9_clearBuffer 16 = .ok (.ireturn, 1) := by decide +kernel
theorem dX9_firstError_0 : decode cX9_firstError 0 = .ok (.aload_n 0, 1) := by decide +kernel
theorem dX9_firstError_1 : decode cX9_firstError 1 = .ok (.iconst 0, 1) := by decide +kernel
theorem dX9_firstError_2 : decode cX9_firstError 2 = .ok (.putfield 36, 3) := by decide +kernel
theorem dX9_firstError_5 : decode cX9_firstError 5 = .ok (.aload_n 0, 1) := by decide +kernel
theorem dX9_firstError_6 : decode cX9_firstError 6 = .ok (.invokevirtual 95, 3) := by decide +kernel
theorem dX9_firstError_9 : decode cX9_firstError 9 = .ok (.aload_n 0, 1) := by decide +kernel
theorem dX9_firstError_10 : decode cX9_firstError 10 = .ok (.getfield 82, 3) := by decide +kernel
theorem dX9_firstError_13 : decode cX9_firstError 13 = .ok (.ireturn, 1) := by decide +kernel
theorem dX9_undo_0 : decode cX9_undo 0 = .ok (.aload_n 0, 1) := by decide +kernel
theorem dX9_undo_1 : decode cX9_undo 1 = .ok (.iconst 0, 1) := by decide +kernel
theorem dX9_undo_2 : decode cX9_undo 2 = .ok (.putfield 36, 3) := by decide +kernel
theorem dX9_undo_5 : decode cX9_undo 5 = .ok (.aload_n 0, 1) := by decide +kernel
theorem dX9_undo_6 : decode cX9_undo 6 = .ok (.getfield 39, 3) := by decide +kernel
theorem dX9_undo_9 : decode cX9_undo 9 = .ok (.ifCond .ne 9, 3) := by decide +kernel
theorem dX9_undo_12 : decode cX9_undo 12 = .ok (.aload_n 0, 1) := by decide +kernel
theorem dX9_undo_13 : decode cX9_undo 13 = .ok (.iconst 1, 1) := by decide +kernel
theorem dX9_undo_14 : decode cX9_undo 14 = .ok (.invokevirtual 98, 3) := by decide +kernel
theorem dX9_undo_17 : decode cX9_undo 17 = .ok (.ireturn, 1) := by decide +kernel
theorem dX9_undo_18 : decode cX9_undo 18 = .ok (.aload_n 0, 1) := by decide +kernel
theorem dX9_undo_19 : decode cX9_undo 19 = .ok (.dup, 1) := by decide +kernel
theorem dX9_undo_20 : decode cX9_undo 20 = .ok (.getfield 39, 3) := by decide +kernel
theorem dX9_undo_23 : decode cX9_undo 23 = .ok (.iconst 1, 1) := by decide +kernel
theorem dX9_undo_24 : decode cX9_undo 24 = .ok (.isub, 1) := by decide +kernel
theorem dX9_undo_25 : decode cX9_undo 25 = .ok (.putfield 39, 3) := by decide +kernel
theorem dX9_undo_28 : decode cX9_undo 28 = .ok (.iconst 0, 1) := by decide +kernel
theorem dX9_undo_29 : decode cX9_undo 29 = .ok (.istore_n 1, 1) := by decide +kernel
theorem dX9_undo_30 : decode cX9_undo 30 = .ok (.iload_n 1, 1) := by decide +kernel
theorem dX9_undo_31 : decode cX9_undo 31 = .ok (.bipush 43, 2) := by decide +kernel
theorem dX9_undo_33 : decode cX9_undo 33 = .ok (.if_icmp .ge 29, 3) := by decide +kernel
theorem dX9_undo_36 : decode cX9_undo 36 = .ok (.aload_n 0, 1) := by decide +kernel
theorem dX9_undo_37 : decode cX9_undo 37 = .ok (.getfield 7, 3) := by decide +kernel
theorem dX9_undo_40 : decode cX9_undo 40 = .ok (.iload_n 1, 1) := by decide +kernel
theorem dX9_undo_41 : decode cX9_undo 41 = .ok (.aload_n 0, 1) := by decide +kernel
theorem dX9_undo_42 : decode cX9_undo 42 = .ok (.getfield 13, 3) := by decide +kernel
theorem dX9_undo_45 : decode cX9_undo 45 = .ok (.bipush 43, 2) := by decide +kernel
theorem dX9_undo_47 : decode cX9_undo 47 = .ok (.aload_n 0, 1) := by decide +kernel
theorem dX9_undo_48 : decode cX9_undo 48 = .ok (.getfield 39, 3) := by decide +kernel
theorem dX9_undo_51 : decode cX9_undo 51 = .ok (.imul, 1) := by decide +kernel
theorem dX9_undo_52 : decode cX9_undo 52 = .ok (.iload_n 1, 1) := by decide +kernel
theorem dX9_undo_53 : decode cX9_undo 53 = .ok (.iadd, 1) := by decide +kernel
theorem dX9_undo_54 : decode cX9_undo 54 = .ok (.iaload, 1) := by decide +kernel
theorem dX9_undo_55 : decode cX9_undo 55 = .ok (.iastore, 1) := by decide +kernel
theorem dX9_undo_56 : decode cX9_undo 56 = .ok (.iinc 1 1, 3) := by decide +kernel
theorem dX9_undo_59 : decode cX9_undo 59 = .ok (.goto (-29), 3) := by decide +kernel
theorem dX9_undo_62 : decode cX9_undo 62 = .ok (.aload_n 0, 1) := by decide +kernel
theorem dX9_undo_63 : decode cX9_undo 63 = .ok (.getfield 39, 3) := by decide +kernel
theorem dX9_undo_66 : decode cX9_undo 66 = .ok (.ireturn, 1) := by decide +kernel
theorem dX9_savedStates_0 : decode cX9_savedStates 0 = .ok (.aload_n 0, 1) := by decide +kernel
theorem dX9_savedStates_1 : decode cX9_savedStates 1 = .ok (.iconst 0, 1) := by decide +kernel
theorem dX9_savedStates_2 : decode cX9_savedStates 2 = .ok (.putfield 36, 3) := by decide +kernel
theorem dX9_savedStates_5 : decode cX9_savedStates 5 = .ok (.aload_n 0, 1) := by decide +kernel
theorem dX9_savedStates_6 : decode cX9_savedStates 6 = .ok (.getfield 39, 3) := by decide +kernel
theorem dX9_savedStates_9 : decode cX9_savedStates 9 = .ok (.ireturn, 1) := by decide +kernel
theorem dX9_digest_0 : decode cX9_digest 0 = .ok (.aload_n 0, 1) := by decide +kernel
theorem dX9_digest_1 : decode cX9_digest 1 = .ok (.iconst 0, 1) := by decide +kernel
theorem dX9_digest_2 : decode cX9_digest 2 = .ok (.putfield 36, 3) := by decide +kernel
theorem dX9_digest_5 : decode cX9_digest 5 = .ok (.ldc2_w 135, 3) := by decide +kernel
theorem dX9_digest_8 : decode cX9_digest 8 = .ok (.lstore_n 1, 1) := by decide +kernel
theorem dX9_digest_9 : decode cX9_digest 9 = .ok (.ldc2_w 137, 3) := by decide +kernel
theorem dX9_digest_12 : decode cX9_digest 12 = .ok (.lload_n 1, 1) := by decide +kernel
theorem dX9_digest_13 : decode cX9_digest 13 = .ok (.lmul, 1) := by decide +kernel
theorem dX9_digest_14 : decode cX9_digest 14 = .ok (.aload_n 0, 1) := by decide +kernel
theorem dX9_digest_15 : decode cX9_digest 15 = .ok (.getfield 7, 3) := by decide +kernel
theorem dX9_digest_18 : decode cX9_digest 18 = .ok (.iconst 2, 1) := by decide +kernel
theorem dX9_digest_19 : decode cX9_digest 19 = .ok (.iaload, 1) := by decide +kernel
theorem dX9_digest_20 : decode cX9_digest 20 = .ok (.i2l, 1) := by decide +kernel
theorem dX9_digest_21 : decode cX9_digest 21 = .ok (.ladd, 1) := by decide +kernel
theorem dX9_digest_22 : decode cX9_digest 22 = .ok (.lstore_n 1, 1) := by decide +kernel
theorem dX9_digest_23 : decode cX9_digest 23 = .ok (.iconst 0, 1) := by decide +kernel
theorem dX9_digest_24 : decode cX9_digest 24 = .ok (.istore_n 3, 1) := by decide +kernel
theorem dX9_digest_25 : decode cX9_digest 25 = .ok (.iload_n 3, 1) := by decide +kernel
theorem dX9_digest_26 : decode cX9_digest 26 = .ok (.iconst 2, 1) := by decide +kernel
theorem dX9_digest_27 : decode cX9_digest 27 = .ok (.if_icmp .ge 58, 3) := by decide +kernel
theorem dX9_digest_30 : decode cX9_digest 30 = .ok (.ldc2_w 137, 3) := by decide +kernel
theorem dX9_digest_33 : decode cX9_digest 33 = .ok (.lload_n 1, 1) := by decide +kernel
theorem dX9_digest_34 : decode cX9_digest 34 = .ok (.lmul, 1) := by decide +kernel
theorem dX9_digest_35 : decode cX9_digest 35 = .ok (.aload_n 0, 1) := by decide +kernel
theorem dX9_digest_36 : decode cX9_digest 36 = .ok (.getfield 7, 3) := by decide +kernel
theorem dX9_digest_39 : decode cX9_digest 39 = .ok (.iload_n 3, 1) := by decide +kernel
theorem dX9_digest_40 : decode cX9_digest 40 = .ok (.iaload, 1) := by decide +kernel
theorem dX9_digest_41 : decode cX9_digest 41 = .ok (.i2l, 1) := by decide +kernel
theorem dX9_digest_42 : decode cX9_digest 42 = .ok (.ladd, 1) := by decide +kernel
theorem dX9_digest_43 : decode cX9_digest 43 = .ok (.lstore_n 1, 1) := by decide +kernel
theorem dX9_digest_44 : decode cX9_digest 44 = .ok (.iconst 0, 1) := by decide +kernel
theorem dX9_digest_45 : decode cX9_digest 45 = .ok (.istore 4, 2) := by decide +kernel
theorem dX9_digest_47 : decode cX9_digest 47 = .ok (.iload 4, 2) := by decide +kernel
theorem dX9_digest_49 : decode cX9_digest 49 = .ok (.aload_n 0, 1) := by decide +kernel
theorem dX9_digest_50 : decode cX9_digest 50 = .ok (.getfield 7, 3) := by decide +kernel
theorem dX9_digest_53 : decode cX9_digest 53 = .ok (.iload_n 3, 1) := by decide +kernel
theorem dX9_digest_54 : decode cX9_digest 54 = .ok (.iaload, 1) := by decide +kernel
theorem dX9_digest_55 : decode cX9_digest 55 = .ok (.if_icmp .ge 24, 3) := by decide +kernel
theorem dX9_digest_58 : decode cX9_digest 58 = .ok (.ldc2_w 137, 3) := by decide +kernel
theorem dX9_digest_61 : decode cX9_digest 61 = .ok (.lload_n 1, 1) := by decide +kernel
theorem dX9_digest_62 : decode cX9_digest 62 = .ok (.lmul, 1) := by decide +kernel
theorem dX9_digest_63 : decode cX9_digest 63 = .ok (.aload_n 0, 1) := by decide +kernel
theorem dX9_digest_64 : decode cX9_digest 64 = .ok (.iload_n 3, 1) := by decide +kernel
theorem dX9_digest_65 : decode cX9_digest 65 = .ok (.iload 4, 2) := by decide +kernel
theorem dX9_digest_67 : decode cX9_digest 67 = .ok (.invokevirtual 46, 3) := by decide +kernel
theorem dX9_digest_70 : decode cX9_digest 70 = .ok (.i2l, 1) := by decide +kernel
theorem dX9_digest_71 : decode cX9_digest 71 = .ok (.ladd, 1) := by decide +kernel
theorem dX9_digest_72 : decode cX9_digest 72 = .ok (.lstore_n 1, 1) := by decide +kernel
theorem dX9_digest_73 : decode cX9_digest 73 = .ok (.iinc 4 1, 3) := by decide +kernel
theorem dX9_digest_76 : decode cX9_digest 76 = .ok (.goto (-29), 3) := by decide +kernel
theorem dX9_digest_79 : decode cX9_digest 79 = .ok (.iinc 3 1, 3) := by decide +kernel
theorem dX9_digest_82 : decode cX9_digest 82 = .ok (.goto (-57), 3) := by decide +kernel
theorem dX9_digest_85 : decode cX9_digest 85 = .ok (.ldc2_w 137, 3) := by decide +kernel
theorem dX9_digest_88 : decode cX9_digest 88 = .ok (.lload_n 1, 1) := by decide +kernel
theorem dX9_digest_89 : decode cX9_digest 89 = .ok (.lmul, 1) := by decide +kernel
theorem dX9_digest_90 : decode cX9_digest 90 = .ok (.aload_n 0, 1) := by decide +kernel
theorem dX9_digest_91 : decode cX9_digest 91 = .ok (.invokevirtual 112, 3) := by decide +kernel
theorem dX9_digest_94 : decode cX9_digest 94 = .ok (.i2l, 1) := by decide +kernel
theorem dX9_digest_95 : decode cX9_digest 95 = .ok (.ladd, 1) := by decide +kernel
theorem dX9_digest_96 : decode cX9_digest 96 = .ok (.lstore_n 1, 1) := by decide +kernel
theorem dX9_digest_97 : decode cX9_digest 97 = .ok (.aload_n 0, 1) := by decide +kernel
theorem dX9_digest_98 : decode cX9_digest 98 = .ok (.invokevirtual 116, 3) := by decide +kernel
theorem dX9_digest_101 : decode cX9_digest 101 = .ok (.ldc2_w 137, 3) := by decide +kernel
theorem dX9_digest_104 : decode cX9_digest 104 = .ok (.lload_n 1, 1) := by decide +kernel
theorem dX9_digest_105 : decode cX9_digest 105 = .ok (.lmul, 1) := by decide +kernel
theorem dX9_digest_106 : decode cX9_digest 106 = .ok (.aload_n 0, 1) := by decide +kernel
theorem dX9_digest_107 : decode cX9_digest 107 = .ok (.getfield 64, 3) := by decide +kernel
theorem dX9_digest_110 : decode cX9_digest 110 = .ok (.i2l, 1) := by decide +kernel
theorem dX9_digest_111 : decode cX9_digest 111 = .ok (.ladd, 1) := by decide +kernel
theorem dX9_digest_112 : decode cX9_digest 112 = .ok (.lstore_n 1, 1) := by decide +kernel
theorem dX9_digest_113 : decode cX9_digest 113 = .ok (.ldc2_w 137, 3) := by decide +kernel
theorem dX9_digest_116 : decode cX9_digest 116 = .ok (.lload_n 1, 1) := by decide +kernel
theorem dX9_digest_117 : decode cX9_digest 117 = .ok (.lmul, 1) := by decide +kernel
theorem dX9_digest_118 : decode cX9_digest 118 = .ok (.aload_n 0, 1) := by decide +kernel
theorem dX9_digest_119 : decode cX9_digest 119 = .ok (.invokevirtual 123, 3) := by decide +kernel
theorem dX9_digest_122 : decode cX9_digest 122 = .ok (.i2l, 1) := by decide +kernel
theorem dX9_digest_123 : decode cX9_digest 123 = .ok (.ladd, 1) := by decide +kernel
theorem dX9_digest_124 : decode cX9_digest 124 = .ok (.lstore_n 1, 1) := by decide +kernel
theorem dX9_digest_125 : decode cX9_digest 125 = .ok (.ldc2_w 137, 3) := by decide +kernel
theorem dX9_digest_128 : decode cX9_digest 128 = .ok (.lload_n 1, 1) := by decide +kernel
theorem dX9_digest_129 : decode cX9_digest 129 = .ok (.lmul, 1) := by decide +kernel
theorem dX9_digest_130 : decode cX9_digest 130 = .ok (.aload_n 0, 1) := by decide +kernel
theorem dX9_digest_131 : decode cX9_digest 131 = .ok (.invokevirtual 126, 3) := by decide +kernel
theorem dX9_digest_134 : decode cX9_digest 134 = .ok (.i2l, 1) := by decide +kernel
theorem dX9_digest_135 : decode cX9_digest 135 = .ok (.ladd, 1) := by decide +kernel
theorem dX9_digest_136 : decode cX9_digest 136 = .ok (.lstore_n 1, 1) := by decide +kernel
theorem dX9_digest_137 : decode cX9_digest 137 = .ok (.ldc2_w 137, 3) := by decide +kernel
theorem dX9_digest_140 : decode cX9_digest 140 = .ok (.lload_n 1, 1) := by decide +kernel
theorem dX9_digest_141 : decode cX9_digest 141 = .ok (.lmul, 1) := by decide +kernel
theorem dX9_digest_142 : decode cX9_digest 142 = .ok (.aload_n 0, 1) := by decide +kernel
theorem dX9_digest_143 : decode cX9_digest 143 = .ok (.getfield 73, 3) := by decide +kernel
theorem dX9_digest_146 : decode cX9_digest 146 = .ok (.i2l, 1) := by decide +kernel
theorem dX9_digest_147 : decode cX9_digest 147 = .ok (.ladd, 1) := by decide +kernel
theorem dX9_digest_148 : decode cX9_digest 148 = .ok (.lstore_n 1, 1) := by decide +kernel
theorem dX9_digest_149 : decode cX9_digest 149 = .ok (.ldc2_w 137, 3) := by decide +kernel
theorem dX9_digest_152 : decode cX9_digest 152 = .ok (.lload_n 1, 1) := by decide +kernel
theorem dX9_digest_153 : decode cX9_digest 153 = .ok (.lmul, 1) := by decide +kernel
theorem dX9_digest_154 : decode cX9_digest 154 = .ok (.aload_n 0, 1) := by decide +kernel
theorem dX9_digest_155 : decode cX9_digest 155 = .ok (.getfield 76, 3) := by decide +kernel
theorem dX9_digest_158 : decode cX9_digest 158 = .ok (.i2l, 1) := by decide +kernel
theorem dX9_digest_159 : decode cX9_digest 159 = .ok (.ladd, 1) := by decide +kernel
theorem dX9_digest_160 : decode cX9_digest 160 = .ok (.lstore_n 1, 1) := by decide +kernel
theorem dX9_digest_161 : decode cX9_digest 161 = .ok (.ldc2_w 137, 3) := by decide +kernel
theorem dX9_digest_164 : decode cX9_digest 164 = .ok (.lload_n 1, 1) := by decide +kernel
theorem dX9_digest_165 : decode cX9_digest 165 = .ok (.lmul, 1) := by decide +kernel
theorem dX9_digest_166 : decode cX9_digest 166 = .ok (.aload_n 0, 1) := by decide +kernel
theorem dX9_digest_167 : decode cX9_digest 167 = .ok (.getfield 79, 3) := by decide +kernel
theorem dX9_digest_170 : decode cX9_digest 170 = .ok (.i2l, 1) := by decide +kernel
theorem dX9_digest_171 : decode cX9_digest 171 = .ok (.ladd, 1) := by decide +kernel
theorem dX9_digest_172 : decode cX9_digest 172 = .ok (.lstore_n 1, 1) := by decide +kernel
theorem dX9_digest_173 : decode cX9_digest 173 = .ok (.ldc2_w 137, 3) := by decide +kernel
theorem dX9_digest_176 : decode cX9_digest 176 = .ok (.lload_n 1, 1) := by decide +kernel
theorem dX9_digest_177 : decode cX9_digest 177 = .ok (.lmul, 1) := by decide +kernel
theorem dX9_digest_178 : decode cX9_digest 178 = .ok (.aload_n 0, 1) := by decide +kernel
theorem dX9_digest_179 : decode cX9_digest 179 = .ok (.iconst 0, 1) := by decide +kernel
theorem dX9_digest_180 : decode cX9_digest 180 = .ok (.invokevirtual 119, 3) := by decide +kernel
theorem dX9_digest_183 : decode cX9_digest 183 = .ok (.i2l, 1) := by decide +kernel
theorem dX9_digest_184 : decode cX9_digest 184 = .ok (.ladd, 1) := by decide +kernel
theorem dX9_digest_185 : decode cX9_digest 185 = .ok (.lstore_n 1, 1) := by decide +kernel
theorem dX9_digest_186 : decode cX9_digest 186 = .ok (.aload_n 0, 1) := by decide +kernel
theorem dX9_digest_187 : decode cX9_digest 187 = .ok (.getfield 64, 3) := by decide +kernel
theorem dX9_digest_190 : decode cX9_digest 190 = .ok (.iconst 1, 1) := by decide +kernel
theorem dX9_digest_191 : decode cX9_digest 191 = .ok (.isub, 1) := by decide +kernel
theorem dX9_digest_192 : decode cX9_digest 192 = .ok (.istore_n 3, 1) := by decide +kernel
theorem dX9_digest_193 : decode cX9_digest 193 = .ok (.iload_n 3, 1) := by decide +kernel
theorem dX9_digest_194 : decode cX9_digest 194 = .ok (.ifCond .lt 23, 3) := by decide +kernel
theorem dX9_digest_197 : decode cX9_digest 197 = .ok (.ldc2_w 137, 3) := by decide +kernel
theorem dX9_digest_200 : decode cX9_digest 200 = .ok (.lload_n 1, 1) := by decide +kernel
theorem dX9_digest_201 : decode cX9_digest 201 = .ok (.lmul, 1) := by decide +kernel
theorem dX9_digest_202 : decode cX9_digest 202 = .ok (.aload_n 0, 1) := by decide +kernel
theorem dX9_digest_203 : decode cX9_digest 203 = .ok (.getfield 33, 3) := by decide +kernel
theorem dX9_digest_206 : decode cX9_digest 206 = .ok (.iload_n 3, 1) := by decide +kernel
theorem dX9_digest_207 : decode cX9_digest 207 = .ok (.iaload, 1) := by decide +kernel
theorem dX9_digest_208 : decode cX9_digest 208 = .ok (.i2l, 1) := by decide +kernel
theorem dX9_digest_209 : decode cX9_digest 209 = .ok (.ladd, 1) := by decide +kernel
theorem dX9_digest_210 : decode cX9_digest 210 = .ok (.lstore_n 1, 1) := by decide +kernel
theorem dX9_digest_211 : decode cX9_digest 211 = .ok (.iinc 3 (-1), 3) := by decide +kernel
theorem dX9_digest_214 : decode cX9_digest 214 = .ok (.goto (-21), 3) := by decide +kernel
theorem dX9_digest_217 : decode cX9_digest 217 = .ok (.ldc2_w 137, 3) := by decide +kernel
theorem dX9_digest_220 : decode cX9_digest 220 = .ok (.lload_n 1, 1) := by decide +kernel
theorem dX9_digest_221 : decode cX9_digest 221 = .ok (.lmul, 1) := by decide +kernel
theorem dX9_digest_222 : decode cX9_digest 222 = .ok (.aload_n 0, 1) := by decide +kernel
theorem dX9_digest_223 : decode cX9_digest 223 = .ok (.iconst 0, 1) := by decide +kernel
theorem dX9_digest_224 : decode cX9_digest 224 = .ok (.invokevirtual 132, 3) := by decide +kernel
theorem dX9_digest_227 : decode cX9_digest 227 = .ok (.i2l, 1) := by decide +kernel
theorem dX9_digest_228 : decode cX9_digest 228 = .ok (.ladd, 1) := by decide +kernel
theorem dX9_digest_229 : decode cX9_digest 229 = .ok (.lstore_n 1, 1) := by decide +kernel
theorem dX9_digest_230 : decode cX9_digest 230 = .ok (.ldc2_w 137, 3) := by decide +kernel
theorem dX9_digest_233 : decode cX9_digest 233 = .ok (.lload_n 1, 1) := by decide +kernel
theorem dX9_digest_234 : decode cX9_digest 234 = .ok (.lmul, 1) := by decide +kernel
theorem dX9_digest_235 : decode cX9_digest 235 = .ok (.aload_n 0, 1) := by decide +kernel
theorem dX9_digest_236 : decode cX9_digest 236 = .ok (.iconst 1, 1) := by decide +kernel
theorem dX9_digest_237 : decode cX9_digest 237 = .ok (.invokevirtual 132, 3) := by decide +kernel
theorem dX9_digest_240 : decode cX9_digest 240 = .ok (.i2l, 1) := by decide +kernel
theorem dX9_digest_241 : decode cX9_digest 241 = .ok (.ladd, 1) := by decide +kernel
theorem dX9_digest_242 : decode cX9_digest 242 = .ok (.lstore_n 1, 1) := by decide +kernel
theorem dX9_digest_243 : decode cX9_digest 243 = .ok (.aload_n 0, 1) := by decide +kernel
theorem dX9_digest_244 : decode cX9_digest 244 = .ok (.iconst 0, 1) := by decide +kernel
theorem dX9_digest_245 : decode cX9_digest 245 = .ok (.invokevirtual 60, 3) := by decide +kernel
theorem dX9_digest_248 : decode cX9_digest 248 = .ok (.iconst 0, 1) := by decide +kernel
theorem dX9_digest_249 : decode cX9_digest 249 = .ok (.istore_n 3, 1) := by decide +kernel
theorem dX9_digest_250 : decode cX9_digest 250 = .ok (.iload_n 3, 1) := by decide +kernel
theorem dX9_digest_251 : decode cX9_digest 251 = .ok (.aload_n 0, 1) := by decide +kernel
theorem dX9_digest_252 : decode cX9_digest 252 = .ok (.getfield 7, 3) := by decide +kernel
theorem dX9_digest_255 : decode cX9_digest 255 = .ok (.iconst 0, 1) := by decide +kernel
theorem dX9_digest_256 : decode cX9_digest 256 = .ok (.iaload, 1) := by decide +kernel
theorem dX9_digest_257 : decode cX9_digest 257 = .ok (.if_icmp .gt 44, 3) := by decide +kernel
theorem dX9_digest_260 : decode cX9_digest 260 = .ok (.iconst 0, 1) := by decide +kernel
theorem dX9_digest_261 : decode cX9_digest 261 = .ok (.istore 4, 2) := by decide +kernel
theorem dX9_digest_263 : decode cX9_digest 263 = .ok (.iload 4, 2) := by decide +kernel
theorem dX9_digest_265 : decode cX9_digest 265 = .ok (.aload_n 0, 1) := by decide +kernel
theorem dX9_digest_266 : decode cX9_digest 266 = .ok (.getfield 7, 3) := by decide +kernel
theorem dX9_digest_269 : decode cX9_digest 269 = .ok (.iconst 1, 1) := by decide +kernel
theorem dX9_digest_270 : decode cX9_digest 270 = .ok (.iaload, 1) := by decide +kernel
theorem dX9_digest_271 : decode cX9_digest 271 = .ok (.if_icmp .gt 24, 3) := by decide +kernel
theorem dX9_digest_274 : decode cX9_digest 274 = .ok (.ldc2_w 137, 3) := by decide +kernel
theorem dX9_digest_277 : decode cX9_digest 277 = .ok (.lload_n 1, 1) := by decide +kernel
theorem dX9_digest_278 : decode cX9_digest 278 = .ok (.lmul, 1) := by decide +kernel
theorem dX9_digest_279 : decode cX9_digest 279 = .ok (.aload_n 0, 1) := by decide +kernel
theorem dX9_digest_280 : decode cX9_digest 280 = .ok (.iload_n 3, 1) := by decide +kernel
theorem dX9_digest_281 : decode cX9_digest 281 = .ok (.iload 4, 2) := by decide +kernel
theorem dX9_digest_283 : decode cX9_digest 283 = .ok (.invokevirtual 50, 3) := by decide +kernel
theorem dX9_digest_286 : decode cX9_digest 286 = .ok (.i2l, 1) := by decide +kernel
theorem dX9_digest_287 : decode cX9_digest 287 = .ok (.ladd, 1) := by decide +kernel
theorem dX9_digest_288 : decode cX9_digest 288 = .ok (.lstore_n 1, 1) := by decide +kernel
theorem dX9_digest_289 : decode cX9_digest 289 = .ok (.iinc 4 1, 3) := by decide +kernel
theorem dX9_digest_292 : decode cX9_digest 292 = .ok (.goto (-29), 3) := by decide +kernel
theorem dX9_digest_295 : decode cX9_digest 295 = .ok (.iinc 3 1, 3) := by decide +kernel
theorem dX9_digest_298 : decode cX9_digest 298 = .ok (.goto (-48), 3) := by decide +kernel
theorem dX9_digest_301 : decode cX9_digest 301 = .ok (.lload_n 1, 1) := by decide +kernel
theorem dX9_digest_302 : decode cX9_digest 302 = .ok (.lreturn, 1) := by decide +kernel
theorem dL_load_0 : decode cL_load 0 = .ok (.aload_n 1, 1) := by decide +kernel
theorem dL_load_1 : decode cL_load 1 = .ok (.iconst 0, 1) := by decide +kernel
theorem dL_load_2 : decode cL_load 2 = .ok (.aload_n 0, 1) := by decide +kernel
theorem dL_load_3 : decode cL_load 3 = .ok (.invokevirtual 7, 3) := by decide +kernel
theorem dL_load_6 : decode cL_load 6 = .ok (.i2l, 1) := by decide +kernel
theorem dL_load_7 : decode cL_load 7 = .ok (.lastore, 1) := by decide +kernel
theorem dL_load_8 : decode cL_load 8 = .ok (.goto 6, 3) := by decide +kernel
theorem dL_load_11 : decode cL_load 11 = .ok (.astore_n 2, 1) := by decide +kernel
theorem dL_load_12 : decode cL_load 12 = .ok (.iconst 1, 1) := by decide +kernel
theorem dL_load_13 : decode cL_load 13 = .ok (.ireturn, 1) := by decide +kernel
theorem dL_load_14 : decode cL_load 14 = .ok (.iconst 0, 1) := by decide +kernel
theorem dL_load_15 : decode cL_load 15 = .ok (.ireturn, 1) := by decide +kernel
theorem dL_insert_0 : decode cL_insert 0 = .ok (.aload 4, 2) := by decide +kernel
theorem dL_insert_2 : decode cL_insert 2 = .ok (.iconst 0, 1) := by decide +kernel
theorem dL_insert_3 : decode cL_insert 3 = .ok (.aload_n 0, 1) := by decide +kernel
theorem dL_insert_4 : decode cL_insert 4 = .ok (.iload_n 1, 1) := by decide +kernel
theorem dL_insert_5 : decode cL_insert 5 = .ok (.iload_n 2, 1) := by decide +kernel
theorem dL_insert_6 : decode cL_insert 6 = .ok (.iload_n 3, 1) := by decide +kernel
theorem dL_insert_7 : decode cL_insert 7 = .ok (.invokevirtual 15, 3) := by decide +kernel
theorem dL_insert_10 : decode cL_insert 10 = .ok (.i2l, 1) := by decide +kernel
theorem dL_insert_11 : decode cL_insert 11 = .ok (.lastore, 1) := by decide +kernel
theorem dL_insert_12 : decode cL_insert 12 = .ok (.goto 15, 3) := by decide +kernel
theorem dL_insert_15 : decode cL_insert 15 = .ok (.astore 5, 2) := by decide +kernel
theorem dL_insert_17 : decode cL_insert 17 = .ok (.iconst 1, 1) := by decide +kernel
theorem dL_insert_18 : decode cL_insert 18 = .ok (.ireturn, 1) := by decide +kernel
theorem dL_insert_19 : decode cL_insert 19 = .ok (.astore 5, 2) := by decide +kernel
theorem dL_insert_21 : decode cL_insert 21 = .ok (.iconst 2, 1) := by decide +kernel
theorem dL_insert_22 : decode cL_insert 22 = .ok (.ireturn, 1) := by decide +kernel
theorem dL_insert_23 : decode cL_insert 23 = .ok (.astore 5, 2) := by decide +kernel
theorem dL_insert_25 : decode cL_insert 25 = .ok (.iconst 3, 1) := by decide +kernel
theorem dL_insert_26 : decode cL_insert 26 = .ok (.ireturn, 1) := by decide +kernel
theorem dL_insert_27 : decode cL_insert 27 = .ok (.iconst 0, 1) := by decide +kernel
theorem dL_insert_28 : decode cL_insert 28 = .ok (.ireturn, 1) := by decide +kernel
theorem dL_remove_0 : decode cL_remove 0 = .ok (.aload_n 3, 1) := by decide +kernel
theorem dL_remove_1 : decode cL_remove 1 = .ok (.iconst 0, 1) := by decide +kernel
theorem dL_remove_2 : decode cL_remove 2 = .ok (.aload_n 0, 1) := by decide +kernel
theorem dL_remove_3 : decode cL_remove 3 = .ok (.iload_n 1, 1) := by decide +kernel
theorem dL_remove_4 : decode cL_remove 4 = .ok (.iload_n 2, 1) := by decide +kernel
theorem dL_remove_5 : decode cL_remove 5 = .ok (.invokevirtual 23, 3) := by decide +kernel
theorem dL_remove_8 : decode cL_remove 8 = .ok (.i2l, 1) := by decide +kernel
theorem dL_remove_9 : decode cL_remove 9 = .ok (.lastore, 1) := by decide +kernel
theorem dL_remove_10 : decode cL_remove 10 = .ok (.goto 7, 3) := by decide +kernel
theorem dL_remove_13 : decode cL_remove 13 = .ok (.astore 4, 2) := by decide +kernel
theorem dL_remove_15 : decode cL_remove 15 = .ok (.iconst 1, 1) := by decide +kernel
theorem dL_remove_16 : decode cL_remove 16 = .ok (.ireturn, 1) := by decide +kernel
theorem dL_remove_17 : decode cL_remove 17 = .ok (.iconst 0, 1) := by decide +kernel
theorem dL_remove_18 : decode cL_remove 18 = .ok (.ireturn, 1) := by decide +kernel
theorem dL_replace_0 : decode cL_replace 0 = .ok (.aload 4, 2) := by decide +kernel
theorem dL_replace_2 : decode cL_replace 2 = .ok (.iconst 0, 1) := by decide +kernel
theorem dL_replace_3 : decode cL_replace 3 = .ok (.aload_n 0, 1) := by decide +kernel
theorem dL_replace_4 : decode cL_replace 4 = .ok (.iload_n 1, 1) := by decide +kernel
theorem dL_replace_5 : decode cL_replace 5 = .ok (.iload_n 2, 1) := by decide +kernel
theorem dL_replace_6 : decode cL_replace 6 = .ok (.iload_n 3, 1) := by decide +kernel
theorem dL_replace_7 : decode cL_replace 7 = .ok (.invokevirtual 27, 3) := by decide +kernel
theorem dL_replace_10 : decode cL_replace 10 = .ok (.i2l, 1) := by decide +kernel
theorem dL_replace_11 : decode cL_replace 11 = .ok (.lastore, 1) := by decide +kernel
theorem dL_replace_12 : decode cL_replace 12 = .ok (.goto 11, 3) := by decide +kernel
theorem dL_replace_15 : decode cL_replace 15 = .ok (.astore 5, 2) := by decide +kernel
theorem dL_replace_17 : decode cL_replace 17 = .ok (.iconst 1, 1) := by decide +kernel
theorem dL_replace_18 : decode cL_replace 18 = .ok (.ireturn, 1) := by decide +kernel
theorem dL_replace_19 : decode cL_replace 19 = .ok (.astore 5, 2) := by decide +kernel
theorem dL_replace_21 : decode cL_replace 21 = .ok (.iconst 2, 1) := by decide +kernel
theorem dL_replace_22 : decode cL_replace 22 = .ok (.ireturn, 1) := by decide +kernel
theorem dL_replace_23 : decode cL_replace 23 = .ok (.iconst 0, 1) := by decide +kernel
theorem dL_replace_24 : decode cL_replace 24 = .ok (.ireturn, 1) := by decide +kernel
theorem dL_setAlphabet_0 : decode cL_setAlphabet 0 = .ok (.aload_n 2, 1) := by decide +kernel
theorem dL_setAlphabet_1 : decode cL_setAlphabet 1 = .ok (.iconst 0, 1) := by decide +kernel
theorem dL_setAlphabet_2 : decode cL_setAlphabet 2 = .ok (.aload_n 0, 1) := by decide +kernel
theorem dL_setAlphabet_3 : decode cL_setAlphabet 3 = .ok (.iload_n 1, 1) := by decide +kernel
theorem dL_setAlphabet_4 : decode cL_setAlphabet 4 = .ok (.invokevirtual 30, 3) := by decide +kernel
theorem dL_setAlphabet_7 : decode cL_setAlphabet 7 = .ok (.i2l, 1) := by decide +kernel
theorem dL_setAlphabet_8 : decode cL_setAlphabet 8 = .ok (.lastore, 1) := by decide +kernel
theorem dL_setAlphabet_9 : decode cL_setAlphabet 9 = .ok (.goto 9, 3) := by decide +kernel
theorem dL_setAlphabet_12 : decode cL_setAlphabet 12 = .ok (.astore_n 3, 1) := by decide +kernel
theorem dL_setAlphabet_13 : decode cL_setAlphabet 13 = .ok (.iconst 1, 1) := by decide +kernel
theorem dL_setAlphabet_14 : decode cL_setAlphabet 14 = .ok (.ireturn, 1) := by decide +kernel
theorem dL_setAlphabet_15 : decode cL_setAlphabet 15 = .ok (.astore_n 3, 1) := by decide +kernel
theorem dL_setAlphabet_16 : decode cL_setAlphabet 16 = .ok (.iconst 2, 1) := by decide +kernel
theorem dL_setAlphabet_17 : decode cL_setAlphabet 17 = .ok (.ireturn, 1) := by decide +kernel
theorem dL_setAlphabet_18 : decode cL_setAlphabet 18 = .ok (.iconst 0, 1) := by decide +kernel
theorem dL_setAlphabet_19 : decode cL_setAlphabet 19 = .ok (.ireturn, 1) := by decide +kernel
theorem dL_length_0 : decode cL_length 0 = .ok (.aload_n 2, 1) := by decide +kernel
theorem dL_length_1 : decode cL_length 1 = .ok (.iconst 0, 1) := by decide +kernel
theorem dL_length_2 : decode cL_length 2 = .ok (.aload_n 0, 1) := by decide +kernel
theorem dL_length_3 : decode cL_length 3 = .ok (.iload_n 1, 1) := by decide +kernel
theorem dL_length_4 : decode cL_length 4 = .ok (.invokevirtual 34, 3) := by decide +kernel
theorem dL_length_7 : decode cL_length 7 = .ok (.i2l, 1) := by decide +kernel
theorem dL_length_8 : decode cL_length 8 = .ok (.lastore, 1) := by decide +kernel
theorem dL_length_9 : decode cL_length 9 = .ok (.goto 6, 3) := by decide +kernel
theorem dL_length_12 : decode cL_length 12 = .ok (.astore_n 3, 1) := by decide +kernel
theorem dL_length_13 : decode cL_length 13 = .ok (.iconst 1, 1) := by decide +kernel
theorem dL_length_14 : decode cL_length 14 = .ok (.ireturn, 1) := by decide +kernel
theorem dL_length_15 : decode cL_length 15 = .ok (.iconst 0, 1) := by decide +kernel
theorem dL_length_16 : decode cL_length 16 = .ok (.ireturn, 1) := by decide +kernel
theorem dL_letter_0 : decode cL_letter 0 = .ok (.aload_n 3, 1) := by decide +kernel
theorem dL_letter_1 : decode cL_letter 1 = .ok (.iconst 0, 1) := by decide +kernel
theorem dL_letter_2 : decode cL_letter 2 = .ok (.aload_n 0, 1) := by decide +kernel
theorem dL_letter_3 : decode cL_letter 3 = .ok (.iload_n 1, 1) := by decide +kernel
theorem dL_letter_4 : decode cL_letter 4 = .ok (.iload_n 2, 1) := by decide +kernel
theorem dL_letter_5 : decode cL_letter 5 = .ok (.invokevirtual 37, 3) := by decide +kernel
theorem dL_letter_8 : decode cL_letter 8 = .ok (.i2l, 1) := by decide +kernel
theorem dL_letter_9 : decode cL_letter 9 = .ok (.lastore, 1) := by decide +kernel
theorem dL_letter_10 : decode cL_letter 10 = .ok (.goto 7, 3) := by decide +kernel
theorem dL_letter_13 : decode cL_letter 13 = .ok (.astore 4, 2) := by decide +kernel
theorem dL_letter_15 : decode cL_letter 15 = .ok (.iconst 1, 1) := by decide +kernel
theorem dL_letter_16 : decode cL_letter 16 = .ok (.ireturn, 1) := by decide +kernel
theorem dL_letter_17 : decode cL_letter 17 = .ok (.iconst 0, 1) := by decide +kernel
theorem dL_letter_18 : decode cL_letter 18 = .ok (.ireturn, 1) := by decide +kernel
theorem dL_prefix_0 : decode cL_prefix 0 = .ok (.aload_n 3, 1) := by decide +kernel
theorem dL_prefix_1 : decode cL_prefix 1 = .ok (.iconst 0, 1) := by decide +kernel
theorem dL_prefix_2 : decode cL_prefix 2 = .ok (.aload_n 0, 1) := by decide +kernel
theorem dL_prefix_3 : decode cL_prefix 3 = .ok (.iload_n 1, 1) := by decide +kernel
theorem dL_prefix_4 : decode cL_prefix 4 = .ok (.iload_n 2, 1) := by decide +kernel
theorem dL_prefix_5 : decode cL_prefix 5 = .ok (.invokevirtual 40, 3) := by decide +kernel
theorem dL_prefix_8 : decode cL_prefix 8 = .ok (.i2l, 1) := by decide +kernel
theorem dL_prefix_9 : decode cL_prefix 9 = .ok (.lastore, 1) := by decide +kernel
theorem dL_prefix_10 : decode cL_prefix 10 = .ok (.goto 7, 3) := by decide +kernel
theorem dL_prefix_13 : decode cL_prefix 13 = .ok (.astore 4, 2) := by decide +kernel
theorem dL_prefix_15 : decode cL_prefix 15 = .ok (.iconst 1, 1) := by decide +kernel
theorem dL_prefix_16 : decode cL_prefix 16 = .ok (.ireturn, 1) := by decide +kernel
theorem dL_prefix_17 : decode cL_prefix 17 = .ok (.iconst 0, 1) := by decide +kernel
theorem dL_prefix_18 : decode cL_prefix 18 = .ok (.ireturn, 1) := by decide +kernel
theorem dL_step_0 : decode cL_step 0 = .ok (.aload_n 2, 1) := by decide +kernel
theorem dL_step_1 : decode cL_step 1 = .ok (.iconst 0, 1) := by decide +kernel
theorem dL_step_2 : decode cL_step 2 = .ok (.aload_n 0, 1) := by decide +kernel
theorem dL_step_3 : decode cL_step 3 = .ok (.iload_n 1, 1) := by decide +kernel
theorem dL_step_4 : decode cL_step 4 = .ok (.invokevirtual 43, 3) := by decide +kernel
theorem dL_step_7 : decode cL_step 7 = .ok (.i2l, 1) := by decide +kernel
theorem dL_step_8 : decode cL_step 8 = .ok (.lastore, 1) := by decide +kernel
theorem dL_step_9 : decode cL_step 9 = .ok (.goto 6, 3) := by decide +kernel
theorem dL_step_12 : decode cL_step 12 = .ok (.astore_n 3, 1) := by decide +kernel
theorem dL_step_13 : decode cL_step 13 = .ok (.iconst 1, 1) := by decide +kernel
theorem dL_step_14 : decode cL_step 14 = .ok (.ireturn, 1) := by decide +kernel
theorem dL_step_15 : decode cL_step 15 = .ok (.iconst 0, 1) := by decide +kernel
theorem dL_step_16 : decode cL_step 16 = .ok (.ireturn, 1) := by decide +kernel
theorem dL_count_0 : decode cL_count 0 = .ok (.aload_n 2, 1) := by decide +kernel
theorem dL_count_1 : decode cL_count 1 = .ok (.iconst 0, 1) := by decide +kernel
theorem dL_count_2 : decode cL_count 2 = .ok (.aload_n 0, 1) := by decide +kernel
theorem dL_count_3 : decode cL_count 3 = .ok (.iload_n 1, 1) := by decide +kernel
theorem dL_count_4 : decode cL_count 4 = .ok (.invokevirtual 46, 3) := by decide +kernel
theorem dL_count_7 : decode cL_count 7 = .ok (.i2l, 1) := by decide +kernel
theorem dL_count_8 : decode cL_count 8 = .ok (.lastore, 1) := by decide +kernel
theorem dL_count_9 : decode cL_count 9 = .ok (.goto 6, 3) := by decide +kernel
theorem dL_count_12 : decode cL_count 12 = .ok (.astore_n 3, 1) := by decide +kernel
theorem dL_count_13 : decode cL_count 13 = .ok (.iconst 1, 1) := by decide +kernel
theorem dL_count_14 : decode cL_count 14 = .ok (.ireturn, 1) := by decide +kernel
theorem dL_count_15 : decode cL_count 15 = .ok (.iconst 0, 1) := by decide +kernel
theorem dL_count_16 : decode cL_count 16 = .ok (.ireturn, 1) := by decide +kernel
theorem dL_within_0 : decode cL_within 0 = .ok (.aload_n 2, 1) := by decide +kernel
theorem dL_within_1 : decode cL_within 1 = .ok (.iconst 0, 1) := by decide +kernel
theorem dL_within_2 : decode cL_within 2 = .ok (.aload_n 0, 1) := by decide +kernel
theorem dL_within_3 : decode cL_within 3 = .ok (.iload_n 1, 1) := by decide +kernel
theorem dL_within_4 : decode cL_within 4 = .ok (.invokevirtual 49, 3) := by decide +kernel
theorem dL_within_7 : decode cL_within 7 = .ok (.i2l, 1) := by decide +kernel
theorem dL_within_8 : decode cL_within 8 = .ok (.lastore, 1) := by decide +kernel
theorem dL_within_9 : decode cL_within 9 = .ok (.goto 6, 3) := by decide +kernel
theorem dL_within_12 : decode cL_within 12 = .ok (.astore_n 3, 1) := by decide +kernel
theorem dL_within_13 : decode cL_within 13 = .ok (.iconst 1, 1) := by decide +kernel
theorem dL_within_14 : decode cL_within 14 = .ok (.ireturn, 1) := by decide +kernel
theorem dL_within_15 : decode cL_within 15 = .ok (.iconst 0, 1) := by decide +kernel
theorem dL_within_16 : decode cL_within 16 = .ok (.ireturn, 1) := by decide +kernel
theorem dL_band_0 : decode cL_band 0 = .ok (.aload_n 2, 1) := by decide +kernel
theorem dL_band_1 : decode cL_band 1 = .ok (.iconst 0, 1) := by decide +kernel
theorem dL_band_2 : decode cL_band 2 = .ok (.aload_n 0, 1) := by decide +kernel
theorem dL_band_3 : decode cL_band 3 = .ok (.iload_n 1, 1) := by decide +kernel
theorem dL_band_4 : decode cL_band 4 = .ok (.invokevirtual 52, 3) := by decide +kernel
theorem dL_band_7 : decode cL_band 7 = .ok (.i2l, 1) := by decide +kernel
theorem dL_band_8 : decode cL_band 8 = .ok (.lastore, 1) := by decide +kernel
theorem dL_band_9 : decode cL_band 9 = .ok (.goto 6, 3) := by decide +kernel
theorem dL_band_12 : decode cL_band 12 = .ok (.astore_n 3, 1) := by decide +kernel
theorem dL_band_13 : decode cL_band 13 = .ok (.iconst 1, 1) := by decide +kernel
theorem dL_band_14 : decode cL_band 14 = .ok (.ireturn, 1) := by decide +kernel
theorem dL_band_15 : decode cL_band 15 = .ok (.iconst 0, 1) := by decide +kernel
theorem dL_band_16 : decode cL_band 16 = .ok (.ireturn, 1) := by decide +kernel
theorem dL_setBlock_0 : decode cL_setBlock 0 = .ok (.aload_n 2, 1) := by decide +kernel
theorem dL_setBlock_1 : decode cL_setBlock 1 = .ok (.iconst 0, 1) := by decide +kernel
theorem dL_setBlock_2 : decode cL_setBlock 2 = .ok (.aload_n 0, 1) := by decide +kernel
theorem dL_setBlock_3 : decode cL_setBlock 3 = .ok (.iload_n 1, 1) := by decide +kernel
theorem dL_setBlock_4 : decode cL_setBlock 4 = .ok (.invokevirtual 55, 3) := by decide +kernel
theorem dL_setBlock_7 : decode cL_setBlock 7 = .ok (.i2l, 1) := by decide +kernel
theorem dL_setBlock_8 : decode cL_setBlock 8 = .ok (.lastore, 1) := by decide +kernel
theorem dL_setBlock_9 : decode cL_setBlock 9 = .ok (.goto 6, 3) := by decide +kernel
theorem dL_setBlock_12 : decode cL_setBlock 12 = .ok (.astore_n 3, 1) := by decide +kernel
theorem dL_setBlock_13 : decode cL_setBlock 13 = .ok (.iconst 1, 1) := by decide +kernel
theorem dL_setBlock_14 : decode cL_setBlock 14 = .ok (.ireturn, 1) := by decide +kernel
theorem dL_setBlock_15 : decode cL_setBlock 15 = .ok (.iconst 0, 1) := by decide +kernel
theorem dL_setBlock_16 : decode cL_setBlock 16 = .ok (.ireturn, 1) := by decide +kernel
theorem dL_across_0 : decode cL_across 0 = .ok (.aload_n 3, 1) := by decide +kernel
theorem dL_across_1 : decode cL_across 1 = .ok (.iconst 0, 1) := by decide +kernel
theorem dL_across_2 : decode cL_across 2 = .ok (.aload_n 0, 1) := by decide +kernel
theorem dL_across_3 : decode cL_across 3 = .ok (.iload_n 1, 1) := by decide +kernel
theorem dL_across_4 : decode cL_across 4 = .ok (.iload_n 2, 1) := by decide +kernel
theorem dL_across_5 : decode cL_across 5 = .ok (.invokevirtual 58, 3) := by decide +kernel
theorem dL_across_8 : decode cL_across 8 = .ok (.i2l, 1) := by decide +kernel
theorem dL_across_9 : decode cL_across 9 = .ok (.lastore, 1) := by decide +kernel
theorem dL_across_10 : decode cL_across 10 = .ok (.goto 7, 3) := by decide +kernel
theorem dL_across_13 : decode cL_across 13 = .ok (.astore 4, 2) := by decide +kernel
theorem dL_across_15 : decode cL_across 15 = .ok (.iconst 1, 1) := by decide +kernel
theorem dL_across_16 : decode cL_across 16 = .ok (.ireturn, 1) := by decide +kernel
theorem dL_across_17 : decode cL_across 17 = .ok (.iconst 0, 1) := by decide +kernel
theorem dL_across_18 : decode cL_across 18 = .ok (.ireturn, 1) := by decide +kernel
theorem dL_ifReplaced_0 : decode cL_ifReplaced 0 = .ok (.aload 4, 2) := by decide +kernel
theorem dL_ifReplaced_2 : decode cL_ifReplaced 2 = .ok (.iconst 0, 1) := by decide +kernel
theorem dL_ifReplaced_3 : decode cL_ifReplaced 3 = .ok (.aload_n 0, 1) := by decide +kernel
theorem dL_ifReplaced_4 : decode cL_ifReplaced 4 = .ok (.iload_n 1, 1) := by decide +kernel
theorem dL_ifReplaced_5 : decode cL_ifReplaced 5 = .ok (.iload_n 2, 1) := by decide +kernel
theorem dL_ifReplaced_6 : decode cL_ifReplaced 6 = .ok (.iload_n 3, 1) := by decide +kernel
theorem dL_ifReplaced_7 : decode cL_ifReplaced 7 = .ok (.invokevirtual 61, 3) := by decide +kernel
theorem dL_ifReplaced_10 : decode cL_ifReplaced 10 = .ok (.i2l, 1) := by decide +kernel
theorem dL_ifReplaced_11 : decode cL_ifReplaced 11 = .ok (.lastore, 1) := by decide +kernel
theorem dL_ifReplaced_12 : decode cL_ifReplaced 12 = .ok (.goto 11, 3) := by decide +kernel
theorem dL_ifReplaced_15 : decode cL_ifReplaced 15 = .ok (.astore 5, 2) := by decide +kernel
theorem dL_ifReplaced_17 : decode cL_ifReplaced 17 = .ok (.iconst 1, 1) := by decide +kernel
theorem dL_ifReplaced_18 : decode cL_ifReplaced 18 = .ok (.ireturn, 1) := by decide +kernel
theorem dL_ifReplaced_19 : decode cL_ifReplaced 19 = .ok (.astore 5, 2) := by decide +kernel
theorem dL_ifReplaced_21 : decode cL_ifReplaced 21 = .ok (.iconst 2, 1) := by decide +kernel
theorem dL_ifReplaced_22 : decode cL_ifReplaced 22 = .ok (.ireturn, 1) := by decide +kernel
theorem dL_ifReplaced_23 : decode cL_ifReplaced 23 = .ok (.iconst 0, 1) := by decide +kernel
theorem dL_ifReplaced_24 : decode cL_ifReplaced 24 = .ok (.ireturn, 1) := by decide +kernel
theorem dL_bestReplacement_0 : decode cL_bestReplacement 0 = .ok (.aload_n 2, 1) := by decide +kernel
theorem dL_bestReplacement_1 : decode cL_bestReplacement 1 = .ok (.iconst 0, 1) := by decide +kernel
theorem dL_bestReplacement_2 : decode cL_bestReplacement 2 = .ok (.aload_n 0, 1) := by decide +kernel
theorem dL_bestReplacement_3 : decode cL_bestReplacement 3 = .ok (.iload_n 1, 1) := by decide +kernel
theorem dL_bestReplacement_4 : decode cL_bestReplacement 4 = .ok (.invokevirtual 64, 3) := by decide +kernel
theorem dL_bestReplacement_7 : decode cL_bestReplacement 7 = .ok (.i2l, 1) := by decide +kernel
theorem dL_bestReplacement_8 : decode cL_bestReplacement 8 = .ok (.lastore, 1) := by decide +kernel
theorem dL_bestReplacement_9 : decode cL_bestReplacement 9 = .ok (.goto 6, 3) := by decide +kernel
theorem dL_bestReplacement_12 : decode cL_bestReplacement 12 = .ok (.astore_n 3, 1) := by decide +kernel
theorem dL_bestReplacement_13 : decode cL_bestReplacement 13 = .ok (.iconst 1, 1) := by decide +kernel
theorem dL_bestReplacement_14 : decode cL_bestReplacement 14 = .ok (.ireturn, 1) := by decide +kernel
theorem dL_bestReplacement_15 : decode cL_bestReplacement 15 = .ok (.iconst 0, 1) := by decide +kernel
theorem dL_bestReplacement_16 : decode cL_bestReplacement 16 = .ok (.ireturn, 1) := by decide +kernel
theorem dL_append_0 : decode cL_append 0 = .ok (.aload_n 2, 1) := by decide +kernel
theorem dL_append_1 : decode cL_append 1 = .ok (.iconst 0, 1) := by decide +kernel
theorem dL_append_2 : decode cL_append 2 = .ok (.aload_n 0, 1) := by decide +kernel
theorem dL_append_3 : decode cL_append 3 = .ok (.iload_n 1, 1) := by decide +kernel
theorem dL_append_4 : decode cL_append 4 = .ok (.invokevirtual 67, 3) := by decide +kernel
theorem dL_append_7 : decode cL_append 7 = .ok (.i2l, 1) := by decide +kernel
theorem dL_append_8 : decode cL_append 8 = .ok (.lastore, 1) := by decide +kernel
theorem dL_append_9 : decode cL_append 9 = .ok (.goto 9, 3) := by decide +kernel
theorem dL_append_12 : decode cL_append 12 = .ok (.astore_n 3, 1) := by decide +kernel
theorem dL_append_13 : decode cL_append 13 = .ok (.iconst 1, 1) := by decide +kernel
theorem dL_append_14 : decode cL_append 14 = .ok (.ireturn, 1) := by decide +kernel
theorem dL_append_15 : decode cL_append 15 = .ok (.astore_n 3, 1) := by decide +kernel
theorem dL_append_16 : decode cL_append 16 = .ok (.iconst 2, 1) := by decide +kernel
theorem dL_append_17 : decode cL_append 17 = .ok (.ireturn, 1) := by decide +kernel
theorem dL_append_18 : decode cL_append 18 = .ok (.iconst 0, 1) := by decide +kernel
theorem dL_append_19 : decode cL_append 19 = .ok (.ireturn, 1) := by decide +kernel
theorem dL_undo_0 : decode cL_undo 0 = .ok (.aload_n 1, 1) := by decide +kernel
theorem dL_undo_1 : decode cL_undo 1 = .ok (.iconst 0, 1) := by decide +kernel
theorem dL_undo_2 : decode cL_undo 2 = .ok (.aload_n 0, 1) := by decide +kernel
theorem dL_undo_3 : decode cL_undo 3 = .ok (.invokevirtual 70, 3) := by decide +kernel
theorem dL_undo_6 : decode cL_undo 6 = .ok (.i2l, 1) := by decide +kernel
theorem dL_undo_7 : decode cL_undo 7 = .ok (.lastore, 1) := by decide +kernel
theorem dL_undo_8 : decode cL_undo 8 = .ok (.goto 6, 3) := by decide +kernel
theorem dL_undo_11 : decode cL_undo 11 = .ok (.astore_n 2, 1) := by decide +kernel
theorem dL_undo_12 : decode cL_undo 12 = .ok (.iconst 1, 1) := by decide +kernel
theorem dL_undo_13 : decode cL_undo 13 = .ok (.ireturn, 1) := by decide +kernel
theorem dL_undo_14 : decode cL_undo 14 = .ok (.iconst 0, 1) := by decide +kernel
theorem dL_undo_15 : decode cL_undo 15 = .ok (.ireturn, 1) := by decide +kernel
theorem dL_law_0 : decode cL_law 0 = .ok (.new 8, 3) := by decide +kernel
theorem dL_law_3 : decode cL_law 3 = .ok (.dup, 1) := by decide +kernel
theorem dL_law_4 : decode cL_law 4 = .ok (.invokespecial 73, 3) := by decide +kernel
theorem dL_law_7 : decode cL_law 7 = .ok (.astore_n 1, 1) := by decide +kernel
theorem dL_law_8 : decode cL_law 8 = .ok (.new 74, 3) := by decide +kernel
theorem dL_law_11 : decode cL_law 11 = .ok (.dup, 1) := by decide +kernel
theorem dL_law_12 : decode cL_law 12 = .ok (.invokespecial 76, 3) := by decide +kernel
theorem dL_law_15 : decode cL_law 15 = .ok (.astore_n 2, 1) := by decide +kernel
theorem dL_law_16 : decode cL_law 16 = .ok (.iconst 1, 1) := by decide +kernel
theorem dL_law_17 : decode cL_law 17 = .ok (.newarray .long, 2) := by decide +kernel
theorem dL_law_19 : decode cL_law 19 = .ok (.astore_n 3, 1) := by decide +kernel
theorem dL_law_20 : decode cL_law 20 = .ok (.iconst 0, 1) := by decide +kernel
theorem dL_law_21 : decode cL_law 21 = .ok (.istore 4, 2) := by decide +kernel
theorem dL_law_23 : decode cL_law 23 = .ok (.iload 4, 2) := by decide +kernel
theorem dL_law_25 : decode cL_law 25 = .ok (.aload_n 0, 1) := by decide +kernel
theorem dL_law_26 : decode cL_law 26 = .ok (.arraylength, 1) := by decide +kernel
theorem dL_law_27 : decode cL_law 27 = .ok (.iconst 4, 1) := by decide +kernel
theorem dL_law_28 : decode cL_law 28 = .ok (.isub, 1) := by decide +kernel
theorem dL_law_29 : decode cL_law 29 = .ok (.if_icmp .gt 1489, 3) := by decide +kernel
theorem dL_law_32 : decode cL_law 32 = .ok (.aload_n 0, 1) := by decide +kernel
theorem dL_law_33 : decode cL_law 33 = .ok (.iload 4, 2) := by decide +kernel
theorem dL_law_35 : decode cL_law 35 = .ok (.iaload, 1) := by decide +kernel
theorem dL_law_36 : decode cL_law 36 = .ok (.bipush 63, 2) := by decide +kernel
theorem dL_law_38 : decode cL_law 38 = .ok (.iand, 1) := by decide +kernel
theorem dL_law_39 : decode cL_law 39 = .ok (.tableswitch 1473 0 32 #[145, 189, 269, 337, 417, 430, 486, 542, 610, 623, 691, 704, 760, 816, 872, 928, 969, 1025, 1038, 1051, 1064, 1077, 1145, 1158, 1171, 1251, 1307, 1320, 1376, 1389, 1402, 1446, 1459], 145) := by decide +kernel
theorem dL_law_184 : decode cL_law 184 = .ok (.aload_n 1, 1) := by decide +kernel
theorem dL_law_185 : decode cL_law 185 = .ok (.aload_n 3, 1) := by decide +kernel
theorem dL_law_186 : decode cL_law 186 = .ok (.invokestatic 77, 3) := by decide +kernel
theorem dL_law_189 : decode cL_law 189 = .ok (.istore 5, 2) := by decide +kernel
theorem dL_law_191 : decode cL_law 191 = .ok (.aload_n 2, 1) := by decide +kernel
theorem dL_law_192 : decode cL_law 192 = .ok (.invokevirtual 82, 3) := by decide +kernel
theorem dL_law_195 : decode cL_law 195 = .ok (.istore 6, 2) := by decide +kernel
theorem dL_law_197 : decode cL_law 197 = .ok (.aload_n 2, 1) := by decide +kernel
theorem dL_law_198 : decode cL_law 198 = .ok (.invokevirtual 83, 3) := by decide +kernel
theorem dL_law_201 : decode cL_law 201 = .ok (.iload 5, 2) := by decide +kernel
theorem dL_law_203 : decode cL_law 203 = .ok (.if_icmp .eq 5, 3) := by decide +kernel
theorem dL_law_206 : decode cL_law 206 = .ok (.iconst 0, 1) := by decide +kernel
theorem dL_law_207 : decode cL_law 207 = .ok (.ireturn, 1) := by decide +kernel
theorem dL_law_208 : decode cL_law 208 = .ok (.iload 5, 2) := by decide +kernel
theorem dL_law_210 : decode cL_law 210 = .ok (.ifCond .ne 15, 3) := by decide +kernel
theorem dL_law_213 : decode cL_law 213 = .ok (.aload_n 3, 1) := by decide +kernel
theorem dL_law_214 : decode cL_law 214 = .ok (.iconst 0, 1) := by decide +kernel
theorem dL_law_215 : decode cL_law 215 = .ok (.laload, 1) := by decide +kernel
theorem dL_law_216 : decode cL_law 216 = .ok (.iload 6, 2) := by decide +kernel
theorem dL_law_218 : decode cL_law 218 = .ok (.i2l, 1) := by decide +kernel
theorem dL_law_219 : decode cL_law 219 = .ok (.lcmp, 1) := by decide +kernel
theorem dL_law_220 : decode cL_law 220 = .ok (.ifCond .eq 5, 3) := by decide +kernel
theorem dL_law_223 : decode cL_law 223 = .ok (.iconst 0, 1) := by decide +kernel
theorem dL_law_224 : decode cL_law 224 = .ok (.ireturn, 1) := by decide +kernel
theorem dL_law_225 : decode cL_law 225 = .ok (.goto 1287, 3) := by decide +kernel
theorem dL_law_228 : decode cL_law 228 = .ok (.aload_n 1, 1) := by decide +kernel
theorem dL_law_229 : decode cL_law 229 = .ok (.aload_n 0, 1) := by decide +kernel
theorem dL_law_230 : decode cL_law 230 = .ok (.iload 4, 2) := by decide +kernel
theorem dL_law_232 : decode cL_law 232 = .ok (.iconst 1, 1) := by decide +kernel
theorem dL_law_233 : decode cL_law 233 = .ok (.iadd, 1) := by decide +kernel
theorem dL_law_234 : decode cL_law 234 = .ok (.iaload, 1) := by decide +kernel
theorem dL_law_235 : decode cL_law 235 = .ok (.aload_n 0, 1) := by decide +kernel
theorem dL_law_236 : decode cL_law 236 = .ok (.iload 4, 2) := by decide +kernel
theorem dL_law_238 : decode cL_law 238 = .ok (.iconst 2, 1) := by decide +kernel
theorem dL_law_239 : decode cL_law 239 = .ok (.iadd, 1) := by decide +kernel
theorem dL_law_240 : decode cL_law 240 = .ok (.iaload, 1) := by decide +kernel
theorem dL_law_241 : decode cL_law 241 = .ok (.aload_n 0, 1) := by decide +kernel
theorem dL_law_242 : decode cL_law 242 = .ok (.iload 4, 2) := by decide +kernel
theorem dL_law_244 : decode cL_law 244 = .ok (.iconst 3, 1) := by decide +kernel
theorem dL_law_245 : decode cL_law 245 = .ok (.iadd, 1) := by decide +kernel
theorem dL_law_246 : decode cL_law 246 = .ok (.iaload, 1) := by decide +kernel
theorem dL_law_247 : decode cL_law 247 = .ok (.aload_n 3, 1) := by decide +kernel
theorem dL_law_248 : decode cL_law 248 = .ok (.invokestatic 86, 3) := by decide +kernel
theorem dL_law_251 : decode cL_law 251 = .ok (.istore 5, 2) := by decide +kernel
theorem dL_law_253 : decode cL_law 253 = .ok (.aload_n 2, 1) := by decide +kernel
theorem dL_law_254 : decode cL_law 254 = .ok (.aload_n 0, 1) := by decide +kernel
theorem dL_law_255 : decode cL_law 255 = .ok (.iload 4, 2) := by decide +kernel
theorem dL_law_257 : decode cL_law 257 = .ok (.iconst 1, 1) := by decide +kernel
theorem dL_law_258 : decode cL_law 258 = .ok (.iadd, 1) := by decide +kernel
theorem dL_law_259 : decode cL_law 259 = .ok (.iaload, 1) := by decide +kernel
theorem dL_law_260 : decode cL_law 260 = .ok (.aload_n 0, 1) := by decide +kernel
theorem dL_law_261 : decode cL_law 261 = .ok (.iload 4, 2) := by decide +kernel
theorem dL_law_263 : decode cL_law 263 = .ok (.iconst 2, 1) := by decide +kernel
theorem dL_law_264 : decode cL_law 264 = .ok (.iadd, 1) := by decide +kernel
theorem dL_law_265 : decode cL_law 265 = .ok (.iaload, 1) := by decide +kernel
theorem dL_law_266 : decode cL_law 266 = .ok (.aload_n 0, 1) := by decide +kernel
theorem dL_law_267 : decode cL_law 267 = .ok (.iload 4, 2) := by decide +kernel
theorem dL_law_269 : decode cL_law 269 = .ok (.iconst 3, 1) := by decide +kernel
theorem dL_law_270 : decode cL_law 270 = .ok (.iadd, 1) := by decide +kernel
theorem dL_law_271 : decode cL_law 271 = .ok (.iaload, 1) := by decide +kernel
theorem dL_law_272 : decode cL_law 272 = .ok (.invokevirtual 89, 3) := by decide +kernel
theorem dL_law_275 : decode cL_law 275 = .ok (.istore 6, 2) := by decide +kernel
theorem dL_law_277 : decode cL_law 277 = .ok (.aload_n 2, 1) := by decide +kernel
theorem dL_law_278 : decode cL_law 278 = .ok (.invokevirtual 83, 3) := by decide +kernel
theorem dL_law_281 : decode cL_law 281 = .ok (.iload 5, 2) := by decide +kernel
theorem dL_law_283 : decode cL_law 283 = .ok (.if_icmp .eq 5, 3) := by decide +kernel
theorem dL_law_286 : decode cL_law 286 = .ok (.iconst 0, 1) := by decide +kernel
theorem dL_law_287 : decode cL_law 287 = .ok (.ireturn, 1) := by decide +kernel
theorem dL_law_288 : decode cL_law 288 = .ok (.iload 5, 2) := by decide +kernel
theorem dL_law_290 : decode cL_law 290 = .ok (.ifCond .ne 15, 3) := by decide +kernel
theorem dL_law_293 : decode cL_law 293 = .ok (.aload_n 3, 1) := by decide +kernel
theorem dL_law_294 : decode cL_law 294 = .ok (.iconst 0, 1) := by decide +kernel
theorem dL_law_295 : decode cL_law 295 = .ok (.laload, 1) := by decide +kernel
theorem dL_law_296 : decode cL_law 296 = .ok (.iload 6, 2) := by decide +kernel
theorem dL_law_298 : decode cL_law 298 = .ok (.i2l, 1) := by decide +kernel
theorem dL_law_299 : decode cL_law 299 = .ok (.lcmp, 1) := by decide +kernel
theorem dL_law_300 : decode cL_law 300 = .ok (.ifCond .eq 5, 3) := by decide +kernel
theorem dL_law_303 : decode cL_law 303 = .ok (.iconst 0, 1) := by decide +kernel
theorem dL_law_304 : decode cL_law 304 = .ok (.ireturn, 1) := by decide +kernel
theorem dL_law_305 : decode cL_law 305 = .ok (.goto 1207, 3) := by decide +kernel
theorem dL_law_308 : decode cL_law 308 = .ok (.aload_n 1, 1) := by decide +kernel
theorem dL_law_309 : decode cL_law 309 = .ok (.aload_n 0, 1) := by decide +kernel
theorem dL_law_310 : decode cL_law 310 = .ok (.iload 4, 2) := by decide +kernel
theorem dL_law_312 : decode cL_law 312 = .ok (.iconst 1, 1) := by decide +kernel
theorem dL_law_313 : decode cL_law 313 = .ok (.iadd, 1) := by decide +kernel
theorem dL_law_314 : decode cL_law 314 = .ok (.iaload, 1) := by decide +kernel
theorem dL_law_315 : decode cL_law 315 = .ok (.aload_n 0, 1) := by decide +kernel
theorem dL_law_316 : decode cL_law 316 = .ok (.iload 4, 2) := by decide +kernel
theorem dL_law_318 : decode cL_law 318 = .ok (.iconst 2, 1) := by decide +kernel
theorem dL_law_319 : decode cL_law 319 = .ok (.iadd, 1) := by decide +kernel
theorem dL_law_320 : decode cL_law 320 = .ok (.iaload, 1) := by decide +kernel
theorem dL_law_321 : decode cL_law 321 = .ok (.aload_n 3, 1) := by decide +kernel
theorem dL_law_322 : decode cL_law 322 = .ok (.invokestatic 90, 3) := by decide +kernel
theorem dL_law_325 : decode cL_law 325 = .ok (.istore 5, 2) := by decide +kernel
theorem dL_law_327 : decode cL_law 327 = .ok (.aload_n 2, 1) := by decide +kernel
theorem dL_law_328 : decode cL_law 328 = .ok (.aload_n 0, 1) := by decide +kernel
theorem dL_law_329 : decode cL_law 329 = .ok (.iload 4, 2) := by decide +kernel
theorem dL_law_331 : decode cL_law 331 = .ok (.iconst 1, 1) := by decide +kernel
theorem dL_law_332 : decode cL_law 332 = .ok (.iadd, 1) := by decide +kernel
theorem dL_law_333 : decode cL_law 333 = .ok (.iaload, 1) := by decide +kernel
theorem dL_law_334 : decode cL_law 334 = .ok (.aload_n 0, 1) := by decide +kernel
theorem dL_law_335 : decode cL_law 335 = .ok (.iload 4, 2) := by decide +kernel
theorem dL_law_337 : decode cL_law 337 = .ok (.iconst 2, 1) := by decide +kernel
theorem dL_law_338 : decode cL_law 338 = .ok (.iadd, 1) := by decide +kernel
theorem dL_law_339 : decode cL_law 339 = .ok (.iaload, 1) := by decide +kernel
theorem dL_law_340 : decode cL_law 340 = .ok (.invokevirtual 93, 3) := by decide +kernel
theorem dL_law_343 : decode cL_law 343 = .ok (.istore 6, 2) := by decide +kernel
theorem dL_law_345 : decode cL_law 345 = .ok (.aload_n 2, 1) := by decide +kernel
theorem dL_law_346 : decode cL_law 346 = .ok (.invokevirtual 83, 3) := by decide +kernel
theorem dL_law_349 : decode cL_law 349 = .ok (.iload 5, 2) := by decide +kernel
theorem dL_law_351 : decode cL_law 351 = .ok (.if_icmp .eq 5, 3) := by decide +kernel
theorem dL_law_354 : decode cL_law 354 = .ok (.iconst 0, 1) := by decide +kernel
theorem dL_law_355 : decode cL_law 355 = .ok (.ireturn, 1) := by decide +kernel
theorem dL_law_356 : decode cL_law 356 = .ok (.iload 5, 2) := by decide +kernel
theorem dL_law_358 : decode cL_law 358 = .ok (.ifCond .ne 15, 3) := by decide +kernel
theorem dL_law_361 : decode cL_law 361 = .ok (.aload_n 3, 1) := by decide +kernel
theorem dL_law_362 : decode cL_law 362 = .ok (.iconst 0, 1) := by decide +kernel
theorem dL_law_363 : decode cL_law 363 = .ok (.laload, 1) := by decide +kernel
theorem dL_law_364 : decode cL_law 364 = .ok (.iload 6, 2) := by decide +kernel
theorem dL_law_366 : decode cL_law 366 = .ok (.i2l, 1) := by decide +kernel
theorem dL_law_367 : decode cL_law 367 = .ok (.lcmp, 1) := by decide +kernel
theorem dL_law_368 : decode cL_law 368 = .ok (.ifCond .eq 5, 3) := by decide +kernel
theorem dL_law_371 : decode cL_law 371 = .ok (.iconst 0, 1) := by decide +kernel
theorem dL_law_372 : decode cL_law 372 = .ok (.ireturn, 1) := by decide +kernel
theorem dL_law_373 : decode cL_law 373 = .ok (.goto 1139, 3) := by decide +kernel
theorem dL_law_376 : decode cL_law 376 = .ok (.aload_n 1, 1) := by decide +kernel
theorem dL_law_377 : decode cL_law 377 = .ok (.aload_n 0, 1) := by decide +kernel
theorem dL_law_378 : decode cL_law 378 = .ok (.iload 4, 2) := by decide +kernel
theorem dL_law_380 : decode cL_law 380 = .ok (.iconst 1, 1) := by decide +kernel
theorem dL_law_381 : decode cL_law 381 = .ok (.iadd, 1) := by decide +kernel
theorem dL_law_382 : decode cL_law 382 = .ok (.iaload, 1) := by decide +kernel
theorem dL_law_383 : decode cL_law 383 = .ok (.aload_n 0, 1) := by decide +kernel
theorem dL_law_384 : decode cL_law 384 = .ok (.iload 4, 2) := by decide +kernel
theorem dL_law_386 : decode cL_law 386 = .ok (.iconst 2, 1) := by decide +kernel
theorem dL_law_387 : decode cL_law 387 = .ok (.iadd, 1) := by decide +kernel
theorem dL_law_388 : decode cL_law 388 = .ok (.iaload, 1) := by decide +kernel
theorem dL_law_389 : decode cL_law 389 = .ok (.aload_n 0, 1) := by decide +kernel
theorem dL_law_390 : decode cL_law 390 = .ok (.iload 4, 2) := by decide +kernel
theorem dL_law_392 : decode cL_law 392 = .ok (.iconst 3, 1) := by decide +kernel
theorem dL_law_393 : decode cL_law 393 = .ok (.iadd, 1) := by decide +kernel
theorem dL_law_394 : decode cL_law 394 = .ok (.iaload, 1) := by decide +kernel
theorem dL_law_395 : decode cL_law 395 = .ok (.aload_n 3, 1) := by decide +kernel
theorem dL_law_396 : decode cL_law 396 = .ok (.invokestatic 94, 3) := by decide +kernel
theorem dL_law_399 : decode cL_law 399 = .ok (.istore 5, 2) := by decide +kernel
theorem dL_law_401 : decode cL_law 401 = .ok (.aload_n 2, 1) := by decide +kernel
theorem dL_law_402 : decode cL_law 402 = .ok (.aload_n 0, 1) := by decide +kernel
theorem dL_law_403 : decode cL_law 403 = .ok (.iload 4, 2) := by decide +kernel
theorem dL_law_405 : decode cL_law 405 = .ok (.iconst 1, 1) := by decide +kernel
theorem dL_law_406 : decode cL_law 406 = .ok (.iadd, 1) := by decide +kernel
theorem dL_law_407 : decode cL_law 407 = .ok (.iaload, 1) := by decide +kernel
theorem dL_law_408 : decode cL_law 408 = .ok (.aload_n 0, 1) := by decide +kernel
theorem dL_law_409 : decode cL_law 409 = .ok (.iload 4, 2) := by decide +kernel
theorem dL_law_411 : decode cL_law 411 = .ok (.iconst 2, 1) := by decide +kernel
theorem dL_law_412 : decode cL_law 412 = .ok (.iadd, 1) := by decide +kernel
theorem dL_law_413 : decode cL_law 413 = .ok (.iaload, 1) := by decide +kernel
theorem dL_law_414 : decode cL_law 414 = .ok (.aload_n 0, 1) := by decide +kernel
theorem dL_law_415 : decode cL_law 415 = .ok (.iload 4, 2) := by decide +kernel
theorem dL_law_417 : decode cL_law 417 = .ok (.iconst 3, 1) := by decide +kernel
theorem dL_law_418 : decode cL_law 418 = .ok (.iadd, 1) := by decide +kernel
theorem dL_law_419 : decode cL_law 419 = .ok (.iaload, 1) := by decide +kernel
theorem dL_law_420 : decode cL_law 420 = .ok (.invokevirtual 96, 3) := by decide +kernel
theorem dL_law_423 : decode cL_law 423 = .ok (.istore 6, 2) := by decide +kernel
theorem dL_law_425 : decode cL_law 425 = .ok (.aload_n 2, 1) := by decide +kernel
theorem dL_law_426 : decode cL_law 426 = .ok (.invokevirtual 83, 3) := by decide +kernel
theorem dL_law_429 : decode cL_law 429 = .ok (.iload 5, 2) := by decide +kernel
theorem dL_law_431 : decode cL_law 431 = .ok (.if_icmp .eq 5, 3) := by decide +kernel
theorem dL_law_434 : decode cL_law 434 = .ok (.iconst 0, 1) := by decide +kernel
theorem dL_law_435 : decode cL_law 435 = .ok (.ireturn, 1) := by decide +kernel
theorem dL_law_436 : decode cL_law 436 = .ok (.iload 5, 2) := by decide +kernel
theorem dL_law_438 : decode cL_law 438 = .ok (.ifCond .ne 15, 3) := by decide +kernel
theorem dL_law_441 : decode cL_law 441 = .ok (.aload_n 3, 1) := by decide +kernel
theorem dL_law_442 : decode cL_law 442 = .ok (.iconst 0, 1) := by decide +kernel
theorem dL_law_443 : decode cL_law 443 = .ok (.laload, 1) := by decide +kernel
theorem dL_law_444 : decode cL_law 444 = .ok (.iload 6, 2) := by decide +kernel
theorem dL_law_446 : decode cL_law 446 = .ok (.i2l, 1) := by decide +kernel
theorem dL_law_447 : decode cL_law 447 = .ok (.lcmp, 1) := by decide +kernel
theorem dL_law_448 : decode cL_law 448 = .ok (.ifCond .eq 5, 3) := by decide +kernel
theorem dL_law_451 : decode cL_law 451 = .ok (.iconst 0, 1) := by decide +kernel
theorem dL_law_452 : decode cL_law 452 = .ok (.ireturn, 1) := by decide +kernel
theorem dL_law_453 : decode cL_law 453 = .ok (.goto 1059, 3) := by decide +kernel
theorem dL_law_456 : decode cL_law 456 = .ok (.aload_n 1, 1) := by decide +kernel
theorem dL_law_457 : decode cL_law 457 = .ok (.invokevirtual 97, 3) := by decide +kernel
theorem dL_law_460 : decode cL_law 460 = .ok (.aload_n 2, 1) := by decide +kernel
theorem dL_law_461 : decode cL_law 461 = .ok (.invokevirtual 100, 3) := by decide +kernel
theorem dL_law_464 : decode cL_law 464 = .ok (.if_icmp .eq 1048, 3) := by decide +kernel
theorem dL_law_467 : decode cL_law 467 = .ok (.iconst 0, 1) := by decide +kernel
theorem dL_law_468 : decode cL_law 468 = .ok (.ireturn, 1) := by decide +kernel
theorem dL_law_469 : decode cL_law 469 = .ok (.aload_n 1, 1) := by decide +kernel
theorem dL_law_470 : decode cL_law 470 = .ok (.aload_n 0, 1) := by decide +kernel
theorem dL_law_471 : decode cL_law 471 = .ok (.iload 4, 2) := by decide +kernel
theorem dL_law_473 : decode cL_law 473 = .ok (.iconst 1, 1) := by decide +kernel
theorem dL_law_474 : decode cL_law 474 = .ok (.iadd, 1) := by decide +kernel
theorem dL_law_475 : decode cL_law 475 = .ok (.iaload, 1) := by decide +kernel
theorem dL_law_476 : decode cL_law 476 = .ok (.aload_n 3, 1) := by decide +kernel
theorem dL_law_477 : decode cL_law 477 = .ok (.invokestatic 101, 3) := by decide +kernel
theorem dL_law_480 : decode cL_law 480 = .ok (.istore 5, 2) := by decide +kernel
theorem dL_law_482 : decode cL_law 482 = .ok (.aload_n 2, 1) := by decide +kernel
theorem dL_law_483 : decode cL_law 483 = .ok (.aload_n 0, 1) := by decide +kernel
theorem dL_law_484 : decode cL_law 484 = .ok (.iload 4, 2) := by decide +kernel
theorem dL_law_486 : decode cL_law 486 = .ok (.iconst 1, 1) := by decide +kernel
theorem dL_law_487 : decode cL_law 487 = .ok (.iadd, 1) := by decide +kernel
theorem dL_law_488 : decode cL_law 488 = .ok (.iaload, 1) := by decide +kernel
theorem dL_law_489 : decode cL_law 489 = .ok (.invokevirtual 104, 3) := by decide +kernel
theorem dL_law_492 : decode cL_law 492 = .ok (.istore 6, 2) := by decide +kernel
theorem dL_law_494 : decode cL_law 494 = .ok (.aload_n 2, 1) := by decide +kernel
theorem dL_law_495 : decode cL_law 495 = .ok (.invokevirtual 83, 3) := by decide +kernel
theorem dL_law_498 : decode cL_law 498 = .ok (.iload 5, 2) := by decide +kernel
theorem dL_law_500 : decode cL_law 500 = .ok (.if_icmp .eq 5, 3) := by decide +kernel
theorem dL_law_503 : decode cL_law 503 = .ok (.iconst 0, 1) := by decide +kernel
theorem dL_law_504 : decode cL_law 504 = .ok (.ireturn, 1) := by decide +kernel
theorem dL_law_505 : decode cL_law 505 = .ok (.iload 5, 2) := by decide +kernel
theorem dL_law_507 : decode cL_law 507 = .ok (.ifCond .ne 15, 3) := by decide +kernel
theorem dL_law_510 : decode cL_law 510 = .ok (.aload_n 3, 1) := by decide +kernel
theorem dL_law_511 : decode cL_law 511 = .ok (.iconst 0, 1) := by decide +kernel
theorem dL_law_512 : decode cL_law 512 = .ok (.laload, 1) := by decide +kernel
theorem dL_law_513 : decode cL_law 513 = .ok (.iload 6, 2) := by decide +kernel
theorem dL_law_515 : decode cL_law 515 = .ok (.i2l, 1) := by decide +kernel
theorem dL_law_516 : decode cL_law 516 = .ok (.lcmp, 1) := by decide +kernel
theorem dL_law_517 : decode cL_law 517 = .ok (.ifCond .eq 5, 3) := by decide +kernel
theorem dL_law_520 : decode cL_law 520 = .ok (.iconst 0, 1) := by decide +kernel
theorem dL_law_521 : decode cL_law 521 = .ok (.ireturn, 1) := by decide +kernel
theorem dL_law_522 : decode cL_law 522 = .ok (.goto 990, 3) := by decide +kernel
theorem dL_law_525 : decode cL_law 525 = .ok (.aload_n 1, 1) := by decide +kernel
theorem dL_law_526 : decode cL_law 526 = .ok (.aload_n 0, 1) := by decide +kernel
theorem dL_law_527 : decode cL_law 527 = .ok (.iload 4, 2) := by decide +kernel
theorem dL_law_529 : decode cL_law 529 = .ok (.iconst 1, 1) := by decide +kernel
theorem dL_law_530 : decode cL_law 530 = .ok (.iadd, 1) := by decide +kernel
theorem dL_law_531 : decode cL_law 531 = .ok (.iaload, 1) := by decide +kernel
theorem dL_law_532 : decode cL_law 532 = .ok (.aload_n 3, 1) := by decide +kernel
theorem dL_law_533 : decode cL_law 533 = .ok (.invokestatic 105, 3) := by decide +kernel
theorem dL_law_536 : decode cL_law 536 = .ok (.istore 5, 2) := by decide +kernel
theorem dL_law_538 : decode cL_law 538 = .ok (.aload_n 2, 1) := by decide +kernel
theorem dL_law_539 : decode cL_law 539 = .ok (.aload_n 0, 1) := by decide +kernel
theorem dL_law_540 : decode cL_law 540 = .ok (.iload 4, 2) := by decide +kernel
theorem dL_law_542 : decode cL_law 542 = .ok (.iconst 1, 1) := by decide +kernel
theorem dL_law_543 : decode cL_law 543 = .ok (.iadd, 1) := by decide +kernel
theorem dL_law_544 : decode cL_law 544 = .ok (.iaload, 1) := by decide +kernel
theorem dL_law_545 : decode cL_law 545 = .ok (.invokevirtual 107, 3) := by decide +kernel
theorem dL_law_548 : decode cL_law 548 = .ok (.istore 6, 2) := by decide +kernel
theorem dL_law_550 : decode cL_law 550 = .ok (.aload_n 2, 1) := by decide +kernel
theorem dL_law_551 : decode cL_law 551 = .ok (.invokevirtual 83, 3) := by decide +kernel
theorem dL_law_554 : decode cL_law 554 = .ok (.iload 5, 2) := by decide +kernel
theorem dL_law_556 : decode cL_law 556 = .ok (.if_icmp .eq 5, 3) := by decide +kernel
theorem dL_law_559 : decode cL_law 559 = .ok (.iconst 0, 1) := by decide +kernel
theorem dL_law_560 : decode cL_law 560 = .ok (.ireturn, 1) := by decide +kernel
theorem dL_law_561 : decode cL_law 561 = .ok (.iload 5, 2) := by decide +kernel
theorem dL_law_563 : decode cL_law 563 = .ok (.ifCond .ne 15, 3) := by decide +kernel
theorem dL_law_566 : decode cL_law 566 = .ok (.aload_n 3, 1) := by decide +kernel
theorem dL_law_567 : decode cL_law 567 = .ok (.iconst 0, 1) := by decide +kernel
theorem dL_law_568 : decode cL_law 568 = .ok (.laload, 1) := by decide +kernel
theorem dL_law_569 : decode cL_law 569 = .ok (.iload 6, 2) := by decide +kernel
theorem dL_law_571 : decode cL_law 571 = .ok (.i2l, 1) := by decide +kernel
theorem dL_law_572 : decode cL_law 572 = .ok (.lcmp, 1) := by decide +kernel
theorem dL_law_573 : decode cL_law 573 = .ok (.ifCond .eq 5, 3) := by decide +kernel
theorem dL_law_576 : decode cL_law 576 = .ok (.iconst 0, 1) := by decide +kernel
theorem dL_law_577 : decode cL_law 577 = .ok (.ireturn, 1) := by decide +kernel
theorem dL_law_578 : decode cL_law 578 = .ok (.goto 934, 3) := by decide +kernel
theorem dL_law_581 : decode cL_law 581 = .ok (.aload_n 1, 1) := by decide +kernel
theorem dL_law_582 : decode cL_law 582 = .ok (.aload_n 0, 1) := by decide +kernel
theorem dL_law_583 : decode cL_law 583 = .ok (.iload 4, 2) := by decide +kernel
theorem dL_law_585 : decode cL_law 585 = .ok (.iconst 1, 1) := by decide +kernel
theorem dL_law_586 : decode cL_law 586 = .ok (.iadd, 1) := by decide +kernel
theorem dL_law_587 : decode cL_law 587 = .ok (.iaload, 1) := by decide +kernel
theorem dL_law_588 : decode cL_law 588 = .ok (.aload_n 0, 1) := by decide +kernel
theorem dL_law_589 : decode cL_law 589 = .ok (.iload 4, 2) := by decide +kernel
theorem dL_law_591 : decode cL_law 591 = .ok (.iconst 2, 1) := by decide +kernel
theorem dL_law_592 : decode cL_law 592 = .ok (.iadd, 1) := by decide +kernel
theorem dL_law_593 : decode cL_law 593 = .ok (.iaload, 1) := by decide +kernel
theorem dL_law_594 : decode cL_law 594 = .ok (.aload_n 3, 1) := by decide +kernel
theorem dL_law_595 : decode cL_law 595 = .ok (.invokestatic 108, 3) := by decide +kernel
theorem dL_law_598 : decode cL_law 598 = .ok (.istore 5, 2) := by decide +kernel
theorem dL_law_600 : decode cL_law 600 = .ok (.aload_n 2, 1) := by decide +kernel
theorem dL_law_601 : decode cL_law 601 = .ok (.aload_n 0, 1) := by decide +kernel
theorem dL_law_602 : decode cL_law 602 = .ok (.iload 4, 2) := by decide +kernel
theorem dL_law_604 : decode cL_law 604 = .ok (.iconst 1, 1) := by decide +kernel
theorem dL_law_605 : decode cL_law 605 = .ok (.iadd, 1) := by decide +kernel
theorem dL_law_606 : decode cL_law 606 = .ok (.iaload, 1) := by decide +kernel
theorem dL_law_607 : decode cL_law 607 = .ok (.aload_n 0, 1) := by decide +kernel
theorem dL_law_608 : decode cL_law 608 = .ok (.iload 4, 2) := by decide +kernel
theorem dL_law_610 : decode cL_law 610 = .ok (.iconst 2, 1) := by decide +kernel
theorem dL_law_611 : decode cL_law 611 = .ok (.iadd, 1) := by decide +kernel
theorem dL_law_612 : decode cL_law 612 = .ok (.iaload, 1) := by decide +kernel
theorem dL_law_613 : decode cL_law 613 = .ok (.invokevirtual 110, 3) := by decide +kernel
theorem dL_law_616 : decode cL_law 616 = .ok (.istore 6, 2) := by decide +kernel
theorem dL_law_618 : decode cL_law 618 = .ok (.aload_n 2, 1) := by decide +kernel
theorem dL_law_619 : decode cL_law 619 = .ok (.invokevirtual 83, 3) := by decide +kernel
theorem dL_law_622 : decode cL_law 622 = .ok (.iload 5, 2) := by decide +kernel
theorem dL_law_624 : decode cL_law 624 = .ok (.if_icmp .eq 5, 3) := by decide +kernel
theorem dL_law_627 : decode cL_law 627 = .ok (.iconst 0, 1) := by decide +kernel
theorem dL_law_628 : decode cL_law 628 = .ok (.ireturn, 1) := by decide +kernel
theorem dL_law_629 : decode cL_law 629 = .ok (.iload 5, 2) := by decide +kernel
theorem dL_law_631 : decode cL_law 631 = .ok (.ifCond .ne 15, 3) := by decide +kernel
theorem dL_law_634 : decode cL_law 634 = .ok (.aload_n 3, 1) := by decide +kernel
theorem dL_law_635 : decode cL_law 635 = .ok (.iconst 0, 1) := by decide +kernel
theorem dL_law_636 : decode cL_law 636 = .ok (.laload, 1) := by decide +kernel
theorem dL_law_637 : decode cL_law 637 = .ok (.iload 6, 2) := by decide +kernel
theorem dL_law_639 : decode cL_law 639 = .ok (.i2l, 1) := by decide +kernel
theorem dL_law_640 : decode cL_law 640 = .ok (.lcmp, 1) := by decide +kernel
theorem dL_law_641 : decode cL_law 641 = .ok (.ifCond .eq 5, 3) := by decide +kernel
theorem dL_law_644 : decode cL_law 644 = .ok (.iconst 0, 1) := by decide +kernel
theorem dL_law_645 : decode cL_law 645 = .ok (.ireturn, 1) := by decide +kernel
theorem dL_law_646 : decode cL_law 646 = .ok (.goto 866, 3) := by decide +kernel
theorem dL_law_649 : decode cL_law 649 = .ok (.aload_n 1, 1) := by decide +kernel
theorem dL_law_650 : decode cL_law 650 = .ok (.invokevirtual 111, 3) := by decide +kernel
theorem dL_law_653 : decode cL_law 653 = .ok (.aload_n 2, 1) := by decide +kernel
theorem dL_law_654 : decode cL_law 654 = .ok (.invokevirtual 114, 3) := by decide +kernel
theorem dL_law_657 : decode cL_law 657 = .ok (.if_icmp .eq 855, 3) := by decide +kernel
theorem dL_law_660 : decode cL_law 660 = .ok (.iconst 0, 1) := by decide +kernel
theorem dL_law_661 : decode cL_law 661 = .ok (.ireturn, 1) := by decide +kernel
theorem dL_law_662 : decode cL_law 662 = .ok (.aload_n 1, 1) := by decide +kernel
theorem dL_law_663 : decode cL_law 663 = .ok (.aload_n 0, 1) := by decide +kernel
theorem dL_law_664 : decode cL_law 664 = .ok (.iload 4, 2) := by decide +kernel
theorem dL_law_666 : decode cL_law 666 = .ok (.iconst 1, 1) := by decide +kernel
theorem dL_law_667 : decode cL_law 667 = .ok (.iadd, 1) := by decide +kernel
theorem dL_law_668 : decode cL_law 668 = .ok (.iaload, 1) := by decide +kernel
theorem dL_law_669 : decode cL_law 669 = .ok (.aload_n 0, 1) := by decide +kernel
theorem dL_law_670 : decode cL_law 670 = .ok (.iload 4, 2) := by decide +kernel
theorem dL_law_672 : decode cL_law 672 = .ok (.iconst 2, 1) := by decide +kernel
theorem dL_law_673 : decode cL_law 673 = .ok (.iadd, 1) := by decide +kernel
theorem dL_law_674 : decode cL_law 674 = .ok (.iaload, 1) := by decide +kernel
theorem dL_law_675 : decode cL_law 675 = .ok (.aload_n 3, 1) := by decide +kernel
theorem dL_law_676 : decode cL_law 676 = .ok (.invokestatic 115, 3) := by decide +kernel
theorem dL_law_679 : decode cL_law 679 = .ok (.istore 5, 2) := by decide +kernel
theorem dL_law_681 : decode cL_law 681 = .ok (.aload_n 2, 1) := by decide +kernel
theorem dL_law_682 : decode cL_law 682 = .ok (.aload_n 0, 1) := by decide +kernel
theorem dL_law_683 : decode cL_law 683 = .ok (.iload 4, 2) := by decide +kernel
theorem dL_law_685 : decode cL_law 685 = .ok (.iconst 1, 1) := by decide +kernel
theorem dL_law_686 : decode cL_law 686 = .ok (.iadd, 1) := by decide +kernel
theorem dL_law_687 : decode cL_law 687 = .ok (.iaload, 1) := by decide +kernel
theorem dL_law_688 : decode cL_law 688 = .ok (.aload_n 0, 1) := by decide +kernel
theorem dL_law_689 : decode cL_law 689 = .ok (.iload 4, 2) := by decide +kernel
theorem dL_law_691 : decode cL_law 691 = .ok (.iconst 2, 1) := by decide +kernel
theorem dL_law_692 : decode cL_law 692 = .ok (.iadd, 1) := by decide +kernel
theorem dL_law_693 : decode cL_law 693 = .ok (.iaload, 1) := by decide +kernel
theorem dL_law_694 : decode cL_law 694 = .ok (.invokevirtual 117, 3) := by decide +kernel
theorem dL_law_697 : decode cL_law 697 = .ok (.istore 6, 2) := by decide +kernel
theorem dL_law_699 : decode cL_law 699 = .ok (.aload_n 2, 1) := by decide +kernel
theorem dL_law_700 : decode cL_law 700 = .ok (.invokevirtual 83, 3) := by decide +kernel
theorem dL_law_703 : decode cL_law 703 = .ok (.iload 5, 2) := by decide +kernel
theorem dL_law_705 : decode cL_law 705 = .ok (.if_icmp .eq 5, 3) := by decide +kernel
theorem dL_law_708 : decode cL_law 708 = .ok (.iconst 0, 1) := by decide +kernel
theorem dL_law_709 : decode cL_law 709 = .ok (.ireturn, 1) := by decide +kernel
theorem dL_law_710 : decode cL_law 710 = .ok (.iload 5, 2) := by decide +kernel
theorem dL_law_712 : decode cL_law 712 = .ok (.ifCond .ne 15, 3) := by decide +kernel
theorem dL_law_715 : decode cL_law 715 = .ok (.aload_n 3, 1) := by decide +kernel
theorem dL_law_716 : decode cL_law 716 = .ok (.iconst 0, 1) := by decide +kernel
theorem dL_law_717 : decode cL_law 717 = .ok (.laload, 1) := by decide +kernel
theorem dL_law_718 : decode cL_law 718 = .ok (.iload 6, 2) := by decide +kernel
theorem dL_law_720 : decode cL_law 720 = .ok (.i2l, 1) := by decide +kernel
theorem dL_law_721 : decode cL_law 721 = .ok (.lcmp, 1) := by decide +kernel
theorem dL_law_722 : decode cL_law 722 = .ok (.ifCond .eq 5, 3) := by decide +kernel
theorem dL_law_725 : decode cL_law 725 = .ok (.iconst 0, 1) := by decide +kernel
theorem dL_law_726 : decode cL_law 726 = .ok (.ireturn, 1) := by decide +kernel
theorem dL_law_727 : decode cL_law 727 = .ok (.goto 785, 3) := by decide +kernel
theorem dL_law_730 : decode cL_law 730 = .ok (.aload_n 1, 1) := by decide +kernel
theorem dL_law_731 : decode cL_law 731 = .ok (.invokevirtual 118, 3) := by decide +kernel
theorem dL_law_734 : decode cL_law 734 = .ok (.aload_n 2, 1) := by decide +kernel
theorem dL_law_735 : decode cL_law 735 = .ok (.invokevirtual 121, 3) := by decide +kernel
theorem dL_law_738 : decode cL_law 738 = .ok (.if_icmp .eq 774, 3) := by decide +kernel
theorem dL_law_741 : decode cL_law 741 = .ok (.iconst 0, 1) := by decide +kernel
theorem dL_law_742 : decode cL_law 742 = .ok (.ireturn, 1) := by decide +kernel
theorem dL_law_743 : decode cL_law 743 = .ok (.aload_n 1, 1) := by decide +kernel
theorem dL_law_744 : decode cL_law 744 = .ok (.aload_n 0, 1) := by decide +kernel
theorem dL_law_745 : decode cL_law 745 = .ok (.iload 4, 2) := by decide +kernel
theorem dL_law_747 : decode cL_law 747 = .ok (.iconst 1, 1) := by decide +kernel
theorem dL_law_748 : decode cL_law 748 = .ok (.iadd, 1) := by decide +kernel
theorem dL_law_749 : decode cL_law 749 = .ok (.iaload, 1) := by decide +kernel
theorem dL_law_750 : decode cL_law 750 = .ok (.aload_n 3, 1) := by decide +kernel
theorem dL_law_751 : decode cL_law 751 = .ok (.invokestatic 122, 3) := by decide +kernel
theorem dL_law_754 : decode cL_law 754 = .ok (.istore 5, 2) := by decide +kernel
theorem dL_law_756 : decode cL_law 756 = .ok (.aload_n 2, 1) := by decide +kernel
theorem dL_law_757 : decode cL_law 757 = .ok (.aload_n 0, 1) := by decide +kernel
theorem dL_law_758 : decode cL_law 758 = .ok (.iload 4, 2) := by decide +kernel
theorem dL_law_760 : decode cL_law 760 = .ok (.iconst 1, 1) := by decide +kernel
theorem dL_law_761 : decode cL_law 761 = .ok (.iadd, 1) := by decide +kernel
theorem dL_law_762 : decode cL_law 762 = .ok (.iaload, 1) := by decide +kernel
theorem dL_law_763 : decode cL_law 763 = .ok (.invokevirtual 124, 3) := by decide +kernel
theorem dL_law_766 : decode cL_law 766 = .ok (.istore 6, 2) := by decide +kernel
theorem dL_law_768 : decode cL_law 768 = .ok (.aload_n 2, 1) := by decide +kernel
theorem dL_law_769 : decode cL_law 769 = .ok (.invokevirtual 83, 3) := by decide +kernel
theorem dL_law_772 : decode cL_law 772 = .ok (.iload 5, 2) := by decide +kernel
theorem dL_law_774 : decode cL_law 774 = .ok (.if_icmp .eq 5, 3) := by decide +kernel
theorem dL_law_777 : decode cL_law 777 = .ok (.iconst 0, 1) := by decide +kernel
theorem dL_law_778 : decode cL_law 778 = .ok (.ireturn, 1) := by decide +kernel
theorem dL_law_779 : decode cL_law 779 = .ok (.iload 5, 2) := by decide +kernel
theorem dL_law_781 : decode cL_law 781 = .ok (.ifCond .ne 15, 3) := by decide +kernel
theorem dL_law_784 : decode cL_law 784 = .ok (.aload_n 3, 1) := by decide +kernel
theorem dL_law_785 : decode cL_law 785 = .ok (.iconst 0, 1) := by decide +kernel
theorem dL_law_786 : decode cL_law 786 = .ok (.laload, 1) := by decide +kernel
theorem dL_law_787 : decode cL_law 787 = .ok (.iload 6, 2) := by decide +kernel
theorem dL_law_789 : decode cL_law 789 = .ok (.i2l, 1) := by decide +kernel
theorem dL_law_790 : decode cL_law 790 = .ok (.lcmp, 1) := by decide +kernel
theorem dL_law_791 : decode cL_law 791 = .ok (.ifCond .eq 5, 3) := by decide +kernel
theorem dL_law_794 : decode cL_law 794 = .ok (.iconst 0, 1) := by decide +kernel
theorem dL_law_795 : decode cL_law 795 = .ok (.ireturn, 1) := by decide +kernel
theorem dL_law_796 : decode cL_law 796 = .ok (.goto 716, 3) := by decide +kernel
theorem dL_law_799 : decode cL_law 799 = .ok (.aload_n 1, 1) := by decide +kernel
theorem dL_law_800 : decode cL_law 800 = .ok (.aload_n 0, 1) := by decide +kernel
theorem dL_law_801 : decode cL_law 801 = .ok (.iload 4, 2) := by decide +kernel
theorem dL_law_803 : decode cL_law 803 = .ok (.iconst 1, 1) := by decide +kernel
theorem dL_law_804 : decode cL_law 804 = .ok (.iadd, 1) := by decide +kernel
theorem dL_law_805 : decode cL_law 805 = .ok (.iaload, 1) := by decide +kernel
theorem dL_law_806 : decode cL_law 806 = .ok (.aload_n 3, 1) := by decide +kernel
theorem dL_law_807 : decode cL_law 807 = .ok (.invokestatic 125, 3) := by decide +kernel
theorem dL_law_810 : decode cL_law 810 = .ok (.istore 5, 2) := by decide +kernel
theorem dL_law_812 : decode cL_law 812 = .ok (.aload_n 2, 1) := by decide +kernel
theorem dL_law_813 : decode cL_law 813 = .ok (.aload_n 0, 1) := by decide +kernel
theorem dL_law_814 : decode cL_law 814 = .ok (.iload 4, 2) := by decide +kernel
theorem dL_law_816 : decode cL_law 816 = .ok (.iconst 1, 1) := by decide +kernel
theorem dL_law_817 : decode cL_law 817 = .ok (.iadd, 1) := by decide +kernel
theorem dL_law_818 : decode cL_law 818 = .ok (.iaload, 1) := by decide +kernel
theorem dL_law_819 : decode cL_law 819 = .ok (.invokevirtual 127, 3) := by decide +kernel
theorem dL_law_822 : decode cL_law 822 = .ok (.istore 6, 2) := by decide +kernel
theorem dL_law_824 : decode cL_law 824 = .ok (.aload_n 2, 1) := by decide +kernel
theorem dL_law_825 : decode cL_law 825 = .ok (.invokevirtual 83, 3) := by decide +kernel
theorem dL_law_828 : decode cL_law 828 = .ok (.iload 5, 2) := by decide +kernel
theorem dL_law_830 : decode cL_law 830 = .ok (.if_icmp .eq 5, 3) := by decide +kernel
theorem dL_law_833 : decode cL_law 833 = .ok (.iconst 0, 1) := by decide +kernel
theorem dL_law_834 : decode cL_law 834 = .ok (.ireturn, 1) := by decide +kernel
theorem dL_law_835 : decode cL_law 835 = .ok (.iload 5, 2) := by decide +kernel
theorem dL_law_837 : decode cL_law 837 = .ok (.ifCond .ne 15, 3) := by decide +kernel
theorem dL_law_840 : decode cL_law 840 = .ok (.aload_n 3, 1) := by decide +kernel
theorem dL_law_841 : decode cL_law 841 = .ok (.iconst 0, 1) := by decide +kernel
theorem dL_law_842 : decode cL_law 842 = .ok (.laload, 1) := by decide +kernel
theorem dL_law_843 : decode cL_law 843 = .ok (.iload 6, 2) := by decide +kernel
theorem dL_law_845 : decode cL_law 845 = .ok (.i2l, 1) := by decide +kernel
theorem dL_law_846 : decode cL_law 846 = .ok (.lcmp, 1) := by decide +kernel
theorem dL_law_847 : decode cL_law 847 = .ok (.ifCond .eq 5, 3) := by decide +kernel
theorem dL_law_850 : decode cL_law 850 = .ok (.iconst 0, 1) := by decide +kernel
theorem dL_law_851 : decode cL_law 851 = .ok (.ireturn, 1) := by decide +kernel
theorem dL_law_852 : decode cL_law 852 = .ok (.goto 660, 3) := by decide +kernel
theorem dL_law_855 : decode cL_law 855 = .ok (.aload_n 1, 1) := by decide +kernel
theorem dL_law_856 : decode cL_law 856 = .ok (.aload_n 0, 1) := by decide +kernel
theorem dL_law_857 : decode cL_law 857 = .ok (.iload 4, 2) := by decide +kernel
theorem dL_law_859 : decode cL_law 859 = .ok (.iconst 1, 1) := by decide +kernel
theorem dL_law_860 : decode cL_law 860 = .ok (.iadd, 1) := by decide +kernel
theorem dL_law_861 : decode cL_law 861 = .ok (.iaload, 1) := by decide +kernel
theorem dL_law_862 : decode cL_law 862 = .ok (.aload_n 3, 1) := by decide +kernel
theorem dL_law_863 : decode cL_law 863 = .ok (.invokestatic 128, 3) := by decide +kernel
theorem dL_law_866 : decode cL_law 866 = .ok (.istore 5, 2) := by decide +kernel
theorem dL_law_868 : decode cL_law 868 = .ok (.aload_n 2, 1) := by decide +kernel
theorem dL_law_869 : decode cL_law 869 = .ok (.aload_n 0, 1) := by decide +kernel
theorem dL_law_870 : decode cL_law 870 = .ok (.iload 4, 2) := by decide +kernel
theorem dL_law_872 : decode cL_law 872 = .ok (.iconst 1, 1) := by decide +kernel
theorem dL_law_873 : decode cL_law 873 = .ok (.iadd, 1) := by decide +kernel
theorem dL_law_874 : decode cL_law 874 = .ok (.iaload, 1) := by decide +kernel
theorem dL_law_875 : decode cL_law 875 = .ok (.invokevirtual 130, 3) := by decide +kernel
theorem dL_law_878 : decode cL_law 878 = .ok (.istore 6, 2) := by decide +kernel
theorem dL_law_880 : decode cL_law 880 = .ok (.aload_n 2, 1) := by decide +kernel
theorem dL_law_881 : decode cL_law 881 = .ok (.invokevirtual 83, 3) := by decide +kernel
theorem dL_law_884 : decode cL_law 884 = .ok (.iload 5, 2) := by decide +kernel
theorem dL_law_886 : decode cL_law 886 = .ok (.if_icmp .eq 5, 3) := by decide +kernel
theorem dL_law_889 : decode cL_law 889 = .ok (.iconst 0, 1) := by decide +kernel
theorem dL_law_890 : decode cL_law 890 = .ok (.ireturn, 1) := by decide +kernel
theorem dL_law_891 : decode cL_law 891 = .ok (.iload 5, 2) := by decide +kernel
theorem dL_law_893 : decode cL_law 893 = .ok (.ifCond .ne 15, 3) := by decide +kernel
theorem dL_law_896 : decode cL_law 896 = .ok (.aload_n 3, 1) := by decide +kernel
theorem dL_law_897 : decode cL_law 897 = .ok (.iconst 0, 1) := by decide +kernel
theorem dL_law_898 : decode cL_law 898 = .ok (.laload, 1) := by decide +kernel
theorem dL_law_899 : decode cL_law 899 = .ok (.iload 6, 2) := by decide +kernel
theorem dL_law_901 : decode cL_law 901 = .ok (.i2l, 1) := by decide +kernel
theorem dL_law_902 : decode cL_law 902 = .ok (.lcmp, 1) := by decide +kernel
theorem dL_law_903 : decode cL_law 903 = .ok (.ifCond .eq 5, 3) := by decide +kernel
theorem dL_law_906 : decode cL_law 906 = .ok (.iconst 0, 1) := by decide +kernel
theorem dL_law_907 : decode cL_law 907 = .ok (.ireturn, 1) := by decide +kernel
theorem dL_law_908 : decode cL_law 908 = .ok (.goto 604, 3) := by decide +kernel
theorem dL_law_911 : decode cL_law 911 = .ok (.aload_n 1, 1) := by decide +kernel
theorem dL_law_912 : decode cL_law 912 = .ok (.aload_n 0, 1) := by decide +kernel
theorem dL_law_913 : decode cL_law 913 = .ok (.iload 4, 2) := by decide +kernel
theorem dL_law_915 : decode cL_law 915 = .ok (.iconst 1, 1) := by decide +kernel
theorem dL_law_916 : decode cL_law 916 = .ok (.iadd, 1) := by decide +kernel
theorem dL_law_917 : decode cL_law 917 = .ok (.iaload, 1) := by decide +kernel
theorem dL_law_918 : decode cL_law 918 = .ok (.aload_n 3, 1) := by decide +kernel
theorem dL_law_919 : decode cL_law 919 = .ok (.invokestatic 131, 3) := by decide +kernel
theorem dL_law_922 : decode cL_law 922 = .ok (.istore 5, 2) := by decide +kernel
theorem dL_law_924 : decode cL_law 924 = .ok (.aload_n 2, 1) := by decide +kernel
theorem dL_law_925 : decode cL_law 925 = .ok (.aload_n 0, 1) := by decide +kernel
theorem dL_law_926 : decode cL_law 926 = .ok (.iload 4, 2) := by decide +kernel
theorem dL_law_928 : decode cL_law 928 = .ok (.iconst 1, 1) := by decide +kernel
theorem dL_law_929 : decode cL_law 929 = .ok (.iadd, 1) := by decide +kernel
theorem dL_law_930 : decode cL_law 930 = .ok (.iaload, 1) := by decide +kernel
theorem dL_law_931 : decode cL_law 931 = .ok (.invokevirtual 133, 3) := by decide +kernel
theorem dL_law_934 : decode cL_law 934 = .ok (.istore 6, 2) := by decide +kernel
theorem dL_law_936 : decode cL_law 936 = .ok (.aload_n 2, 1) := by decide +kernel
theorem dL_law_937 : decode cL_law 937 = .ok (.invokevirtual 83, 3) := by decide +kernel
theorem dL_law_940 : decode cL_law 940 = .ok (.iload 5, 2) := by decide +kernel
theorem dL_law_942 : decode cL_law 942 = .ok (.if_icmp .eq 5, 3) := by decide +kernel
theorem dL_law_945 : decode cL_law 945 = .ok (.iconst 0, 1) := by decide +kernel
theorem dL_law_946 : decode cL_law 946 = .ok (.ireturn, 1) := by decide +kernel
theorem dL_law_947 : decode cL_law 947 = .ok (.iload 5, 2) := by decide +kernel
theorem dL_law_949 : decode cL_law 949 = .ok (.ifCond .ne 15, 3) := by decide +kernel
theorem dL_law_952 : decode cL_law 952 = .ok (.aload_n 3, 1) := by decide +kernel
theorem dL_law_953 : decode cL_law 953 = .ok (.iconst 0, 1) := by decide +kernel
theorem dL_law_954 : decode cL_law 954 = .ok (.laload, 1) := by decide +kernel
theorem dL_law_955 : decode cL_law 955 = .ok (.iload 6, 2) := by decide +kernel
theorem dL_law_957 : decode cL_law 957 = .ok (.i2l, 1) := by decide +kernel
theorem dL_law_958 : decode cL_law 958 = .ok (.lcmp, 1) := by decide +kernel
theorem dL_law_959 : decode cL_law 959 = .ok (.ifCond .eq 5, 3) := by decide +kernel
theorem dL_law_962 : decode cL_law 962 = .ok (.iconst 0, 1) := by decide +kernel
theorem dL_law_963 : decode cL_law 963 = .ok (.ireturn, 1) := by decide +kernel
theorem dL_law_964 : decode cL_law 964 = .ok (.goto 548, 3) := by decide +kernel
theorem dL_law_967 : decode cL_law 967 = .ok (.aload_n 1, 1) := by decide +kernel
theorem dL_law_968 : decode cL_law 968 = .ok (.invokevirtual 134, 3) := by decide +kernel
theorem dL_law_971 : decode cL_law 971 = .ok (.dstore 5, 2) := by decide +kernel
theorem dL_law_973 : decode cL_law 973 = .ok (.aload_n 2, 1) := by decide +kernel
theorem dL_law_974 : decode cL_law 974 = .ok (.invokevirtual 138, 3) := by decide +kernel
theorem dL_law_977 : decode cL_law 977 = .ok (.dstore 7, 2) := by decide +kernel
theorem dL_law_979 : decode cL_law 979 = .ok (.dload 5, 2) := by decide +kernel
theorem dL_law_981 : decode cL_law 981 = .ok (.dload 7, 2) := by decide +kernel
theorem dL_law_983 : decode cL_law 983 = .ok (.dcmp .l, 1) := by decide +kernel
theorem dL_law_984 : decode cL_law 984 = .ok (.ifCond .eq 21, 3) := by decide +kernel
theorem dL_law_987 : decode cL_law 987 = .ok (.dload 5, 2) := by decide +kernel
theorem dL_law_989 : decode cL_law 989 = .ok (.dload 5, 2) := by decide +kernel
theorem dL_law_991 : decode cL_law 991 = .ok (.dcmp .l, 1) := by decide +kernel
theorem dL_law_992 : decode cL_law 992 = .ok (.ifCond .eq 11, 3) := by decide +kernel
theorem dL_law_995 : decode cL_law 995 = .ok (.dload 7, 2) := by decide +kernel
theorem dL_law_997 : decode cL_law 997 = .ok (.dload 7, 2) := by decide +kernel
theorem dL_law_999 : decode cL_law 999 = .ok (.dcmp .l, 1) := by decide +kernel
theorem dL_law_1000 : decode cL_law 1000 = .ok (.ifCond .ne 5, 3) := by decide +kernel
theorem dL_law_1003 : decode cL_law 1003 = .ok (.iconst 0, 1) := by decide +kernel
theorem dL_law_1004 : decode cL_law 1004 = .ok (.ireturn, 1) := by decide +kernel
theorem dL_law_1005 : decode cL_law 1005 = .ok (.goto 507, 3) := by decide +kernel
theorem dL_law_1008 : decode cL_law 1008 = .ok (.aload_n 1, 1) := by decide +kernel
theorem dL_law_1009 : decode cL_law 1009 = .ok (.aload_n 0, 1) := by decide +kernel
theorem dL_law_1010 : decode cL_law 1010 = .ok (.iload 4, 2) := by decide +kernel
theorem dL_law_1012 : decode cL_law 1012 = .ok (.iconst 1, 1) := by decide +kernel
theorem dL_law_1013 : decode cL_law 1013 = .ok (.iadd, 1) := by decide +kernel
theorem dL_law_1014 : decode cL_law 1014 = .ok (.iaload, 1) := by decide +kernel
theorem dL_law_1015 : decode cL_law 1015 = .ok (.aload_n 3, 1) := by decide +kernel
theorem dL_law_1016 : decode cL_law 1016 = .ok (.invokestatic 139, 3) := by decide +kernel
theorem dL_law_1019 : decode cL_law 1019 = .ok (.istore 5, 2) := by decide +kernel
theorem dL_law_1021 : decode cL_law 1021 = .ok (.aload_n 2, 1) := by decide +kernel
theorem dL_law_1022 : decode cL_law 1022 = .ok (.aload_n 0, 1) := by decide +kernel
theorem dL_law_1023 : decode cL_law 1023 = .ok (.iload 4, 2) := by decide +kernel
theorem dL_law_1025 : decode cL_law 1025 = .ok (.iconst 1, 1) := by decide +kernel
theorem dL_law_1026 : decode cL_law 1026 = .ok (.iadd, 1) := by decide +kernel
theorem dL_law_1027 : decode cL_law 1027 = .ok (.iaload, 1) := by decide +kernel
theorem dL_law_1028 : decode cL_law 1028 = .ok (.invokevirtual 141, 3) := by decide +kernel
theorem dL_law_1031 : decode cL_law 1031 = .ok (.istore 6, 2) := by decide +kernel
theorem dL_law_1033 : decode cL_law 1033 = .ok (.aload_n 2, 1) := by decide +kernel
theorem dL_law_1034 : decode cL_law 1034 = .ok (.invokevirtual 83, 3) := by decide +kernel
theorem dL_law_1037 : decode cL_law 1037 = .ok (.iload 5, 2) := by decide +kernel
theorem dL_law_1039 : decode cL_law 1039 = .ok (.if_icmp .eq 5, 3) := by decide +kernel
theorem dL_law_1042 : decode cL_law 1042 = .ok (.iconst 0, 1) := by decide +kernel
theorem dL_law_1043 : decode cL_law 1043 = .ok (.ireturn, 1) := by decide +kernel
theorem dL_law_1044 : decode cL_law 1044 = .ok (.iload 5, 2) := by decide +kernel
theorem dL_law_1046 : decode cL_law 1046 = .ok (.ifCond .ne 15, 3) := by decide +kernel
theorem dL_law_1049 : decode cL_law 1049 = .ok (.aload_n 3, 1) := by decide +kernel
theorem dL_law_1050 : decode cL_law 1050 = .ok (.iconst 0, 1) := by decide +kernel
theorem dL_law_1051 : decode cL_law 1051 = .ok (.laload, 1) := by decide +kernel
theorem dL_law_1052 : decode cL_law 1052 = .ok (.iload 6, 2) := by decide +kernel
theorem dL_law_1054 : decode cL_law 1054 = .ok (.i2l, 1) := by decide +kernel
theorem dL_law_1055 : decode cL_law 1055 = .ok (.lcmp, 1) := by decide +kernel
theorem dL_law_1056 : decode cL_law 1056 = .ok (.ifCond .eq 5, 3) := by decide +kernel
theorem dL_law_1059 : decode cL_law 1059 = .ok (.iconst 0, 1) := by decide +kernel
theorem dL_law_1060 : decode cL_law 1060 = .ok (.ireturn, 1) := by decide +kernel
theorem dL_law_1061 : decode cL_law 1061 = .ok (.goto 451, 3) := by decide +kernel
theorem dL_law_1064 : decode cL_law 1064 = .ok (.aload_n 1, 1) := by decide +kernel
theorem dL_law_1065 : decode cL_law 1065 = .ok (.invokevirtual 142, 3) := by decide +kernel
theorem dL_law_1068 : decode cL_law 1068 = .ok (.aload_n 2, 1) := by decide +kernel
theorem dL_law_1069 : decode cL_law 1069 = .ok (.invokevirtual 145, 3) := by decide +kernel
theorem dL_law_1072 : decode cL_law 1072 = .ok (.if_icmp .eq 440, 3) := by decide +kernel
theorem dL_law_1075 : decode cL_law 1075 = .ok (.iconst 0, 1) := by decide +kernel
theorem dL_law_1076 : decode cL_law 1076 = .ok (.ireturn, 1) := by decide +kernel
theorem dL_law_1077 : decode cL_law 1077 = .ok (.aload_n 1, 1) := by decide +kernel
theorem dL_law_1078 : decode cL_law 1078 = .ok (.invokevirtual 146, 3) := by decide +kernel
theorem dL_law_1081 : decode cL_law 1081 = .ok (.aload_n 2, 1) := by decide +kernel
theorem dL_law_1082 : decode cL_law 1082 = .ok (.invokevirtual 149, 3) := by decide +kernel
theorem dL_law_1085 : decode cL_law 1085 = .ok (.if_icmp .eq 427, 3) := by decide +kernel
theorem dL_law_1088 : decode cL_law 1088 = .ok (.iconst 0, 1) := by decide +kernel
theorem dL_law_1089 : decode cL_law 1089 = .ok (.ireturn, 1) := by decide +kernel
theorem dL_law_1090 : decode cL_law 1090 = .ok (.aload_n 1, 1) := by decide +kernel
theorem dL_law_1091 : decode cL_law 1091 = .ok (.invokevirtual 150, 3) := by decide +kernel
theorem dL_law_1094 : decode cL_law 1094 = .ok (.aload_n 2, 1) := by decide +kernel
theorem dL_law_1095 : decode cL_law 1095 = .ok (.invokevirtual 153, 3) := by decide +kernel
theorem dL_law_1098 : decode cL_law 1098 = .ok (.if_icmp .eq 414, 3) := by decide +kernel
theorem dL_law_1101 : decode cL_law 1101 = .ok (.iconst 0, 1) := by decide +kernel
theorem dL_law_1102 : decode cL_law 1102 = .ok (.ireturn, 1) := by decide +kernel
theorem dL_law_1103 : decode cL_law 1103 = .ok (.aload_n 1, 1) := by decide +kernel
theorem dL_law_1104 : decode cL_law 1104 = .ok (.invokevirtual 154, 3) := by decide +kernel
theorem dL_law_1107 : decode cL_law 1107 = .ok (.aload_n 2, 1) := by decide +kernel
theorem dL_law_1108 : decode cL_law 1108 = .ok (.invokevirtual 157, 3) := by decide +kernel
theorem dL_law_1111 : decode cL_law 1111 = .ok (.if_icmp .eq 401, 3) := by decide +kernel
theorem dL_law_1114 : decode cL_law 1114 = .ok (.iconst 0, 1) := by decide +kernel
theorem dL_law_1115 : decode cL_law 1115 = .ok (.ireturn, 1) := by decide +kernel
theorem dL_law_1116 : decode cL_law 1116 = .ok (.aload_n 1, 1) := by decide +kernel
theorem dL_law_1117 : decode cL_law 1117 = .ok (.aload_n 0, 1) := by decide +kernel
theorem dL_law_1118 : decode cL_law 1118 = .ok (.iload 4, 2) := by decide +kernel
theorem dL_law_1120 : decode cL_law 1120 = .ok (.iconst 1, 1) := by decide +kernel
theorem dL_law_1121 : decode cL_law 1121 = .ok (.iadd, 1) := by decide +kernel
theorem dL_law_1122 : decode cL_law 1122 = .ok (.iaload, 1) := by decide +kernel
theorem dL_law_1123 : decode cL_law 1123 = .ok (.aload_n 0, 1) := by decide +kernel
theorem dL_law_1124 : decode cL_law 1124 = .ok (.iload 4, 2) := by decide +kernel
theorem dL_law_1126 : decode cL_law 1126 = .ok (.iconst 2, 1) := by decide +kernel
theorem dL_law_1127 : decode cL_law 1127 = .ok (.iadd, 1) := by decide +kernel
theorem dL_law_1128 : decode cL_law 1128 = .ok (.iaload, 1) := by decide +kernel
theorem dL_law_1129 : decode cL_law 1129 = .ok (.aload_n 3, 1) := by decide +kernel
theorem dL_law_1130 : decode cL_law 1130 = .ok (.invokestatic 158, 3) := by decide +kernel
theorem dL_law_1133 : decode cL_law 1133 = .ok (.istore 5, 2) := by decide +kernel
theorem dL_law_1135 : decode cL_law 1135 = .ok (.aload_n 2, 1) := by decide +kernel
theorem dL_law_1136 : decode cL_law 1136 = .ok (.aload_n 0, 1) := by decide +kernel
theorem dL_law_1137 : decode cL_law 1137 = .ok (.iload 4, 2) := by decide +kernel
theorem dL_law_1139 : decode cL_law 1139 = .ok (.iconst 1, 1) := by decide +kernel
theorem dL_law_1140 : decode cL_law 1140 = .ok (.iadd, 1) := by decide +kernel
theorem dL_law_1141 : decode cL_law 1141 = .ok (.iaload, 1) := by decide +kernel
theorem dL_law_1142 : decode cL_law 1142 = .ok (.aload_n 0, 1) := by decide +kernel
theorem dL_law_1143 : decode cL_law 1143 = .ok (.iload 4, 2) := by decide +kernel
theorem dL_law_1145 : decode cL_law 1145 = .ok (.iconst 2, 1) := by decide +kernel
theorem dL_law_1146 : decode cL_law 1146 = .ok (.iadd, 1) := by decide +kernel
theorem dL_law_1147 : decode cL_law 1147 = .ok (.iaload, 1) := by decide +kernel
theorem dL_law_1148 : decode cL_law 1148 = .ok (.invokevirtual 160, 3) := by decide +kernel
theorem dL_law_1151 : decode cL_law 1151 = .ok (.istore 6, 2) := by decide +kernel
theorem dL_law_1153 : decode cL_law 1153 = .ok (.aload_n 2, 1) := by decide +kernel
theorem dL_law_1154 : decode cL_law 1154 = .ok (.invokevirtual 83, 3) := by decide +kernel
theorem dL_law_1157 : decode cL_law 1157 = .ok (.iload 5, 2) := by decide +kernel
theorem dL_law_1159 : decode cL_law 1159 = .ok (.if_icmp .eq 5, 3) := by decide +kernel
theorem dL_law_1162 : decode cL_law 1162 = .ok (.iconst 0, 1) := by decide +kernel
theorem dL_law_1163 : decode cL_law 1163 = .ok (.ireturn, 1) := by decide +kernel
theorem dL_law_1164 : decode cL_law 1164 = .ok (.iload 5, 2) := by decide +kernel
theorem dL_law_1166 : decode cL_law 1166 = .ok (.ifCond .ne 15, 3) := by decide +kernel
theorem dL_law_1169 : decode cL_law 1169 = .ok (.aload_n 3, 1) := by decide +kernel
theorem dL_law_1170 : decode cL_law 1170 = .ok (.iconst 0, 1) := by decide +kernel
theorem dL_law_1171 : decode cL_law 1171 = .ok (.laload, 1) := by decide +kernel
theorem dL_law_1172 : decode cL_law 1172 = .ok (.iload 6, 2) := by decide +kernel
theorem dL_law_1174 : decode cL_law 1174 = .ok (.i2l, 1) := by decide +kernel
theorem dL_law_1175 : decode cL_law 1175 = .ok (.lcmp, 1) := by decide +kernel
theorem dL_law_1176 : decode cL_law 1176 = .ok (.ifCond .eq 5, 3) := by decide +kernel
theorem dL_law_1179 : decode cL_law 1179 = .ok (.iconst 0, 1) := by decide +kernel
theorem dL_law_1180 : decode cL_law 1180 = .ok (.ireturn, 1) := by decide +kernel
theorem dL_law_1181 : decode cL_law 1181 = .ok (.goto 331, 3) := by decide +kernel
theorem dL_law_1184 : decode cL_law 1184 = .ok (.aload_n 1, 1) := by decide +kernel
theorem dL_law_1185 : decode cL_law 1185 = .ok (.invokevirtual 161, 3) := by decide +kernel
theorem dL_law_1188 : decode cL_law 1188 = .ok (.aload_n 2, 1) := by decide +kernel
theorem dL_law_1189 : decode cL_law 1189 = .ok (.invokevirtual 164, 3) := by decide +kernel
theorem dL_law_1192 : decode cL_law 1192 = .ok (.if_icmp .eq 320, 3) := by decide +kernel
theorem dL_law_1195 : decode cL_law 1195 = .ok (.iconst 0, 1) := by decide +kernel
theorem dL_law_1196 : decode cL_law 1196 = .ok (.ireturn, 1) := by decide +kernel
theorem dL_law_1197 : decode cL_law 1197 = .ok (.aload_n 1, 1) := by decide +kernel
theorem dL_law_1198 : decode cL_law 1198 = .ok (.invokevirtual 165, 3) := by decide +kernel
theorem dL_law_1201 : decode cL_law 1201 = .ok (.aload_n 2, 1) := by decide +kernel
theorem dL_law_1202 : decode cL_law 1202 = .ok (.invokevirtual 168, 3) := by decide +kernel
theorem dL_law_1205 : decode cL_law 1205 = .ok (.if_icmp .eq 307, 3) := by decide +kernel
theorem dL_law_1208 : decode cL_law 1208 = .ok (.iconst 0, 1) := by decide +kernel
theorem dL_law_1209 : decode cL_law 1209 = .ok (.ireturn, 1) := by decide +kernel
theorem dL_law_1210 : decode cL_law 1210 = .ok (.aload_n 1, 1) := by decide +kernel
theorem dL_law_1211 : decode cL_law 1211 = .ok (.aload_n 0, 1) := by decide +kernel
theorem dL_law_1212 : decode cL_law 1212 = .ok (.iload 4, 2) := by decide +kernel
theorem dL_law_1214 : decode cL_law 1214 = .ok (.iconst 1, 1) := by decide +kernel
theorem dL_law_1215 : decode cL_law 1215 = .ok (.iadd, 1) := by decide +kernel
theorem dL_law_1216 : decode cL_law 1216 = .ok (.iaload, 1) := by decide +kernel
theorem dL_law_1217 : decode cL_law 1217 = .ok (.aload_n 0, 1) := by decide +kernel
theorem dL_law_1218 : decode cL_law 1218 = .ok (.iload 4, 2) := by decide +kernel
theorem dL_law_1220 : decode cL_law 1220 = .ok (.iconst 2, 1) := by decide +kernel
theorem dL_law_1221 : decode cL_law 1221 = .ok (.iadd, 1) := by decide +kernel
theorem dL_law_1222 : decode cL_law 1222 = .ok (.iaload, 1) := by decide +kernel
theorem dL_law_1223 : decode cL_law 1223 = .ok (.aload_n 0, 1) := by decide +kernel
theorem dL_law_1224 : decode cL_law 1224 = .ok (.iload 4, 2) := by decide +kernel
theorem dL_law_1226 : decode cL_law 1226 = .ok (.iconst 3, 1) := by decide +kernel
theorem dL_law_1227 : decode cL_law 1227 = .ok (.iadd, 1) := by decide +kernel
theorem dL_law_1228 : decode cL_law 1228 = .ok (.iaload, 1) := by decide +kernel
theorem dL_law_1229 : decode cL_law 1229 = .ok (.aload_n 3, 1) := by decide +kernel
theorem dL_law_1230 : decode cL_law 1230 = .ok (.invokestatic 169, 3) := by decide +kernel
theorem dL_law_1233 : decode cL_law 1233 = .ok (.istore 5, 2) := by decide +kernel
theorem dL_law_1235 : decode cL_law 1235 = .ok (.aload_n 2, 1) := by decide +kernel
theorem dL_law_1236 : decode cL_law 1236 = .ok (.aload_n 0, 1) := by decide +kernel
theorem dL_law_1237 : decode cL_law 1237 = .ok (.iload 4, 2) := by decide +kernel
theorem dL_law_1239 : decode cL_law 1239 = .ok (.iconst 1, 1) := by decide +kernel
theorem dL_law_1240 : decode cL_law 1240 = .ok (.iadd, 1) := by decide +kernel
theorem dL_law_1241 : decode cL_law 1241 = .ok (.iaload, 1) := by decide +kernel
theorem dL_law_1242 : decode cL_law 1242 = .ok (.aload_n 0, 1) := by decide +kernel
theorem dL_law_1243 : decode cL_law 1243 = .ok (.iload 4, 2) := by decide +kernel
theorem dL_law_1245 : decode cL_law 1245 = .ok (.iconst 2, 1) := by decide +kernel
theorem dL_law_1246 : decode cL_law 1246 = .ok (.iadd, 1) := by decide +kernel
theorem dL_law_1247 : decode cL_law 1247 = .ok (.iaload, 1) := by decide +kernel
theorem dL_law_1248 : decode cL_law 1248 = .ok (.aload_n 0, 1) := by decide +kernel
theorem dL_law_1249 : decode cL_law 1249 = .ok (.iload 4, 2) := by decide +kernel
theorem dL_law_1251 : decode cL_law 1251 = .ok (.iconst 3, 1) := by decide +kernel
theorem dL_law_1252 : decode cL_law 1252 = .ok (.iadd, 1) := by decide +kernel
theorem dL_law_1253 : decode cL_law 1253 = .ok (.iaload, 1) := by decide +kernel
theorem dL_law_1254 : decode cL_law 1254 = .ok (.invokevirtual 171, 3) := by decide +kernel
theorem dL_law_1257 : decode cL_law 1257 = .ok (.istore 6, 2) := by decide +kernel
theorem dL_law_1259 : decode cL_law 1259 = .ok (.aload_n 2, 1) := by decide +kernel
theorem dL_law_1260 : decode cL_law 1260 = .ok (.invokevirtual 83, 3) := by decide +kernel
theorem dL_law_1263 : decode cL_law 1263 = .ok (.iload 5, 2) := by decide +kernel
theorem dL_law_1265 : decode cL_law 1265 = .ok (.if_icmp .eq 5, 3) := by decide +kernel
theorem dL_law_1268 : decode cL_law 1268 = .ok (.iconst 0, 1) := by decide +kernel
theorem dL_law_1269 : decode cL_law 1269 = .ok (.ireturn, 1) := by decide +kernel
theorem dL_law_1270 : decode cL_law 1270 = .ok (.iload 5, 2) := by decide +kernel
theorem dL_law_1272 : decode cL_law 1272 = .ok (.ifCond .ne 15, 3) := by decide +kernel
theorem dL_law_1275 : decode cL_law 1275 = .ok (.aload_n 3, 1) := by decide +kernel
theorem dL_law_1276 : decode cL_law 1276 = .ok (.iconst 0, 1) := by decide +kernel
theorem dL_law_1277 : decode cL_law 1277 = .ok (.laload, 1) := by decide +kernel
theorem dL_law_1278 : decode cL_law 1278 = .ok (.iload 6, 2) := by decide +kernel
theorem dL_law_1280 : decode cL_law 1280 = .ok (.i2l, 1) := by decide +kernel
theorem dL_law_1281 : decode cL_law 1281 = .ok (.lcmp, 1) := by decide +kernel
theorem dL_law_1282 : decode cL_law 1282 = .ok (.ifCond .eq 5, 3) := by decide +kernel
theorem dL_law_1285 : decode cL_law 1285 = .ok (.iconst 0, 1) := by decide +kernel
theorem dL_law_1286 : decode cL_law 1286 = .ok (.ireturn, 1) := by decide +kernel
theorem dL_law_1287 : decode cL_law 1287 = .ok (.goto 225, 3) := by decide +kernel
theorem dL_law_1290 : decode cL_law 1290 = .ok (.aload_n 1, 1) := by decide +kernel
theorem dL_law_1291 : decode cL_law 1291 = .ok (.aload_n 0, 1) := by decide +kernel
theorem dL_law_1292 : decode cL_law 1292 = .ok (.iload 4, 2) := by decide +kernel
theorem dL_law_1294 : decode cL_law 1294 = .ok (.iconst 1, 1) := by decide +kernel
theorem dL_law_1295 : decode cL_law 1295 = .ok (.iadd, 1) := by decide +kernel
theorem dL_law_1296 : decode cL_law 1296 = .ok (.iaload, 1) := by decide +kernel
theorem dL_law_1297 : decode cL_law 1297 = .ok (.aload_n 3, 1) := by decide +kernel
theorem dL_law_1298 : decode cL_law 1298 = .ok (.invokestatic 172, 3) := by decide +kernel
theorem dL_law_1301 : decode cL_law 1301 = .ok (.istore 5, 2) := by decide +kernel
theorem dL_law_1303 : decode cL_law 1303 = .ok (.aload_n 2, 1) := by decide +kernel
theorem dL_law_1304 : decode cL_law 1304 = .ok (.aload_n 0, 1) := by decide +kernel
theorem dL_law_1305 : decode cL_law 1305 = .ok (.iload 4, 2) := by decide +kernel
theorem dL_law_1307 : decode cL_law 1307 = .ok (.iconst 1, 1) := by decide +kernel
theorem dL_law_1308 : decode cL_law 1308 = .ok (.iadd, 1) := by decide +kernel
theorem dL_law_1309 : decode cL_law 1309 = .ok (.iaload, 1) := by decide +kernel
theorem dL_law_1310 : decode cL_law 1310 = .ok (.invokevirtual 174, 3) := by decide +kernel
theorem dL_law_1313 : decode cL_law 1313 = .ok (.istore 6, 2) := by decide +kernel
theorem dL_law_1315 : decode cL_law 1315 = .ok (.aload_n 2, 1) := by decide +kernel
theorem dL_law_1316 : decode cL_law 1316 = .ok (.invokevirtual 83, 3) := by decide +kernel
theorem dL_law_1319 : decode cL_law 1319 = .ok (.iload 5, 2) := by decide +kernel
theorem dL_law_1321 : decode cL_law 1321 = .ok (.if_icmp .eq 5, 3) := by decide +kernel
theorem dL_law_1324 : decode cL_law 1324 = .ok (.iconst 0, 1) := by decide +kernel
theorem dL_law_1325 : decode cL_law 1325 = .ok (.ireturn, 1) := by decide +kernel
theorem dL_law_1326 : decode cL_law 1326 = .ok (.iload 5, 2) := by decide +kernel
theorem dL_law_1328 : decode cL_law 1328 = .ok (.ifCond .ne 15, 3) := by decide +kernel
theorem dL_law_1331 : decode cL_law 1331 = .ok (.aload_n 3, 1) := by decide +kernel
theorem dL_law_1332 : decode cL_law 1332 = .ok (.iconst 0, 1) := by decide +kernel
theorem dL_law_1333 : decode cL_law 1333 = .ok (.laload, 1) := by decide +kernel
theorem dL_law_1334 : decode cL_law 1334 = .ok (.iload 6, 2) := by decide +kernel
theorem dL_law_1336 : decode cL_law 1336 = .ok (.i2l, 1) := by decide +kernel
theorem dL_law_1337 : decode cL_law 1337 = .ok (.lcmp, 1) := by decide +kernel
theorem dL_law_1338 : decode cL_law 1338 = .ok (.ifCond .eq 5, 3) := by decide +kernel
theorem dL_law_1341 : decode cL_law 1341 = .ok (.iconst 0, 1) := by decide +kernel
theorem dL_law_1342 : decode cL_law 1342 = .ok (.ireturn, 1) := by decide +kernel
theorem dL_law_1343 : decode cL_law 1343 = .ok (.goto 169, 3) := by decide +kernel
theorem dL_law_1346 : decode cL_law 1346 = .ok (.aload_n 1, 1) := by decide +kernel
theorem dL_law_1347 : decode cL_law 1347 = .ok (.invokevirtual 175, 3) := by decide +kernel
theorem dL_law_1350 : decode cL_law 1350 = .ok (.aload_n 2, 1) := by decide +kernel
theorem dL_law_1351 : decode cL_law 1351 = .ok (.invokevirtual 178, 3) := by decide +kernel
theorem dL_law_1354 : decode cL_law 1354 = .ok (.if_icmp .eq 158, 3) := by decide +kernel
theorem dL_law_1357 : decode cL_law 1357 = .ok (.iconst 0, 1) := by decide +kernel
theorem dL_law_1358 : decode cL_law 1358 = .ok (.ireturn, 1) := by decide +kernel
theorem dL_law_1359 : decode cL_law 1359 = .ok (.aload_n 1, 1) := by decide +kernel
theorem dL_law_1360 : decode cL_law 1360 = .ok (.aload_n 0, 1) := by decide +kernel
theorem dL_law_1361 : decode cL_law 1361 = .ok (.iload 4, 2) := by decide +kernel
theorem dL_law_1363 : decode cL_law 1363 = .ok (.iconst 1, 1) := by decide +kernel
theorem dL_law_1364 : decode cL_law 1364 = .ok (.iadd, 1) := by decide +kernel
theorem dL_law_1365 : decode cL_law 1365 = .ok (.iaload, 1) := by decide +kernel
theorem dL_law_1366 : decode cL_law 1366 = .ok (.aload_n 3, 1) := by decide +kernel
theorem dL_law_1367 : decode cL_law 1367 = .ok (.invokestatic 179, 3) := by decide +kernel
theorem dL_law_1370 : decode cL_law 1370 = .ok (.istore 5, 2) := by decide +kernel
theorem dL_law_1372 : decode cL_law 1372 = .ok (.aload_n 2, 1) := by decide +kernel
theorem dL_law_1373 : decode cL_law 1373 = .ok (.aload_n 0, 1) := by decide +kernel
theorem dL_law_1374 : decode cL_law 1374 = .ok (.iload 4, 2) := by decide +kernel
theorem dL_law_1376 : decode cL_law 1376 = .ok (.iconst 1, 1) := by decide +kernel
theorem dL_law_1377 : decode cL_law 1377 = .ok (.iadd, 1) := by decide +kernel
theorem dL_law_1378 : decode cL_law 1378 = .ok (.iaload, 1) := by decide +kernel
theorem dL_law_1379 : decode cL_law 1379 = .ok (.invokevirtual 181, 3) := by decide +kernel
theorem dL_law_1382 : decode cL_law 1382 = .ok (.istore 6, 2) := by decide +kernel
theorem dL_law_1384 : decode cL_law 1384 = .ok (.aload_n 2, 1) := by decide +kernel
theorem dL_law_1385 : decode cL_law 1385 = .ok (.invokevirtual 83, 3) := by decide +kernel
theorem dL_law_1388 : decode cL_law 1388 = .ok (.iload 5, 2) := by decide +kernel
theorem dL_law_1390 : decode cL_law 1390 = .ok (.if_icmp .eq 5, 3) := by decide +kernel
theorem dL_law_1393 : decode cL_law 1393 = .ok (.iconst 0, 1) := by decide +kernel
theorem dL_law_1394 : decode cL_law 1394 = .ok (.ireturn, 1) := by decide +kernel
theorem dL_law_1395 : decode cL_law 1395 = .ok (.iload 5, 2) := by decide +kernel
theorem dL_law_1397 : decode cL_law 1397 = .ok (.ifCond .ne 15, 3) := by decide +kernel
theorem dL_law_1400 : decode cL_law 1400 = .ok (.aload_n 3, 1) := by decide +kernel
theorem dL_law_1401 : decode cL_law 1401 = .ok (.iconst 0, 1) := by decide +kernel
theorem dL_law_1402 : decode cL_law 1402 = .ok (.laload, 1) := by decide +kernel
theorem dL_law_1403 : decode cL_law 1403 = .ok (.iload 6, 2) := by decide +kernel
theorem dL_law_1405 : decode cL_law 1405 = .ok (.i2l, 1) := by decide +kernel
theorem dL_law_1406 : decode cL_law 1406 = .ok (.lcmp, 1) := by decide +kernel
theorem dL_law_1407 : decode cL_law 1407 = .ok (.ifCond .eq 5, 3) := by decide +kernel
theorem dL_law_1410 : decode cL_law 1410 = .ok (.iconst 0, 1) := by decide +kernel
theorem dL_law_1411 : decode cL_law 1411 = .ok (.ireturn, 1) := by decide +kernel
theorem dL_law_1412 : decode cL_law 1412 = .ok (.goto 100, 3) := by decide +kernel
theorem dL_law_1415 : decode cL_law 1415 = .ok (.aload_n 1, 1) := by decide +kernel
theorem dL_law_1416 : decode cL_law 1416 = .ok (.invokevirtual 182, 3) := by decide +kernel
theorem dL_law_1419 : decode cL_law 1419 = .ok (.aload_n 2, 1) := by decide +kernel
theorem dL_law_1420 : decode cL_law 1420 = .ok (.invokevirtual 185, 3) := by decide +kernel
theorem dL_law_1423 : decode cL_law 1423 = .ok (.if_icmp .eq 89, 3) := by decide +kernel
theorem dL_law_1426 : decode cL_law 1426 = .ok (.iconst 0, 1) := by decide +kernel
theorem dL_law_1427 : decode cL_law 1427 = .ok (.ireturn, 1) := by decide +kernel
theorem dL_law_1428 : decode cL_law 1428 = .ok (.aload_n 1, 1) := by decide +kernel
theorem dL_law_1429 : decode cL_law 1429 = .ok (.invokevirtual 186, 3) := by decide +kernel
theorem dL_law_1432 : decode cL_law 1432 = .ok (.aload_n 2, 1) := by decide +kernel
theorem dL_law_1433 : decode cL_law 1433 = .ok (.invokevirtual 189, 3) := by decide +kernel
theorem dL_law_1436 : decode cL_law 1436 = .ok (.if_icmp .eq 76, 3) := by decide +kernel
theorem dL_law_1439 : decode cL_law 1439 = .ok (.iconst 0, 1) := by decide +kernel
theorem dL_law_1440 : decode cL_law 1440 = .ok (.ireturn, 1) := by decide +kernel
theorem dL_law_1441 : decode cL_law 1441 = .ok (.aload_n 1, 1) := by decide +kernel
theorem dL_law_1442 : decode cL_law 1442 = .ok (.aload_n 3, 1) := by decide +kernel
theorem dL_law_1443 : decode cL_law 1443 = .ok (.invokestatic 190, 3) := by decide +kernel
theorem dL_law_1446 : decode cL_law 1446 = .ok (.istore 5, 2) := by decide +kernel
theorem dL_law_1448 : decode cL_law 1448 = .ok (.aload_n 2, 1) := by decide +kernel
theorem dL_law_1449 : decode cL_law 1449 = .ok (.invokevirtual 192, 3) := by decide +kernel
theorem dL_law_1452 : decode cL_law 1452 = .ok (.istore 6, 2) := by decide +kernel
theorem dL_law_1454 : decode cL_law 1454 = .ok (.aload_n 2, 1) := by decide +kernel
theorem dL_law_1455 : decode cL_law 1455 = .ok (.invokevirtual 83, 3) := by decide +kernel
theorem dL_law_1458 : decode cL_law 1458 = .ok (.iload 5, 2) := by decide +kernel
theorem dL_law_1460 : decode cL_law 1460 = .ok (.if_icmp .eq 5, 3) := by decide +kernel
theorem dL_law_1463 : decode cL_law 1463 = .ok (.iconst 0, 1) := by decide +kernel
theorem dL_law_1464 : decode cL_law 1464 = .ok (.ireturn, 1) := by decide +kernel
theorem dL_law_1465 : decode cL_law 1465 = .ok (.iload 5, 2) := by decide +kernel
theorem dL_law_1467 : decode cL_law 1467 = .ok (.ifCond .ne 15, 3) := by decide +kernel
theorem dL_law_1470 : decode cL_law 1470 = .ok (.aload_n 3, 1) := by decide +kernel
theorem dL_law_1471 : decode cL_law 1471 = .ok (.iconst 0, 1) := by decide +kernel
theorem dL_law_1472 : decode cL_law 1472 = .ok (.laload, 1) := by decide +kernel
theorem dL_law_1473 : decode cL_law 1473 = .ok (.iload 6, 2) := by decide +kernel
theorem dL_law_1475 : decode cL_law 1475 = .ok (.i2l, 1) := by decide +kernel
theorem dL_law_1476 : decode cL_law 1476 = .ok (.lcmp, 1) := by decide +kernel
theorem dL_law_1477 : decode cL_law 1477 = .ok (.ifCond .eq 5, 3) := by decide +kernel
theorem dL_law_1480 : decode cL_law 1480 = .ok (.iconst 0, 1) := by decide +kernel
theorem dL_law_1481 : decode cL_law 1481 = .ok (.ireturn, 1) := by decide +kernel
theorem dL_law_1482 : decode cL_law 1482 = .ok (.goto 30, 3) := by decide +kernel
theorem dL_law_1485 : decode cL_law 1485 = .ok (.aload_n 1, 1) := by decide +kernel
theorem dL_law_1486 : decode cL_law 1486 = .ok (.invokevirtual 193, 3) := by decide +kernel
theorem dL_law_1489 : decode cL_law 1489 = .ok (.aload_n 2, 1) := by decide +kernel
theorem dL_law_1490 : decode cL_law 1490 = .ok (.invokevirtual 196, 3) := by decide +kernel
theorem dL_law_1493 : decode cL_law 1493 = .ok (.if_icmp .eq 19, 3) := by decide +kernel
theorem dL_law_1496 : decode cL_law 1496 = .ok (.iconst 0, 1) := by decide +kernel
theorem dL_law_1497 : decode cL_law 1497 = .ok (.ireturn, 1) := by decide +kernel
theorem dL_law_1498 : decode cL_law 1498 = .ok (.aload_n 1, 1) := by decide +kernel
theorem dL_law_1499 : decode cL_law 1499 = .ok (.invokevirtual 197, 3) := by decide +kernel
theorem dL_law_1502 : decode cL_law 1502 = .ok (.aload_n 2, 1) := by decide +kernel
theorem dL_law_1503 : decode cL_law 1503 = .ok (.invokevirtual 201, 3) := by decide +kernel
theorem dL_law_1506 : decode cL_law 1506 = .ok (.lcmp, 1) := by decide +kernel
theorem dL_law_1507 : decode cL_law 1507 = .ok (.ifCond .eq 5, 3) := by decide +kernel
theorem dL_law_1510 : decode cL_law 1510 = .ok (.iconst 0, 1) := by decide +kernel
theorem dL_law_1511 : decode cL_law 1511 = .ok (.ireturn, 1) := by decide +kernel
theorem dL_law_1512 : decode cL_law 1512 = .ok (.iinc 4 4, 3) := by decide +kernel
theorem dL_law_1515 : decode cL_law 1515 = .ok (.goto (-1492), 3) := by decide +kernel
theorem dL_law_1518 : decode cL_law 1518 = .ok (.iconst 1, 1) := by decide +kernel
theorem dL_law_1519 : decode cL_law 1519 = .ok (.ireturn, 1) := by decide +kernel
end
section
/-! ints as whole numbers: jz z is the int that holds z -/
def jz (z : Int) : Int32 := Int32.ofInt z
abbrev jr (z : Int) : Prop := -2147483648 ≤ z ∧ z < 2147483648
theorem jz_add (a b : Int) : jz a + jz b = jz (a + b) := (Int32.ofInt_add a b).symm
theorem jz_sub (a b : Int) : jz a - jz b = jz (a - b) := (Int32.ofInt_sub a b).symm
theorem jz_mul (a b : Int) : jz a * jz b = jz (a * b) := (Int32.ofInt_mul a b).symm
theorem jz_neg (a : Int) : -jz a = jz (-a) := (Int32.ofInt_neg a).symm
theorem jz_int {z : Int} (h : jr z) : (jz z).toInt = z := by
  unfold jz
  rw [Int32.toInt_ofInt]
  have e : (Int32.size : Int) = 4294967296 := rfl
  exact Int.bmod_eq_of_le (by omega) (by omega)
theorem jz_as (x : Int32) : jz x.toInt = x := Int32.ofInt_toInt x
theorem jr_as (x : Int32) : jr x.toInt := by
  have h1 := Int32.le_toInt x
  have h2 := Int32.toInt_lt x
  exact ⟨by omega, by omega⟩
theorem jz_lt {a b : Int} (ha : jr a) (hb : jr b) : jz a < jz b ↔ a < b := by rw [Int32.lt_iff_toInt_lt, jz_int ha, jz_int hb]
theorem jz_le {a b : Int} (ha : jr a) (hb : jr b) : jz a ≤ jz b ↔ a ≤ b := by rw [Int32.le_iff_toInt_le, jz_int ha, jz_int hb]
theorem jz_eq {a b : Int} (ha : jr a) (hb : jr b) : jz a = jz b ↔ a = b := by
  rw [← Int32.toInt_inj, jz_int ha, jz_int hb]
theorem jz_clamp {z : Int} (h : jr z) : (jz z).toNatClampNeg = z.toNat := by
  show (jz z).toInt.toNat = z.toNat
  rw [jz_int h]
theorem jz_in {z : Int} {n : Nat} (h0 : 0 ≤ z) (h : z < n) (hn : n < 2147483648) : vp_in (jz z) n := by
  rw [vp_in_iff, jz_int (by omega)]
  omega
theorem jz_ix {z : Int} (h0 : 0 ≤ z) : ((z.toNat : Nat) : Int) = z := Int.toNat_of_nonneg h0
theorem jz_nI (n : Nat) : nI n = jz (n : Int) := (Int32.ofInt_eq_ofNat).symm
theorem jz_div {a b : Int} (h0 : 0 ≤ a) (ha : jr a) (hb0 : 0 < b) (hb : jr b) : jz a / jz b = jz (a / b) := by
  obtain ⟨n, rfl⟩ := Int.eq_ofNat_of_zero_le h0
  obtain ⟨d, rfl⟩ := Int.eq_ofNat_of_zero_le (by omega : 0 ≤ b)
  rw [← jz_nI, ← jz_nI, pk_div (by omega) (by omega) (by omega), jz_nI]
  rfl
theorem jz_rem {a b : Int} (h0 : 0 ≤ a) (ha : jr a) (hb0 : 0 < b) (hb : jr b) : jz a - jz a / jz b * jz b = jz (a % b) := by
  rw [jz_div h0 ha hb0 hb, jz_mul, jz_sub]
  exact congrArg jz (by have := Int.mul_ediv_add_emod a b; rw [Int.mul_comm] at this; omega)
def up {α : Type} (g : Int → α) (k : Int) (v : α) : Int → α := fun j => if j = k then v else g j
theorem up_eq {α : Type} {g : Int → α} {k : Int} {v : α} : up g k v k = v := by unfold up; exact if_pos rfl
theorem up_at {α : Type} {g : Int → α} {k j : Int} {v : α} (h : j = k) : up g k v j = v := by unfold up; exact if_pos h
theorem up_ne {α : Type} {g : Int → α} {k j : Int} {v : α} (h : j ≠ k) : up g k v j = g j := by unfold up; exact if_neg h
theorem up_upd (g : Int → Int) {k : Int} (h : 0 ≤ k) (v : Int) : upd (fun j => jz (g (j : Int))) k.toNat (jz v) = fun j : Nat => jz (up g k v (j : Int)) := by
  funext j
  unfold upd up
  by_cases e : j = k.toNat
  · rw [if_pos e, if_pos (by omega)]
  · rw [if_neg e, if_neg (by omega)]
theorem up_updL (g : Int → Int64) {k : Int} (h : 0 ≤ k) (v : Int64) : vp_updL (fun j : Nat => g (j : Int)) k.toNat v = fun j : Nat => up g k v (j : Int) := by
  funext j
  unfold up vp_updL
  by_cases e : j = k.toNat
  · rw [if_pos e, if_pos (by omega)]
  · rw [if_neg e, if_neg (by omega)]
theorem up_updQ (g : Int → Option Nat) {k : Int} (h : 0 ≤ k) (v : Option Nat) : va_up (fun j : Nat => g (j : Int)) k.toNat v = fun j : Nat => up g k v (j : Int) := by
  funext j
  unfold up va_up
  by_cases e : j = k.toNat
  · rw [if_pos e, if_pos (by omega)]
  · rw [if_neg e, if_neg (by omega)]
/-! the world: what the tables say of the classes and arrays; blocks of cells -/
abbrev GG : Type := va_G × (ClassId × ClassId × ClassId × ClassId)
def K0 (G : GG) (U : State) : Prop := va_K G.1 vwCl [(G.2.1, .int), (G.2.2.1, .long), (G.2.2.2.1, .boolean), (G.2.2.2.2, .object RX5)] U
abbrev ja (G : GG) (n : Nat) (g : Int → Int) : va_E := .inl (G.2.1, n, .inl (fun j => jz (g (j : Int))))
abbrev jl (G : GG) (n : Nat) (f : Int → Int64) : va_E := .inl (G.2.2.1, n, .inr (.inl (fun j => f (j : Int))))
abbrev jb (G : GG) (n : Nat) (g : Int → Int) : va_E := .inl (G.2.2.2.1, n, .inl (fun j => jz (g (j : Int))))
abbrev jq (G : GG) (n : Nat) (f : Int → Option Nat) : va_E := .inl (G.2.2.2.2, n, .inr (.inr (.inr (.inr (fun j => f (j : Int))))))
abbrev wP (G : GG) (bs : List va_W) (H : Heap) : Prop := va_P G.1 vwCl bs.flatten H
abbrev wD (A : Nat → Prop) (bs : List va_W) : Prop := va_D A bs.flatten
theorem wP_mem {D : va_G} {cl : List vw_C} {ws : va_W} {H : Heap} : va_P D cl ws H ↔ ∀ q ∈ ws, va_at D cl q H := by
  constructor
  · intro h q hq
    obtain ⟨k, hk⟩ := List.getElem?_of_mem hq
    exact h k q hk
  · intro h k q hk
    exact h q (List.mem_of_getElem? hk)
theorem wD_pw {A : Nat → Prop} {ws : va_W} : va_D A ws ↔ ws.Pairwise (fun a b => a.1 ≠ b.1) ∧ ∀ q ∈ ws, A q.1 := by
  constructor
  · intro h
    refine ⟨List.pairwise_iff_getElem.mpr (fun i j hi hj hij e => ?_), fun q hq => ?_⟩
    · have := h.1 i j _ _ (List.getElem?_eq_getElem hi) (List.getElem?_eq_getElem hj) e
      omega
    · obtain ⟨k, hk⟩ := List.getElem?_of_mem hq
      exact h.2 k q hk
  · intro h
    refine ⟨fun i j a b ha hb e => ?_, fun k q hk => h.2 q (List.mem_of_getElem? hk)⟩
    obtain ⟨hi, ei⟩ := List.getElem?_eq_some_iff.mp ha
    obtain ⟨hj, ej⟩ := List.getElem?_eq_some_iff.mp hb
    have hp := List.pairwise_iff_getElem.mp h.1
    rcases Nat.lt_trichotomy i j with q | q | q
    · exact absurd (by rw [ei, ej]; exact e) (hp i j hi hj q)
    · exact q
    · exact absurd (by rw [ei, ej]; exact e.symm) (hp j i hj hi q)
theorem wsub_mem {α : Type} {bs bc : List α} {is : List Nat} (hs : is.map (fun i => bs[i]?) = bc.map some) {b : α} (hb : b ∈ bc) : ∃ i, i ∈ is ∧ bs[i]? = some b := by
  have h : some b ∈ bc.map some := List.mem_map.mpr ⟨b, hb, rfl⟩
  rw [← hs] at h
  obtain ⟨i, h1, h2⟩ := List.mem_map.mp h
  exact ⟨i, h1, h2⟩
theorem wP_sub {G : GG} {bs bc : List va_W} {H : Heap} (h : wP G bs H) (is : List Nat) (hs : is.map (fun i => bs[i]?) = bc.map some) : wP G bc H := by
  replace h := wP_mem.mp h
  refine wP_mem.mpr ?_
  intro q hq
  obtain ⟨b, hb, hqb⟩ := List.mem_flatten.mp hq
  obtain ⟨i, -, hi⟩ := wsub_mem hs hb
  exact h q (List.mem_flatten.mpr ⟨b, List.mem_of_getElem? hi, hqb⟩)
theorem wnd {is : List Nat} (h : va_nd is = true) : ∀ (i j : Nat) (hi : i < is.length) (hj : j < is.length), is[i] = is[j] → i = j := by
  induction is with
  | nil => intro i j hi; exact absurd hi (Nat.not_lt_zero i)
  | cons a t ih =>
    intro i j hi hj e
    simp only [va_nd, Bool.and_eq_true] at h
    obtain ⟨h1, h2⟩ := h
    have h3 : a ∉ t := by simpa using h1
    match i, j with
    | 0, 0 => rfl
    | 0, j + 1 => exact absurd (by have e' : a = t[j]'(by simpa using hj) := by simpa using e
                                   rw [e']; exact List.getElem_mem _) h3
    | i + 1, 0 => exact absurd (by have e' : t[i]'(by simpa using hi) = a := by simpa using e
                                   rw [← e']; exact List.getElem_mem _) h3
    | i + 1, j + 1 => exact congrArg (· + 1) (ih h2 i j (by simpa using hi) (by simpa using hj) (by simpa using e))
theorem wD_sub {A : Nat → Prop} {bs bc : List va_W} (h : wD A bs) (is : List Nat) (hn : va_nd is = true) (hs : is.map (fun i => bs[i]?) = bc.map some) : wD A bc := by
  replace h := wD_pw.mp h
  refine wD_pw.mpr ?_
  obtain ⟨hp, ha⟩ := h
  rw [List.pairwise_flatten] at hp ⊢
  refine ⟨⟨fun b hb => ?_, ?_⟩, fun q hq => ?_⟩
  · obtain ⟨i, -, hi⟩ := wsub_mem hs hb
    exact hp.1 b (List.mem_of_getElem? hi)
  · have hl : is.length = bc.length := by have := congrArg List.length hs; simpa using this
    have hx : ∀ (k : Nat) (hk : k < bc.length), bs[is[k]'(by omega)]? = some bc[k] := by
      intro k hk
      have h1 : (is.map (fun i => bs[i]?))[k]? = (bc.map some)[k]? := by rw [hs]
      rw [List.getElem?_map, List.getElem?_map, List.getElem?_eq_getElem (by omega : k < is.length), List.getElem?_eq_getElem hk] at h1
      simpa using h1
    rw [List.pairwise_iff_getElem]
    intro i j hi hj hij x hxx y hy e
    have hpp := List.pairwise_iff_getElem.mp hp.2
    obtain ⟨h1, e1⟩ := List.getElem?_eq_some_iff.mp (hx i hi)
    obtain ⟨h2, e2⟩ := List.getElem?_eq_some_iff.mp (hx j hj)
    rw [← e1] at hxx
    rw [← e2] at hy
    rcases Nat.lt_trichotomy (is[i]'(by omega)) (is[j]'(by omega)) with q | q | q
    · exact hpp _ _ h1 h2 q x hxx y hy e
    · have := wnd hn i j (by omega) (by omega) q
      omega
    · exact hpp _ _ h2 h1 q y hy x hxx e.symm
  · obtain ⟨b, hb, hqb⟩ := List.mem_flatten.mp hq
    obtain ⟨i, -, hi⟩ := wsub_mem hs hb
    exact ha q (List.mem_flatten.mpr ⟨b, List.mem_of_getElem? hi, hqb⟩)
theorem va_A_mem {ws : va_W} {sz q : Nat} : va_A ws sz q ↔ (∃ c ∈ ws, c.1 = q) ∨ sz ≤ q := by
  constructor
  · rintro (⟨k, e, hk⟩ | h)
    · exact Or.inl ⟨(q, e), List.mem_of_getElem? hk, rfl⟩
    · exact Or.inr h
  · rintro (⟨⟨q', e⟩, hm, rfl⟩ | h)
    · obtain ⟨k, hk⟩ := List.getElem?_of_mem hm
      exact Or.inl ⟨k, e, hk⟩
    · exact Or.inr h
theorem wfree {A : Nat → Prop} {bs bc : List va_W} {H0 H : Heap} {locs : List Loc} (hD : wD A bs) (hS : va_S A H0 H locs) (hA : ∀ q : Nat, H0.size ≤ q → A q) (isC : List Nat) (hC : isC.map (fun i => bs[i]?) = bc.map some) : ∀ q : Nat, va_A bc.flatten H.size q → A q := by
  intro q h
  rcases va_A_mem.mp h with ⟨c, hc, rfl⟩ | h
  · obtain ⟨b, hb, hqb⟩ := List.mem_flatten.mp hc
    obtain ⟨i, -, hi⟩ := wsub_mem hC hb
    exact (wD_pw.mp hD).2 c (List.mem_flatten.mpr ⟨b, List.mem_of_getElem? hi, hqb⟩)
  · exact hA q (Nat.le_trans hS.1 h)
theorem wjoin {A : Nat → Prop} {G : GG} {bs bc br b1 : List va_W} {H H1 : Heap} (hP : wP G bs H) (hD : wD A bs) (isC isR : List Nat) (hC : isC.map (fun i => bs[i]?) = bc.map some) (hR : isR.map (fun i => bs[i]?) = br.map some) (hn : va_nd (isC ++ isR) = true)
    (hk : ∀ q : Nat, q < H.size → ¬ va_A bc.flatten H.size q → H1[q]? = H[q]?) (hF : ∀ q : Nat, va_A bc.flatten H.size q → A q) (hP1 : wP G b1 H1) (hD1 : wD (va_A bc.flatten H.size) b1) : wP G (br ++ b1) H1 ∧ wD A (br ++ b1) := by
  have hCR : (isC ++ isR).map (fun i => bs[i]?) = (bc ++ br).map some := by rw [List.map_append, List.map_append, hC, hR]
  have hDD : wD A (bc ++ br) := wD_sub hD (isC ++ isR) hn hCR
  have hPR : wP G br H := wP_sub hP isR hR
  have e1 : (bc ++ br).flatten = bc.flatten ++ br.flatten := List.flatten_append
  have hDD2 := wD_pw.mp hDD
  rw [e1, List.pairwise_append] at hDD2
  have apart : ∀ q ∈ br.flatten, q.1 < H.size ∧ ¬ va_A bc.flatten H.size q.1 := by
    intro q hq
    have hl := (wP_mem.mp hPR q hq).lt
    refine ⟨hl, fun h => ?_⟩
    rcases va_A_mem.mp h with ⟨c, hc, e⟩ | h
    · exact hDD2.1.2.2 c hc q hq e
    · omega
  have e2 : (br ++ b1).flatten = br.flatten ++ b1.flatten := List.flatten_append
  refine ⟨?_, ?_⟩
  · show va_P G.1 vwCl (br ++ b1).flatten H1
    rw [e2, wP_mem]
    intro q hq
    rcases List.mem_append.mp hq with h | h
    · exact (wP_mem.mp hPR q h).kept (hk q.1 (apart q h).1 (apart q h).2)
    · exact wP_mem.mp hP1 q h
  · show va_D A (br ++ b1).flatten
    rw [e2, wD_pw, List.pairwise_append]
    have d1 := wD_pw.mp hD1
    refine ⟨⟨hDD2.1.2.1, d1.1, fun a ha b hb e => ?_⟩, fun q hq => ?_⟩
    · exact (apart a ha).2 (by rw [e]; exact d1.2 b hb)
    · rcases List.mem_append.mp hq with h | h
      · exact hDD2.2 q (List.mem_append_right _ h)
      · exact hF _ (d1.2 q h)
end
section
/-! rows of instructions over whole numbers -/
section JV
variable {p : Program} {l : Launch} {e : Env} {R : Room} {s : State} {m : MethodId} {args : Array Value} {below : List Frame} {meth : Method} {c : Code} {H : Heap} {locs : List Loc} {cells slots : Nat} {Q : State → Prop} {cc : ByteArray} {pc : Nat} {ls : Array Slot} {rest : List Value}
theorem jv_iconst (hexec : p.tables.exec = Jvm.exec) (hb : c.code = cc) {n : Int} (hdg : decode cc pc = .ok (.iconst n, 1))
    (k : W p l e R s m args below meth c H locs cells slots Q (F0 m (pc + 1) ls (.int (jz n) :: rest))) : W p l e R s m args below meth c H locs cells slots Q (F0 m pc ls (rest)) := lv_iconst hexec hb hdg rfl k
theorem jv_bipush (hexec : p.tables.exec = Jvm.exec) (hb : c.code = cc) {n : Int} (hdg : decode cc pc = .ok (.bipush n, 2)) (hv : (Int8.ofInt n).toInt32 = jz n)
    (k : W p l e R s m args below meth c H locs cells slots Q (F0 m (pc + 2) ls (.int (jz n) :: rest))) : W p l e R s m args below meth c H locs cells slots Q (F0 m pc ls (rest)) := lv_bipush hexec hb hdg hv k
theorem jv_sipush (hexec : p.tables.exec = Jvm.exec) (hb : c.code = cc) {n : Int} (hdg : decode cc pc = .ok (.sipush n, 3)) (hv : (Int16.ofInt n).toInt32 = jz n)
    (k : W p l e R s m args below meth c H locs cells slots Q (F0 m (pc + 3) ls (.int (jz n) :: rest))) : W p l e R s m args below meth c H locs cells slots Q (F0 m pc ls (rest)) := lv_sipush hexec hb hdg hv k
theorem jv_iadd (hexec : p.tables.exec = Jvm.exec) (hb : c.code = cc) {x y : Int} (hdg : decode cc pc = .ok (.iadd, 1))
    (k : W p l e R s m args below meth c H locs cells slots Q (F0 m (pc + 1) ls (.int (jz (x + y)) :: rest))) : W p l e R s m args below meth c H locs cells slots Q (F0 m pc ls (.int (jz y) :: .int (jz x) :: rest)) := lv_iadd hexec hb hdg (by rw [jz_add]; exact k)
theorem jv_isub (hexec : p.tables.exec = Jvm.exec) (hb : c.code = cc) {x y : Int} (hdg : decode cc pc = .ok (.isub, 1))
    (k : W p l e R s m args below meth c H locs cells slots Q (F0 m (pc + 1) ls (.int (jz (x - y)) :: rest))) : W p l e R s m args below meth c H locs cells slots Q (F0 m pc ls (.int (jz y) :: .int (jz x) :: rest)) := lv_isub hexec hb hdg (by rw [jz_sub]; exact k)
theorem jv_imul (hexec : p.tables.exec = Jvm.exec) (hb : c.code = cc) {x y : Int} (hdg : decode cc pc = .ok (.imul, 1))
    (k : W p l e R s m args below meth c H locs cells slots Q (F0 m (pc + 1) ls (.int (jz (x * y)) :: rest))) : W p l e R s m args below meth c H locs cells slots Q (F0 m pc ls (.int (jz y) :: .int (jz x) :: rest)) := lv_imul hexec hb hdg (by rw [jz_mul]; exact k)
theorem jv_ineg (hexec : p.tables.exec = Jvm.exec) (hb : c.code = cc) {x : Int} (hdg : decode cc pc = .ok (.ineg, 1))
    (k : W p l e R s m args below meth c H locs cells slots Q (F0 m (pc + 1) ls (.int (jz (-x)) :: rest))) : W p l e R s m args below meth c H locs cells slots Q (F0 m pc ls (.int (jz x) :: rest)) := lv_ineg hexec hb hdg (by rw [jz_neg]; exact k)
theorem jz_ne0 {y : Int} (h : 0 < y) (hr : jr y) : ¬ jz y = 0 := fun h9 => by
  have h8 : jz y = jz 0 := h9
  rw [jz_eq hr (by omega)] at h8
  omega
theorem jv_idiv (hexec : p.tables.exec = Jvm.exec) (hb : c.code = cc) {x y : Int} (hdg : decode cc pc = .ok (.idiv, 1)) (h0 : 0 ≤ x) (hx : jr x) (h1 : 0 < y) (hy : jr y)
    (k : W p l e R s m args below meth c H locs cells slots Q (F0 m (pc + 1) ls (.int (jz (x / y)) :: rest))) : W p l e R s m args below meth c H locs cells slots Q (F0 m pc ls (.int (jz y) :: .int (jz x) :: rest)) := lv_idiv hexec hb hdg (jz_ne0 h1 hy) (by rw [jz_div h0 hx h1 hy]; exact k)
theorem jv_irem (hexec : p.tables.exec = Jvm.exec) (hb : c.code = cc) {x y : Int} (hdg : decode cc pc = .ok (.irem, 1)) (h0 : 0 ≤ x) (hx : jr x) (h1 : 0 < y) (hy : jr y)
    (k : W p l e R s m args below meth c H locs cells slots Q (F0 m (pc + 1) ls (.int (jz (x % y)) :: rest))) : W p l e R s m args below meth c H locs cells slots Q (F0 m pc ls (.int (jz y) :: .int (jz x) :: rest)) := lv_irem hexec hb hdg (jz_ne0 h1 hy) (by rw [jz_rem h0 hx h1 hy]; exact k)
theorem jv_icmp_eq (hexec : p.tables.exec = Jvm.exec) (hb : c.code = cc) {x y : Int} {off : Int} {tgt : Nat} (hdg : decode cc pc = .ok (.if_icmp .eq off, 3)) (ht : (pc : Int) + off = (tgt : Int)) (hx : jr x) (hy : jr y)
    (kt : x = y → W p l e R s m args below meth c H locs cells slots Q (F0 m tgt ls (rest))) (kf : x ≠ y → W p l e R s m args below meth c H locs cells slots Q (F0 m (pc + 3) ls (rest))) : W p l e R s m args below meth c H locs cells slots Q (F0 m pc ls (.int (jz y) :: .int (jz x) :: rest)) := lv_icmp_eq hexec hb hdg ht (fun h => (kt ((jz_eq hx hy).mp h))) (fun h => (kf (fun h9 => h ((jz_eq hx hy).mpr h9))))
theorem jv_if_eq (hexec : p.tables.exec = Jvm.exec) (hb : c.code = cc) {x : Int} {off : Int} {tgt : Nat} (hdg : decode cc pc = .ok (.ifCond .eq off, 3)) (ht : (pc : Int) + off = (tgt : Int)) (hx : jr x)
    (kt : x = 0 → W p l e R s m args below meth c H locs cells slots Q (F0 m tgt ls (rest))) (kf : x ≠ 0 → W p l e R s m args below meth c H locs cells slots Q (F0 m (pc + 3) ls (rest))) : W p l e R s m args below meth c H locs cells slots Q (F0 m pc ls (.int (jz x) :: rest)) := have hy : jr 0 := by omega
  lv_if_eq hexec hb hdg ht (fun h => (kt ((jz_eq hx hy).mp h))) (fun h => (kf (fun h9 => h ((jz_eq hx hy).mpr h9))))
theorem jv_icmp_ne (hexec : p.tables.exec = Jvm.exec) (hb : c.code = cc) {x y : Int} {off : Int} {tgt : Nat} (hdg : decode cc pc = .ok (.if_icmp .ne off, 3)) (ht : (pc : Int) + off = (tgt : Int)) (hx : jr x) (hy : jr y)
    (kt : x ≠ y → W p l e R s m args below meth c H locs cells slots Q (F0 m tgt ls (rest))) (kf : x = y → W p l e R s m args below meth c H locs cells slots Q (F0 m (pc + 3) ls (rest))) : W p l e R s m args below meth c H locs cells slots Q (F0 m pc ls (.int (jz y) :: .int (jz x) :: rest)) := lv_icmp_ne hexec hb hdg ht (fun h => (kt (fun h9 => h ((jz_eq hx hy).mpr h9)))) (fun h => (kf ((jz_eq hx hy).mp h)))
theorem jv_if_ne (hexec : p.tables.exec = Jvm.exec) (hb : c.code = cc) {x : Int} {off : Int} {tgt : Nat} (hdg : decode cc pc = .ok (.ifCond .ne off, 3)) (ht : (pc : Int) + off = (tgt : Int)) (hx : jr x)
    (kt : x ≠ 0 → W p l e R s m args below meth c H locs cells slots Q (F0 m tgt ls (rest))) (kf : x = 0 → W p l e R s m args below meth c H locs cells slots Q (F0 m (pc + 3) ls (rest))) : W p l e R s m args below meth c H locs cells slots Q (F0 m pc ls (.int (jz x) :: rest)) := have hy : jr 0 := by omega
  lv_if_ne hexec hb hdg ht (fun h => (kt (fun h9 => h ((jz_eq hx hy).mpr h9)))) (fun h => (kf ((jz_eq hx hy).mp h)))
theorem jv_icmp_lt (hexec : p.tables.exec = Jvm.exec) (hb : c.code = cc) {x y : Int} {off : Int} {tgt : Nat} (hdg : decode cc pc = .ok (.if_icmp .lt off, 3)) (ht : (pc : Int) + off = (tgt : Int)) (hx : jr x) (hy : jr y)
    (kt : x < y → W p l e R s m args below meth c H locs cells slots Q (F0 m tgt ls (rest))) (kf : y ≤ x → W p l e R s m args below meth c H locs cells slots Q (F0 m (pc + 3) ls (rest))) : W p l e R s m args below meth c H locs cells slots Q (F0 m pc ls (.int (jz y) :: .int (jz x) :: rest)) := lv_icmp_lt hexec hb hdg ht (fun h => (kt ((jz_lt hx hy).mp h))) (fun h => (kf (Int.not_lt.mp (fun h9 => h ((jz_lt hx hy).mpr h9)))))
theorem jv_if_lt (hexec : p.tables.exec = Jvm.exec) (hb : c.code = cc) {x : Int} {off : Int} {tgt : Nat} (hdg : decode cc pc = .ok (.ifCond .lt off, 3)) (ht : (pc : Int) + off = (tgt : Int)) (hx : jr x)
    (kt : x < 0 → W p l e R s m args below meth c H locs cells slots Q (F0 m tgt ls (rest))) (kf : 0 ≤ x → W p l e R s m args below meth c H locs cells slots Q (F0 m (pc + 3) ls (rest))) : W p l e R s m args below meth c H locs cells slots Q (F0 m pc ls (.int (jz x) :: rest)) := have hy : jr 0 := by omega
  lv_if_lt hexec hb hdg ht (fun h => (kt ((jz_lt hx hy).mp h))) (fun h => (kf (Int.not_lt.mp (fun h9 => h ((jz_lt hx hy).mpr h9)))))
theorem jv_icmp_ge (hexec : p.tables.exec = Jvm.exec) (hb : c.code = cc) {x y : Int} {off : Int} {tgt : Nat} (hdg : decode cc pc = .ok (.if_icmp .ge off, 3)) (ht : (pc : Int) + off = (tgt : Int)) (hx : jr x) (hy : jr y)
    (kt : y ≤ x → W p l e R s m args below meth c H locs cells slots Q (F0 m tgt ls (rest))) (kf : x < y → W p l e R s m args below meth c H locs cells slots Q (F0 m (pc + 3) ls (rest))) : W p l e R s m args below meth c H locs cells slots Q (F0 m pc ls (.int (jz y) :: .int (jz x) :: rest)) := lv_icmp_ge hexec hb hdg ht (fun h => (kt ((jz_le hy hx).mp h))) (fun h => (kf (Int.not_le.mp (fun h9 => h ((jz_le hy hx).mpr h9)))))
theorem jv_if_ge (hexec : p.tables.exec = Jvm.exec) (hb : c.code = cc) {x : Int} {off : Int} {tgt : Nat} (hdg : decode cc pc = .ok (.ifCond .ge off, 3)) (ht : (pc : Int) + off = (tgt : Int)) (hx : jr x)
    (kt : 0 ≤ x → W p l e R s m args below meth c H locs cells slots Q (F0 m tgt ls (rest))) (kf : x < 0 → W p l e R s m args below meth c H locs cells slots Q (F0 m (pc + 3) ls (rest))) : W p l e R s m args below meth c H locs cells slots Q (F0 m pc ls (.int (jz x) :: rest)) := have hy : jr 0 := by omega
  lv_if_ge hexec hb hdg ht (fun h => (kt ((jz_le hy hx).mp h))) (fun h => (kf (Int.not_le.mp (fun h9 => h ((jz_le hy hx).mpr h9)))))
theorem jv_icmp_gt (hexec : p.tables.exec = Jvm.exec) (hb : c.code = cc) {x y : Int} {off : Int} {tgt : Nat} (hdg : decode cc pc = .ok (.if_icmp .gt off, 3)) (ht : (pc : Int) + off = (tgt : Int)) (hx : jr x) (hy : jr y)
    (kt : y < x → W p l e R s m args below meth c H locs cells slots Q (F0 m tgt ls (rest))) (kf : x ≤ y → W p l e R s m args below meth c H locs cells slots Q (F0 m (pc + 3) ls (rest))) : W p l e R s m args below meth c H locs cells slots Q (F0 m pc ls (.int (jz y) :: .int (jz x) :: rest)) := lv_icmp_gt hexec hb hdg ht (fun h => (kt ((jz_lt hy hx).mp h))) (fun h => (kf (Int.not_lt.mp (fun h9 => h ((jz_lt hy hx).mpr h9)))))
theorem jv_if_gt (hexec : p.tables.exec = Jvm.exec) (hb : c.code = cc) {x : Int} {off : Int} {tgt : Nat} (hdg : decode cc pc = .ok (.ifCond .gt off, 3)) (ht : (pc : Int) + off = (tgt : Int)) (hx : jr x)
    (kt : 0 < x → W p l e R s m args below meth c H locs cells slots Q (F0 m tgt ls (rest))) (kf : x ≤ 0 → W p l e R s m args below meth c H locs cells slots Q (F0 m (pc + 3) ls (rest))) : W p l e R s m args below meth c H locs cells slots Q (F0 m pc ls (.int (jz x) :: rest)) := have hy : jr 0 := by omega
  lv_if_gt hexec hb hdg ht (fun h => (kt ((jz_lt hy hx).mp h))) (fun h => (kf (Int.not_lt.mp (fun h9 => h ((jz_lt hy hx).mpr h9)))))
theorem jv_icmp_le (hexec : p.tables.exec = Jvm.exec) (hb : c.code = cc) {x y : Int} {off : Int} {tgt : Nat} (hdg : decode cc pc = .ok (.if_icmp .le off, 3)) (ht : (pc : Int) + off = (tgt : Int)) (hx : jr x) (hy : jr y)
    (kt : x ≤ y → W p l e R s m args below meth c H locs cells slots Q (F0 m tgt ls (rest))) (kf : y < x → W p l e R s m args below meth c H locs cells slots Q (F0 m (pc + 3) ls (rest))) : W p l e R s m args below meth c H locs cells slots Q (F0 m pc ls (.int (jz y) :: .int (jz x) :: rest)) := lv_icmp_le hexec hb hdg ht (fun h => (kt ((jz_le hx hy).mp h))) (fun h => (kf (Int.not_le.mp (fun h9 => h ((jz_le hx hy).mpr h9)))))
theorem jv_if_le (hexec : p.tables.exec = Jvm.exec) (hb : c.code = cc) {x : Int} {off : Int} {tgt : Nat} (hdg : decode cc pc = .ok (.ifCond .le off, 3)) (ht : (pc : Int) + off = (tgt : Int)) (hx : jr x)
    (kt : x ≤ 0 → W p l e R s m args below meth c H locs cells slots Q (F0 m tgt ls (rest))) (kf : 0 < x → W p l e R s m args below meth c H locs cells slots Q (F0 m (pc + 3) ls (rest))) : W p l e R s m args below meth c H locs cells slots Q (F0 m pc ls (.int (jz x) :: rest)) := have hy : jr 0 := by omega
  lv_if_le hexec hb hdg ht (fun h => (kt ((jz_le hx hy).mp h))) (fun h => (kf (Int.not_le.mp (fun h9 => h ((jz_le hx hy).mpr h9)))))
theorem jv_iinc (hexec : p.tables.exec = Jvm.exec) (hb : c.code = cc) {i nL k : Nat} {n : Int} {x : Int} {lv lv' : List (Nat × Value)} (hdg : decode cc pc = .ok (.iinc i n, 3)) (h : lv_has ls nL lv) (hk : lv[k]? = some (i, .int (jz x))) (hn : i < nL) (hl : (i, Value.int (jz (x + n))) :: lv.filter (fun q => !(q.1 == i) && !(q.1 + 1 == i && q.2.category == 2)) = lv')
    (kk : ∀ ls' : Array Slot, lv_has ls' nL lv' → W p l e R s m args below meth c H locs cells slots Q (F0 m (pc + 3) ls' rest)) : W p l e R s m args below meth c H locs cells slots Q (F0 m pc ls (rest)) := lv_iinc hexec hb hdg h hk (by rw [← jz_add]; rfl) hn hl kk
theorem jv_max (hexec : p.tables.exec = Jvm.exec) (hb : c.code = cc) (hml : c.maxLocals = ls.size) {own : String} {index : Nat} (hown : s.vm.findClass own = some m.cls) (hlink : (Cond.methodLink own index Lib.Math.max.name).before args s = true) (hstat : (Cond.static Lib.Math.max.name).before args s = true) (hini : (Cond.initialized "java/lang/Math").before args s = true) (hcode : (Cond.code Lib.Math.max.name Lib.Math.max.code 2 (some .int)).before args s = true) (hframes : 1 ≤ R.frames) (hlocals : (rest.map fun v => v.category).sum + 13 ≤ R.locals) (hc : cells ≤ R.cells) (hs : slots ≤ R.slots) {x y : Int} (hx : jr x) (hy : jr y) (hdg : decode cc pc = .ok (.invokestatic index, 3))
    (k : W p l e R s m args below meth c H locs cells slots Q (F0 m (pc + 3) ls (.int (jz (max x y)) :: rest))) : W p l e R s m args below meth c H locs cells slots Q (F0 m pc ls (.int (jz y) :: .int (jz x) :: rest)) := by
  refine va_mmax hexec hb hml hown hlink hstat hini hcode hframes hlocals hc hs hdg ?_
  have e : (if jz x < jz y then jz y else jz x) = jz (max x y) := by
    split
    · rename_i h9
      have h8 := (jz_lt hx hy).mp h9
      exact congrArg jz (by omega)
    · rename_i h9
      have h8 : ¬ x < y := fun q => h9 ((jz_lt hx hy).mpr q)
      exact congrArg jz (by omega)
  first | (rw [e]; exact k) | (simp only [e]; exact k)
theorem jv_min (hexec : p.tables.exec = Jvm.exec) (hb : c.code = cc) (hml : c.maxLocals = ls.size) {own : String} {index : Nat} (hown : s.vm.findClass own = some m.cls) (hlink : (Cond.methodLink own index Lib.Math.min.name).before args s = true) (hstat : (Cond.static Lib.Math.min.name).before args s = true) (hini : (Cond.initialized "java/lang/Math").before args s = true) (hcode : (Cond.code Lib.Math.min.name Lib.Math.min.code 2 (some .int)).before args s = true) (hframes : 1 ≤ R.frames) (hlocals : (rest.map fun v => v.category).sum + 13 ≤ R.locals) (hc : cells ≤ R.cells) (hs : slots ≤ R.slots) {x y : Int} (hx : jr x) (hy : jr y) (hdg : decode cc pc = .ok (.invokestatic index, 3))
    (k : W p l e R s m args below meth c H locs cells slots Q (F0 m (pc + 3) ls (.int (jz (min x y)) :: rest))) : W p l e R s m args below meth c H locs cells slots Q (F0 m pc ls (.int (jz y) :: .int (jz x) :: rest)) := by
  refine va_mmin hexec hb hml hown hlink hstat hini hcode hframes hlocals hc hs hdg ?_
  have e : (if jz y < jz x then jz y else jz x) = jz (min x y) := by
    split
    · rename_i h9
      have h8 := (jz_lt hy hx).mp h9
      exact congrArg jz (by omega)
    · rename_i h9
      have h8 : ¬ y < x := fun q => h9 ((jz_lt hy hx).mpr q)
      exact congrArg jz (by omega)
  first | (rw [e]; exact k) | (simp only [e]; exact k)
variable {G : GG} {ws : va_W} {A : Nat → Prop} {H0 : Heap} {a n : Nat}
theorem jv_iald (hexec : p.tables.exec = Jvm.exec) (hb : c.code = cc) (hK : K0 G s) (hP : va_P G.1 vwCl ws H) (q0 : Nat) {g : Int → Int} (ha : ws[q0]? = some (a, ja G n g)) {z : Int} (h0 : 0 ≤ z) (h1 : z < n) (hn : n < 2147483648) (hdg : decode cc pc = .ok (.iaload, 1))
    (kk : W p l e R s m args below meth c H locs cells slots Q (F0 m (pc + 1) ls (.int (jz (g z)) :: rest))) : W p l e R s m args below meth c H locs cells slots Q (F0 m pc ls (.int (jz z) :: .ref a :: rest)) := va_iald hexec hb hK hP q0 0 ha rfl (jz_in h0 h1 hn) hdg (by rw [jz_clamp (by omega), jz_ix h0]; exact kk)
theorem jv_zald (hexec : p.tables.exec = Jvm.exec) (hb : c.code = cc) (hK : K0 G s) (hP : va_P G.1 vwCl ws H) (q0 : Nat) {g : Int → Int} (ha : ws[q0]? = some (a, jb G n g)) {z : Int} (h0 : 0 ≤ z) (h1 : z < n) (hn : n < 2147483648) (hdg : decode cc pc = .ok (.baload, 1))
    (kk : W p l e R s m args below meth c H locs cells slots Q (F0 m (pc + 1) ls (.int (jz (g z)) :: rest))) : W p l e R s m args below meth c H locs cells slots Q (F0 m pc ls (.int (jz z) :: .ref a :: rest)) := va_zald hexec hb hK hP q0 2 ha rfl (jz_in h0 h1 hn) hdg (by rw [jz_clamp (by omega), jz_ix h0]; exact kk)
theorem jv_lald (hexec : p.tables.exec = Jvm.exec) (hb : c.code = cc) (hK : K0 G s) (hP : va_P G.1 vwCl ws H) (q0 : Nat) {g : Int → Int64} (ha : ws[q0]? = some (a, jl G n g)) {z : Int} (h0 : 0 ≤ z) (h1 : z < n) (hn : n < 2147483648) (hdg : decode cc pc = .ok (.laload, 1))
    (kk : W p l e R s m args below meth c H locs cells slots Q (F0 m (pc + 1) ls (.long (g z) :: rest))) : W p l e R s m args below meth c H locs cells slots Q (F0 m pc ls (.int (jz z) :: .ref a :: rest)) := va_lald hexec hb hK hP q0 1 ha rfl (jz_in h0 h1 hn) hdg (by rw [jz_clamp (by omega), jz_ix h0]; exact kk)
theorem jv_qald (hexec : p.tables.exec = Jvm.exec) (hb : c.code = cc) (hK : K0 G s) (hP : va_P G.1 vwCl ws H) (q0 : Nat) {g : Int → Option Nat} (ha : ws[q0]? = some (a, jq G n g)) {z : Int} (h0 : 0 ≤ z) (h1 : z < n) (hn : n < 2147483648) (hdg : decode cc pc = .ok (.aaload, 1))
    (kk : W p l e R s m args below meth c H locs cells slots Q (F0 m (pc + 1) ls (va_rf (g z) :: rest))) : W p l e R s m args below meth c H locs cells slots Q (F0 m pc ls (.int (jz z) :: .ref a :: rest)) := va_aldq hexec hb hK hP q0 3 ha rfl (jz_in h0 h1 hn) hdg (by rw [jz_clamp (by omega), jz_ix h0]; exact kk)
theorem jv_iast (hexec : p.tables.exec = Jvm.exec) (hb : c.code = cc) (hK : K0 G s) (hP : va_P G.1 vwCl ws H) (hD : va_D A ws) (hS : va_S A H0 H locs) (q0 : Nat) {g : Int → Int} (ha : ws[q0]? = some (a, ja G n g)) {z v : Int} (h0 : 0 ≤ z) (h1 : z < n) (hn : n < 2147483648) (hdg : decode cc pc = .ok (.iastore, 1))
    (kk : ∀ (H1 : Heap) (locs1 : List Loc), va_P G.1 vwCl (ws.set q0 (a, ja G n (up g z v))) H1 → va_D A (ws.set q0 (a, ja G n (up g z v))) → va_S A H0 H1 locs1 → W p l e R s m args below meth c H1 locs1 cells slots Q (F0 m (pc + 1) ls rest)) : W p l e R s m args below meth c H locs cells slots Q (F0 m pc ls (.int (jz v) :: .int (jz z) :: .ref a :: rest)) := va_iast hexec hb hK hP hD hS q0 0 ha rfl (jz_in h0 h1 hn) hdg (by rw [jz_clamp (by omega), up_upd g h0]; exact kk)
theorem jv_zast (hexec : p.tables.exec = Jvm.exec) (hb : c.code = cc) (hK : K0 G s) (hP : va_P G.1 vwCl ws H) (hD : va_D A ws) (hS : va_S A H0 H locs) (q0 : Nat) {g : Int → Int} (ha : ws[q0]? = some (a, jb G n g)) {z v : Int} (h0 : 0 ≤ z) (h1 : z < n) (hn : n < 2147483648) (hv : v = 0 ∨ v = 1) (hdg : decode cc pc = .ok (.bastore, 1))
    (kk : ∀ (H1 : Heap) (locs1 : List Loc), va_P G.1 vwCl (ws.set q0 (a, jb G n (up g z v))) H1 → va_D A (ws.set q0 (a, jb G n (up g z v))) → va_S A H0 H1 locs1 → W p l e R s m args below meth c H1 locs1 cells slots Q (F0 m (pc + 1) ls rest)) : W p l e R s m args below meth c H locs cells slots Q (F0 m pc ls (.int (jz v) :: .int (jz z) :: .ref a :: rest)) := va_zast hexec hb hK hP hD hS q0 2 ha rfl (jz_in h0 h1 hn) hdg (by rw [show vp_nar .boolean (jz v) = jz v by (rcases hv with h | h <;> rw [h] <;> decide), jz_clamp (by omega), up_upd g h0]; exact kk)
theorem jv_last (hexec : p.tables.exec = Jvm.exec) (hb : c.code = cc) (hK : K0 G s) (hP : va_P G.1 vwCl ws H) (hD : va_D A ws) (hS : va_S A H0 H locs) (q0 : Nat) {g : Int → Int64} {v : Int64} (ha : ws[q0]? = some (a, jl G n g)) {z : Int} (h0 : 0 ≤ z) (h1 : z < n) (hn : n < 2147483648) (hdg : decode cc pc = .ok (.lastore, 1))
    (kk : ∀ (H1 : Heap) (locs1 : List Loc), va_P G.1 vwCl (ws.set q0 (a, jl G n (up g z v))) H1 → va_D A (ws.set q0 (a, jl G n (up g z v))) → va_S A H0 H1 locs1 → W p l e R s m args below meth c H1 locs1 cells slots Q (F0 m (pc + 1) ls rest)) : W p l e R s m args below meth c H locs cells slots Q (F0 m pc ls (.long v :: .int (jz z) :: .ref a :: rest)) := va_last hexec hb hK hP hD hS q0 1 ha rfl (jz_in h0 h1 hn) hdg (by rw [jz_clamp (by omega), up_updL g h0]; exact kk)
theorem jv_top {z : Int} (k : ∀ y : Int, y = z → W p l e R s m args below meth c H locs cells slots Q (F0 m pc ls (.int (jz y) :: rest))) : W p l e R s m args below meth c H locs cells slots Q (F0 m pc ls (.int (jz z) :: rest)) := k z rfl
theorem jv_topl {z : Int64} (k : ∀ y : Int64, y = z → W p l e R s m args below meth c H locs cells slots Q (F0 m pc ls (.long y :: rest))) : W p l e R s m args below meth c H locs cells slots Q (F0 m pc ls (.long z :: rest)) := k z rfl
end JV
end
section
/-! words that are not of the good ones, but hold for good as well -/
def w_face (w : Cond) : Bool := w.onTables && w.keepsFace
def w_nest : Cond → Bool
  | .methodLinkNest .. => true
  | _ => false
def WB : List Cond := lw_tbl.filter w_face
def WN : List Cond := lw_tbl.filter w_nest
theorem va_Nw_face {w : Cond} (hw : w_face w = true) {s U : State} (hW : s.WarmedH U.vm) (h : va_Nw w s) : va_Nw w U := by
  simp only [w_face, Bool.and_eq_true] at hw
  have h1 : w.before #[] (s.setVm U.vm) = true := Cond.before_shiftedFace (State.Shifted.of_warmed hW) w hw.2 h
  exact va_tabs hw.1 (rfl : (s.setVm U.vm).vm = U.vm) h1
theorem va_Nw_nest {w : Cond} (hw : w_nest w = true) {s U : State} (hW : s.WarmedH U.vm) (h : va_Nw w s) : va_Nw w U := by
  cases w with
  | methodLinkNest a i x h9 => exact va_Nw.warmM hW h
  | _ => cases hw
theorem w_nest_tab {w : Cond} (hw : w_nest w = true) : w.onTables = true := by
  cases w with
  | methodLinkNest a i x h9 => rfl
  | _ => cases hw
/-- the class's own texts -/
def strW : List (Nat × String) := [(296, "there is no such text"), (78, "the buffer is no input text of this alphabet"), (105, "no such place in the text"), (300, "the letter is not in the alphabet"), (114, "the text has 20 letters"), (298, "there is no such letter of the text"), (138, "an alphabet has 2 to 4 letters"), (141, "a letter of a text would not be in the alphabet"), (302, "i or j is out of range"), (162, "a step has no negative index"), (165, "no such kind of step"), (304, "a bound is 0 to 20"), (184, "a block size is 1 or 2"), (228, "a character code is 33 to 126"), (231, "the buffer contains 60 characters"), (243, "no state is saved")]
/-- pairs of exceptions of which the one is not the other -/
def ncW : List (String × String) := [("java/lang/IndexOutOfBoundsException", "java/lang/IllegalArgumentException"), ("java/lang/IllegalStateException", "java/lang/IllegalArgumentException"), ("java/lang/IllegalArgumentException", "java/lang/IndexOutOfBoundsException"), ("java/lang/IllegalStateException", "java/lang/IndexOutOfBoundsException"), ("java/lang/IllegalArgumentException", "java/lang/IllegalStateException"), ("java/lang/IndexOutOfBoundsException", "java/lang/IllegalStateException")]
/-- what every method takes as given of the tables -/
def KK (G : GG) (U : State) : Prop := K0 G U ∧ (∀ w ∈ WB, va_Nw w U) ∧ (∀ w ∈ WN, va_Nw w U) ∧ (∀ q ∈ strW, ∃ sa, vk_R RX8 q.1 q.2 sa U) ∧ (∀ q ∈ ncW, va_Nc q.1 q.2 U) ∧ va_AO RX5 U
theorem KK.warm {G : GG} {s U : State} (hW : s.WarmedH U.vm) (h : KK G s) : KK G U := by
  obtain ⟨h1, h2, h3, h4, h5, h6⟩ := h
  refine ⟨va_K.moved hW.alike h1, fun w hw => va_Nw_face (List.mem_filter.mp hw).2 hW (h2 w hw), fun w hw => va_Nw_nest (List.mem_filter.mp hw).2 hW (h3 w hw), fun q hq => ?_, fun q hq => va_Nc.moved hW.alike (h5 q hq), va_AO.moved hW.alike h6⟩
  obtain ⟨sa, h⟩ := h4 q hq
  exact ⟨sa, vk_R.warm hW h⟩
theorem KK.same {G : GG} {s U : State} (hv : U.vm = s.vm) (h : KK G s) : KK G U := by
  obtain ⟨h1, h2, h3, h4, h5, h6⟩ := h
  have ha : s.vm.Alike U.vm := by rw [hv]; exact Vm.Alike.refl s.vm
  refine ⟨va_K.moved ha h1, fun w hw => ?_, fun w hw => ?_, fun q hq => ?_, fun q hq => va_Nc.moved ha (h5 q hq), va_AO.moved ha h6⟩
  · have hw2 := (List.mem_filter.mp hw).2
    simp only [w_face, Bool.and_eq_true] at hw2
    exact va_Nw.same hw2.1 hv.symm (h2 w hw)
  · exact va_Nw.same (w_nest_tab (List.mem_filter.mp hw).2) hv.symm (h3 w hw)
  · obtain ⟨sa, h⟩ := h4 q hq
    exact ⟨sa, vk_R.same hv h⟩
/-! contracts -/
def cPre (G : GG) (av : List Value) (bs : List va_W) (sz : Nat) : Array Value → State → Prop := va_Pc av (fun U => U.heap.size = sz ∧ wP G bs U.heap ∧ KK G U ∧ wD (fun _ => True) bs)
def cQ {S : Type} (G : GG) (A : Nat → Prop) (rv : S → Option Value) (post : S → Prop) (bw : S → List va_W) : Array Value → State → Outcome → State → Prop := fun _ st oc t => (∃ u : S, oc = .returned (rv u) ∧ post u ∧ wP G (bw u) t.heap ∧ wD A (bw u)) ∧ va_F A st t
/-- method y, of code cc: from the blocks bs, with the arguments av, it returns rv u, and the blocks are bw u, for some u of which post holds -/
def Ct {S : Type} (l : Launch) (y : MethodName) (cc : ByteArray) (maxL : Nat) (ret : Option FieldType) (rm : Room) (G : GG) (av : List Value) (bs : List va_W) (rv : S → Option Value) (post : S → Prop) (bw : S → List va_W) : Prop :=
  ∀ sz : Nat, Met l y (wz y cc maxL ret) rm (cPre G av bs sz) (cQ G (va_A bs.flatten sz) rv post bw) rm.cells rm.slots (va_A bs.flatten sz)
theorem cPre_blind {G : GG} {av : List Value} {bs : List va_W} {sz : Nat} : FrameBlind (cPre G av bs sz) := fun a U g mk h => ⟨h.1, h.2.1, h.2.2.1, KK.same (s := U) (U := U.calling g mk a) rfl h.2.2.2.1, h.2.2.2.2⟩
theorem cof {S : Type} {l : Launch} {y : MethodName} {cc : ByteArray} {maxL : Nat} {ret : Option FieldType} {rm : Room} {G : GG} {av : List Value} {bs : List va_W} {rv : S → Option Value} {post : S → Prop} {bw : S → List va_W} (hy : plainName y.cls = true) (hn : (lg_sl av).length ≤ maxL)
    (body : ∀ (p : Program) (e : Env) (s : State) (m : MethodId) (args : Array Value) (below : List Frame) (meth : Method) (c : Code) (A : Nat → Prop) (ls : Array Slot), p.tables.exec = Jvm.exec → c.code = cc → meth.sig.returnType = ret → c.maxLocals = maxL → s.vm.findClass y.cls = some m.cls → (∀ w ∈ WA, w.before args s = true) → meth.locks = false → meth.name = y.name → (∀ q : Nat, s.heap.size ≤ q → A q) → KK G s → wP G bs s.heap → wD A bs → va_S A s.heap s.heap [] → lv_has ls maxL (lv_args 0 av) →
      ∀ Q : State → Prop, Q = MQ below (cQ G A rv post bw) args s rm.cells rm.slots A → W p l e rm s m args below meth c s.heap [] 0 0 Q (F0 m 0 ls [])) : Ct l y cc maxL ret rm G av bs rv post bw := by
  intro sz
  refine Met.ofW (cc := cc) (maxL := maxL) (ret := ret) hy rfl ?_
  intro p e s m args below meth c s₁ B hml hv
  obtain ⟨rfl, rfl, hP, hK, hD0⟩ := hv
  have hts := atoms_spec (ws := wz y cc maxL ret) B.pre
  have hl := lv_entry av (n := maxL) hn
  rw [lg_entry_eq]
  exact body p e s m _ below meth c _ _ B.exec B.bytes B.returns hml (findClass_of_methodNamed B.named) (fun w h => hts w (List.mem_cons_of_mem _ h)) B.notSynchronized (name_of_methodNamed B.named B.method).1 (fun q h => Or.inr h) hK hP (va_D.self hD0) va_S.rf hl _ rfl
section CR
variable {p : Program} {l : Launch} {e : Env} {R : Room} {s : State} {m : MethodId} {args : Array Value} {below : List Frame} {meth : Method} {c : Code} {H : Heap} {locs : List Loc} {cells slots : Nat} {Q : State → Prop} {cc : ByteArray} {pc : Nat} {ls : Array Slot} {rest : List Value}
variable {G : GG} {A : Nat → Prop} {bs : List va_W} {mc ms : Nat}
theorem cret_Q {S : Type} {rv : S → Option Value} {post : S → Prop} {bw : S → List va_W} (hS : va_S A s.heap H locs) (hP : wP G bs H) (hD : wD A bs) (u : S) (is : List Nat) (hn : va_nd is = true) (hs : is.map (fun i => bs[i]?) = (bw u).map some) (hp : post u) {v : Option Value} (hv : v = rv u) : ∀ t : State, t.heap = H → s.WarmedH t.vm → cQ G A rv post bw args s (.returned v) t := fun t ht _ => ⟨⟨u, by rw [hv], hp, by rw [ht]; exact wP_sub hP is hs, wD_sub hD is hn hs⟩, hS.F ht⟩
theorem cret_i {S : Type} {rv : S → Option Value} {post : S → Prop} {bw : S → List va_W} {v : Int} {ty : FieldType} (hx : p.tables.exec = Jvm.exec) (hb : c.code = cc) (hr : meth.sig.returnType = some ty) (hlocks : meth.locks = false) (hS : va_S A s.heap H locs) (hP : wP G bs H) (hD : wD A bs) (hc : cells ≤ mc) (hsl : slots ≤ ms) (hty : narrow ty (.int (jz v)) = .int (jz v)) (hdg : decode cc pc = .ok (.ireturn, 1)) (is : List Nat) (hn : va_nd is = true) (u : S) (hs : is.map (fun i => bs[i]?) = (bw u).map some) (hp : post u) (hv : some (.int (jz v)) = rv u) (hQ : Q = MQ below (cQ G A rv post bw) args s mc ms A) : W p l e R s m args below meth c H locs cells slots Q (F0 m pc ls [.int (jz v)]) :=
  hQ ▸ W.widen hc hsl (W.zret hx hb hr hty (cret_Q hS hP hD u is hn hs hp hv) hS.2.2 hdg hlocks)
theorem cret_v {S : Type} {rv : S → Option Value} {post : S → Prop} {bw : S → List va_W} (hx : p.tables.exec = Jvm.exec) (hb : c.code = cc) (hr : meth.sig.returnType = none) (hlocks : meth.locks = false) (hS : va_S A s.heap H locs) (hP : wP G bs H) (hD : wD A bs) (hc : cells ≤ mc) (hsl : slots ≤ ms) (hdg : decode cc pc = .ok (.return_, 1)) (is : List Nat) (hn : va_nd is = true) (u : S) (hs : is.map (fun i => bs[i]?) = (bw u).map some) (hp : post u) (hv : none = rv u) (hQ : Q = MQ below (cQ G A rv post bw) args s mc ms A) : W p l e R s m args below meth c H locs cells slots Q (F0 m pc ls []) :=
  hQ ▸ W.widen hc hsl (W.vret hx hb hr (cret_Q hS hP hD u is hn hs hp hv) hS.2.2 hdg hlocks)
theorem cret_l {S : Type} {rv : S → Option Value} {post : S → Prop} {bw : S → List va_W} {v : Int64} (hx : p.tables.exec = Jvm.exec) (hb : c.code = cc) (hr : meth.sig.returnType = some .long) (hlocks : meth.locks = false) (hS : va_S A s.heap H locs) (hP : wP G bs H) (hD : wD A bs) (hc : cells ≤ mc) (hsl : slots ≤ ms) (hdg : decode cc pc = .ok (.lreturn, 1)) (is : List Nat) (hn : va_nd is = true) (u : S) (hs : is.map (fun i => bs[i]?) = (bw u).map some) (hp : post u) (hv : some (.long v) = rv u) (hQ : Q = MQ below (cQ G A rv post bw) args s mc ms A) : W p l e R s m args below meth c H locs cells slots Q (F0 m pc ls [.long v]) :=
  hQ ▸ W.widen hc hsl (W.lret hx hb hr (cret_Q hS hP hD u is hn hs hp hv) hS.2.2 hdg hlocks)
theorem cret_d {S : Type} {rv : S → Option Value} {post : S → Prop} {bw : S → List va_W} {v : UInt64} (hx : p.tables.exec = Jvm.exec) (hb : c.code = cc) (hr : meth.sig.returnType = some .double) (hlocks : meth.locks = false) (hS : va_S A s.heap H locs) (hP : wP G bs H) (hD : wD A bs) (hc : cells ≤ mc) (hsl : slots ≤ ms) (hdg : decode cc pc = .ok (.dreturn, 1)) (is : List Nat) (hn : va_nd is = true) (u : S) (hs : is.map (fun i => bs[i]?) = (bw u).map some) (hp : post u) (hv : some (.double v) = rv u) (hQ : Q = MQ below (cQ G A rv post bw) args s mc ms A) : W p l e R s m args below meth c H locs cells slots Q (F0 m pc ls [.double v]) :=
  hQ ▸ W.widen hc hsl (W.dret hx hb hr (cret_Q hS hP hD u is hn hs hp hv) hS.2.2 hdg hlocks)
theorem cret_r {S : Type} {rv : S → Option Value} {post : S → Prop} {bw : S → List va_W} {v : Nat} {ty : String} (hx : p.tables.exec = Jvm.exec) (hb : c.code = cc) (hr : meth.sig.returnType = some (.object ty)) (hlocks : meth.locks = false) (hS : va_S A s.heap H locs) (hP : wP G bs H) (hD : wD A bs) (hc : cells ≤ mc) (hsl : slots ≤ ms) (hdg : decode cc pc = .ok (.areturn, 1)) (is : List Nat) (hn : va_nd is = true) (u : S) (hs : is.map (fun i => bs[i]?) = (bw u).map some) (hp : post u) (hv : some (.ref v) = rv u) (hQ : Q = MQ below (cQ G A rv post bw) args s mc ms A) : W p l e R s m args below meth c H locs cells slots Q (F0 m pc ls [.ref v]) :=
  hQ ▸ W.widen hc hsl (W.aret hx hb hr (Or.inl ⟨_, rfl⟩) (Or.inr ⟨_, rfl⟩) (cret_Q hS hP hD u is hn hs hp hv) hS.2.2 hdg hlocks)
/-- behind a call: the blocks isC were the callee's, the blocks isR stay -/
theorem cgo {S : Type} {a : Array Value} {rv : S → Option Value} {post : S → Prop} {bw : S → List va_W} {bc br : List va_W} {st0 : List Value} (hS : va_S A s.heap H locs) (hP : wP G bs H) (hD : wD A bs) (hA : ∀ q : Nat, s.heap.size ≤ q → A q) (isC isR : List Nat) (hC : isC.map (fun i => bs[i]?) = bc.map some) (hR : isR.map (fun i => bs[i]?) = br.map some) (hn : va_nd (isC ++ isR) = true)
    (hr : va_Run p l e R s m args below meth c H locs cells slots mc ms (F0 m pc ls st0) rest (cQ G (va_A bc.flatten H.size) rv post bw a) (va_A bc.flatten H.size))
    (kk : ∀ (u : S) (H1 : Heap) (locs1 : List Loc), post u → wP G (br ++ bw u) H1 → wD A (br ++ bw u) → va_S A s.heap H1 locs1 → W p l e R s m args below meth c H1 locs1 (cells + mc) (slots + ms) Q (F0 m (pc + 3) ls ((rv u).toList ++ rest))) : W p l e R s m args below meth c H locs cells slots Q (F0 m pc ls st0) := by
  intro T hT X
  have hF := wfree hD hS hA isC hC
  obtain ⟨v, st₀, t, T', L, h0, X', hL, e1, e2, ⟨⟨u, hv, hp, hb1, hb2⟩, hFr⟩, st⟩ := hr T hT X
  cases hv
  obtain ⟨k1, k2, k3⟩ := vx_keep h0 e1 hS (fun q _ h => hF q h) hF hL hFr
  have hb1 : wP G (bw u) T'.heap := by rw [e1]; exact hb1
  obtain ⟨j1, j2⟩ := wjoin hP hD isC isR hC hR hn k2 hF hb1 hb2
  obtain ⟨t2, a1, b1⟩ := kk u T'.heap (locs ++ L) hp j1 j2 k3 T' rfl X'
  exact ⟨t2, st t2 a1, b1⟩
end CR
end
section
/-! calls: what a call site needs of the tables, in one word -/
def LkB (y : MethodName) (cc : ByteArray) (maxL : Nat) (ret : Option FieldType) (n : Nat) : Prop := Cond.initialized y.cls ∈ WA ∧ Cond.code y cc maxL ret ∈ WA ∧ y.cls ≠ "java/lang/invoke/MethodHandle" ∧ y.cls ≠ "java/lang/invoke/VarHandle" ∧ (parseMethodDescriptor y.desc).map (fun d => d.parameters.length) = some n
def LkV (own : String) (index : Nat) (y : MethodName) (cc : ByteArray) (maxL : Nat) (ret : Option FieldType) (n : Nat) : Prop := LkB y cc maxL ret n ∧ Cond.methodLink own index y ∈ WA ∧ Cond.instanceMethod y ∈ WA ∧ Cond.selects y.cls y y ∈ WA
def LkS (own : String) (index : Nat) (y : MethodName) (cc : ByteArray) (maxL : Nat) (ret : Option FieldType) (n : Nat) : Prop := LkB y cc maxL ret n ∧ Cond.methodLink own index y ∈ WA ∧ Cond.static y ∈ WA
def LkSN (own : String) (index : Nat) (y : MethodName) (host : String) (cc : ByteArray) (maxL : Nat) (ret : Option FieldType) (n : Nat) : Prop := LkB y cc maxL ret n ∧ Cond.methodLinkNest own index y host ∈ WN ∧ Cond.static y ∈ WA
def LkI (own : String) (index : Nat) (y : MethodName) (cc : ByteArray) (maxL : Nat) (n : Nat) : Prop := LkB y cc maxL none n ∧ Cond.methodLink own index y ∈ WA ∧ Cond.instanceMethod y ∈ WA ∧ y.name = "<init>"
def LkIN (own : String) (index : Nat) (y : MethodName) (host : String) (cc : ByteArray) (maxL : Nat) (n : Nat) : Prop := LkB y cc maxL none n ∧ Cond.methodLinkNest own index y host ∈ WN ∧ Cond.instanceMethod y ∈ WA ∧ y.name = "<init>"
section LK
variable {p : Program} {l : Launch} {e : Env} {R : Room} {s : State} {m : MethodId} {args : Array Value} {below : List Frame} {meth : Method} {c : Code} {H : Heap} {locs : List Loc} {cells slots : Nat} {Q : State → Prop} {cc : ByteArray} {pc : Nat} {ls : Array Slot} {rest st0 : List Value}
variable {G : GG} {A : Nat → Prop} {bs bc br : List va_W} {own : String} {index nL : Nat} {y : MethodName} {cy : ByteArray} {maxL : Nat} {ret : Option FieldType} {n : Nat} {rm : Room} {As : List Value} {b : Nat}
theorem lk_pay (hts : ∀ w ∈ WA, w.before args s = true) (hc : Cond.code y cy maxL ret ∈ WA) : ∀ w ∈ wz y cy maxL ret, ∀ (a' : Array Value) (U : State), s.WarmedH U.vm → w.before a' U = true := by
  intro w hw a' U hW
  have h : w ∈ WA := (List.mem_cons.mp hw).elim (fun e => by rw [e]; exact hc) id
  exact word_at hW (good_of_word (wa_good h)) (hts w h)
theorem lk_B (hts : ∀ w ∈ WA, w.before args s = true) (K : LkB y cy maxL ret n) (hl : (Cond.methodLink own index y).before args s = true) (hR : rm.frames + 1 ≤ R.frames ∧ 8 + (maxL + 11) + rm.locals ≤ R.locals) : CallB R s args own index y cy maxL ret (wz y cy maxL ret) rm rm.cells rm.slots n :=
  ⟨rfl, rfl, hR.1, hR.2, lk_pay hts K.2.1, List.mem_cons_self, hts _ K.2.1, hts _ K.1, ⟨K.2.2.1, K.2.2.2.1⟩, fun sig h => by have h2 := K.2.2.2.2; rw [h] at h2; exact (Option.some.inj h2).symm, hl⟩
theorem lk_N {host : String} (hts : ∀ w ∈ WA, w.before args s = true) (K : LkB y cy maxL ret n) (hl : va_Nw (Cond.methodLinkNest own index y host) s) (hR : rm.frames + 1 ≤ R.frames ∧ 8 + (maxL + 11) + rm.locals ≤ R.locals) : va_CN R s args own index y host cy maxL ret (wz y cy maxL ret) rm rm.cells rm.slots n :=
  ⟨⟨rfl, rfl, hR.1, hR.2, lk_pay hts K.2.1, List.mem_cons_self⟩, hts _ K.2.1, hts _ K.1, ⟨K.2.2.1, K.2.2.2.1⟩, fun sig h => by have h2 := K.2.2.2.2; rw [h] at h2; exact (Option.some.inj h2).symm, va_Nw.use rfl hl⟩
theorem lk_pre {av : List Value} (hK : KK G s) (hP : wP G bs H) (hD : wD A bs) (isC : List Nat) (hC : isC.map (fun i => bs[i]?) = bc.map some) (hn : va_nd isC = true) : ∀ U : State, U.heap = H → s.WarmedH U.vm → cPre G av bc H.size av.toArray U :=
  fun U hU hW => ⟨rfl, by rw [hU], by rw [hU]; exact wP_sub hP isC hC, KK.warm hW hK, va_D.weaken (wD_sub hD isC hn hC) (fun _ _ _ _ => trivial)⟩
theorem va_nd_l {a b : List Nat} (h : va_nd (a ++ b) = true) : va_nd a = true := by
  induction a with
  | nil => rfl
  | cons x t ih =>
    simp only [List.cons_append, va_nd, Bool.and_eq_true] at h ⊢
    have h1 : x ∉ t ++ b := by simpa using h.1
    have h2 : x ∉ t := fun h9 => h1 (List.mem_append_left _ h9)
    exact ⟨by simpa using h2, ih h.2⟩
theorem lk_recv (hK : KK G s) (hP : wP G bs H) (isC : List Nat) (hC : isC.map (fun i => bs[i]?) = bc.map some) (k0 ci : Nat) {fs : List Value} {T : u_T} {N : Nat} (he : bc.flatten[k0]? = some (b, .inr (ci, fs))) (hcl : vwCl[ci]? = some (y.cls, T, N)) : ∃ cell : Cell, H[b]? = some cell ∧ cell.vm.isStatics = false ∧ s.vm.findClass y.cls = some cell.cls :=
  va_recv hK.1 (wP_sub hP isC hC) hcl he
variable {S : Type} {rv : S → Option Value} {post : S → Prop} {bw : S → List va_W}
/-- a call of an instance method of the receiver b -/
theorem kV (F : CallFix p m c cc nL s args WA own) (hK : KK G s) (hA : ∀ q : Nat, s.heap.size ≤ q → A q) (hS : va_S A s.heap H locs) (hP : wP G bs H) (hD : wD A bs) (As : List Value) (rest : List Value)
    (hM : Ct l y cy maxL ret rm G (.ref b :: As) bc rv post bw) (K : LkV own index y cy maxL ret n) (isC isR : List Nat) (hC : isC.map (fun i => bs[i]?) = bc.map some) (hR : isR.map (fun i => bs[i]?) = br.map some) (hn : va_nd (isC ++ isR) = true) (k0 ci : Nat) {fs : List Value} {T : u_T} {N : Nat} (he : bc.flatten[k0]? = some (b, .inr (ci, fs))) (hcl : vwCl[ci]? = some (y.cls, T, N))
    (hlen : As.length = n) (hst : st0 = As.reverse ++ .ref b :: rest) (hW : (rest.map fun v => v.category).sum ≤ 8) (hls : ls.size = nL) (hdg : decode cc pc = .ok (.invokevirtual index, 3)) (hroom : rm.frames + 1 ≤ R.frames ∧ 8 + (maxL + 11) + rm.locals ≤ R.locals) (hf : cells + rm.cells ≤ R.cells ∧ slots + rm.slots ≤ R.slots)
    (kk : ∀ (u : S) (H1 : Heap) (locs1 : List Loc), post u → wP G (br ++ bw u) H1 → wD A (br ++ bw u) → va_S A s.heap H1 locs1 → W p l e R s m args below meth c H1 locs1 (cells + rm.cells) (slots + rm.slots) Q (F0 m (pc + 3) ls ((rv u).toList ++ rest))) : W p l e R s m args below meth c H locs cells slots Q (F0 m pc ls st0) :=
  cgo hS hP hD hA isC isR hC hR hn (va_runV (C := y.cls) (As := As) (rest := rest) F (hM H.size) ⟨lk_B F.2.2.2.2 K.1 (F.2.2.2.2 _ K.2.1) hroom, F.2.2.2.2 _ K.2.2.1, F.2.2.2.2 _ K.2.2.2⟩ ⟨cPre_blind, lk_recv hK hP isC hC k0 ci he hcl, lk_pre hK hP hD isC hC (va_nd_l hn)⟩ rfl hlen hls hst (lv_room hW) hdg hf) kk
/-- a call of a static method -/
theorem kS (F : CallFix p m c cc nL s args WA own) (hK : KK G s) (hA : ∀ q : Nat, s.heap.size ≤ q → A q) (hS : va_S A s.heap H locs) (hP : wP G bs H) (hD : wD A bs) (As : List Value) (rest : List Value)
    (hM : Ct l y cy maxL ret rm G As bc rv post bw) (K : LkS own index y cy maxL ret n) (isC isR : List Nat) (hC : isC.map (fun i => bs[i]?) = bc.map some) (hR : isR.map (fun i => bs[i]?) = br.map some) (hn : va_nd (isC ++ isR) = true)
    (hlen : As.length = n) (hst : st0 = As.reverse ++ rest) (hW : (rest.map fun v => v.category).sum ≤ 8) (hls : ls.size = nL) (hdg : decode cc pc = .ok (.invokestatic index, 3)) (hroom : rm.frames + 1 ≤ R.frames ∧ 8 + (maxL + 11) + rm.locals ≤ R.locals) (hf : cells + rm.cells ≤ R.cells ∧ slots + rm.slots ≤ R.slots)
    (kk : ∀ (u : S) (H1 : Heap) (locs1 : List Loc), post u → wP G (br ++ bw u) H1 → wD A (br ++ bw u) → va_S A s.heap H1 locs1 → W p l e R s m args below meth c H1 locs1 (cells + rm.cells) (slots + rm.slots) Q (F0 m (pc + 3) ls ((rv u).toList ++ rest))) : W p l e R s m args below meth c H locs cells slots Q (F0 m pc ls st0) :=
  cgo hS hP hD hA isC isR hC hR hn (va_runS (As := As) (rest := rest) F (hM H.size) ⟨lk_B F.2.2.2.2 K.1 (F.2.2.2.2 _ K.2.1) hroom, F.2.2.2.2 _ K.2.2⟩ ⟨cPre_blind, lk_pre hK hP hD isC hC (va_nd_l hn)⟩ rfl hlen hls hst (lv_room hW) hdg hf) kk
theorem kSN {host : String} (F : CallFix p m c cc nL s args WA own) (hK : KK G s) (hA : ∀ q : Nat, s.heap.size ≤ q → A q) (hS : va_S A s.heap H locs) (hP : wP G bs H) (hD : wD A bs) (As : List Value) (rest : List Value)
    (hM : Ct l y cy maxL ret rm G As bc rv post bw) (K : LkSN own index y host cy maxL ret n) (isC isR : List Nat) (hC : isC.map (fun i => bs[i]?) = bc.map some) (hR : isR.map (fun i => bs[i]?) = br.map some) (hn : va_nd (isC ++ isR) = true)
    (hlen : As.length = n) (hst : st0 = As.reverse ++ rest) (hW : (rest.map fun v => v.category).sum ≤ 8) (hls : ls.size = nL) (hdg : decode cc pc = .ok (.invokestatic index, 3)) (hroom : rm.frames + 1 ≤ R.frames ∧ 8 + (maxL + 11) + rm.locals ≤ R.locals) (hf : cells + rm.cells ≤ R.cells ∧ slots + rm.slots ≤ R.slots)
    (kk : ∀ (u : S) (H1 : Heap) (locs1 : List Loc), post u → wP G (br ++ bw u) H1 → wD A (br ++ bw u) → va_S A s.heap H1 locs1 → W p l e R s m args below meth c H1 locs1 (cells + rm.cells) (slots + rm.slots) Q (F0 m (pc + 3) ls ((rv u).toList ++ rest))) : W p l e R s m args below meth c H locs cells slots Q (F0 m pc ls st0) :=
  cgo hS hP hD hA isC isR hC hR hn (va_runSN (As := As) (rest := rest) F (hM H.size) ⟨lk_N F.2.2.2.2 K.1 (hK.2.2.1 _ K.2.1) hroom, F.2.2.2.2 _ K.2.2, trivial⟩ ⟨cPre_blind, lk_pre hK hP hD isC hC (va_nd_l hn)⟩ rfl hlen hls hst (lv_room hW) hdg hf) kk
/-- a constructor's call -/
theorem kI (F : CallFix p m c cc nL s args WA own) (hK : KK G s) (hA : ∀ q : Nat, s.heap.size ≤ q → A q) (hS : va_S A s.heap H locs) (hP : wP G bs H) (hD : wD A bs) (As : List Value) (rest : List Value)
    (hM : Ct l y cy maxL none rm G (.ref b :: As) bc rv post bw) (K : LkI own index y cy maxL n) (isC isR : List Nat) (hC : isC.map (fun i => bs[i]?) = bc.map some) (hR : isR.map (fun i => bs[i]?) = br.map some) (hn : va_nd (isC ++ isR) = true)
    (hlen : As.length = n) (hst : st0 = As.reverse ++ .ref b :: rest) (hW : (rest.map fun v => v.category).sum ≤ 8) (hls : ls.size = nL) (hdg : decode cc pc = .ok (.invokespecial index, 3)) (hroom : rm.frames + 1 ≤ R.frames ∧ 8 + (maxL + 11) + rm.locals ≤ R.locals) (hf : cells + rm.cells ≤ R.cells ∧ slots + rm.slots ≤ R.slots)
    (kk : ∀ (u : S) (H1 : Heap) (locs1 : List Loc), post u → wP G (br ++ bw u) H1 → wD A (br ++ bw u) → va_S A s.heap H1 locs1 → W p l e R s m args below meth c H1 locs1 (cells + rm.cells) (slots + rm.slots) Q (F0 m (pc + 3) ls ((rv u).toList ++ rest))) : W p l e R s m args below meth c H locs cells slots Q (F0 m pc ls st0) :=
  cgo hS hP hD hA isC isR hC hR hn (va_runI (As := As) (rest := rest) F (hM H.size) ⟨lk_B F.2.2.2.2 K.1 (F.2.2.2.2 _ K.2.1) hroom, K.2.2.2, F.2.2.2.2 _ K.2.2.1⟩ ⟨cPre_blind, lk_pre hK hP hD isC hC (va_nd_l hn)⟩ rfl hlen hls hst (lv_room hW) hdg hf) kk
theorem kIN {host : String} (F : CallFix p m c cc nL s args WA own) (hK : KK G s) (hA : ∀ q : Nat, s.heap.size ≤ q → A q) (hS : va_S A s.heap H locs) (hP : wP G bs H) (hD : wD A bs) (As : List Value) (rest : List Value)
    (hM : Ct l y cy maxL none rm G (.ref b :: As) bc rv post bw) (K : LkIN own index y host cy maxL n) (isC isR : List Nat) (hC : isC.map (fun i => bs[i]?) = bc.map some) (hR : isR.map (fun i => bs[i]?) = br.map some) (hn : va_nd (isC ++ isR) = true)
    (hlen : As.length = n) (hst : st0 = As.reverse ++ .ref b :: rest) (hW : (rest.map fun v => v.category).sum ≤ 8) (hls : ls.size = nL) (hdg : decode cc pc = .ok (.invokespecial index, 3)) (hroom : rm.frames + 1 ≤ R.frames ∧ 8 + (maxL + 11) + rm.locals ≤ R.locals) (hf : cells + rm.cells ≤ R.cells ∧ slots + rm.slots ≤ R.slots)
    (kk : ∀ (u : S) (H1 : Heap) (locs1 : List Loc), post u → wP G (br ++ bw u) H1 → wD A (br ++ bw u) → va_S A s.heap H1 locs1 → W p l e R s m args below meth c H1 locs1 (cells + rm.cells) (slots + rm.slots) Q (F0 m (pc + 3) ls ((rv u).toList ++ rest))) : W p l e R s m args below meth c H locs cells slots Q (F0 m pc ls st0) :=
  cgo hS hP hD hA isC isR hC hR hn (va_runIN (As := As) (rest := rest) F (hM H.size) ⟨lk_N F.2.2.2.2 K.1 (hK.2.2.1 _ K.2.1) hroom, K.2.2.2, F.2.2.2.2 _ K.2.2.1⟩ ⟨cPre_blind, lk_pre hK hP hD isC hC (va_nd_l hn)⟩ rfl hlen hls hst (lv_room hW) hdg hf) kk
end LK
end
section
theorem wm31 : Cond.initialized RX6 ∈ WA := wa_of 31 (by decide +kernel) (by decide +kernel)
theorem wm241 : Cond.code yX6_size cX6_size 1 (some .int) ∈ WA := wa_of 241 (by decide +kernel) (by decide +kernel)
theorem wm335 : Cond.methodLink RX0 40 yX6_size ∈ WA := wa_of 335 (by decide +kernel) (by decide +kernel)
theorem wm239 : Cond.instanceMethod yX6_size ∈ WA := wa_of 239 (by decide +kernel) (by decide +kernel)
theorem wm240 : Cond.selects RX6 yX6_size yX6_size ∈ WA := wa_of 240 (by decide +kernel) (by decide +kernel)
theorem lkX0_40 : LkV RX0 40 yX6_size cX6_size 1 (some .int) 0 := ⟨⟨wm31, wm241, by decide +kernel, by decide +kernel, by decide +kernel⟩, wm335, wm239, wm240⟩
theorem wm36 : Cond.initialized RX0 ∈ WA := wa_of 36 (by decide +kernel) (by decide +kernel)
theorem wm340 : Cond.code yX0_keyOf cX0_keyOf 11 (some .int) ∈ WA := wa_of 340 (by decide +kernel) (by decide +kernel)
theorem wm337 : Cond.methodLink RX0 49 yX0_keyOf ∈ WA := wa_of 337 (by decide +kernel) (by decide +kernel)
theorem wm339 : Cond.instanceMethod yX0_keyOf ∈ WA := wa_of 339 (by decide +kernel) (by decide +kernel)
theorem wm3 : Cond.selects RX0 yX0_keyOf yX0_keyOf ∈ WA := wa_of 3 (by decide +kernel) (by decide +kernel)
theorem lkX0_49 : LkV RX0 49 yX0_keyOf cX0_keyOf 11 (some .int) 5 := ⟨⟨wm36, wm340, by decide +kernel, by decide +kernel, by decide +kernel⟩, wm337, wm339, wm3⟩
theorem wm353 : Cond.code yX0_meet cX0_meet 5 none ∈ WA := wa_of 353 (by decide +kernel) (by decide +kernel)
theorem wm350 : Cond.methodLink RX0 53 yX0_meet ∈ WA := wa_of 350 (by decide +kernel) (by decide +kernel)
theorem wm352 : Cond.instanceMethod yX0_meet ∈ WA := wa_of 352 (by decide +kernel) (by decide +kernel)
theorem wm4 : Cond.selects RX0 yX0_meet yX0_meet ∈ WA := wa_of 4 (by decide +kernel) (by decide +kernel)
theorem lkX0_53 : LkV RX0 53 yX0_meet cX0_meet 5 none 1 := ⟨⟨wm36, wm353, by decide +kernel, by decide +kernel, by decide +kernel⟩, wm350, wm352, wm4⟩
theorem wm245 : Cond.code yX6_at cX6_at 2 (some .int) ∈ WA := wa_of 245 (by decide +kernel) (by decide +kernel)
theorem wm341 : Cond.methodLink RX0 57 yX6_at ∈ WA := wa_of 341 (by decide +kernel) (by decide +kernel)
theorem wm243 : Cond.instanceMethod yX6_at ∈ WA := wa_of 243 (by decide +kernel) (by decide +kernel)
theorem wm244 : Cond.selects RX6 yX6_at yX6_at ∈ WA := wa_of 244 (by decide +kernel) (by decide +kernel)
theorem lkX0_57 : LkV RX0 57 yX6_at cX6_at 2 (some .int) 1 := ⟨⟨wm31, wm245, by decide +kernel, by decide +kernel, by decide +kernel⟩, wm341, wm243, wm244⟩
theorem wm34 : Cond.initialized RX1 ∈ WA := wa_of 34 (by decide +kernel) (by decide +kernel)
theorem wm345 : Cond.code yX1_stepAcross cX1_stepAcross 3 (some .int) ∈ WA := wa_of 345 (by decide +kernel) (by decide +kernel)
theorem wm342 : Cond.methodLink RX0 61 yX1_stepAcross ∈ WA := wa_of 342 (by decide +kernel) (by decide +kernel)
theorem wm343 : Cond.instanceMethod yX1_stepAcross ∈ WA := wa_of 343 (by decide +kernel) (by decide +kernel)
theorem wm344 : Cond.selects RX1 yX1_stepAcross yX1_stepAcross ∈ WA := wa_of 344 (by decide +kernel) (by decide +kernel)
theorem lkX0_61 : LkV RX0 61 yX1_stepAcross cX1_stepAcross 3 (some .int) 2 := ⟨⟨wm34, wm345, by decide +kernel, by decide +kernel, by decide +kernel⟩, wm342, wm343, wm344⟩
theorem wm349 : Cond.code yX1_stepDown cX1_stepDown 3 (some .int) ∈ WA := wa_of 349 (by decide +kernel) (by decide +kernel)
theorem wm346 : Cond.methodLink RX0 66 yX1_stepDown ∈ WA := wa_of 346 (by decide +kernel) (by decide +kernel)
theorem wm347 : Cond.instanceMethod yX1_stepDown ∈ WA := wa_of 347 (by decide +kernel) (by decide +kernel)
theorem wm348 : Cond.selects RX1 yX1_stepDown yX1_stepDown ∈ WA := wa_of 348 (by decide +kernel) (by decide +kernel)
theorem lkX0_66 : LkV RX0 66 yX1_stepDown cX1_stepDown 3 (some .int) 2 := ⟨⟨wm34, wm349, by decide +kernel, by decide +kernel, by decide +kernel⟩, wm346, wm347, wm348⟩
theorem wm279 : Cond.code yX1_isInside cX1_isInside 2 (some .boolean) ∈ WA := wa_of 279 (by decide +kernel) (by decide +kernel)
theorem wm278 : Cond.static yX1_isInside ∈ WA := wa_of 278 (by decide +kernel) (by decide +kernel)
theorem wm277 : Cond.methodLink RX1 15 yX1_isInside ∈ WA := wa_of 277 (by decide +kernel) (by decide +kernel)
theorem lkX1_15 : LkS RX1 15 yX1_isInside cX1_isInside 2 (some .boolean) 2 := ⟨⟨wm34, wm279, by decide +kernel, by decide +kernel, by decide +kernel⟩, wm277, wm278⟩
theorem wm287 : Cond.code yX1_at cX1_at 3 (some .int) ∈ WA := wa_of 287 (by decide +kernel) (by decide +kernel)
theorem wm284 : Cond.methodLink RX1 19 yX1_at ∈ WA := wa_of 284 (by decide +kernel) (by decide +kernel)
theorem wm285 : Cond.instanceMethod yX1_at ∈ WA := wa_of 285 (by decide +kernel) (by decide +kernel)
theorem wm286 : Cond.selects RX1 yX1_at yX1_at ∈ WA := wa_of 286 (by decide +kernel) (by decide +kernel)
theorem lkX1_19 : LkV RX1 19 yX1_at cX1_at 3 (some .int) 2 := ⟨⟨wm34, wm287, by decide +kernel, by decide +kernel, by decide +kernel⟩, wm284, wm285, wm286⟩
theorem wm272 : Cond.methodLink RX1 23 yX6_size ∈ WA := wa_of 272 (by decide +kernel) (by decide +kernel)
theorem lkX1_23 : LkV RX1 23 yX6_size cX6_size 1 (some .int) 0 := ⟨⟨wm31, wm241, by decide +kernel, by decide +kernel, by decide +kernel⟩, wm272, wm239, wm240⟩
theorem wm276 : Cond.code yX1_put cX1_put 4 none ∈ WA := wa_of 276 (by decide +kernel) (by decide +kernel)
theorem wm273 : Cond.methodLink RX1 29 yX1_put ∈ WA := wa_of 273 (by decide +kernel) (by decide +kernel)
theorem wm275 : Cond.instanceMethod yX1_put ∈ WA := wa_of 275 (by decide +kernel) (by decide +kernel)
theorem wm1 : Cond.selects RX1 yX1_put yX1_put ∈ WA := wa_of 1 (by decide +kernel) (by decide +kernel)
theorem lkX1_29 : LkV RX1 29 yX1_put cX1_put 4 none 3 := ⟨⟨wm34, wm276, by decide +kernel, by decide +kernel, by decide +kernel⟩, wm273, wm275, wm1⟩
theorem wm280 : Cond.methodLink RX1 33 yX6_at ∈ WA := wa_of 280 (by decide +kernel) (by decide +kernel)
theorem lkX1_33 : LkV RX1 33 yX6_at cX6_at 2 (some .int) 1 := ⟨⟨wm31, wm245, by decide +kernel, by decide +kernel, by decide +kernel⟩, wm280, wm243, wm244⟩
theorem wm29 : Cond.initialized RX8 ∈ WA := wa_of 29 (by decide +kernel) (by decide +kernel)
theorem wm283 : Cond.code yX8_replaceCost cX8_replaceCost 2 (some .int) ∈ WA := wa_of 283 (by decide +kernel) (by decide +kernel)
theorem wm282 : Cond.static yX8_replaceCost ∈ WA := wa_of 282 (by decide +kernel) (by decide +kernel)
theorem wn281 : Cond.methodLinkNest RX1 36 yX8_replaceCost RX8 ∈ WN := List.mem_filter.mpr ⟨List.mem_of_getElem? (i := 281) (by decide +kernel), by decide +kernel⟩
theorem lkX1_36 : LkSN RX1 36 yX8_replaceCost RX8 cX8_replaceCost 2 (some .int) 2 := ⟨⟨wm29, wm283, by decide +kernel, by decide +kernel, by decide +kernel⟩, wn281, wm282⟩
theorem wm290 : Cond.code yX8_leastCost cX8_leastCost 4 (some .int) ∈ WA := wa_of 290 (by decide +kernel) (by decide +kernel)
theorem wm289 : Cond.static yX8_leastCost ∈ WA := wa_of 289 (by decide +kernel) (by decide +kernel)
theorem wn288 : Cond.methodLinkNest RX1 39 yX8_leastCost RX8 ∈ WN := List.mem_filter.mpr ⟨List.mem_of_getElem? (i := 288) (by decide +kernel), by decide +kernel⟩
theorem lkX1_39 : LkSN RX1 39 yX8_leastCost RX8 cX8_leastCost 4 (some .int) 4 := ⟨⟨wm29, wm290, by decide +kernel, by decide +kernel, by decide +kernel⟩, wn288, wm289⟩
theorem wm33 : Cond.initialized RX2 ∈ WA := wa_of 33 (by decide +kernel) (by decide +kernel)
theorem wm424 : Cond.code yX2_isLetter cX2_isLetter 1 (some .boolean) ∈ WA := wa_of 424 (by decide +kernel) (by decide +kernel)
theorem wm423 : Cond.static yX2_isLetter ∈ WA := wa_of 423 (by decide +kernel) (by decide +kernel)
theorem wm422 : Cond.methodLink RX2 19 yX2_isLetter ∈ WA := wa_of 422 (by decide +kernel) (by decide +kernel)
theorem lkX2_19 : LkS RX2 19 yX2_isLetter cX2_isLetter 1 (some .boolean) 1 := ⟨⟨wm33, wm424, by decide +kernel, by decide +kernel, by decide +kernel⟩, wm422, wm423⟩
theorem wm421 : Cond.code yX2_errorPlace cX2_errorPlace 4 (some .int) ∈ WA := wa_of 421 (by decide +kernel) (by decide +kernel)
theorem wm572 : Cond.methodLink RX2 23 yX2_errorPlace ∈ WA := wa_of 572 (by decide +kernel) (by decide +kernel)
theorem wm419 : Cond.instanceMethod yX2_errorPlace ∈ WA := wa_of 419 (by decide +kernel) (by decide +kernel)
theorem wm420 : Cond.selects RX2 yX2_errorPlace yX2_errorPlace ∈ WA := wa_of 420 (by decide +kernel) (by decide +kernel)
theorem lkX2_23 : LkV RX2 23 yX2_errorPlace cX2_errorPlace 4 (some .int) 0 := ⟨⟨wm33, wm421, by decide +kernel, by decide +kernel, by decide +kernel⟩, wm572, wm419, wm420⟩
theorem wm576 : Cond.code yX2_barPlace cX2_barPlace 2 (some .int) ∈ WA := wa_of 576 (by decide +kernel) (by decide +kernel)
theorem wm573 : Cond.methodLink RX2 27 yX2_barPlace ∈ WA := wa_of 573 (by decide +kernel) (by decide +kernel)
theorem wm575 : Cond.instanceMethod yX2_barPlace ∈ WA := wa_of 575 (by decide +kernel) (by decide +kernel)
theorem wm9 : Cond.selects RX2 yX2_barPlace yX2_barPlace ∈ WA := wa_of 9 (by decide +kernel) (by decide +kernel)
theorem lkX2_27 : LkV RX2 27 yX2_barPlace cX2_barPlace 2 (some .int) 0 := ⟨⟨wm33, wm576, by decide +kernel, by decide +kernel, by decide +kernel⟩, wm573, wm575, wm9⟩
theorem wm237 : Cond.code yX6_empty cX6_empty 1 none ∈ WA := wa_of 237 (by decide +kernel) (by decide +kernel)
theorem wm601 : Cond.methodLink RX2 30 yX6_empty ∈ WA := wa_of 601 (by decide +kernel) (by decide +kernel)
theorem wm235 : Cond.instanceMethod yX6_empty ∈ WA := wa_of 235 (by decide +kernel) (by decide +kernel)
theorem wm236 : Cond.selects RX6 yX6_empty yX6_empty ∈ WA := wa_of 236 (by decide +kernel) (by decide +kernel)
theorem lkX2_30 : LkV RX2 30 yX6_empty cX6_empty 1 none 0 := ⟨⟨wm31, wm237, by decide +kernel, by decide +kernel, by decide +kernel⟩, wm601, wm235, wm236⟩
theorem wm602 : Cond.methodLink RX2 35 yX6_size ∈ WA := wa_of 602 (by decide +kernel) (by decide +kernel)
theorem lkX2_35 : LkV RX2 35 yX6_size cX6_size 1 (some .int) 0 := ⟨⟨wm31, wm241, by decide +kernel, by decide +kernel, by decide +kernel⟩, wm602, wm239, wm240⟩
theorem wm249 : Cond.code yX6_putIn cX6_putIn 4 none ∈ WA := wa_of 249 (by decide +kernel) (by decide +kernel)
theorem wm603 : Cond.methodLink RX2 37 yX6_putIn ∈ WA := wa_of 603 (by decide +kernel) (by decide +kernel)
theorem wm247 : Cond.instanceMethod yX6_putIn ∈ WA := wa_of 247 (by decide +kernel) (by decide +kernel)
theorem wm248 : Cond.selects RX6 yX6_putIn yX6_putIn ∈ WA := wa_of 248 (by decide +kernel) (by decide +kernel)
theorem lkX2_37 : LkV RX2 37 yX6_putIn cX6_putIn 4 none 2 := ⟨⟨wm31, wm249, by decide +kernel, by decide +kernel, by decide +kernel⟩, wm603, wm247, wm248⟩
theorem wm413 : Cond.code yX2_empty cX2_empty 1 none ∈ WA := wa_of 413 (by decide +kernel) (by decide +kernel)
theorem wm604 : Cond.methodLink RX2 41 yX2_empty ∈ WA := wa_of 604 (by decide +kernel) (by decide +kernel)
theorem wm411 : Cond.instanceMethod yX2_empty ∈ WA := wa_of 411 (by decide +kernel) (by decide +kernel)
theorem wm412 : Cond.selects RX2 yX2_empty yX2_empty ∈ WA := wa_of 412 (by decide +kernel) (by decide +kernel)
theorem lkX2_41 : LkV RX2 41 yX2_empty cX2_empty 1 none 0 := ⟨⟨wm33, wm413, by decide +kernel, by decide +kernel, by decide +kernel⟩, wm604, wm411, wm412⟩
theorem wm120 : Cond.code yX1_init cX1_init 1 none ∈ WA := wa_of 120 (by decide +kernel) (by decide +kernel)
theorem wm119 : Cond.instanceMethod yX1_init ∈ WA := wa_of 119 (by decide +kernel) (by decide +kernel)
theorem wn169 : Cond.methodLinkNest RX3 11 yX1_init RX8 ∈ WN := List.mem_filter.mpr ⟨List.mem_of_getElem? (i := 169) (by decide +kernel), by decide +kernel⟩
theorem lkX3_11 : LkIN RX3 11 yX1_init RX8 cX1_init 1 0 := ⟨⟨wm34, wm120, by decide +kernel, by decide +kernel, by decide +kernel⟩, wn169, wm119, rfl⟩
theorem wm65 : Cond.code yX6_init cX6_init 1 none ∈ WA := wa_of 65 (by decide +kernel) (by decide +kernel)
theorem wm64 : Cond.instanceMethod yX6_init ∈ WA := wa_of 64 (by decide +kernel) (by decide +kernel)
theorem wn171 : Cond.methodLinkNest RX3 23 yX6_init RX8 ∈ WN := List.mem_filter.mpr ⟨List.mem_of_getElem? (i := 171) (by decide +kernel), by decide +kernel⟩
theorem lkX3_23 : LkIN RX3 23 yX6_init RX8 cX6_init 1 0 := ⟨⟨wm31, wm65, by decide +kernel, by decide +kernel, by decide +kernel⟩, wn171, wm64, rfl⟩
theorem wm271 : Cond.code yX1_fill cX1_fill 7 none ∈ WA := wa_of 271 (by decide +kernel) (by decide +kernel)
theorem wm540 : Cond.methodLink RX3 31 yX1_fill ∈ WA := wa_of 540 (by decide +kernel) (by decide +kernel)
theorem wm269 : Cond.instanceMethod yX1_fill ∈ WA := wa_of 269 (by decide +kernel) (by decide +kernel)
theorem wm270 : Cond.selects RX1 yX1_fill yX1_fill ∈ WA := wa_of 270 (by decide +kernel) (by decide +kernel)
theorem lkX3_31 : LkV RX3 31 yX1_fill cX1_fill 7 none 3 := ⟨⟨wm34, wm271, by decide +kernel, by decide +kernel, by decide +kernel⟩, wm540, wm269, wm270⟩
theorem wm544 : Cond.code yX6_copyBackward cX6_copyBackward 3 none ∈ WA := wa_of 544 (by decide +kernel) (by decide +kernel)
theorem wm541 : Cond.methodLink RX3 35 yX6_copyBackward ∈ WA := wa_of 541 (by decide +kernel) (by decide +kernel)
theorem wm542 : Cond.instanceMethod yX6_copyBackward ∈ WA := wa_of 542 (by decide +kernel) (by decide +kernel)
theorem wm543 : Cond.selects RX6 yX6_copyBackward yX6_copyBackward ∈ WA := wa_of 543 (by decide +kernel) (by decide +kernel)
theorem lkX3_35 : LkV RX3 35 yX6_copyBackward cX6_copyBackward 3 none 1 := ⟨⟨wm31, wm544, by decide +kernel, by decide +kernel, by decide +kernel⟩, wm541, wm542, wm543⟩
theorem wm550 : Cond.methodLink RX3 39 yX6_size ∈ WA := wa_of 550 (by decide +kernel) (by decide +kernel)
theorem lkX3_39 : LkV RX3 39 yX6_size cX6_size 1 (some .int) 0 := ⟨⟨wm31, wm241, by decide +kernel, by decide +kernel, by decide +kernel⟩, wm550, wm239, wm240⟩
theorem wm551 : Cond.methodLink RX3 43 yX1_at ∈ WA := wa_of 551 (by decide +kernel) (by decide +kernel)
theorem lkX3_43 : LkV RX3 43 yX1_at cX1_at 3 (some .int) 2 := ⟨⟨wm34, wm287, by decide +kernel, by decide +kernel, by decide +kernel⟩, wm551, wm285, wm286⟩
theorem wm552 : Cond.methodLink RX3 47 yX6_at ∈ WA := wa_of 552 (by decide +kernel) (by decide +kernel)
theorem lkX3_47 : LkV RX3 47 yX6_at cX6_at 2 (some .int) 1 := ⟨⟨wm31, wm245, by decide +kernel, by decide +kernel, by decide +kernel⟩, wm552, wm243, wm244⟩
theorem wn553 : Cond.methodLinkNest RX3 50 yX8_replaceCost RX8 ∈ WN := List.mem_filter.mpr ⟨List.mem_of_getElem? (i := 553) (by decide +kernel), by decide +kernel⟩
theorem lkX3_50 : LkSN RX3 50 yX8_replaceCost RX8 cX8_replaceCost 2 (some .int) 2 := ⟨⟨wm29, wm283, by decide +kernel, by decide +kernel, by decide +kernel⟩, wn553, wm282⟩
theorem wn554 : Cond.methodLinkNest RX3 53 yX8_leastCost RX8 ∈ WN := List.mem_filter.mpr ⟨List.mem_of_getElem? (i := 554) (by decide +kernel), by decide +kernel⟩
theorem lkX3_53 : LkSN RX3 53 yX8_leastCost RX8 cX8_leastCost 4 (some .int) 4 := ⟨⟨wm29, wm290, by decide +kernel, by decide +kernel, by decide +kernel⟩, wn554, wm289⟩
theorem wm30 : Cond.initialized RX5 ∈ WA := wa_of 30 (by decide +kernel) (by decide +kernel)
theorem wm59 : Cond.code yX5_init cX5_init 1 none ∈ WA := wa_of 59 (by decide +kernel) (by decide +kernel)
theorem wm58 : Cond.instanceMethod yX5_init ∈ WA := wa_of 58 (by decide +kernel) (by decide +kernel)
theorem wn221 : Cond.methodLinkNest RX4 24 yX5_init RX8 ∈ WN := List.mem_filter.mpr ⟨List.mem_of_getElem? (i := 221) (by decide +kernel), by decide +kernel⟩
theorem lkX4_24 : LkIN RX4 24 yX5_init RX8 cX5_init 1 0 := ⟨⟨wm30, wm59, by decide +kernel, by decide +kernel, by decide +kernel⟩, wn221, wm58, rfl⟩
theorem wm225 : Cond.code yX5_copyFrom cX5_copyFrom 2 none ∈ WA := wa_of 225 (by decide +kernel) (by decide +kernel)
theorem wm222 : Cond.methodLink RX4 25 yX5_copyFrom ∈ WA := wa_of 222 (by decide +kernel) (by decide +kernel)
theorem wm223 : Cond.instanceMethod yX5_copyFrom ∈ WA := wa_of 223 (by decide +kernel) (by decide +kernel)
theorem wm224 : Cond.selects RX5 yX5_copyFrom yX5_copyFrom ∈ WA := wa_of 224 (by decide +kernel) (by decide +kernel)
theorem lkX4_25 : LkV RX4 25 yX5_copyFrom cX5_copyFrom 2 none 1 := ⟨⟨wm30, wm225, by decide +kernel, by decide +kernel, by decide +kernel⟩, wm222, wm223, wm224⟩
theorem wn63 : Cond.methodLinkNest RX5 11 yX6_init RX8 ∈ WN := List.mem_filter.mpr ⟨List.mem_of_getElem? (i := 63) (by decide +kernel), by decide +kernel⟩
theorem lkX5_11 : LkIN RX5 11 yX6_init RX8 cX6_init 1 0 := ⟨⟨wm31, wm65, by decide +kernel, by decide +kernel, by decide +kernel⟩, wn63, wm64, rfl⟩
theorem wm229 : Cond.code yX5_text cX5_text 2 (some (.object "BlockDistance$Text")) ∈ WA := wa_of 229 (by decide +kernel) (by decide +kernel)
theorem wm226 : Cond.methodLink RX5 25 yX5_text ∈ WA := wa_of 226 (by decide +kernel) (by decide +kernel)
theorem wm227 : Cond.instanceMethod yX5_text ∈ WA := wa_of 227 (by decide +kernel) (by decide +kernel)
theorem wm228 : Cond.selects RX5 yX5_text yX5_text ∈ WA := wa_of 228 (by decide +kernel) (by decide +kernel)
theorem lkX5_25 : LkV RX5 25 yX5_text cX5_text 2 (some (.object "BlockDistance$Text")) 1 := ⟨⟨wm30, wm229, by decide +kernel, by decide +kernel, by decide +kernel⟩, wm226, wm227, wm228⟩
theorem wm233 : Cond.code yX6_copyFrom cX6_copyFrom 3 none ∈ WA := wa_of 233 (by decide +kernel) (by decide +kernel)
theorem wm230 : Cond.methodLink RX5 29 yX6_copyFrom ∈ WA := wa_of 230 (by decide +kernel) (by decide +kernel)
theorem wm231 : Cond.instanceMethod yX6_copyFrom ∈ WA := wa_of 231 (by decide +kernel) (by decide +kernel)
theorem wm232 : Cond.selects RX6 yX6_copyFrom yX6_copyFrom ∈ WA := wa_of 232 (by decide +kernel) (by decide +kernel)
theorem lkX5_29 : LkV RX5 29 yX6_copyFrom cX6_copyFrom 3 none 1 := ⟨⟨wm31, wm233, by decide +kernel, by decide +kernel, by decide +kernel⟩, wm230, wm231, wm232⟩
theorem wm253 : Cond.code yX5_alphabet cX5_alphabet 1 (some .int) ∈ WA := wa_of 253 (by decide +kernel) (by decide +kernel)
theorem wm250 : Cond.methodLink RX5 33 yX5_alphabet ∈ WA := wa_of 250 (by decide +kernel) (by decide +kernel)
theorem wm251 : Cond.instanceMethod yX5_alphabet ∈ WA := wa_of 251 (by decide +kernel) (by decide +kernel)
theorem wm252 : Cond.selects RX5 yX5_alphabet yX5_alphabet ∈ WA := wa_of 252 (by decide +kernel) (by decide +kernel)
theorem lkX5_33 : LkV RX5 33 yX5_alphabet cX5_alphabet 1 (some .int) 0 := ⟨⟨wm30, wm253, by decide +kernel, by decide +kernel, by decide +kernel⟩, wm250, wm251, wm252⟩
theorem wm234 : Cond.methodLink RX6 19 yX6_empty ∈ WA := wa_of 234 (by decide +kernel) (by decide +kernel)
theorem lkX6_19 : LkV RX6 19 yX6_empty cX6_empty 1 none 0 := ⟨⟨wm31, wm237, by decide +kernel, by decide +kernel, by decide +kernel⟩, wm234, wm235, wm236⟩
theorem wm238 : Cond.methodLink RX6 22 yX6_size ∈ WA := wa_of 238 (by decide +kernel) (by decide +kernel)
theorem lkX6_22 : LkV RX6 22 yX6_size cX6_size 1 (some .int) 0 := ⟨⟨wm31, wm241, by decide +kernel, by decide +kernel, by decide +kernel⟩, wm238, wm239, wm240⟩
theorem wm242 : Cond.methodLink RX6 25 yX6_at ∈ WA := wa_of 242 (by decide +kernel) (by decide +kernel)
theorem lkX6_25 : LkV RX6 25 yX6_at cX6_at 2 (some .int) 1 := ⟨⟨wm31, wm245, by decide +kernel, by decide +kernel, by decide +kernel⟩, wm242, wm243, wm244⟩
theorem wm246 : Cond.methodLink RX6 29 yX6_putIn ∈ WA := wa_of 246 (by decide +kernel) (by decide +kernel)
theorem lkX6_29 : LkV RX6 29 yX6_putIn cX6_putIn 4 none 2 := ⟨⟨wm31, wm249, by decide +kernel, by decide +kernel, by decide +kernel⟩, wm246, wm247, wm248⟩
theorem wm35 : Cond.initialized RX7 ∈ WA := wa_of 35 (by decide +kernel) (by decide +kernel)
theorem wm459 : Cond.code yX7_at cX7_at 2 (some .int) ∈ WA := wa_of 459 (by decide +kernel) (by decide +kernel)
theorem wm726 : Cond.methodLink RX7 19 yX7_at ∈ WA := wa_of 726 (by decide +kernel) (by decide +kernel)
theorem wm457 : Cond.instanceMethod yX7_at ∈ WA := wa_of 457 (by decide +kernel) (by decide +kernel)
theorem wm458 : Cond.selects RX7 yX7_at yX7_at ∈ WA := wa_of 458 (by decide +kernel) (by decide +kernel)
theorem lkX7_19 : LkV RX7 19 yX7_at cX7_at 2 (some .int) 1 := ⟨⟨wm35, wm459, by decide +kernel, by decide +kernel, by decide +kernel⟩, wm726, wm457, wm458⟩
theorem wm307 : Cond.methodLink RX7 23 yX6_size ∈ WA := wa_of 307 (by decide +kernel) (by decide +kernel)
theorem lkX7_23 : LkV RX7 23 yX6_size cX6_size 1 (some .int) 0 := ⟨⟨wm31, wm241, by decide +kernel, by decide +kernel, by decide +kernel⟩, wm307, wm239, wm240⟩
theorem wm308 : Cond.methodLink RX7 28 yX6_at ∈ WA := wa_of 308 (by decide +kernel) (by decide +kernel)
theorem lkX7_28 : LkV RX7 28 yX6_at cX6_at 2 (some .int) 1 := ⟨⟨wm31, wm245, by decide +kernel, by decide +kernel, by decide +kernel⟩, wm308, wm243, wm244⟩
theorem wn309 : Cond.methodLinkNest RX7 29 yX8_replaceCost RX8 ∈ WN := List.mem_filter.mpr ⟨List.mem_of_getElem? (i := 309) (by decide +kernel), by decide +kernel⟩
theorem lkX7_29 : LkSN RX7 29 yX8_replaceCost RX8 cX8_replaceCost 2 (some .int) 2 := ⟨⟨wm29, wm283, by decide +kernel, by decide +kernel, by decide +kernel⟩, wn309, wm282⟩
theorem wm312 : Cond.code yX7_lastStep cX7_lastStep 5 (some .int) ∈ WA := wa_of 312 (by decide +kernel) (by decide +kernel)
theorem wm311 : Cond.static yX7_lastStep ∈ WA := wa_of 311 (by decide +kernel) (by decide +kernel)
theorem wm310 : Cond.methodLink RX7 33 yX7_lastStep ∈ WA := wa_of 310 (by decide +kernel) (by decide +kernel)
theorem lkX7_33 : LkS RX7 33 yX7_lastStep cX7_lastStep 5 (some .int) 4 := ⟨⟨wm35, wm312, by decide +kernel, by decide +kernel, by decide +kernel⟩, wm310, wm311⟩
theorem wm313 : Cond.methodLink RX7 37 yX1_at ∈ WA := wa_of 313 (by decide +kernel) (by decide +kernel)
theorem lkX7_37 : LkV RX7 37 yX1_at cX1_at 3 (some .int) 2 := ⟨⟨wm34, wm287, by decide +kernel, by decide +kernel, by decide +kernel⟩, wm313, wm285, wm286⟩
theorem wn57 : Cond.methodLinkNest RX8 9 yX5_init RX8 ∈ WN := List.mem_filter.mpr ⟨List.mem_of_getElem? (i := 57) (by decide +kernel), by decide +kernel⟩
theorem lkX8_9 : LkIN RX8 9 yX5_init RX8 cX5_init 1 0 := ⟨⟨wm30, wm59, by decide +kernel, by decide +kernel, by decide +kernel⟩, wn57, wm58, rfl⟩
theorem wm32 : Cond.initialized RX4 ∈ WA := wa_of 32 (by decide +kernel) (by decide +kernel)
theorem wm89 : Cond.code yX4_init cX4_init 1 none ∈ WA := wa_of 89 (by decide +kernel) (by decide +kernel)
theorem wm88 : Cond.instanceMethod yX4_init ∈ WA := wa_of 88 (by decide +kernel) (by decide +kernel)
theorem wn87 : Cond.methodLinkNest RX8 18 yX4_init RX8 ∈ WN := List.mem_filter.mpr ⟨List.mem_of_getElem? (i := 87) (by decide +kernel), by decide +kernel⟩
theorem lkX8_18 : LkIN RX8 18 yX4_init RX8 cX4_init 1 0 := ⟨⟨wm32, wm89, by decide +kernel, by decide +kernel, by decide +kernel⟩, wn87, wm88, rfl⟩
theorem wm107 : Cond.code yX2_init cX2_init 1 none ∈ WA := wa_of 107 (by decide +kernel) (by decide +kernel)
theorem wm106 : Cond.instanceMethod yX2_init ∈ WA := wa_of 106 (by decide +kernel) (by decide +kernel)
theorem wn105 : Cond.methodLinkNest RX8 25 yX2_init RX8 ∈ WN := List.mem_filter.mpr ⟨List.mem_of_getElem? (i := 105) (by decide +kernel), by decide +kernel⟩
theorem lkX8_25 : LkIN RX8 25 yX2_init RX8 cX2_init 1 0 := ⟨⟨wm33, wm107, by decide +kernel, by decide +kernel, by decide +kernel⟩, wn105, wm106, rfl⟩
theorem wn118 : Cond.methodLinkNest RX8 32 yX1_init RX8 ∈ WN := List.mem_filter.mpr ⟨List.mem_of_getElem? (i := 118) (by decide +kernel), by decide +kernel⟩
theorem lkX8_32 : LkIN RX8 32 yX1_init RX8 cX1_init 1 0 := ⟨⟨wm34, wm120, by decide +kernel, by decide +kernel, by decide +kernel⟩, wn118, wm119, rfl⟩
theorem wm130 : Cond.code yX7_init cX7_init 1 none ∈ WA := wa_of 130 (by decide +kernel) (by decide +kernel)
theorem wm129 : Cond.instanceMethod yX7_init ∈ WA := wa_of 129 (by decide +kernel) (by decide +kernel)
theorem wn128 : Cond.methodLinkNest RX8 42 yX7_init RX8 ∈ WN := List.mem_filter.mpr ⟨List.mem_of_getElem? (i := 128) (by decide +kernel), by decide +kernel⟩
theorem lkX8_42 : LkIN RX8 42 yX7_init RX8 cX7_init 1 0 := ⟨⟨wm35, wm130, by decide +kernel, by decide +kernel, by decide +kernel⟩, wn128, wm129, rfl⟩
theorem wm143 : Cond.code yX0_init cX0_init 1 none ∈ WA := wa_of 143 (by decide +kernel) (by decide +kernel)
theorem wm142 : Cond.instanceMethod yX0_init ∈ WA := wa_of 142 (by decide +kernel) (by decide +kernel)
theorem wn141 : Cond.methodLinkNest RX8 49 yX0_init RX8 ∈ WN := List.mem_filter.mpr ⟨List.mem_of_getElem? (i := 141) (by decide +kernel), by decide +kernel⟩
theorem lkX8_49 : LkIN RX8 49 yX0_init RX8 cX0_init 1 0 := ⟨⟨wm36, wm143, by decide +kernel, by decide +kernel, by decide +kernel⟩, wn141, wm142, rfl⟩
theorem wm37 : Cond.initialized RX3 ∈ WA := wa_of 37 (by decide +kernel) (by decide +kernel)
theorem wm166 : Cond.code yX3_init cX3_init 1 none ∈ WA := wa_of 166 (by decide +kernel) (by decide +kernel)
theorem wm165 : Cond.instanceMethod yX3_init ∈ WA := wa_of 165 (by decide +kernel) (by decide +kernel)
theorem wn164 : Cond.methodLinkNest RX8 59 yX3_init RX8 ∈ WN := List.mem_filter.mpr ⟨List.mem_of_getElem? (i := 164) (by decide +kernel), by decide +kernel⟩
theorem lkX8_59 : LkIN RX8 59 yX3_init RX8 cX3_init 1 0 := ⟨⟨wm37, wm166, by decide +kernel, by decide +kernel, by decide +kernel⟩, wn164, wm165, rfl⟩
theorem wm571 : Cond.code yX2_isComplete cX2_isComplete 1 (some .boolean) ∈ WA := wa_of 571 (by decide +kernel) (by decide +kernel)
theorem wm568 : Cond.methodLink RX8 64 yX2_isComplete ∈ WA := wa_of 568 (by decide +kernel) (by decide +kernel)
theorem wm569 : Cond.instanceMethod yX2_isComplete ∈ WA := wa_of 569 (by decide +kernel) (by decide +kernel)
theorem wm570 : Cond.selects RX2 yX2_isComplete yX2_isComplete ∈ WA := wa_of 570 (by decide +kernel) (by decide +kernel)
theorem lkX8_64 : LkV RX8 64 yX2_isComplete cX2_isComplete 1 (some .boolean) 0 := ⟨⟨wm33, wm571, by decide +kernel, by decide +kernel, by decide +kernel⟩, wm568, wm569, wm570⟩
theorem wm438 : Cond.methodLink RX8 68 yX5_alphabet ∈ WA := wa_of 438 (by decide +kernel) (by decide +kernel)
theorem lkX8_68 : LkV RX8 68 yX5_alphabet cX5_alphabet 1 (some .int) 0 := ⟨⟨wm30, wm253, by decide +kernel, by decide +kernel, by decide +kernel⟩, wm438, wm251, wm252⟩
theorem wm580 : Cond.code yX2_keepsTo cX2_keepsTo 3 (some .boolean) ∈ WA := wa_of 580 (by decide +kernel) (by decide +kernel)
theorem wm577 : Cond.methodLink RX8 72 yX2_keepsTo ∈ WA := wa_of 577 (by decide +kernel) (by decide +kernel)
theorem wm578 : Cond.instanceMethod yX2_keepsTo ∈ WA := wa_of 578 (by decide +kernel) (by decide +kernel)
theorem wm579 : Cond.selects RX2 yX2_keepsTo yX2_keepsTo ∈ WA := wa_of 579 (by decide +kernel) (by decide +kernel)
theorem lkX8_72 : LkV RX8 72 yX2_keepsTo cX2_keepsTo 3 (some .boolean) 1 := ⟨⟨wm33, wm580, by decide +kernel, by decide +kernel, by decide +kernel⟩, wm577, wm578, wm579⟩
theorem wm220 : Cond.code yX4_save cX4_save 3 none ∈ WA := wa_of 220 (by decide +kernel) (by decide +kernel)
theorem wm217 : Cond.methodLink RX8 83 yX4_save ∈ WA := wa_of 217 (by decide +kernel) (by decide +kernel)
theorem wm218 : Cond.instanceMethod yX4_save ∈ WA := wa_of 218 (by decide +kernel) (by decide +kernel)
theorem wm219 : Cond.selects RX4 yX4_save yX4_save ∈ WA := wa_of 219 (by decide +kernel) (by decide +kernel)
theorem lkX8_83 : LkV RX8 83 yX4_save cX4_save 3 none 1 := ⟨⟨wm32, wm220, by decide +kernel, by decide +kernel, by decide +kernel⟩, wm217, wm218, wm219⟩
theorem wm258 : Cond.methodLink RX8 87 yX5_text ∈ WA := wa_of 258 (by decide +kernel) (by decide +kernel)
theorem lkX8_87 : LkV RX8 87 yX5_text cX5_text 2 (some (.object "BlockDistance$Text")) 1 := ⟨⟨wm30, wm229, by decide +kernel, by decide +kernel, by decide +kernel⟩, wm258, wm227, wm228⟩
theorem wm600 : Cond.code yX2_moveTo cX2_moveTo 5 none ∈ WA := wa_of 600 (by decide +kernel) (by decide +kernel)
theorem wm597 : Cond.methodLink RX8 91 yX2_moveTo ∈ WA := wa_of 597 (by decide +kernel) (by decide +kernel)
theorem wm598 : Cond.instanceMethod yX2_moveTo ∈ WA := wa_of 598 (by decide +kernel) (by decide +kernel)
theorem wm599 : Cond.selects RX2 yX2_moveTo yX2_moveTo ∈ WA := wa_of 599 (by decide +kernel) (by decide +kernel)
theorem lkX8_91 : LkV RX8 91 yX2_moveTo cX2_moveTo 5 none 2 := ⟨⟨wm33, wm600, by decide +kernel, by decide +kernel, by decide +kernel⟩, wm597, wm598, wm599⟩
theorem wm259 : Cond.methodLink RX8 95 yX6_size ∈ WA := wa_of 259 (by decide +kernel) (by decide +kernel)
theorem lkX8_95 : LkV RX8 95 yX6_size cX6_size 1 (some .int) 0 := ⟨⟨wm31, wm241, by decide +kernel, by decide +kernel, by decide +kernel⟩, wm259, wm239, wm240⟩
theorem wm467 : Cond.code yX8_textOf cX8_textOf 2 (some (.object "BlockDistance$Text")) ∈ WA := wa_of 467 (by decide +kernel) (by decide +kernel)
theorem wm464 : Cond.methodLink RX8 100 yX8_textOf ∈ WA := wa_of 464 (by decide +kernel) (by decide +kernel)
theorem wm466 : Cond.instanceMethod yX8_textOf ∈ WA := wa_of 466 (by decide +kernel) (by decide +kernel)
theorem wm6 : Cond.selects RX8 yX8_textOf yX8_textOf ∈ WA := wa_of 6 (by decide +kernel) (by decide +kernel)
theorem lkX8_100 : LkV RX8 100 yX8_textOf cX8_textOf 2 (some (.object "BlockDistance$Text")) 1 := ⟨⟨wm29, wm467, by decide +kernel, by decide +kernel, by decide +kernel⟩, wm464, wm466, wm6⟩
theorem wm618 : Cond.code yX8_checkLetter cX8_checkLetter 2 none ∈ WA := wa_of 618 (by decide +kernel) (by decide +kernel)
theorem wm615 : Cond.methodLink RX8 108 yX8_checkLetter ∈ WA := wa_of 615 (by decide +kernel) (by decide +kernel)
theorem wm617 : Cond.instanceMethod yX8_checkLetter ∈ WA := wa_of 617 (by decide +kernel) (by decide +kernel)
theorem wm10 : Cond.selects RX8 yX8_checkLetter yX8_checkLetter ∈ WA := wa_of 10 (by decide +kernel) (by decide +kernel)
theorem lkX8_108 : LkV RX8 108 yX8_checkLetter cX8_checkLetter 2 none 1 := ⟨⟨wm29, wm618, by decide +kernel, by decide +kernel, by decide +kernel⟩, wm615, wm617, wm10⟩
theorem wm636 : Cond.methodLink RX8 117 yX6_putIn ∈ WA := wa_of 636 (by decide +kernel) (by decide +kernel)
theorem lkX8_117 : LkV RX8 117 yX6_putIn cX6_putIn 4 none 2 := ⟨⟨wm31, wm249, by decide +kernel, by decide +kernel, by decide +kernel⟩, wm636, wm247, wm248⟩
theorem wm646 : Cond.code yX8_checkPlace cX8_checkPlace 2 none ∈ WA := wa_of 646 (by decide +kernel) (by decide +kernel)
theorem wm645 : Cond.static yX8_checkPlace ∈ WA := wa_of 645 (by decide +kernel) (by decide +kernel)
theorem wm644 : Cond.methodLink RX8 121 yX8_checkPlace ∈ WA := wa_of 644 (by decide +kernel) (by decide +kernel)
theorem lkX8_121 : LkS RX8 121 yX8_checkPlace cX8_checkPlace 2 none 2 := ⟨⟨wm29, wm646, by decide +kernel, by decide +kernel, by decide +kernel⟩, wm644, wm645⟩
theorem wm446 : Cond.methodLink RX8 125 yX6_at ∈ WA := wa_of 446 (by decide +kernel) (by decide +kernel)
theorem lkX8_125 : LkV RX8 125 yX6_at cX6_at 2 (some .int) 1 := ⟨⟨wm31, wm245, by decide +kernel, by decide +kernel, by decide +kernel⟩, wm446, wm243, wm244⟩
theorem wm651 : Cond.code yX6_takeOut cX6_takeOut 3 none ∈ WA := wa_of 651 (by decide +kernel) (by decide +kernel)
theorem wm648 : Cond.methodLink RX8 129 yX6_takeOut ∈ WA := wa_of 648 (by decide +kernel) (by decide +kernel)
theorem wm649 : Cond.instanceMethod yX6_takeOut ∈ WA := wa_of 649 (by decide +kernel) (by decide +kernel)
theorem wm650 : Cond.selects RX6 yX6_takeOut yX6_takeOut ∈ WA := wa_of 650 (by decide +kernel) (by decide +kernel)
theorem lkX8_129 : LkV RX8 129 yX6_takeOut cX6_takeOut 3 none 1 := ⟨⟨wm31, wm651, by decide +kernel, by decide +kernel, by decide +kernel⟩, wm648, wm649, wm650⟩
theorem wm662 : Cond.code yX6_set cX6_set 3 none ∈ WA := wa_of 662 (by decide +kernel) (by decide +kernel)
theorem wm659 : Cond.methodLink RX8 132 yX6_set ∈ WA := wa_of 659 (by decide +kernel) (by decide +kernel)
theorem wm660 : Cond.instanceMethod yX6_set ∈ WA := wa_of 660 (by decide +kernel) (by decide +kernel)
theorem wm661 : Cond.selects RX6 yX6_set yX6_set ∈ WA := wa_of 661 (by decide +kernel) (by decide +kernel)
theorem lkX8_132 : LkV RX8 132 yX6_set cX6_set 3 none 2 := ⟨⟨wm31, wm662, by decide +kernel, by decide +kernel, by decide +kernel⟩, wm659, wm660, wm661⟩
theorem wm257 : Cond.code yX5_swapTexts cX5_swapTexts 2 none ∈ WA := wa_of 257 (by decide +kernel) (by decide +kernel)
theorem wm254 : Cond.methodLink RX8 135 yX5_swapTexts ∈ WA := wa_of 254 (by decide +kernel) (by decide +kernel)
theorem wm255 : Cond.instanceMethod yX5_swapTexts ∈ WA := wa_of 255 (by decide +kernel) (by decide +kernel)
theorem wm256 : Cond.selects RX5 yX5_swapTexts yX5_swapTexts ∈ WA := wa_of 256 (by decide +kernel) (by decide +kernel)
theorem lkX8_135 : LkV RX8 135 yX5_swapTexts cX5_swapTexts 2 none 0 := ⟨⟨wm30, wm257, by decide +kernel, by decide +kernel, by decide +kernel⟩, wm254, wm255, wm256⟩
theorem wm674 : Cond.code yX6_keepsTo cX6_keepsTo 3 (some .boolean) ∈ WA := wa_of 674 (by decide +kernel) (by decide +kernel)
theorem wm671 : Cond.methodLink RX8 140 yX6_keepsTo ∈ WA := wa_of 671 (by decide +kernel) (by decide +kernel)
theorem wm672 : Cond.instanceMethod yX6_keepsTo ∈ WA := wa_of 672 (by decide +kernel) (by decide +kernel)
theorem wm673 : Cond.selects RX6 yX6_keepsTo yX6_keepsTo ∈ WA := wa_of 673 (by decide +kernel) (by decide +kernel)
theorem lkX8_140 : LkV RX8 140 yX6_keepsTo cX6_keepsTo 3 (some .boolean) 1 := ⟨⟨wm31, wm674, by decide +kernel, by decide +kernel, by decide +kernel⟩, wm671, wm672, wm673⟩
theorem wm679 : Cond.code yX5_setLetters cX5_setLetters 2 none ∈ WA := wa_of 679 (by decide +kernel) (by decide +kernel)
theorem wm676 : Cond.methodLink RX8 143 yX5_setLetters ∈ WA := wa_of 676 (by decide +kernel) (by decide +kernel)
theorem wm677 : Cond.instanceMethod yX5_setLetters ∈ WA := wa_of 677 (by decide +kernel) (by decide +kernel)
theorem wm678 : Cond.selects RX5 yX5_setLetters yX5_setLetters ∈ WA := wa_of 678 (by decide +kernel) (by decide +kernel)
theorem lkX8_143 : LkV RX8 143 yX5_setLetters cX5_setLetters 2 none 1 := ⟨⟨wm30, wm679, by decide +kernel, by decide +kernel, by decide +kernel⟩, wm676, wm677, wm678⟩
theorem wm267 : Cond.code yX8_currentDistances cX8_currentDistances 1 (some (.object "BlockDistance$Grid")) ∈ WA := wa_of 267 (by decide +kernel) (by decide +kernel)
theorem wm264 : Cond.methodLink RX8 146 yX8_currentDistances ∈ WA := wa_of 264 (by decide +kernel) (by decide +kernel)
theorem wm266 : Cond.instanceMethod yX8_currentDistances ∈ WA := wa_of 266 (by decide +kernel) (by decide +kernel)
theorem wm0 : Cond.selects RX8 yX8_currentDistances yX8_currentDistances ∈ WA := wa_of 0 (by decide +kernel) (by decide +kernel)
theorem lkX8_146 : LkV RX8 146 yX8_currentDistances cX8_currentDistances 1 (some (.object "BlockDistance$Grid")) 0 := ⟨⟨wm29, wm267, by decide +kernel, by decide +kernel, by decide +kernel⟩, wm264, wm266, wm0⟩
theorem wm294 : Cond.methodLink RX8 150 yX1_at ∈ WA := wa_of 294 (by decide +kernel) (by decide +kernel)
theorem lkX8_150 : LkV RX8 150 yX1_at cX1_at 3 (some .int) 2 := ⟨⟨wm34, wm287, by decide +kernel, by decide +kernel, by decide +kernel⟩, wm294, wm285, wm286⟩
theorem wm704 : Cond.code yX8_checkPrefixes cX8_checkPrefixes 4 none ∈ WA := wa_of 704 (by decide +kernel) (by decide +kernel)
theorem wm701 : Cond.methodLink RX8 153 yX8_checkPrefixes ∈ WA := wa_of 701 (by decide +kernel) (by decide +kernel)
theorem wm703 : Cond.instanceMethod yX8_checkPrefixes ∈ WA := wa_of 703 (by decide +kernel) (by decide +kernel)
theorem wm11 : Cond.selects RX8 yX8_checkPrefixes yX8_checkPrefixes ∈ WA := wa_of 11 (by decide +kernel) (by decide +kernel)
theorem lkX8_153 : LkV RX8 153 yX8_checkPrefixes cX8_checkPrefixes 4 none 3 := ⟨⟨wm29, wm704, by decide +kernel, by decide +kernel, by decide +kernel⟩, wm701, wm703, wm11⟩
theorem wm302 : Cond.code yX8_currentWay cX8_currentWay 1 (some (.object "BlockDistance$Way")) ∈ WA := wa_of 302 (by decide +kernel) (by decide +kernel)
theorem wm299 : Cond.methodLink RX8 157 yX8_currentWay ∈ WA := wa_of 299 (by decide +kernel) (by decide +kernel)
theorem wm301 : Cond.instanceMethod yX8_currentWay ∈ WA := wa_of 301 (by decide +kernel) (by decide +kernel)
theorem wm2 : Cond.selects RX8 yX8_currentWay yX8_currentWay ∈ WA := wa_of 2 (by decide +kernel) (by decide +kernel)
theorem lkX8_157 : LkV RX8 157 yX8_currentWay cX8_currentWay 1 (some (.object "BlockDistance$Way")) 0 := ⟨⟨wm29, wm302, by decide +kernel, by decide +kernel, by decide +kernel⟩, wm299, wm301, wm2⟩
theorem wm317 : Cond.code yX7_size cX7_size 1 (some .int) ∈ WA := wa_of 317 (by decide +kernel) (by decide +kernel)
theorem wm314 : Cond.methodLink RX8 161 yX7_size ∈ WA := wa_of 314 (by decide +kernel) (by decide +kernel)
theorem wm315 : Cond.instanceMethod yX7_size ∈ WA := wa_of 315 (by decide +kernel) (by decide +kernel)
theorem wm316 : Cond.selects RX7 yX7_size yX7_size ∈ WA := wa_of 316 (by decide +kernel) (by decide +kernel)
theorem lkX8_161 : LkV RX8 161 yX7_size cX7_size 1 (some .int) 0 := ⟨⟨wm35, wm317, by decide +kernel, by decide +kernel, by decide +kernel⟩, wm314, wm315, wm316⟩
theorem wm456 : Cond.methodLink RX8 164 yX7_at ∈ WA := wa_of 456 (by decide +kernel) (by decide +kernel)
theorem lkX8_164 : LkV RX8 164 yX7_at cX7_at 2 (some .int) 1 := ⟨⟨wm35, wm459, by decide +kernel, by decide +kernel, by decide +kernel⟩, wm456, wm457, wm458⟩
theorem wm725 : Cond.code yX7_stepsOf cX7_stepsOf 4 (some .int) ∈ WA := wa_of 725 (by decide +kernel) (by decide +kernel)
theorem wm722 : Cond.methodLink RX8 167 yX7_stepsOf ∈ WA := wa_of 722 (by decide +kernel) (by decide +kernel)
theorem wm723 : Cond.instanceMethod yX7_stepsOf ∈ WA := wa_of 723 (by decide +kernel) (by decide +kernel)
theorem wm724 : Cond.selects RX7 yX7_stepsOf yX7_stepsOf ∈ WA := wa_of 724 (by decide +kernel) (by decide +kernel)
theorem lkX8_167 : LkV RX8 167 yX7_stepsOf cX7_stepsOf 4 (some .int) 1 := ⟨⟨wm35, wm725, by decide +kernel, by decide +kernel, by decide +kernel⟩, wm722, wm723, wm724⟩
theorem wm736 : Cond.code yX8_checkBound cX8_checkBound 1 none ∈ WA := wa_of 736 (by decide +kernel) (by decide +kernel)
theorem wm735 : Cond.static yX8_checkBound ∈ WA := wa_of 735 (by decide +kernel) (by decide +kernel)
theorem wm734 : Cond.methodLink RX8 170 yX8_checkBound ∈ WA := wa_of 734 (by decide +kernel) (by decide +kernel)
theorem lkX8_170 : LkS RX8 170 yX8_checkBound cX8_checkBound 1 none 1 := ⟨⟨wm29, wm736, by decide +kernel, by decide +kernel, by decide +kernel⟩, wm734, wm735⟩
theorem wm263 : Cond.code yX8_distance cX8_distance 1 (some .int) ∈ WA := wa_of 263 (by decide +kernel) (by decide +kernel)
theorem wm325 : Cond.methodLink RX8 173 yX8_distance ∈ WA := wa_of 325 (by decide +kernel) (by decide +kernel)
theorem wm261 : Cond.instanceMethod yX8_distance ∈ WA := wa_of 261 (by decide +kernel) (by decide +kernel)
theorem wm262 : Cond.selects RX8 yX8_distance yX8_distance ∈ WA := wa_of 262 (by decide +kernel) (by decide +kernel)
theorem lkX8_173 : LkV RX8 173 yX8_distance cX8_distance 1 (some .int) 0 := ⟨⟨wm29, wm263, by decide +kernel, by decide +kernel, by decide +kernel⟩, wm325, wm261, wm262⟩
theorem wm756 : Cond.code yX0_blockSize cX0_blockSize 1 (some .int) ∈ WA := wa_of 756 (by decide +kernel) (by decide +kernel)
theorem wm753 : Cond.methodLink RX8 186 yX0_blockSize ∈ WA := wa_of 753 (by decide +kernel) (by decide +kernel)
theorem wm754 : Cond.instanceMethod yX0_blockSize ∈ WA := wa_of 754 (by decide +kernel) (by decide +kernel)
theorem wm755 : Cond.selects RX0 yX0_blockSize yX0_blockSize ∈ WA := wa_of 755 (by decide +kernel) (by decide +kernel)
theorem lkX8_186 : LkV RX8 186 yX0_blockSize cX0_blockSize 1 (some .int) 0 := ⟨⟨wm36, wm756, by decide +kernel, by decide +kernel, by decide +kernel⟩, wm753, wm754, wm755⟩
theorem wm760 : Cond.code yX0_startAnew cX0_startAnew 3 none ∈ WA := wa_of 760 (by decide +kernel) (by decide +kernel)
theorem wm757 : Cond.methodLink RX8 189 yX0_startAnew ∈ WA := wa_of 757 (by decide +kernel) (by decide +kernel)
theorem wm758 : Cond.instanceMethod yX0_startAnew ∈ WA := wa_of 758 (by decide +kernel) (by decide +kernel)
theorem wm759 : Cond.selects RX0 yX0_startAnew yX0_startAnew ∈ WA := wa_of 759 (by decide +kernel) (by decide +kernel)
theorem lkX8_189 : LkV RX8 189 yX0_startAnew cX0_startAnew 3 none 1 := ⟨⟨wm36, wm760, by decide +kernel, by decide +kernel, by decide +kernel⟩, wm757, wm758, wm759⟩
theorem wm333 : Cond.code yX0_meetBlocks cX0_meetBlocks 9 none ∈ WA := wa_of 333 (by decide +kernel) (by decide +kernel)
theorem wm330 : Cond.methodLink RX8 192 yX0_meetBlocks ∈ WA := wa_of 330 (by decide +kernel) (by decide +kernel)
theorem wm331 : Cond.instanceMethod yX0_meetBlocks ∈ WA := wa_of 331 (by decide +kernel) (by decide +kernel)
theorem wm332 : Cond.selects RX0 yX0_meetBlocks yX0_meetBlocks ∈ WA := wa_of 332 (by decide +kernel) (by decide +kernel)
theorem lkX8_192 : LkV RX8 192 yX0_meetBlocks cX0_meetBlocks 9 none 3 := ⟨⟨wm36, wm333, by decide +kernel, by decide +kernel, by decide +kernel⟩, wm330, wm331, wm332⟩
theorem wm361 : Cond.code yX0_hitCount cX0_hitCount 1 (some .int) ∈ WA := wa_of 361 (by decide +kernel) (by decide +kernel)
theorem wm358 : Cond.methodLink RX8 196 yX0_hitCount ∈ WA := wa_of 358 (by decide +kernel) (by decide +kernel)
theorem wm359 : Cond.instanceMethod yX0_hitCount ∈ WA := wa_of 359 (by decide +kernel) (by decide +kernel)
theorem wm360 : Cond.selects RX0 yX0_hitCount yX0_hitCount ∈ WA := wa_of 360 (by decide +kernel) (by decide +kernel)
theorem lkX8_196 : LkV RX8 196 yX0_hitCount cX0_hitCount 1 (some .int) 0 := ⟨⟨wm36, wm361, by decide +kernel, by decide +kernel, by decide +kernel⟩, wm358, wm359, wm360⟩
theorem wm369 : Cond.code yX0_missCount cX0_missCount 1 (some .int) ∈ WA := wa_of 369 (by decide +kernel) (by decide +kernel)
theorem wm366 : Cond.methodLink RX8 199 yX0_missCount ∈ WA := wa_of 366 (by decide +kernel) (by decide +kernel)
theorem wm367 : Cond.instanceMethod yX0_missCount ∈ WA := wa_of 367 (by decide +kernel) (by decide +kernel)
theorem wm368 : Cond.selects RX0 yX0_missCount yX0_missCount ∈ WA := wa_of 368 (by decide +kernel) (by decide +kernel)
theorem lkX8_199 : LkV RX8 199 yX0_missCount cX0_missCount 1 (some .int) 0 := ⟨⟨wm36, wm369, by decide +kernel, by decide +kernel, by decide +kernel⟩, wm366, wm367, wm368⟩
theorem wm377 : Cond.code yX0_singleCount cX0_singleCount 1 (some .int) ∈ WA := wa_of 377 (by decide +kernel) (by decide +kernel)
theorem wm374 : Cond.methodLink RX8 202 yX0_singleCount ∈ WA := wa_of 374 (by decide +kernel) (by decide +kernel)
theorem wm375 : Cond.instanceMethod yX0_singleCount ∈ WA := wa_of 375 (by decide +kernel) (by decide +kernel)
theorem wm376 : Cond.selects RX0 yX0_singleCount yX0_singleCount ∈ WA := wa_of 376 (by decide +kernel) (by decide +kernel)
theorem lkX8_202 : LkV RX8 202 yX0_singleCount cX0_singleCount 1 (some .int) 0 := ⟨⟨wm36, wm377, by decide +kernel, by decide +kernel, by decide +kernel⟩, wm374, wm375, wm376⟩
theorem wm768 : Cond.methodLink RX8 205 yX1_stepAcross ∈ WA := wa_of 768 (by decide +kernel) (by decide +kernel)
theorem lkX8_205 : LkV RX8 205 yX1_stepAcross cX1_stepAcross 3 (some .int) 2 := ⟨⟨wm34, wm345, by decide +kernel, by decide +kernel, by decide +kernel⟩, wm768, wm343, wm344⟩
theorem wm385 : Cond.code yX8_foundEnd cX8_foundEnd 6 (some .int) ∈ WA := wa_of 385 (by decide +kernel) (by decide +kernel)
theorem wm382 : Cond.methodLink RX8 208 yX8_foundEnd ∈ WA := wa_of 382 (by decide +kernel) (by decide +kernel)
theorem wm383 : Cond.instanceMethod yX8_foundEnd ∈ WA := wa_of 383 (by decide +kernel) (by decide +kernel)
theorem wm384 : Cond.selects RX8 yX8_foundEnd yX8_foundEnd ∈ WA := wa_of 384 (by decide +kernel) (by decide +kernel)
theorem lkX8_208 : LkV RX8 208 yX8_foundEnd cX8_foundEnd 6 (some .int) 0 := ⟨⟨wm29, wm385, by decide +kernel, by decide +kernel, by decide +kernel⟩, wm382, wm383, wm384⟩
theorem wm389 : Cond.code yX8_currentSearch cX8_currentSearch 1 (some (.object "BlockDistance$Grid")) ∈ WA := wa_of 389 (by decide +kernel) (by decide +kernel)
theorem wm386 : Cond.methodLink RX8 211 yX8_currentSearch ∈ WA := wa_of 386 (by decide +kernel) (by decide +kernel)
theorem wm388 : Cond.instanceMethod yX8_currentSearch ∈ WA := wa_of 388 (by decide +kernel) (by decide +kernel)
theorem wm5 : Cond.selects RX8 yX8_currentSearch yX8_currentSearch ∈ WA := wa_of 5 (by decide +kernel) (by decide +kernel)
theorem lkX8_211 : LkV RX8 211 yX8_currentSearch cX8_currentSearch 1 (some (.object "BlockDistance$Grid")) 0 := ⟨⟨wm29, wm389, by decide +kernel, by decide +kernel, by decide +kernel⟩, wm386, wm388, wm5⟩
theorem wm539 : Cond.code yX3_prepare cX3_prepare 3 none ∈ WA := wa_of 539 (by decide +kernel) (by decide +kernel)
theorem wm536 : Cond.methodLink RX8 214 yX3_prepare ∈ WA := wa_of 536 (by decide +kernel) (by decide +kernel)
theorem wm537 : Cond.instanceMethod yX3_prepare ∈ WA := wa_of 537 (by decide +kernel) (by decide +kernel)
theorem wm538 : Cond.selects RX3 yX3_prepare yX3_prepare ∈ WA := wa_of 538 (by decide +kernel) (by decide +kernel)
theorem lkX8_214 : LkV RX8 214 yX3_prepare cX3_prepare 3 none 2 := ⟨⟨wm37, wm539, by decide +kernel, by decide +kernel, by decide +kernel⟩, wm536, wm537, wm538⟩
theorem wm549 : Cond.code yX3_distanceWith cX3_distanceWith 11 (some .int) ∈ WA := wa_of 549 (by decide +kernel) (by decide +kernel)
theorem wm546 : Cond.methodLink RX8 217 yX3_distanceWith ∈ WA := wa_of 546 (by decide +kernel) (by decide +kernel)
theorem wm547 : Cond.instanceMethod yX3_distanceWith ∈ WA := wa_of 547 (by decide +kernel) (by decide +kernel)
theorem wm548 : Cond.selects RX3 yX3_distanceWith yX3_distanceWith ∈ WA := wa_of 548 (by decide +kernel) (by decide +kernel)
theorem lkX8_217 : LkV RX8 217 yX3_distanceWith cX3_distanceWith 11 (some .int) 4 := ⟨⟨wm37, wm549, by decide +kernel, by decide +kernel, by decide +kernel⟩, wm546, wm547, wm548⟩
theorem wm398 : Cond.code yX0_copyFrom cX0_copyFrom 2 none ∈ WA := wa_of 398 (by decide +kernel) (by decide +kernel)
theorem wm395 : Cond.methodLink RX8 224 yX0_copyFrom ∈ WA := wa_of 395 (by decide +kernel) (by decide +kernel)
theorem wm396 : Cond.instanceMethod yX0_copyFrom ∈ WA := wa_of 396 (by decide +kernel) (by decide +kernel)
theorem wm397 : Cond.selects RX0 yX0_copyFrom yX0_copyFrom ∈ WA := wa_of 397 (by decide +kernel) (by decide +kernel)
theorem lkX8_224 : LkV RX8 224 yX0_copyFrom cX0_copyFrom 2 none 1 := ⟨⟨wm36, wm398, by decide +kernel, by decide +kernel, by decide +kernel⟩, wm395, wm396, wm397⟩
theorem wm409 : Cond.code yX2_size cX2_size 1 (some .int) ∈ WA := wa_of 409 (by decide +kernel) (by decide +kernel)
theorem wm406 : Cond.methodLink RX8 230 yX2_size ∈ WA := wa_of 406 (by decide +kernel) (by decide +kernel)
theorem wm407 : Cond.instanceMethod yX2_size ∈ WA := wa_of 407 (by decide +kernel) (by decide +kernel)
theorem wm408 : Cond.selects RX2 yX2_size yX2_size ∈ WA := wa_of 408 (by decide +kernel) (by decide +kernel)
theorem lkX8_230 : LkV RX8 230 yX2_size cX2_size 1 (some .int) 0 := ⟨⟨wm33, wm409, by decide +kernel, by decide +kernel, by decide +kernel⟩, wm406, wm407, wm408⟩
theorem wm792 : Cond.code yX2_put cX2_put 2 none ∈ WA := wa_of 792 (by decide +kernel) (by decide +kernel)
theorem wm789 : Cond.methodLink RX8 233 yX2_put ∈ WA := wa_of 789 (by decide +kernel) (by decide +kernel)
theorem wm790 : Cond.instanceMethod yX2_put ∈ WA := wa_of 790 (by decide +kernel) (by decide +kernel)
theorem wm791 : Cond.selects RX2 yX2_put yX2_put ∈ WA := wa_of 791 (by decide +kernel) (by decide +kernel)
theorem lkX8_233 : LkV RX8 233 yX2_put cX2_put 2 none 1 := ⟨⟨wm33, wm792, by decide +kernel, by decide +kernel, by decide +kernel⟩, wm789, wm790, wm791⟩
theorem wm410 : Cond.methodLink RX8 236 yX2_empty ∈ WA := wa_of 410 (by decide +kernel) (by decide +kernel)
theorem lkX8_236 : LkV RX8 236 yX2_empty cX2_empty 1 none 0 := ⟨⟨wm33, wm413, by decide +kernel, by decide +kernel, by decide +kernel⟩, wm410, wm411, wm412⟩
theorem wm418 : Cond.methodLink RX8 239 yX2_errorPlace ∈ WA := wa_of 418 (by decide +kernel) (by decide +kernel)
theorem lkX8_239 : LkV RX8 239 yX2_errorPlace cX2_errorPlace 4 (some .int) 0 := ⟨⟨wm33, wm421, by decide +kernel, by decide +kernel, by decide +kernel⟩, wm418, wm419, wm420⟩
theorem wm432 : Cond.code yX4_size cX4_size 1 (some .int) ∈ WA := wa_of 432 (by decide +kernel) (by decide +kernel)
theorem wm429 : Cond.methodLink RX8 242 yX4_size ∈ WA := wa_of 429 (by decide +kernel) (by decide +kernel)
theorem wm430 : Cond.instanceMethod yX4_size ∈ WA := wa_of 430 (by decide +kernel) (by decide +kernel)
theorem wm431 : Cond.selects RX4 yX4_size yX4_size ∈ WA := wa_of 431 (by decide +kernel) (by decide +kernel)
theorem lkX8_242 : LkV RX8 242 yX4_size cX4_size 1 (some .int) 0 := ⟨⟨wm32, wm432, by decide +kernel, by decide +kernel, by decide +kernel⟩, wm429, wm430, wm431⟩
theorem wm804 : Cond.code yX4_restore cX4_restore 3 none ∈ WA := wa_of 804 (by decide +kernel) (by decide +kernel)
theorem wm801 : Cond.methodLink RX8 245 yX4_restore ∈ WA := wa_of 801 (by decide +kernel) (by decide +kernel)
theorem wm802 : Cond.instanceMethod yX4_restore ∈ WA := wa_of 802 (by decide +kernel) (by decide +kernel)
theorem wm803 : Cond.selects RX4 yX4_restore yX4_restore ∈ WA := wa_of 803 (by decide +kernel) (by decide +kernel)
theorem lkX8_245 : LkV RX8 245 yX4_restore cX4_restore 3 none 1 := ⟨⟨wm32, wm804, by decide +kernel, by decide +kernel, by decide +kernel⟩, wm801, wm802, wm803⟩
theorem wm441 : Cond.code yX8_mix cX8_mix 4 (some .long) ∈ WA := wa_of 441 (by decide +kernel) (by decide +kernel)
theorem wm440 : Cond.static yX8_mix ∈ WA := wa_of 440 (by decide +kernel) (by decide +kernel)
theorem wm439 : Cond.methodLink RX8 250 yX8_mix ∈ WA := wa_of 439 (by decide +kernel) (by decide +kernel)
theorem lkX8_250 : LkS RX8 250 yX8_mix cX8_mix 4 (some .long) 2 := ⟨⟨wm29, wm441, by decide +kernel, by decide +kernel, by decide +kernel⟩, wm439, wm440⟩
theorem wm445 : Cond.code yX8_mixText cX8_mixText 6 (some .long) ∈ WA := wa_of 445 (by decide +kernel) (by decide +kernel)
theorem wm444 : Cond.static yX8_mixText ∈ WA := wa_of 444 (by decide +kernel) (by decide +kernel)
theorem wm443 : Cond.methodLink RX8 254 yX8_mixText ∈ WA := wa_of 443 (by decide +kernel) (by decide +kernel)
theorem lkX8_254 : LkS RX8 254 yX8_mixText cX8_mixText 6 (some .long) 2 := ⟨⟨wm29, wm445, by decide +kernel, by decide +kernel, by decide +kernel⟩, wm443, wm444⟩
theorem wm298 : Cond.code yX8_steps cX8_steps 1 (some .int) ∈ WA := wa_of 298 (by decide +kernel) (by decide +kernel)
theorem wm447 : Cond.methodLink RX8 258 yX8_steps ∈ WA := wa_of 447 (by decide +kernel) (by decide +kernel)
theorem wm296 : Cond.instanceMethod yX8_steps ∈ WA := wa_of 296 (by decide +kernel) (by decide +kernel)
theorem wm297 : Cond.selects RX8 yX8_steps yX8_steps ∈ WA := wa_of 297 (by decide +kernel) (by decide +kernel)
theorem lkX8_258 : LkV RX8 258 yX8_steps cX8_steps 1 (some .int) 0 := ⟨⟨wm29, wm298, by decide +kernel, by decide +kernel, by decide +kernel⟩, wm447, wm296, wm297⟩
theorem wm381 : Cond.code yX8_foundDistance cX8_foundDistance 2 (some .int) ∈ WA := wa_of 381 (by decide +kernel) (by decide +kernel)
theorem wm448 : Cond.methodLink RX8 261 yX8_foundDistance ∈ WA := wa_of 448 (by decide +kernel) (by decide +kernel)
theorem wm379 : Cond.instanceMethod yX8_foundDistance ∈ WA := wa_of 379 (by decide +kernel) (by decide +kernel)
theorem wm380 : Cond.selects RX8 yX8_foundDistance yX8_foundDistance ∈ WA := wa_of 380 (by decide +kernel) (by decide +kernel)
theorem lkX8_261 : LkV RX8 261 yX8_foundDistance cX8_foundDistance 2 (some .int) 0 := ⟨⟨wm29, wm381, by decide +kernel, by decide +kernel, by decide +kernel⟩, wm448, wm379, wm380⟩
theorem wm357 : Cond.code yX8_hits cX8_hits 1 (some .int) ∈ WA := wa_of 357 (by decide +kernel) (by decide +kernel)
theorem wm449 : Cond.methodLink RX8 264 yX8_hits ∈ WA := wa_of 449 (by decide +kernel) (by decide +kernel)
theorem wm355 : Cond.instanceMethod yX8_hits ∈ WA := wa_of 355 (by decide +kernel) (by decide +kernel)
theorem wm356 : Cond.selects RX8 yX8_hits yX8_hits ∈ WA := wa_of 356 (by decide +kernel) (by decide +kernel)
theorem lkX8_264 : LkV RX8 264 yX8_hits cX8_hits 1 (some .int) 0 := ⟨⟨wm29, wm357, by decide +kernel, by decide +kernel, by decide +kernel⟩, wm449, wm355, wm356⟩
theorem wm365 : Cond.code yX8_misses cX8_misses 1 (some .int) ∈ WA := wa_of 365 (by decide +kernel) (by decide +kernel)
theorem wm450 : Cond.methodLink RX8 267 yX8_misses ∈ WA := wa_of 450 (by decide +kernel) (by decide +kernel)
theorem wm363 : Cond.instanceMethod yX8_misses ∈ WA := wa_of 363 (by decide +kernel) (by decide +kernel)
theorem wm364 : Cond.selects RX8 yX8_misses yX8_misses ∈ WA := wa_of 364 (by decide +kernel) (by decide +kernel)
theorem lkX8_267 : LkV RX8 267 yX8_misses cX8_misses 1 (some .int) 0 := ⟨⟨wm29, wm365, by decide +kernel, by decide +kernel, by decide +kernel⟩, wm450, wm363, wm364⟩
theorem wm373 : Cond.code yX8_singleSteps cX8_singleSteps 1 (some .int) ∈ WA := wa_of 373 (by decide +kernel) (by decide +kernel)
theorem wm451 : Cond.methodLink RX8 270 yX8_singleSteps ∈ WA := wa_of 451 (by decide +kernel) (by decide +kernel)
theorem wm371 : Cond.instanceMethod yX8_singleSteps ∈ WA := wa_of 371 (by decide +kernel) (by decide +kernel)
theorem wm372 : Cond.selects RX8 yX8_singleSteps yX8_singleSteps ∈ WA := wa_of 372 (by decide +kernel) (by decide +kernel)
theorem lkX8_270 : LkV RX8 270 yX8_singleSteps cX8_singleSteps 1 (some .int) 0 := ⟨⟨wm29, wm373, by decide +kernel, by decide +kernel, by decide +kernel⟩, wm451, wm371, wm372⟩
theorem wm394 : Cond.code yX8_missesToCome cX8_missesToCome 1 (some .int) ∈ WA := wa_of 394 (by decide +kernel) (by decide +kernel)
theorem wm452 : Cond.methodLink RX8 273 yX8_missesToCome ∈ WA := wa_of 452 (by decide +kernel) (by decide +kernel)
theorem wm392 : Cond.instanceMethod yX8_missesToCome ∈ WA := wa_of 392 (by decide +kernel) (by decide +kernel)
theorem wm393 : Cond.selects RX8 yX8_missesToCome yX8_missesToCome ∈ WA := wa_of 393 (by decide +kernel) (by decide +kernel)
theorem lkX8_273 : LkV RX8 273 yX8_missesToCome cX8_missesToCome 1 (some .int) 0 := ⟨⟨wm29, wm394, by decide +kernel, by decide +kernel, by decide +kernel⟩, wm452, wm392, wm393⟩
theorem wm455 : Cond.code yX8_mixWay cX8_mixWay 6 (some .long) ∈ WA := wa_of 455 (by decide +kernel) (by decide +kernel)
theorem wm454 : Cond.static yX8_mixWay ∈ WA := wa_of 454 (by decide +kernel) (by decide +kernel)
theorem wm453 : Cond.methodLink RX8 276 yX8_mixWay ∈ WA := wa_of 453 (by decide +kernel) (by decide +kernel)
theorem lkX8_276 : LkS RX8 276 yX8_mixWay cX8_mixWay 6 (some .long) 2 := ⟨⟨wm29, wm455, by decide +kernel, by decide +kernel, by decide +kernel⟩, wm453, wm454⟩
theorem wm463 : Cond.code yX8_bestReplacement cX8_bestReplacement 9 (some .int) ∈ WA := wa_of 463 (by decide +kernel) (by decide +kernel)
theorem wm460 : Cond.methodLink RX8 280 yX8_bestReplacement ∈ WA := wa_of 460 (by decide +kernel) (by decide +kernel)
theorem wm461 : Cond.instanceMethod yX8_bestReplacement ∈ WA := wa_of 461 (by decide +kernel) (by decide +kernel)
theorem wm462 : Cond.selects RX8 yX8_bestReplacement yX8_bestReplacement ∈ WA := wa_of 462 (by decide +kernel) (by decide +kernel)
theorem lkX8_280 : LkV RX8 280 yX8_bestReplacement cX8_bestReplacement 9 (some .int) 1 := ⟨⟨wm29, wm463, by decide +kernel, by decide +kernel, by decide +kernel⟩, wm460, wm461, wm462⟩
theorem wm559 : Cond.code yX8_mixGrid cX8_mixGrid 10 (some .long) ∈ WA := wa_of 559 (by decide +kernel) (by decide +kernel)
theorem wm556 : Cond.methodLink RX8 283 yX8_mixGrid ∈ WA := wa_of 556 (by decide +kernel) (by decide +kernel)
theorem wm558 : Cond.instanceMethod yX8_mixGrid ∈ WA := wa_of 558 (by decide +kernel) (by decide +kernel)
theorem wm8 : Cond.selects RX8 yX8_mixGrid yX8_mixGrid ∈ WA := wa_of 8 (by decide +kernel) (by decide +kernel)
theorem lkX8_283 : LkV RX8 283 yX8_mixGrid cX8_mixGrid 10 (some .long) 2 := ⟨⟨wm29, wm559, by decide +kernel, by decide +kernel, by decide +kernel⟩, wm556, wm558, wm8⟩
theorem wm268 : Cond.methodLink RX8 289 yX1_fill ∈ WA := wa_of 268 (by decide +kernel) (by decide +kernel)
theorem lkX8_289 : LkV RX8 289 yX1_fill cX1_fill 7 none 3 := ⟨⟨wm34, wm271, by decide +kernel, by decide +kernel, by decide +kernel⟩, wm268, wm269, wm270⟩
theorem wm306 : Cond.code yX7_find cX7_find 7 none ∈ WA := wa_of 306 (by decide +kernel) (by decide +kernel)
theorem wm303 : Cond.methodLink RX8 293 yX7_find ∈ WA := wa_of 303 (by decide +kernel) (by decide +kernel)
theorem wm304 : Cond.instanceMethod yX7_find ∈ WA := wa_of 304 (by decide +kernel) (by decide +kernel)
theorem wm305 : Cond.selects RX7 yX7_find yX7_find ∈ WA := wa_of 305 (by decide +kernel) (by decide +kernel)
theorem lkX8_293 : LkV RX8 293 yX7_find cX7_find 7 none 3 := ⟨⟨wm35, wm306, by decide +kernel, by decide +kernel, by decide +kernel⟩, wm303, wm304, wm305⟩
theorem wm38 : Cond.initialized RX9 ∈ WA := wa_of 38 (by decide +kernel) (by decide +kernel)
theorem wm884 : Cond.code yX9_in cX9_in 3 (some .boolean) ∈ WA := wa_of 884 (by decide +kernel) (by decide +kernel)
theorem wm883 : Cond.static yX9_in ∈ WA := wa_of 883 (by decide +kernel) (by decide +kernel)
theorem wm882 : Cond.methodLink RX9 42 yX9_in ∈ WA := wa_of 882 (by decide +kernel) (by decide +kernel)
theorem lkX9_42 : LkS RX9 42 yX9_in cX9_in 3 (some .boolean) 3 := ⟨⟨wm38, wm884, by decide +kernel, by decide +kernel, by decide +kernel⟩, wm882, wm883⟩
theorem wm907 : Cond.code yX9_of cX9_of 3 (some .int) ∈ WA := wa_of 907 (by decide +kernel) (by decide +kernel)
theorem wm904 : Cond.methodLink RX9 46 yX9_of ∈ WA := wa_of 904 (by decide +kernel) (by decide +kernel)
theorem wm906 : Cond.instanceMethod yX9_of ∈ WA := wa_of 906 (by decide +kernel) (by decide +kernel)
theorem wm16 : Cond.selects RX9 yX9_of yX9_of ∈ WA := wa_of 16 (by decide +kernel) (by decide +kernel)
theorem lkX9_46 : LkV RX9 46 yX9_of cX9_of 3 (some .int) 2 := ⟨⟨wm38, wm907, by decide +kernel, by decide +kernel, by decide +kernel⟩, wm904, wm906, wm16⟩
theorem wm947 : Cond.code yX9_d cX9_d 3 (some .int) ∈ WA := wa_of 947 (by decide +kernel) (by decide +kernel)
theorem wm944 : Cond.methodLink RX9 50 yX9_d ∈ WA := wa_of 944 (by decide +kernel) (by decide +kernel)
theorem wm946 : Cond.instanceMethod yX9_d ∈ WA := wa_of 946 (by decide +kernel) (by decide +kernel)
theorem wm19 : Cond.selects RX9 yX9_d yX9_d ∈ WA := wa_of 19 (by decide +kernel) (by decide +kernel)
theorem lkX9_50 : LkV RX9 50 yX9_d cX9_d 3 (some .int) 2 := ⟨⟨wm38, wm947, by decide +kernel, by decide +kernel, by decide +kernel⟩, wm944, wm946, wm19⟩
theorem wm951 : Cond.code yX9_cost cX9_cost 3 (some .int) ∈ WA := wa_of 951 (by decide +kernel) (by decide +kernel)
theorem wm948 : Cond.methodLink RX9 53 yX9_cost ∈ WA := wa_of 948 (by decide +kernel) (by decide +kernel)
theorem wm950 : Cond.instanceMethod yX9_cost ∈ WA := wa_of 950 (by decide +kernel) (by decide +kernel)
theorem wm20 : Cond.selects RX9 yX9_cost yX9_cost ∈ WA := wa_of 20 (by decide +kernel) (by decide +kernel)
theorem lkX9_53 : LkV RX9 53 yX9_cost cX9_cost 3 (some .int) 2 := ⟨⟨wm38, wm951, by decide +kernel, by decide +kernel, by decide +kernel⟩, wm948, wm950, wm20⟩
theorem wm954 : Cond.code yX9_least cX9_least 4 (some .int) ∈ WA := wa_of 954 (by decide +kernel) (by decide +kernel)
theorem wm953 : Cond.static yX9_least ∈ WA := wa_of 953 (by decide +kernel) (by decide +kernel)
theorem wm952 : Cond.methodLink RX9 56 yX9_least ∈ WA := wa_of 952 (by decide +kernel) (by decide +kernel)
theorem lkX9_56 : LkS RX9 56 yX9_least cX9_least 4 (some .int) 3 := ⟨⟨wm38, wm954, by decide +kernel, by decide +kernel, by decide +kernel⟩, wm952, wm953⟩
theorem wm943 : Cond.code yX9_lay cX9_lay 4 none ∈ WA := wa_of 943 (by decide +kernel) (by decide +kernel)
theorem wm940 : Cond.methodLink RX9 60 yX9_lay ∈ WA := wa_of 940 (by decide +kernel) (by decide +kernel)
theorem wm942 : Cond.instanceMethod yX9_lay ∈ WA := wa_of 942 (by decide +kernel) (by decide +kernel)
theorem wm18 : Cond.selects RX9 yX9_lay yX9_lay ∈ WA := wa_of 18 (by decide +kernel) (by decide +kernel)
theorem lkX9_60 : LkV RX9 60 yX9_lay cX9_lay 4 none 1 := ⟨⟨wm38, wm943, by decide +kernel, by decide +kernel, by decide +kernel⟩, wm940, wm942, wm18⟩
theorem wm1002 : Cond.code yX9_keyOf cX9_keyOf 5 (some .int) ∈ WA := wa_of 1002 (by decide +kernel) (by decide +kernel)
theorem wm999 : Cond.methodLink RX9 70 yX9_keyOf ∈ WA := wa_of 999 (by decide +kernel) (by decide +kernel)
theorem wm1001 : Cond.instanceMethod yX9_keyOf ∈ WA := wa_of 1001 (by decide +kernel) (by decide +kernel)
theorem wm23 : Cond.selects RX9 yX9_keyOf yX9_keyOf ∈ WA := wa_of 23 (by decide +kernel) (by decide +kernel)
theorem lkX9_70 : LkV RX9 70 yX9_keyOf cX9_keyOf 5 (some .int) 2 := ⟨⟨wm38, wm1002, by decide +kernel, by decide +kernel, by decide +kernel⟩, wm999, wm1001, wm23⟩
theorem wm881 : Cond.code yX9_go cX9_go 4 none ∈ WA := wa_of 881 (by decide +kernel) (by decide +kernel)
theorem wm878 : Cond.methodLink RX9 95 yX9_go ∈ WA := wa_of 878 (by decide +kernel) (by decide +kernel)
theorem wm880 : Cond.instanceMethod yX9_go ∈ WA := wa_of 880 (by decide +kernel) (by decide +kernel)
theorem wm12 : Cond.selects RX9 yX9_go yX9_go ∈ WA := wa_of 12 (by decide +kernel) (by decide +kernel)
theorem lkX9_95 : LkV RX9 95 yX9_go cX9_go 4 none 0 := ⟨⟨wm38, wm881, by decide +kernel, by decide +kernel, by decide +kernel⟩, wm878, wm880, wm12⟩
theorem wm888 : Cond.code yX9_throwing cX9_throwing 2 (some .int) ∈ WA := wa_of 888 (by decide +kernel) (by decide +kernel)
theorem wm885 : Cond.methodLink RX9 98 yX9_throwing ∈ WA := wa_of 885 (by decide +kernel) (by decide +kernel)
theorem wm887 : Cond.instanceMethod yX9_throwing ∈ WA := wa_of 887 (by decide +kernel) (by decide +kernel)
theorem wm13 : Cond.selects RX9 yX9_throwing yX9_throwing ∈ WA := wa_of 13 (by decide +kernel) (by decide +kernel)
theorem lkX9_98 : LkV RX9 98 yX9_throwing cX9_throwing 2 (some .int) 1 := ⟨⟨wm38, wm888, by decide +kernel, by decide +kernel, by decide +kernel⟩, wm885, wm887, wm13⟩
theorem wm892 : Cond.code yX9_isLetter cX9_isLetter 2 (some .boolean) ∈ WA := wa_of 892 (by decide +kernel) (by decide +kernel)
theorem wm889 : Cond.methodLink RX9 102 yX9_isLetter ∈ WA := wa_of 889 (by decide +kernel) (by decide +kernel)
theorem wm891 : Cond.instanceMethod yX9_isLetter ∈ WA := wa_of 891 (by decide +kernel) (by decide +kernel)
theorem wm14 : Cond.selects RX9 yX9_isLetter yX9_isLetter ∈ WA := wa_of 14 (by decide +kernel) (by decide +kernel)
theorem lkX9_102 : LkV RX9 102 yX9_isLetter cX9_isLetter 2 (some .boolean) 1 := ⟨⟨wm38, wm892, by decide +kernel, by decide +kernel, by decide +kernel⟩, wm889, wm891, wm14⟩
theorem wm896 : Cond.code yX9_save cX9_save 2 none ∈ WA := wa_of 896 (by decide +kernel) (by decide +kernel)
theorem wm893 : Cond.methodLink RX9 106 yX9_save ∈ WA := wa_of 893 (by decide +kernel) (by decide +kernel)
theorem wm895 : Cond.instanceMethod yX9_save ∈ WA := wa_of 895 (by decide +kernel) (by decide +kernel)
theorem wm15 : Cond.selects RX9 yX9_save yX9_save ∈ WA := wa_of 15 (by decide +kernel) (by decide +kernel)
theorem lkX9_106 : LkV RX9 106 yX9_save cX9_save 2 none 0 := ⟨⟨wm38, wm896, by decide +kernel, by decide +kernel, by decide +kernel⟩, wm893, wm895, wm15⟩
theorem wm903 : Cond.code yX9_isText cX9_isText 1 (some .boolean) ∈ WA := wa_of 903 (by decide +kernel) (by decide +kernel)
theorem wm902 : Cond.static yX9_isText ∈ WA := wa_of 902 (by decide +kernel) (by decide +kernel)
theorem wm901 : Cond.methodLink RX9 109 yX9_isText ∈ WA := wa_of 901 (by decide +kernel) (by decide +kernel)
theorem lkX9_109 : LkS RX9 109 yX9_isText cX9_isText 1 (some .boolean) 1 := ⟨⟨wm38, wm903, by decide +kernel, by decide +kernel, by decide +kernel⟩, wm901, wm902⟩
theorem wm939 : Cond.code yX9_whole cX9_whole 1 (some .int) ∈ WA := wa_of 939 (by decide +kernel) (by decide +kernel)
theorem wm936 : Cond.methodLink RX9 112 yX9_whole ∈ WA := wa_of 936 (by decide +kernel) (by decide +kernel)
theorem wm938 : Cond.instanceMethod yX9_whole ∈ WA := wa_of 938 (by decide +kernel) (by decide +kernel)
theorem wm17 : Cond.selects RX9 yX9_whole yX9_whole ∈ WA := wa_of 17 (by decide +kernel) (by decide +kernel)
theorem lkX9_112 : LkV RX9 112 yX9_whole cX9_whole 1 (some .int) 0 := ⟨⟨wm38, wm939, by decide +kernel, by decide +kernel, by decide +kernel⟩, wm936, wm938, wm17⟩
theorem wm966 : Cond.code yX9_layWay cX9_layWay 4 none ∈ WA := wa_of 966 (by decide +kernel) (by decide +kernel)
theorem wm963 : Cond.methodLink RX9 116 yX9_layWay ∈ WA := wa_of 963 (by decide +kernel) (by decide +kernel)
theorem wm965 : Cond.instanceMethod yX9_layWay ∈ WA := wa_of 965 (by decide +kernel) (by decide +kernel)
theorem wm21 : Cond.selects RX9 yX9_layWay yX9_layWay ∈ WA := wa_of 21 (by decide +kernel) (by decide +kernel)
theorem lkX9_116 : LkV RX9 116 yX9_layWay cX9_layWay 4 none 0 := ⟨⟨wm38, wm966, by decide +kernel, by decide +kernel, by decide +kernel⟩, wm963, wm965, wm21⟩
theorem wm998 : Cond.code yX9_goBlocks cX9_goBlocks 9 (some .int) ∈ WA := wa_of 998 (by decide +kernel) (by decide +kernel)
theorem wm995 : Cond.methodLink RX9 119 yX9_goBlocks ∈ WA := wa_of 995 (by decide +kernel) (by decide +kernel)
theorem wm997 : Cond.instanceMethod yX9_goBlocks ∈ WA := wa_of 997 (by decide +kernel) (by decide +kernel)
theorem wm22 : Cond.selects RX9 yX9_goBlocks yX9_goBlocks ∈ WA := wa_of 22 (by decide +kernel) (by decide +kernel)
theorem lkX9_119 : LkV RX9 119 yX9_goBlocks cX9_goBlocks 9 (some .int) 1 := ⟨⟨wm38, wm998, by decide +kernel, by decide +kernel, by decide +kernel⟩, wm995, wm997, wm22⟩
theorem wm1026 : Cond.code yX9_found cX9_found 3 (some .int) ∈ WA := wa_of 1026 (by decide +kernel) (by decide +kernel)
theorem wm1023 : Cond.methodLink RX9 123 yX9_found ∈ WA := wa_of 1023 (by decide +kernel) (by decide +kernel)
theorem wm1025 : Cond.instanceMethod yX9_found ∈ WA := wa_of 1025 (by decide +kernel) (by decide +kernel)
theorem wm24 : Cond.selects RX9 yX9_found yX9_found ∈ WA := wa_of 24 (by decide +kernel) (by decide +kernel)
theorem lkX9_123 : LkV RX9 123 yX9_found cX9_found 3 (some .int) 0 := ⟨⟨wm38, wm1026, by decide +kernel, by decide +kernel, by decide +kernel⟩, wm1023, wm1025, wm24⟩
theorem wm1034 : Cond.code yX9_end cX9_end 3 (some .int) ∈ WA := wa_of 1034 (by decide +kernel) (by decide +kernel)
theorem wm1031 : Cond.methodLink RX9 126 yX9_end ∈ WA := wa_of 1031 (by decide +kernel) (by decide +kernel)
theorem wm1033 : Cond.instanceMethod yX9_end ∈ WA := wa_of 1033 (by decide +kernel) (by decide +kernel)
theorem wm25 : Cond.selects RX9 yX9_end yX9_end ∈ WA := wa_of 25 (by decide +kernel) (by decide +kernel)
theorem lkX9_126 : LkV RX9 126 yX9_end cX9_end 3 (some .int) 0 := ⟨⟨wm38, wm1034, by decide +kernel, by decide +kernel, by decide +kernel⟩, wm1031, wm1033, wm25⟩
theorem wm1042 : Cond.code yX9_tried cX9_tried 6 (some .int) ∈ WA := wa_of 1042 (by decide +kernel) (by decide +kernel)
theorem wm1039 : Cond.methodLink RX9 129 yX9_tried ∈ WA := wa_of 1039 (by decide +kernel) (by decide +kernel)
theorem wm1041 : Cond.instanceMethod yX9_tried ∈ WA := wa_of 1041 (by decide +kernel) (by decide +kernel)
theorem wm26 : Cond.selects RX9 yX9_tried yX9_tried ∈ WA := wa_of 26 (by decide +kernel) (by decide +kernel)
theorem lkX9_129 : LkV RX9 129 yX9_tried cX9_tried 6 (some .int) 3 := ⟨⟨wm38, wm1042, by decide +kernel, by decide +kernel, by decide +kernel⟩, wm1039, wm1041, wm26⟩
theorem wm1050 : Cond.code yX9_best cX9_best 8 (some .int) ∈ WA := wa_of 1050 (by decide +kernel) (by decide +kernel)
theorem wm1047 : Cond.methodLink RX9 132 yX9_best ∈ WA := wa_of 1047 (by decide +kernel) (by decide +kernel)
theorem wm1049 : Cond.instanceMethod yX9_best ∈ WA := wa_of 1049 (by decide +kernel) (by decide +kernel)
theorem wm27 : Cond.selects RX9 yX9_best yX9_best ∈ WA := wa_of 27 (by decide +kernel) (by decide +kernel)
theorem lkX9_132 : LkV RX9 132 yX9_best cX9_best 8 (some .int) 1 := ⟨⟨wm38, wm1050, by decide +kernel, by decide +kernel, by decide +kernel⟩, wm1047, wm1049, wm27⟩
theorem wm567 : Cond.code yX8_load cX8_load 1 (some .int) ∈ WA := wa_of 567 (by decide +kernel) (by decide +kernel)
theorem wm564 : Cond.methodLink RL 7 yX8_load ∈ WA := wa_of 564 (by decide +kernel) (by decide +kernel)
theorem wm565 : Cond.instanceMethod yX8_load ∈ WA := wa_of 565 (by decide +kernel) (by decide +kernel)
theorem wm566 : Cond.selects RX8 yX8_load yX8_load ∈ WA := wa_of 566 (by decide +kernel) (by decide +kernel)
theorem lkL_7 : LkV RL 7 yX8_load cX8_load 1 (some .int) 0 := ⟨⟨wm29, wm567, by decide +kernel, by decide +kernel, by decide +kernel⟩, wm564, wm565, wm566⟩
theorem wm613 : Cond.code yX8_insert cX8_insert 5 (some .int) ∈ WA := wa_of 613 (by decide +kernel) (by decide +kernel)
theorem wm610 : Cond.methodLink RL 15 yX8_insert ∈ WA := wa_of 610 (by decide +kernel) (by decide +kernel)
theorem wm611 : Cond.instanceMethod yX8_insert ∈ WA := wa_of 611 (by decide +kernel) (by decide +kernel)
theorem wm612 : Cond.selects RX8 yX8_insert yX8_insert ∈ WA := wa_of 612 (by decide +kernel) (by decide +kernel)
theorem lkL_15 : LkV RL 15 yX8_insert cX8_insert 5 (some .int) 3 := ⟨⟨wm29, wm613, by decide +kernel, by decide +kernel, by decide +kernel⟩, wm610, wm611, wm612⟩
theorem wm643 : Cond.code yX8_remove cX8_remove 5 (some .int) ∈ WA := wa_of 643 (by decide +kernel) (by decide +kernel)
theorem wm640 : Cond.methodLink RL 23 yX8_remove ∈ WA := wa_of 640 (by decide +kernel) (by decide +kernel)
theorem wm641 : Cond.instanceMethod yX8_remove ∈ WA := wa_of 641 (by decide +kernel) (by decide +kernel)
theorem wm642 : Cond.selects RX8 yX8_remove yX8_remove ∈ WA := wa_of 642 (by decide +kernel) (by decide +kernel)
theorem lkL_23 : LkV RL 23 yX8_remove cX8_remove 5 (some .int) 2 := ⟨⟨wm29, wm643, by decide +kernel, by decide +kernel, by decide +kernel⟩, wm640, wm641, wm642⟩
theorem wm658 : Cond.code yX8_replace cX8_replace 6 (some .int) ∈ WA := wa_of 658 (by decide +kernel) (by decide +kernel)
theorem wm655 : Cond.methodLink RL 27 yX8_replace ∈ WA := wa_of 655 (by decide +kernel) (by decide +kernel)
theorem wm656 : Cond.instanceMethod yX8_replace ∈ WA := wa_of 656 (by decide +kernel) (by decide +kernel)
theorem wm657 : Cond.selects RX8 yX8_replace yX8_replace ∈ WA := wa_of 657 (by decide +kernel) (by decide +kernel)
theorem lkL_27 : LkV RL 27 yX8_replace cX8_replace 6 (some .int) 3 := ⟨⟨wm29, wm658, by decide +kernel, by decide +kernel, by decide +kernel⟩, wm655, wm656, wm657⟩
theorem wm669 : Cond.code yX8_setAlphabet cX8_setAlphabet 3 (some .int) ∈ WA := wa_of 669 (by decide +kernel) (by decide +kernel)
theorem wm666 : Cond.methodLink RL 30 yX8_setAlphabet ∈ WA := wa_of 666 (by decide +kernel) (by decide +kernel)
theorem wm667 : Cond.instanceMethod yX8_setAlphabet ∈ WA := wa_of 667 (by decide +kernel) (by decide +kernel)
theorem wm668 : Cond.selects RX8 yX8_setAlphabet yX8_setAlphabet ∈ WA := wa_of 668 (by decide +kernel) (by decide +kernel)
theorem lkL_30 : LkV RL 30 yX8_setAlphabet cX8_setAlphabet 3 (some .int) 1 := ⟨⟨wm29, wm669, by decide +kernel, by decide +kernel, by decide +kernel⟩, wm666, wm667, wm668⟩
theorem wm686 : Cond.code yX8_length cX8_length 2 (some .int) ∈ WA := wa_of 686 (by decide +kernel) (by decide +kernel)
theorem wm683 : Cond.methodLink RL 34 yX8_length ∈ WA := wa_of 683 (by decide +kernel) (by decide +kernel)
theorem wm684 : Cond.instanceMethod yX8_length ∈ WA := wa_of 684 (by decide +kernel) (by decide +kernel)
theorem wm685 : Cond.selects RX8 yX8_length yX8_length ∈ WA := wa_of 685 (by decide +kernel) (by decide +kernel)
theorem lkL_34 : LkV RL 34 yX8_length cX8_length 2 (some .int) 1 := ⟨⟨wm29, wm686, by decide +kernel, by decide +kernel, by decide +kernel⟩, wm683, wm684, wm685⟩
theorem wm693 : Cond.code yX8_letter cX8_letter 4 (some .int) ∈ WA := wa_of 693 (by decide +kernel) (by decide +kernel)
theorem wm690 : Cond.methodLink RL 37 yX8_letter ∈ WA := wa_of 690 (by decide +kernel) (by decide +kernel)
theorem wm691 : Cond.instanceMethod yX8_letter ∈ WA := wa_of 691 (by decide +kernel) (by decide +kernel)
theorem wm692 : Cond.selects RX8 yX8_letter yX8_letter ∈ WA := wa_of 692 (by decide +kernel) (by decide +kernel)
theorem lkL_37 : LkV RL 37 yX8_letter cX8_letter 4 (some .int) 2 := ⟨⟨wm29, wm693, by decide +kernel, by decide +kernel, by decide +kernel⟩, wm690, wm691, wm692⟩
theorem wm700 : Cond.code yX8_prefix cX8_prefix 3 (some .int) ∈ WA := wa_of 700 (by decide +kernel) (by decide +kernel)
theorem wm697 : Cond.methodLink RL 40 yX8_prefix ∈ WA := wa_of 697 (by decide +kernel) (by decide +kernel)
theorem wm698 : Cond.instanceMethod yX8_prefix ∈ WA := wa_of 698 (by decide +kernel) (by decide +kernel)
theorem wm699 : Cond.selects RX8 yX8_prefix yX8_prefix ∈ WA := wa_of 699 (by decide +kernel) (by decide +kernel)
theorem lkL_40 : LkV RL 40 yX8_prefix cX8_prefix 3 (some .int) 2 := ⟨⟨wm29, wm700, by decide +kernel, by decide +kernel, by decide +kernel⟩, wm697, wm698, wm699⟩
theorem wm712 : Cond.code yX8_step cX8_step 2 (some .int) ∈ WA := wa_of 712 (by decide +kernel) (by decide +kernel)
theorem wm709 : Cond.methodLink RL 43 yX8_step ∈ WA := wa_of 709 (by decide +kernel) (by decide +kernel)
theorem wm710 : Cond.instanceMethod yX8_step ∈ WA := wa_of 710 (by decide +kernel) (by decide +kernel)
theorem wm711 : Cond.selects RX8 yX8_step yX8_step ∈ WA := wa_of 711 (by decide +kernel) (by decide +kernel)
theorem lkL_43 : LkV RL 43 yX8_step cX8_step 2 (some .int) 1 := ⟨⟨wm29, wm712, by decide +kernel, by decide +kernel, by decide +kernel⟩, wm709, wm710, wm711⟩
theorem wm720 : Cond.code yX8_count cX8_count 2 (some .int) ∈ WA := wa_of 720 (by decide +kernel) (by decide +kernel)
theorem wm717 : Cond.methodLink RL 46 yX8_count ∈ WA := wa_of 717 (by decide +kernel) (by decide +kernel)
theorem wm718 : Cond.instanceMethod yX8_count ∈ WA := wa_of 718 (by decide +kernel) (by decide +kernel)
theorem wm719 : Cond.selects RX8 yX8_count yX8_count ∈ WA := wa_of 719 (by decide +kernel) (by decide +kernel)
theorem lkL_46 : LkV RL 46 yX8_count cX8_count 2 (some .int) 1 := ⟨⟨wm29, wm720, by decide +kernel, by decide +kernel, by decide +kernel⟩, wm717, wm718, wm719⟩
theorem wm733 : Cond.code yX8_within cX8_within 3 (some .int) ∈ WA := wa_of 733 (by decide +kernel) (by decide +kernel)
theorem wm730 : Cond.methodLink RL 49 yX8_within ∈ WA := wa_of 730 (by decide +kernel) (by decide +kernel)
theorem wm731 : Cond.instanceMethod yX8_within ∈ WA := wa_of 731 (by decide +kernel) (by decide +kernel)
theorem wm732 : Cond.selects RX8 yX8_within yX8_within ∈ WA := wa_of 732 (by decide +kernel) (by decide +kernel)
theorem lkL_49 : LkV RL 49 yX8_within cX8_within 3 (some .int) 1 := ⟨⟨wm29, wm733, by decide +kernel, by decide +kernel, by decide +kernel⟩, wm730, wm731, wm732⟩
theorem wm744 : Cond.code yX8_band cX8_band 8 (some .int) ∈ WA := wa_of 744 (by decide +kernel) (by decide +kernel)
theorem wm741 : Cond.methodLink RL 52 yX8_band ∈ WA := wa_of 741 (by decide +kernel) (by decide +kernel)
theorem wm742 : Cond.instanceMethod yX8_band ∈ WA := wa_of 742 (by decide +kernel) (by decide +kernel)
theorem wm743 : Cond.selects RX8 yX8_band yX8_band ∈ WA := wa_of 743 (by decide +kernel) (by decide +kernel)
theorem lkL_52 : LkV RL 52 yX8_band cX8_band 8 (some .int) 1 := ⟨⟨wm29, wm744, by decide +kernel, by decide +kernel, by decide +kernel⟩, wm741, wm742, wm743⟩
theorem wm751 : Cond.code yX8_setBlock cX8_setBlock 3 (some .int) ∈ WA := wa_of 751 (by decide +kernel) (by decide +kernel)
theorem wm748 : Cond.methodLink RL 55 yX8_setBlock ∈ WA := wa_of 748 (by decide +kernel) (by decide +kernel)
theorem wm749 : Cond.instanceMethod yX8_setBlock ∈ WA := wa_of 749 (by decide +kernel) (by decide +kernel)
theorem wm750 : Cond.selects RX8 yX8_setBlock yX8_setBlock ∈ WA := wa_of 750 (by decide +kernel) (by decide +kernel)
theorem lkL_55 : LkV RL 55 yX8_setBlock cX8_setBlock 3 (some .int) 1 := ⟨⟨wm29, wm751, by decide +kernel, by decide +kernel, by decide +kernel⟩, wm748, wm749, wm750⟩
theorem wm767 : Cond.code yX8_across cX8_across 3 (some .int) ∈ WA := wa_of 767 (by decide +kernel) (by decide +kernel)
theorem wm764 : Cond.methodLink RL 58 yX8_across ∈ WA := wa_of 764 (by decide +kernel) (by decide +kernel)
theorem wm765 : Cond.instanceMethod yX8_across ∈ WA := wa_of 765 (by decide +kernel) (by decide +kernel)
theorem wm766 : Cond.selects RX8 yX8_across yX8_across ∈ WA := wa_of 766 (by decide +kernel) (by decide +kernel)
theorem lkL_58 : LkV RL 58 yX8_across cX8_across 3 (some .int) 2 := ⟨⟨wm29, wm767, by decide +kernel, by decide +kernel, by decide +kernel⟩, wm764, wm765, wm766⟩
theorem wm775 : Cond.code yX8_ifReplaced cX8_ifReplaced 6 (some .int) ∈ WA := wa_of 775 (by decide +kernel) (by decide +kernel)
theorem wm772 : Cond.methodLink RL 61 yX8_ifReplaced ∈ WA := wa_of 772 (by decide +kernel) (by decide +kernel)
theorem wm773 : Cond.instanceMethod yX8_ifReplaced ∈ WA := wa_of 773 (by decide +kernel) (by decide +kernel)
theorem wm774 : Cond.selects RX8 yX8_ifReplaced yX8_ifReplaced ∈ WA := wa_of 774 (by decide +kernel) (by decide +kernel)
theorem lkL_61 : LkV RL 61 yX8_ifReplaced cX8_ifReplaced 6 (some .int) 3 := ⟨⟨wm29, wm775, by decide +kernel, by decide +kernel, by decide +kernel⟩, wm772, wm773, wm774⟩
theorem wm779 : Cond.methodLink RL 64 yX8_bestReplacement ∈ WA := wa_of 779 (by decide +kernel) (by decide +kernel)
theorem lkL_64 : LkV RL 64 yX8_bestReplacement cX8_bestReplacement 9 (some .int) 1 := ⟨⟨wm29, wm463, by decide +kernel, by decide +kernel, by decide +kernel⟩, wm779, wm461, wm462⟩
theorem wm786 : Cond.code yX8_append cX8_append 2 (some .int) ∈ WA := wa_of 786 (by decide +kernel) (by decide +kernel)
theorem wm783 : Cond.methodLink RL 67 yX8_append ∈ WA := wa_of 783 (by decide +kernel) (by decide +kernel)
theorem wm784 : Cond.instanceMethod yX8_append ∈ WA := wa_of 784 (by decide +kernel) (by decide +kernel)
theorem wm785 : Cond.selects RX8 yX8_append yX8_append ∈ WA := wa_of 785 (by decide +kernel) (by decide +kernel)
theorem lkL_67 : LkV RL 67 yX8_append cX8_append 2 (some .int) 1 := ⟨⟨wm29, wm786, by decide +kernel, by decide +kernel, by decide +kernel⟩, wm783, wm784, wm785⟩
theorem wm799 : Cond.code yX8_undo cX8_undo 1 (some .int) ∈ WA := wa_of 799 (by decide +kernel) (by decide +kernel)
theorem wm796 : Cond.methodLink RL 70 yX8_undo ∈ WA := wa_of 796 (by decide +kernel) (by decide +kernel)
theorem wm797 : Cond.instanceMethod yX8_undo ∈ WA := wa_of 797 (by decide +kernel) (by decide +kernel)
theorem wm798 : Cond.selects RX8 yX8_undo yX8_undo ∈ WA := wa_of 798 (by decide +kernel) (by decide +kernel)
theorem lkL_70 : LkV RL 70 yX8_undo cX8_undo 1 (some .int) 0 := ⟨⟨wm29, wm799, by decide +kernel, by decide +kernel, by decide +kernel⟩, wm796, wm797, wm798⟩
theorem wm51 : Cond.code yX8_init cX8_init 1 none ∈ WA := wa_of 51 (by decide +kernel) (by decide +kernel)
theorem wm50 : Cond.instanceMethod yX8_init ∈ WA := wa_of 50 (by decide +kernel) (by decide +kernel)
theorem wm49 : Cond.methodLink RL 73 yX8_init ∈ WA := wa_of 49 (by decide +kernel) (by decide +kernel)
theorem lkL_73 : LkI RL 73 yX8_init cX8_init 1 0 := ⟨⟨wm29, wm51, by decide +kernel, by decide +kernel, by decide +kernel⟩, wm49, wm50, rfl⟩
theorem wm809 : Cond.code yX9_init cX9_init 1 none ∈ WA := wa_of 809 (by decide +kernel) (by decide +kernel)
theorem wm808 : Cond.instanceMethod yX9_init ∈ WA := wa_of 808 (by decide +kernel) (by decide +kernel)
theorem wm807 : Cond.methodLink RL 76 yX9_init ∈ WA := wa_of 807 (by decide +kernel) (by decide +kernel)
theorem lkL_76 : LkI RL 76 yX9_init cX9_init 1 0 := ⟨⟨wm38, wm809, by decide +kernel, by decide +kernel, by decide +kernel⟩, wm807, wm808, rfl⟩
theorem wm877 : Cond.code yX9_load cX9_load 4 (some .int) ∈ WA := wa_of 877 (by decide +kernel) (by decide +kernel)
theorem wm874 : Cond.methodLink RL 82 yX9_load ∈ WA := wa_of 874 (by decide +kernel) (by decide +kernel)
theorem wm875 : Cond.instanceMethod yX9_load ∈ WA := wa_of 875 (by decide +kernel) (by decide +kernel)
theorem wm876 : Cond.selects RX9 yX9_load yX9_load ∈ WA := wa_of 876 (by decide +kernel) (by decide +kernel)
theorem lkL_82 : LkV RL 82 yX9_load cX9_load 4 (some .int) 0 := ⟨⟨wm38, wm877, by decide +kernel, by decide +kernel, by decide +kernel⟩, wm874, wm875, wm876⟩
theorem wm873 : Cond.code yX9_thrown cX9_thrown 1 (some .int) ∈ WA := wa_of 873 (by decide +kernel) (by decide +kernel)
theorem wm870 : Cond.methodLink RL 83 yX9_thrown ∈ WA := wa_of 870 (by decide +kernel) (by decide +kernel)
theorem wm871 : Cond.instanceMethod yX9_thrown ∈ WA := wa_of 871 (by decide +kernel) (by decide +kernel)
theorem wm872 : Cond.selects RX9 yX9_thrown yX9_thrown ∈ WA := wa_of 872 (by decide +kernel) (by decide +kernel)
theorem lkL_83 : LkV RL 83 yX9_thrown cX9_thrown 1 (some .int) 0 := ⟨⟨wm38, wm873, by decide +kernel, by decide +kernel, by decide +kernel⟩, wm870, wm871, wm872⟩
theorem wm900 : Cond.code yX9_insert cX9_insert 5 (some .int) ∈ WA := wa_of 900 (by decide +kernel) (by decide +kernel)
theorem wm897 : Cond.methodLink RL 89 yX9_insert ∈ WA := wa_of 897 (by decide +kernel) (by decide +kernel)
theorem wm898 : Cond.instanceMethod yX9_insert ∈ WA := wa_of 898 (by decide +kernel) (by decide +kernel)
theorem wm899 : Cond.selects RX9 yX9_insert yX9_insert ∈ WA := wa_of 899 (by decide +kernel) (by decide +kernel)
theorem lkL_89 : LkV RL 89 yX9_insert cX9_insert 5 (some .int) 3 := ⟨⟨wm38, wm900, by decide +kernel, by decide +kernel, by decide +kernel⟩, wm897, wm898, wm899⟩
theorem wm911 : Cond.code yX9_remove cX9_remove 5 (some .int) ∈ WA := wa_of 911 (by decide +kernel) (by decide +kernel)
theorem wm908 : Cond.methodLink RL 93 yX9_remove ∈ WA := wa_of 908 (by decide +kernel) (by decide +kernel)
theorem wm909 : Cond.instanceMethod yX9_remove ∈ WA := wa_of 909 (by decide +kernel) (by decide +kernel)
theorem wm910 : Cond.selects RX9 yX9_remove yX9_remove ∈ WA := wa_of 910 (by decide +kernel) (by decide +kernel)
theorem lkL_93 : LkV RL 93 yX9_remove cX9_remove 5 (some .int) 2 := ⟨⟨wm38, wm911, by decide +kernel, by decide +kernel, by decide +kernel⟩, wm908, wm909, wm910⟩
theorem wm915 : Cond.code yX9_replace cX9_replace 5 (some .int) ∈ WA := wa_of 915 (by decide +kernel) (by decide +kernel)
theorem wm912 : Cond.methodLink RL 96 yX9_replace ∈ WA := wa_of 912 (by decide +kernel) (by decide +kernel)
theorem wm913 : Cond.instanceMethod yX9_replace ∈ WA := wa_of 913 (by decide +kernel) (by decide +kernel)
theorem wm914 : Cond.selects RX9 yX9_replace yX9_replace ∈ WA := wa_of 914 (by decide +kernel) (by decide +kernel)
theorem lkL_96 : LkV RL 96 yX9_replace cX9_replace 5 (some .int) 3 := ⟨⟨wm38, wm915, by decide +kernel, by decide +kernel, by decide +kernel⟩, wm912, wm913, wm914⟩
theorem wm216 : Cond.code yX8_exchange cX8_exchange 1 (some .int) ∈ WA := wa_of 216 (by decide +kernel) (by decide +kernel)
theorem wm213 : Cond.methodLink RL 97 yX8_exchange ∈ WA := wa_of 213 (by decide +kernel) (by decide +kernel)
theorem wm214 : Cond.instanceMethod yX8_exchange ∈ WA := wa_of 214 (by decide +kernel) (by decide +kernel)
theorem wm215 : Cond.selects RX8 yX8_exchange yX8_exchange ∈ WA := wa_of 215 (by decide +kernel) (by decide +kernel)
theorem lkL_97 : LkV RL 97 yX8_exchange cX8_exchange 1 (some .int) 0 := ⟨⟨wm29, wm216, by decide +kernel, by decide +kernel, by decide +kernel⟩, wm213, wm214, wm215⟩
theorem wm919 : Cond.code yX9_exchange cX9_exchange 4 (some .int) ∈ WA := wa_of 919 (by decide +kernel) (by decide +kernel)
theorem wm916 : Cond.methodLink RL 100 yX9_exchange ∈ WA := wa_of 916 (by decide +kernel) (by decide +kernel)
theorem wm917 : Cond.instanceMethod yX9_exchange ∈ WA := wa_of 917 (by decide +kernel) (by decide +kernel)
theorem wm918 : Cond.selects RX9 yX9_exchange yX9_exchange ∈ WA := wa_of 918 (by decide +kernel) (by decide +kernel)
theorem lkL_100 : LkV RL 100 yX9_exchange cX9_exchange 4 (some .int) 0 := ⟨⟨wm38, wm919, by decide +kernel, by decide +kernel, by decide +kernel⟩, wm916, wm917, wm918⟩
theorem wm923 : Cond.code yX9_setAlphabet cX9_setAlphabet 3 (some .int) ∈ WA := wa_of 923 (by decide +kernel) (by decide +kernel)
theorem wm920 : Cond.methodLink RL 104 yX9_setAlphabet ∈ WA := wa_of 920 (by decide +kernel) (by decide +kernel)
theorem wm921 : Cond.instanceMethod yX9_setAlphabet ∈ WA := wa_of 921 (by decide +kernel) (by decide +kernel)
theorem wm922 : Cond.selects RX9 yX9_setAlphabet yX9_setAlphabet ∈ WA := wa_of 922 (by decide +kernel) (by decide +kernel)
theorem lkL_104 : LkV RL 104 yX9_setAlphabet cX9_setAlphabet 3 (some .int) 1 := ⟨⟨wm38, wm923, by decide +kernel, by decide +kernel, by decide +kernel⟩, wm920, wm921, wm922⟩
theorem wm927 : Cond.code yX9_length cX9_length 2 (some .int) ∈ WA := wa_of 927 (by decide +kernel) (by decide +kernel)
theorem wm924 : Cond.methodLink RL 107 yX9_length ∈ WA := wa_of 924 (by decide +kernel) (by decide +kernel)
theorem wm925 : Cond.instanceMethod yX9_length ∈ WA := wa_of 925 (by decide +kernel) (by decide +kernel)
theorem wm926 : Cond.selects RX9 yX9_length yX9_length ∈ WA := wa_of 926 (by decide +kernel) (by decide +kernel)
theorem lkL_107 : LkV RL 107 yX9_length cX9_length 2 (some .int) 1 := ⟨⟨wm38, wm927, by decide +kernel, by decide +kernel, by decide +kernel⟩, wm924, wm925, wm926⟩
theorem wm931 : Cond.code yX9_letter cX9_letter 3 (some .int) ∈ WA := wa_of 931 (by decide +kernel) (by decide +kernel)
theorem wm928 : Cond.methodLink RL 110 yX9_letter ∈ WA := wa_of 928 (by decide +kernel) (by decide +kernel)
theorem wm929 : Cond.instanceMethod yX9_letter ∈ WA := wa_of 929 (by decide +kernel) (by decide +kernel)
theorem wm930 : Cond.selects RX9 yX9_letter yX9_letter ∈ WA := wa_of 930 (by decide +kernel) (by decide +kernel)
theorem lkL_110 : LkV RL 110 yX9_letter cX9_letter 3 (some .int) 2 := ⟨⟨wm38, wm931, by decide +kernel, by decide +kernel, by decide +kernel⟩, wm928, wm929, wm930⟩
theorem wm260 : Cond.methodLink RL 111 yX8_distance ∈ WA := wa_of 260 (by decide +kernel) (by decide +kernel)
theorem lkL_111 : LkV RL 111 yX8_distance cX8_distance 1 (some .int) 0 := ⟨⟨wm29, wm263, by decide +kernel, by decide +kernel, by decide +kernel⟩, wm260, wm261, wm262⟩
theorem wm935 : Cond.code yX9_distance cX9_distance 1 (some .int) ∈ WA := wa_of 935 (by decide +kernel) (by decide +kernel)
theorem wm932 : Cond.methodLink RL 114 yX9_distance ∈ WA := wa_of 932 (by decide +kernel) (by decide +kernel)
theorem wm933 : Cond.instanceMethod yX9_distance ∈ WA := wa_of 933 (by decide +kernel) (by decide +kernel)
theorem wm934 : Cond.selects RX9 yX9_distance yX9_distance ∈ WA := wa_of 934 (by decide +kernel) (by decide +kernel)
theorem lkL_114 : LkV RL 114 yX9_distance cX9_distance 1 (some .int) 0 := ⟨⟨wm38, wm935, by decide +kernel, by decide +kernel, by decide +kernel⟩, wm932, wm933, wm934⟩
theorem wm958 : Cond.code yX9_prefix cX9_prefix 3 (some .int) ∈ WA := wa_of 958 (by decide +kernel) (by decide +kernel)
theorem wm955 : Cond.methodLink RL 117 yX9_prefix ∈ WA := wa_of 955 (by decide +kernel) (by decide +kernel)
theorem wm956 : Cond.instanceMethod yX9_prefix ∈ WA := wa_of 956 (by decide +kernel) (by decide +kernel)
theorem wm957 : Cond.selects RX9 yX9_prefix yX9_prefix ∈ WA := wa_of 957 (by decide +kernel) (by decide +kernel)
theorem lkL_117 : LkV RL 117 yX9_prefix cX9_prefix 3 (some .int) 2 := ⟨⟨wm38, wm958, by decide +kernel, by decide +kernel, by decide +kernel⟩, wm955, wm956, wm957⟩
theorem wm295 : Cond.methodLink RL 118 yX8_steps ∈ WA := wa_of 295 (by decide +kernel) (by decide +kernel)
theorem lkL_118 : LkV RL 118 yX8_steps cX8_steps 1 (some .int) 0 := ⟨⟨wm29, wm298, by decide +kernel, by decide +kernel, by decide +kernel⟩, wm295, wm296, wm297⟩
theorem wm962 : Cond.code yX9_steps cX9_steps 1 (some .int) ∈ WA := wa_of 962 (by decide +kernel) (by decide +kernel)
theorem wm959 : Cond.methodLink RL 121 yX9_steps ∈ WA := wa_of 959 (by decide +kernel) (by decide +kernel)
theorem wm960 : Cond.instanceMethod yX9_steps ∈ WA := wa_of 960 (by decide +kernel) (by decide +kernel)
theorem wm961 : Cond.selects RX9 yX9_steps yX9_steps ∈ WA := wa_of 961 (by decide +kernel) (by decide +kernel)
theorem lkL_121 : LkV RL 121 yX9_steps cX9_steps 1 (some .int) 0 := ⟨⟨wm38, wm962, by decide +kernel, by decide +kernel, by decide +kernel⟩, wm959, wm960, wm961⟩
theorem wm970 : Cond.code yX9_step cX9_step 2 (some .int) ∈ WA := wa_of 970 (by decide +kernel) (by decide +kernel)
theorem wm967 : Cond.methodLink RL 124 yX9_step ∈ WA := wa_of 967 (by decide +kernel) (by decide +kernel)
theorem wm968 : Cond.instanceMethod yX9_step ∈ WA := wa_of 968 (by decide +kernel) (by decide +kernel)
theorem wm969 : Cond.selects RX9 yX9_step yX9_step ∈ WA := wa_of 969 (by decide +kernel) (by decide +kernel)
theorem lkL_124 : LkV RL 124 yX9_step cX9_step 2 (some .int) 1 := ⟨⟨wm38, wm970, by decide +kernel, by decide +kernel, by decide +kernel⟩, wm967, wm968, wm969⟩
theorem wm974 : Cond.code yX9_count cX9_count 4 (some .int) ∈ WA := wa_of 974 (by decide +kernel) (by decide +kernel)
theorem wm971 : Cond.methodLink RL 127 yX9_count ∈ WA := wa_of 971 (by decide +kernel) (by decide +kernel)
theorem wm972 : Cond.instanceMethod yX9_count ∈ WA := wa_of 972 (by decide +kernel) (by decide +kernel)
theorem wm973 : Cond.selects RX9 yX9_count yX9_count ∈ WA := wa_of 973 (by decide +kernel) (by decide +kernel)
theorem lkL_127 : LkV RL 127 yX9_count cX9_count 4 (some .int) 1 := ⟨⟨wm38, wm974, by decide +kernel, by decide +kernel, by decide +kernel⟩, wm971, wm972, wm973⟩
theorem wm978 : Cond.code yX9_within cX9_within 3 (some .int) ∈ WA := wa_of 978 (by decide +kernel) (by decide +kernel)
theorem wm975 : Cond.methodLink RL 130 yX9_within ∈ WA := wa_of 975 (by decide +kernel) (by decide +kernel)
theorem wm976 : Cond.instanceMethod yX9_within ∈ WA := wa_of 976 (by decide +kernel) (by decide +kernel)
theorem wm977 : Cond.selects RX9 yX9_within yX9_within ∈ WA := wa_of 977 (by decide +kernel) (by decide +kernel)
theorem lkL_130 : LkV RL 130 yX9_within cX9_within 3 (some .int) 1 := ⟨⟨wm38, wm978, by decide +kernel, by decide +kernel, by decide +kernel⟩, wm975, wm976, wm977⟩
theorem wm982 : Cond.code yX9_band cX9_band 5 (some .int) ∈ WA := wa_of 982 (by decide +kernel) (by decide +kernel)
theorem wm979 : Cond.methodLink RL 133 yX9_band ∈ WA := wa_of 979 (by decide +kernel) (by decide +kernel)
theorem wm980 : Cond.instanceMethod yX9_band ∈ WA := wa_of 980 (by decide +kernel) (by decide +kernel)
theorem wm981 : Cond.selects RX9 yX9_band yX9_band ∈ WA := wa_of 981 (by decide +kernel) (by decide +kernel)
theorem lkL_133 : LkV RL 133 yX9_band cX9_band 5 (some .int) 1 := ⟨⟨wm38, wm982, by decide +kernel, by decide +kernel, by decide +kernel⟩, wm979, wm980, wm981⟩
theorem wm321 : Cond.code yX8_similarity cX8_similarity 2 (some .double) ∈ WA := wa_of 321 (by decide +kernel) (by decide +kernel)
theorem wm318 : Cond.methodLink RL 134 yX8_similarity ∈ WA := wa_of 318 (by decide +kernel) (by decide +kernel)
theorem wm319 : Cond.instanceMethod yX8_similarity ∈ WA := wa_of 319 (by decide +kernel) (by decide +kernel)
theorem wm320 : Cond.selects RX8 yX8_similarity yX8_similarity ∈ WA := wa_of 320 (by decide +kernel) (by decide +kernel)
theorem lkL_134 : LkV RL 134 yX8_similarity cX8_similarity 2 (some .double) 0 := ⟨⟨wm29, wm321, by decide +kernel, by decide +kernel, by decide +kernel⟩, wm318, wm319, wm320⟩
theorem wm986 : Cond.code yX9_similarity cX9_similarity 2 (some .double) ∈ WA := wa_of 986 (by decide +kernel) (by decide +kernel)
theorem wm983 : Cond.methodLink RL 138 yX9_similarity ∈ WA := wa_of 983 (by decide +kernel) (by decide +kernel)
theorem wm984 : Cond.instanceMethod yX9_similarity ∈ WA := wa_of 984 (by decide +kernel) (by decide +kernel)
theorem wm985 : Cond.selects RX9 yX9_similarity yX9_similarity ∈ WA := wa_of 985 (by decide +kernel) (by decide +kernel)
theorem lkL_138 : LkV RL 138 yX9_similarity cX9_similarity 2 (some .double) 0 := ⟨⟨wm38, wm986, by decide +kernel, by decide +kernel, by decide +kernel⟩, wm983, wm984, wm985⟩
theorem wm990 : Cond.code yX9_setBlock cX9_setBlock 4 (some .int) ∈ WA := wa_of 990 (by decide +kernel) (by decide +kernel)
theorem wm987 : Cond.methodLink RL 141 yX9_setBlock ∈ WA := wa_of 987 (by decide +kernel) (by decide +kernel)
theorem wm988 : Cond.instanceMethod yX9_setBlock ∈ WA := wa_of 988 (by decide +kernel) (by decide +kernel)
theorem wm989 : Cond.selects RX9 yX9_setBlock yX9_setBlock ∈ WA := wa_of 989 (by decide +kernel) (by decide +kernel)
theorem lkL_141 : LkV RL 141 yX9_setBlock cX9_setBlock 4 (some .int) 1 := ⟨⟨wm38, wm990, by decide +kernel, by decide +kernel, by decide +kernel⟩, wm987, wm988, wm989⟩
theorem wm329 : Cond.code yX8_measure cX8_measure 1 (some .int) ∈ WA := wa_of 329 (by decide +kernel) (by decide +kernel)
theorem wm326 : Cond.methodLink RL 142 yX8_measure ∈ WA := wa_of 326 (by decide +kernel) (by decide +kernel)
theorem wm327 : Cond.instanceMethod yX8_measure ∈ WA := wa_of 327 (by decide +kernel) (by decide +kernel)
theorem wm328 : Cond.selects RX8 yX8_measure yX8_measure ∈ WA := wa_of 328 (by decide +kernel) (by decide +kernel)
theorem lkL_142 : LkV RL 142 yX8_measure cX8_measure 1 (some .int) 0 := ⟨⟨wm29, wm329, by decide +kernel, by decide +kernel, by decide +kernel⟩, wm326, wm327, wm328⟩
theorem wm994 : Cond.code yX9_measure cX9_measure 2 (some .int) ∈ WA := wa_of 994 (by decide +kernel) (by decide +kernel)
theorem wm991 : Cond.methodLink RL 145 yX9_measure ∈ WA := wa_of 991 (by decide +kernel) (by decide +kernel)
theorem wm992 : Cond.instanceMethod yX9_measure ∈ WA := wa_of 992 (by decide +kernel) (by decide +kernel)
theorem wm993 : Cond.selects RX9 yX9_measure yX9_measure ∈ WA := wa_of 993 (by decide +kernel) (by decide +kernel)
theorem lkL_145 : LkV RL 145 yX9_measure cX9_measure 2 (some .int) 0 := ⟨⟨wm38, wm994, by decide +kernel, by decide +kernel, by decide +kernel⟩, wm991, wm992, wm993⟩
theorem wm354 : Cond.methodLink RL 146 yX8_hits ∈ WA := wa_of 354 (by decide +kernel) (by decide +kernel)
theorem lkL_146 : LkV RL 146 yX8_hits cX8_hits 1 (some .int) 0 := ⟨⟨wm29, wm357, by decide +kernel, by decide +kernel, by decide +kernel⟩, wm354, wm355, wm356⟩
theorem wm1006 : Cond.code yX9_hits cX9_hits 1 (some .int) ∈ WA := wa_of 1006 (by decide +kernel) (by decide +kernel)
theorem wm1003 : Cond.methodLink RL 149 yX9_hits ∈ WA := wa_of 1003 (by decide +kernel) (by decide +kernel)
theorem wm1004 : Cond.instanceMethod yX9_hits ∈ WA := wa_of 1004 (by decide +kernel) (by decide +kernel)
theorem wm1005 : Cond.selects RX9 yX9_hits yX9_hits ∈ WA := wa_of 1005 (by decide +kernel) (by decide +kernel)
theorem lkL_149 : LkV RL 149 yX9_hits cX9_hits 1 (some .int) 0 := ⟨⟨wm38, wm1006, by decide +kernel, by decide +kernel, by decide +kernel⟩, wm1003, wm1004, wm1005⟩
theorem wm362 : Cond.methodLink RL 150 yX8_misses ∈ WA := wa_of 362 (by decide +kernel) (by decide +kernel)
theorem lkL_150 : LkV RL 150 yX8_misses cX8_misses 1 (some .int) 0 := ⟨⟨wm29, wm365, by decide +kernel, by decide +kernel, by decide +kernel⟩, wm362, wm363, wm364⟩
theorem wm1010 : Cond.code yX9_misses cX9_misses 1 (some .int) ∈ WA := wa_of 1010 (by decide +kernel) (by decide +kernel)
theorem wm1007 : Cond.methodLink RL 153 yX9_misses ∈ WA := wa_of 1007 (by decide +kernel) (by decide +kernel)
theorem wm1008 : Cond.instanceMethod yX9_misses ∈ WA := wa_of 1008 (by decide +kernel) (by decide +kernel)
theorem wm1009 : Cond.selects RX9 yX9_misses yX9_misses ∈ WA := wa_of 1009 (by decide +kernel) (by decide +kernel)
theorem lkL_153 : LkV RL 153 yX9_misses cX9_misses 1 (some .int) 0 := ⟨⟨wm38, wm1010, by decide +kernel, by decide +kernel, by decide +kernel⟩, wm1007, wm1008, wm1009⟩
theorem wm370 : Cond.methodLink RL 154 yX8_singleSteps ∈ WA := wa_of 370 (by decide +kernel) (by decide +kernel)
theorem lkL_154 : LkV RL 154 yX8_singleSteps cX8_singleSteps 1 (some .int) 0 := ⟨⟨wm29, wm373, by decide +kernel, by decide +kernel, by decide +kernel⟩, wm370, wm371, wm372⟩
theorem wm1014 : Cond.code yX9_singleSteps cX9_singleSteps 1 (some .int) ∈ WA := wa_of 1014 (by decide +kernel) (by decide +kernel)
theorem wm1011 : Cond.methodLink RL 157 yX9_singleSteps ∈ WA := wa_of 1011 (by decide +kernel) (by decide +kernel)
theorem wm1012 : Cond.instanceMethod yX9_singleSteps ∈ WA := wa_of 1012 (by decide +kernel) (by decide +kernel)
theorem wm1013 : Cond.selects RX9 yX9_singleSteps yX9_singleSteps ∈ WA := wa_of 1013 (by decide +kernel) (by decide +kernel)
theorem lkL_157 : LkV RL 157 yX9_singleSteps cX9_singleSteps 1 (some .int) 0 := ⟨⟨wm38, wm1014, by decide +kernel, by decide +kernel, by decide +kernel⟩, wm1011, wm1012, wm1013⟩
theorem wm1018 : Cond.code yX9_across cX9_across 3 (some .int) ∈ WA := wa_of 1018 (by decide +kernel) (by decide +kernel)
theorem wm1015 : Cond.methodLink RL 160 yX9_across ∈ WA := wa_of 1015 (by decide +kernel) (by decide +kernel)
theorem wm1016 : Cond.instanceMethod yX9_across ∈ WA := wa_of 1016 (by decide +kernel) (by decide +kernel)
theorem wm1017 : Cond.selects RX9 yX9_across yX9_across ∈ WA := wa_of 1017 (by decide +kernel) (by decide +kernel)
theorem lkL_160 : LkV RL 160 yX9_across cX9_across 3 (some .int) 2 := ⟨⟨wm38, wm1018, by decide +kernel, by decide +kernel, by decide +kernel⟩, wm1015, wm1016, wm1017⟩
theorem wm378 : Cond.methodLink RL 161 yX8_foundDistance ∈ WA := wa_of 378 (by decide +kernel) (by decide +kernel)
theorem lkL_161 : LkV RL 161 yX8_foundDistance cX8_foundDistance 2 (some .int) 0 := ⟨⟨wm29, wm381, by decide +kernel, by decide +kernel, by decide +kernel⟩, wm378, wm379, wm380⟩
theorem wm1022 : Cond.code yX9_foundDistance cX9_foundDistance 1 (some .int) ∈ WA := wa_of 1022 (by decide +kernel) (by decide +kernel)
theorem wm1019 : Cond.methodLink RL 164 yX9_foundDistance ∈ WA := wa_of 1019 (by decide +kernel) (by decide +kernel)
theorem wm1020 : Cond.instanceMethod yX9_foundDistance ∈ WA := wa_of 1020 (by decide +kernel) (by decide +kernel)
theorem wm1021 : Cond.selects RX9 yX9_foundDistance yX9_foundDistance ∈ WA := wa_of 1021 (by decide +kernel) (by decide +kernel)
theorem lkL_164 : LkV RL 164 yX9_foundDistance cX9_foundDistance 1 (some .int) 0 := ⟨⟨wm38, wm1022, by decide +kernel, by decide +kernel, by decide +kernel⟩, wm1019, wm1020, wm1021⟩
theorem wm390 : Cond.methodLink RL 165 yX8_foundEnd ∈ WA := wa_of 390 (by decide +kernel) (by decide +kernel)
theorem lkL_165 : LkV RL 165 yX8_foundEnd cX8_foundEnd 6 (some .int) 0 := ⟨⟨wm29, wm385, by decide +kernel, by decide +kernel, by decide +kernel⟩, wm390, wm383, wm384⟩
theorem wm1030 : Cond.code yX9_foundEnd cX9_foundEnd 1 (some .int) ∈ WA := wa_of 1030 (by decide +kernel) (by decide +kernel)
theorem wm1027 : Cond.methodLink RL 168 yX9_foundEnd ∈ WA := wa_of 1027 (by decide +kernel) (by decide +kernel)
theorem wm1028 : Cond.instanceMethod yX9_foundEnd ∈ WA := wa_of 1028 (by decide +kernel) (by decide +kernel)
theorem wm1029 : Cond.selects RX9 yX9_foundEnd yX9_foundEnd ∈ WA := wa_of 1029 (by decide +kernel) (by decide +kernel)
theorem lkL_168 : LkV RL 168 yX9_foundEnd cX9_foundEnd 1 (some .int) 0 := ⟨⟨wm38, wm1030, by decide +kernel, by decide +kernel, by decide +kernel⟩, wm1027, wm1028, wm1029⟩
theorem wm1038 : Cond.code yX9_ifReplaced cX9_ifReplaced 4 (some .int) ∈ WA := wa_of 1038 (by decide +kernel) (by decide +kernel)
theorem wm1035 : Cond.methodLink RL 171 yX9_ifReplaced ∈ WA := wa_of 1035 (by decide +kernel) (by decide +kernel)
theorem wm1036 : Cond.instanceMethod yX9_ifReplaced ∈ WA := wa_of 1036 (by decide +kernel) (by decide +kernel)
theorem wm1037 : Cond.selects RX9 yX9_ifReplaced yX9_ifReplaced ∈ WA := wa_of 1037 (by decide +kernel) (by decide +kernel)
theorem lkL_171 : LkV RL 171 yX9_ifReplaced cX9_ifReplaced 4 (some .int) 3 := ⟨⟨wm38, wm1038, by decide +kernel, by decide +kernel, by decide +kernel⟩, wm1035, wm1036, wm1037⟩
theorem wm1046 : Cond.code yX9_bestReplacement cX9_bestReplacement 2 (some .int) ∈ WA := wa_of 1046 (by decide +kernel) (by decide +kernel)
theorem wm1043 : Cond.methodLink RL 174 yX9_bestReplacement ∈ WA := wa_of 1043 (by decide +kernel) (by decide +kernel)
theorem wm1044 : Cond.instanceMethod yX9_bestReplacement ∈ WA := wa_of 1044 (by decide +kernel) (by decide +kernel)
theorem wm1045 : Cond.selects RX9 yX9_bestReplacement yX9_bestReplacement ∈ WA := wa_of 1045 (by decide +kernel) (by decide +kernel)
theorem lkL_174 : LkV RL 174 yX9_bestReplacement cX9_bestReplacement 2 (some .int) 1 := ⟨⟨wm38, wm1046, by decide +kernel, by decide +kernel, by decide +kernel⟩, wm1043, wm1044, wm1045⟩
theorem wm391 : Cond.methodLink RL 175 yX8_missesToCome ∈ WA := wa_of 391 (by decide +kernel) (by decide +kernel)
theorem lkL_175 : LkV RL 175 yX8_missesToCome cX8_missesToCome 1 (some .int) 0 := ⟨⟨wm29, wm394, by decide +kernel, by decide +kernel, by decide +kernel⟩, wm391, wm392, wm393⟩
theorem wm1054 : Cond.code yX9_missesToCome cX9_missesToCome 1 (some .int) ∈ WA := wa_of 1054 (by decide +kernel) (by decide +kernel)
theorem wm1051 : Cond.methodLink RL 178 yX9_missesToCome ∈ WA := wa_of 1051 (by decide +kernel) (by decide +kernel)
theorem wm1052 : Cond.instanceMethod yX9_missesToCome ∈ WA := wa_of 1052 (by decide +kernel) (by decide +kernel)
theorem wm1053 : Cond.selects RX9 yX9_missesToCome yX9_missesToCome ∈ WA := wa_of 1053 (by decide +kernel) (by decide +kernel)
theorem lkL_178 : LkV RL 178 yX9_missesToCome cX9_missesToCome 1 (some .int) 0 := ⟨⟨wm38, wm1054, by decide +kernel, by decide +kernel, by decide +kernel⟩, wm1051, wm1052, wm1053⟩
theorem wm1058 : Cond.code yX9_append cX9_append 2 (some .int) ∈ WA := wa_of 1058 (by decide +kernel) (by decide +kernel)
theorem wm1055 : Cond.methodLink RL 181 yX9_append ∈ WA := wa_of 1055 (by decide +kernel) (by decide +kernel)
theorem wm1056 : Cond.instanceMethod yX9_append ∈ WA := wa_of 1056 (by decide +kernel) (by decide +kernel)
theorem wm1057 : Cond.selects RX9 yX9_append yX9_append ∈ WA := wa_of 1057 (by decide +kernel) (by decide +kernel)
theorem lkL_181 : LkV RL 181 yX9_append cX9_append 2 (some .int) 1 := ⟨⟨wm38, wm1058, by decide +kernel, by decide +kernel, by decide +kernel⟩, wm1055, wm1056, wm1057⟩
theorem wm405 : Cond.code yX8_clearBuffer cX8_clearBuffer 2 (some .int) ∈ WA := wa_of 405 (by decide +kernel) (by decide +kernel)
theorem wm402 : Cond.methodLink RL 182 yX8_clearBuffer ∈ WA := wa_of 402 (by decide +kernel) (by decide +kernel)
theorem wm403 : Cond.instanceMethod yX8_clearBuffer ∈ WA := wa_of 403 (by decide +kernel) (by decide +kernel)
theorem wm404 : Cond.selects RX8 yX8_clearBuffer yX8_clearBuffer ∈ WA := wa_of 404 (by decide +kernel) (by decide +kernel)
theorem lkL_182 : LkV RL 182 yX8_clearBuffer cX8_clearBuffer 2 (some .int) 0 := ⟨⟨wm29, wm405, by decide +kernel, by decide +kernel, by decide +kernel⟩, wm402, wm403, wm404⟩
theorem wm1062 : Cond.code yX9_clearBuffer cX9_clearBuffer 2 (some .int) ∈ WA := wa_of 1062 (by decide +kernel) (by decide +kernel)
theorem wm1059 : Cond.methodLink RL 185 yX9_clearBuffer ∈ WA := wa_of 1059 (by decide +kernel) (by decide +kernel)
theorem wm1060 : Cond.instanceMethod yX9_clearBuffer ∈ WA := wa_of 1060 (by decide +kernel) (by decide +kernel)
theorem wm1061 : Cond.selects RX9 yX9_clearBuffer yX9_clearBuffer ∈ WA := wa_of 1061 (by decide +kernel) (by decide +kernel)
theorem lkL_185 : LkV RL 185 yX9_clearBuffer cX9_clearBuffer 2 (some .int) 0 := ⟨⟨wm38, wm1062, by decide +kernel, by decide +kernel, by decide +kernel⟩, wm1059, wm1060, wm1061⟩
theorem wm417 : Cond.code yX8_firstError cX8_firstError 1 (some .int) ∈ WA := wa_of 417 (by decide +kernel) (by decide +kernel)
theorem wm414 : Cond.methodLink RL 186 yX8_firstError ∈ WA := wa_of 414 (by decide +kernel) (by decide +kernel)
theorem wm415 : Cond.instanceMethod yX8_firstError ∈ WA := wa_of 415 (by decide +kernel) (by decide +kernel)
theorem wm416 : Cond.selects RX8 yX8_firstError yX8_firstError ∈ WA := wa_of 416 (by decide +kernel) (by decide +kernel)
theorem lkL_186 : LkV RL 186 yX8_firstError cX8_firstError 1 (some .int) 0 := ⟨⟨wm29, wm417, by decide +kernel, by decide +kernel, by decide +kernel⟩, wm414, wm415, wm416⟩
theorem wm1066 : Cond.code yX9_firstError cX9_firstError 1 (some .int) ∈ WA := wa_of 1066 (by decide +kernel) (by decide +kernel)
theorem wm1063 : Cond.methodLink RL 189 yX9_firstError ∈ WA := wa_of 1063 (by decide +kernel) (by decide +kernel)
theorem wm1064 : Cond.instanceMethod yX9_firstError ∈ WA := wa_of 1064 (by decide +kernel) (by decide +kernel)
theorem wm1065 : Cond.selects RX9 yX9_firstError yX9_firstError ∈ WA := wa_of 1065 (by decide +kernel) (by decide +kernel)
theorem lkL_189 : LkV RL 189 yX9_firstError cX9_firstError 1 (some .int) 0 := ⟨⟨wm38, wm1066, by decide +kernel, by decide +kernel, by decide +kernel⟩, wm1063, wm1064, wm1065⟩
theorem wm1070 : Cond.code yX9_undo cX9_undo 2 (some .int) ∈ WA := wa_of 1070 (by decide +kernel) (by decide +kernel)
theorem wm1067 : Cond.methodLink RL 192 yX9_undo ∈ WA := wa_of 1067 (by decide +kernel) (by decide +kernel)
theorem wm1068 : Cond.instanceMethod yX9_undo ∈ WA := wa_of 1068 (by decide +kernel) (by decide +kernel)
theorem wm1069 : Cond.selects RX9 yX9_undo yX9_undo ∈ WA := wa_of 1069 (by decide +kernel) (by decide +kernel)
theorem lkL_192 : LkV RL 192 yX9_undo cX9_undo 2 (some .int) 0 := ⟨⟨wm38, wm1070, by decide +kernel, by decide +kernel, by decide +kernel⟩, wm1067, wm1068, wm1069⟩
theorem wm428 : Cond.code yX8_savedStates cX8_savedStates 1 (some .int) ∈ WA := wa_of 428 (by decide +kernel) (by decide +kernel)
theorem wm425 : Cond.methodLink RL 193 yX8_savedStates ∈ WA := wa_of 425 (by decide +kernel) (by decide +kernel)
theorem wm426 : Cond.instanceMethod yX8_savedStates ∈ WA := wa_of 426 (by decide +kernel) (by decide +kernel)
theorem wm427 : Cond.selects RX8 yX8_savedStates yX8_savedStates ∈ WA := wa_of 427 (by decide +kernel) (by decide +kernel)
theorem lkL_193 : LkV RL 193 yX8_savedStates cX8_savedStates 1 (some .int) 0 := ⟨⟨wm29, wm428, by decide +kernel, by decide +kernel, by decide +kernel⟩, wm425, wm426, wm427⟩
theorem wm1074 : Cond.code yX9_savedStates cX9_savedStates 1 (some .int) ∈ WA := wa_of 1074 (by decide +kernel) (by decide +kernel)
theorem wm1071 : Cond.methodLink RL 196 yX9_savedStates ∈ WA := wa_of 1071 (by decide +kernel) (by decide +kernel)
theorem wm1072 : Cond.instanceMethod yX9_savedStates ∈ WA := wa_of 1072 (by decide +kernel) (by decide +kernel)
theorem wm1073 : Cond.selects RX9 yX9_savedStates yX9_savedStates ∈ WA := wa_of 1073 (by decide +kernel) (by decide +kernel)
theorem lkL_196 : LkV RL 196 yX9_savedStates cX9_savedStates 1 (some .int) 0 := ⟨⟨wm38, wm1074, by decide +kernel, by decide +kernel, by decide +kernel⟩, wm1071, wm1072, wm1073⟩
theorem wm436 : Cond.code yX8_digest cX8_digest 3 (some .long) ∈ WA := wa_of 436 (by decide +kernel) (by decide +kernel)
theorem wm433 : Cond.methodLink RL 197 yX8_digest ∈ WA := wa_of 433 (by decide +kernel) (by decide +kernel)
theorem wm434 : Cond.instanceMethod yX8_digest ∈ WA := wa_of 434 (by decide +kernel) (by decide +kernel)
theorem wm435 : Cond.selects RX8 yX8_digest yX8_digest ∈ WA := wa_of 435 (by decide +kernel) (by decide +kernel)
theorem lkL_197 : LkV RL 197 yX8_digest cX8_digest 3 (some .long) 0 := ⟨⟨wm29, wm436, by decide +kernel, by decide +kernel, by decide +kernel⟩, wm433, wm434, wm435⟩
theorem wm1078 : Cond.code yX9_digest cX9_digest 5 (some .long) ∈ WA := wa_of 1078 (by decide +kernel) (by decide +kernel)
theorem wm1075 : Cond.methodLink RL 201 yX9_digest ∈ WA := wa_of 1075 (by decide +kernel) (by decide +kernel)
theorem wm1076 : Cond.instanceMethod yX9_digest ∈ WA := wa_of 1076 (by decide +kernel) (by decide +kernel)
theorem wm1077 : Cond.selects RX9 yX9_digest yX9_digest ∈ WA := wa_of 1077 (by decide +kernel) (by decide +kernel)
theorem lkL_201 : LkV RL 201 yX9_digest cX9_digest 5 (some .long) 0 := ⟨⟨wm38, wm1078, by decide +kernel, by decide +kernel, by decide +kernel⟩, wm1075, wm1076, wm1077⟩
theorem wm67 : Cond.fieldLink RX6 9 "BlockDistance$Text" "letters" "[I" ∈ WA := wa_of 67 (by decide +kernel) (by decide +kernel)
theorem wm68 : Cond.fieldLink RX6 15 "BlockDistance$Text" "size" "I" ∈ WA := wa_of 68 (by decide +kernel) (by decide +kernel)
theorem wm75 : Cond.fieldLink RX5 12 "BlockDistance$State" "first" "LBlockDistance$Text;" ∈ WA := wa_of 75 (by decide +kernel) (by decide +kernel)
theorem wm76 : Cond.fieldLink RX5 18 "BlockDistance$State" "second" "LBlockDistance$Text;" ∈ WA := wa_of 76 (by decide +kernel) (by decide +kernel)
theorem wm77 : Cond.fieldLink RX5 21 "BlockDistance$State" "alphabet" "I" ∈ WA := wa_of 77 (by decide +kernel) (by decide +kernel)
theorem wm93 : Cond.fieldLink RX4 11 "BlockDistance$SavedStates" "states" "[LBlockDistance$State;" ∈ WA := wa_of 93 (by decide +kernel) (by decide +kernel)
theorem wm94 : Cond.fieldLink RX4 17 "BlockDistance$SavedStates" "oldest" "I" ∈ WA := wa_of 94 (by decide +kernel) (by decide +kernel)
theorem wm95 : Cond.fieldLink RX4 21 "BlockDistance$SavedStates" "size" "I" ∈ WA := wa_of 95 (by decide +kernel) (by decide +kernel)
theorem wm109 : Cond.fieldLink RX2 9 "BlockDistance$InputBuffer" "codes" "[I" ∈ WA := wa_of 109 (by decide +kernel) (by decide +kernel)
theorem wm110 : Cond.fieldLink RX2 15 "BlockDistance$InputBuffer" "size" "I" ∈ WA := wa_of 110 (by decide +kernel) (by decide +kernel)
theorem wm122 : Cond.fieldLink RX1 11 "BlockDistance$Grid" "cells" "[I" ∈ WA := wa_of 122 (by decide +kernel) (by decide +kernel)
theorem wm132 : Cond.fieldLink RX7 11 "BlockDistance$Way" "backward" "[I" ∈ WA := wa_of 132 (by decide +kernel) (by decide +kernel)
theorem wm133 : Cond.fieldLink RX7 15 "BlockDistance$Way" "size" "I" ∈ WA := wa_of 133 (by decide +kernel) (by decide +kernel)
theorem wm145 : Cond.fieldLink RX0 11 "BlockDistance$BlockTable" "met" "[J" ∈ WA := wa_of 145 (by decide +kernel) (by decide +kernel)
theorem wm146 : Cond.fieldLink RX0 15 "BlockDistance$BlockTable" "blockSize" "I" ∈ WA := wa_of 146 (by decide +kernel) (by decide +kernel)
theorem wm147 : Cond.fieldLink RX0 19 "BlockDistance$BlockTable" "hitCount" "I" ∈ WA := wa_of 147 (by decide +kernel) (by decide +kernel)
theorem wm148 : Cond.fieldLink RX0 22 "BlockDistance$BlockTable" "missCount" "I" ∈ WA := wa_of 148 (by decide +kernel) (by decide +kernel)
theorem wm149 : Cond.fieldLink RX0 25 "BlockDistance$BlockTable" "singleCount" "I" ∈ WA := wa_of 149 (by decide +kernel) (by decide +kernel)
theorem wm172 : Cond.fieldLink RX3 12 "BlockDistance$Replacements" "before" "LBlockDistance$Grid;" ∈ WA := wa_of 172 (by decide +kernel) (by decide +kernel)
theorem wm173 : Cond.fieldLink RX3 18 "BlockDistance$Replacements" "behind" "LBlockDistance$Grid;" ∈ WA := wa_of 173 (by decide +kernel) (by decide +kernel)
theorem wm174 : Cond.fieldLink RX3 24 "BlockDistance$Replacements" "changedBackward" "LBlockDistance$Text;" ∈ WA := wa_of 174 (by decide +kernel) (by decide +kernel)
theorem wm175 : Cond.fieldLink RX3 28 "BlockDistance$Replacements" "otherBackward" "LBlockDistance$Text;" ∈ WA := wa_of 175 (by decide +kernel) (by decide +kernel)
theorem wm185 : Cond.fieldLink RX8 10 "BlockDistance" "state" "LBlockDistance$State;" ∈ WA := wa_of 185 (by decide +kernel) (by decide +kernel)
theorem wm186 : Cond.fieldLink RX8 19 "BlockDistance" "saved" "LBlockDistance$SavedStates;" ∈ WA := wa_of 186 (by decide +kernel) (by decide +kernel)
theorem wm187 : Cond.fieldLink RX8 26 "BlockDistance" "buffer" "LBlockDistance$InputBuffer;" ∈ WA := wa_of 187 (by decide +kernel) (by decide +kernel)
theorem wm188 : Cond.fieldLink RX8 33 "BlockDistance" "distances" "LBlockDistance$Grid;" ∈ WA := wa_of 188 (by decide +kernel) (by decide +kernel)
theorem wm189 : Cond.fieldLink RX8 37 "BlockDistance" "search" "LBlockDistance$Grid;" ∈ WA := wa_of 189 (by decide +kernel) (by decide +kernel)
theorem wm190 : Cond.fieldLink RX8 43 "BlockDistance" "way" "LBlockDistance$Way;" ∈ WA := wa_of 190 (by decide +kernel) (by decide +kernel)
theorem wm191 : Cond.fieldLink RX8 50 "BlockDistance" "table" "LBlockDistance$BlockTable;" ∈ WA := wa_of 191 (by decide +kernel) (by decide +kernel)
theorem wm192 : Cond.fieldLink RX8 54 "BlockDistance" "trialTable" "LBlockDistance$BlockTable;" ∈ WA := wa_of 192 (by decide +kernel) (by decide +kernel)
theorem wm193 : Cond.fieldLink RX8 60 "BlockDistance" "replacements" "LBlockDistance$Replacements;" ∈ WA := wa_of 193 (by decide +kernel) (by decide +kernel)
theorem wm811 : Cond.fieldLink RX9 7 "BlockDistanceModel" "s" "[I" ∈ WA := wa_of 811 (by decide +kernel) (by decide +kernel)
theorem wm812 : Cond.fieldLink RX9 13 "BlockDistanceModel" "before" "[I" ∈ WA := wa_of 812 (by decide +kernel) (by decide +kernel)
theorem wm813 : Cond.fieldLink RX9 39 "BlockDistanceModel" "known" "I" ∈ WA := wa_of 813 (by decide +kernel) (by decide +kernel)
theorem wm814 : Cond.fieldLink RX9 16 "BlockDistanceModel" "block" "I" ∈ WA := wa_of 814 (by decide +kernel) (by decide +kernel)
theorem wm815 : Cond.fieldLink RX9 20 "BlockDistanceModel" "isMet" "[Z" ∈ WA := wa_of 815 (by decide +kernel) (by decide +kernel)
theorem wm816 : Cond.fieldLink RX9 24 "BlockDistanceModel" "foretold" "[I" ∈ WA := wa_of 816 (by decide +kernel) (by decide +kernel)
theorem wm817 : Cond.fieldLink RX9 67 "BlockDistanceModel" "foretelling" "I" ∈ WA := wa_of 817 (by decide +kernel) (by decide +kernel)
theorem wm818 : Cond.fieldLink RX9 73 "BlockDistanceModel" "hits" "I" ∈ WA := wa_of 818 (by decide +kernel) (by decide +kernel)
theorem wm819 : Cond.fieldLink RX9 76 "BlockDistanceModel" "misses" "I" ∈ WA := wa_of 819 (by decide +kernel) (by decide +kernel)
theorem wm820 : Cond.fieldLink RX9 79 "BlockDistanceModel" "singles" "I" ∈ WA := wa_of 820 (by decide +kernel) (by decide +kernel)
theorem wm821 : Cond.fieldLink RX9 27 "BlockDistanceModel" "buffer" "[I" ∈ WA := wa_of 821 (by decide +kernel) (by decide +kernel)
theorem wm822 : Cond.fieldLink RX9 92 "BlockDistanceModel" "length" "I" ∈ WA := wa_of 822 (by decide +kernel) (by decide +kernel)
theorem wm823 : Cond.fieldLink RX9 36 "BlockDistanceModel" "thrown" "I" ∈ WA := wa_of 823 (by decide +kernel) (by decide +kernel)
theorem wm824 : Cond.fieldLink RX9 30 "BlockDistanceModel" "grid" "[I" ∈ WA := wa_of 824 (by decide +kernel) (by decide +kernel)
theorem wm825 : Cond.fieldLink RX9 33 "BlockDistanceModel" "way" "[I" ∈ WA := wa_of 825 (by decide +kernel) (by decide +kernel)
theorem wm826 : Cond.fieldLink RX9 64 "BlockDistanceModel" "steps" "I" ∈ WA := wa_of 826 (by decide +kernel) (by decide +kernel)
theorem wm827 : Cond.fieldLink RX9 82 "BlockDistanceModel" "place" "I" ∈ WA := wa_of 827 (by decide +kernel) (by decide +kernel)
theorem wm828 : Cond.fieldLink RX9 85 "BlockDistanceModel" "isWrong" "Z" ∈ WA := wa_of 828 (by decide +kernel) (by decide +kernel)
theorem wm829 : Cond.fieldLink RX9 89 "BlockDistanceModel" "bar" "I" ∈ WA := wa_of 829 (by decide +kernel) (by decide +kernel)
theorem wm47 : Cond.classLink RL 8 RX8 ∈ WA := wa_of 47 (by decide +kernel) (by decide +kernel)
theorem wm55 : Cond.classLink RX8 7 RX5 ∈ WA := wa_of 55 (by decide +kernel) (by decide +kernel)
theorem wm61 : Cond.classLink RX5 9 RX6 ∈ WA := wa_of 61 (by decide +kernel) (by decide +kernel)
theorem wm85 : Cond.classLink RX8 16 RX4 ∈ WA := wa_of 85 (by decide +kernel) (by decide +kernel)
theorem wm91 : Cond.classLink RX4 9 RX5 ∈ WA := wa_of 91 (by decide +kernel) (by decide +kernel)
theorem wm103 : Cond.classLink RX8 23 RX2 ∈ WA := wa_of 103 (by decide +kernel) (by decide +kernel)
theorem wm116 : Cond.classLink RX8 30 RX1 ∈ WA := wa_of 116 (by decide +kernel) (by decide +kernel)
theorem wm126 : Cond.classLink RX8 40 RX7 ∈ WA := wa_of 126 (by decide +kernel) (by decide +kernel)
theorem wm139 : Cond.classLink RX8 47 RX0 ∈ WA := wa_of 139 (by decide +kernel) (by decide +kernel)
theorem wm162 : Cond.classLink RX8 57 RX3 ∈ WA := wa_of 162 (by decide +kernel) (by decide +kernel)
theorem wm168 : Cond.classLink RX3 9 RX1 ∈ WA := wa_of 168 (by decide +kernel) (by decide +kernel)
theorem wm170 : Cond.classLink RX3 21 RX6 ∈ WA := wa_of 170 (by decide +kernel) (by decide +kernel)
theorem wm468 : Cond.classLink RX8 103 "java/lang/IndexOutOfBoundsException" ∈ WA := wa_of 468 (by decide +kernel) (by decide +kernel)
theorem wm563 : Cond.classLink RL 13 "java/lang/IllegalArgumentException" ∈ WA := wa_of 563 (by decide +kernel) (by decide +kernel)
theorem wm581 : Cond.classLink RX8 76 "java/lang/IllegalArgumentException" ∈ WA := wa_of 581 (by decide +kernel) (by decide +kernel)
theorem wm608 : Cond.classLink RL 19 "java/lang/IndexOutOfBoundsException" ∈ WA := wa_of 608 (by decide +kernel) (by decide +kernel)
theorem wm609 : Cond.classLink RL 21 "java/lang/IllegalStateException" ∈ WA := wa_of 609 (by decide +kernel) (by decide +kernel)
theorem wm620 : Cond.classLink RX8 112 "java/lang/IllegalStateException" ∈ WA := wa_of 620 (by decide +kernel) (by decide +kernel)
theorem wm805 : Cond.classLink RL 74 RX9 ∈ WA := wa_of 805 (by decide +kernel) (by decide +kernel)
theorem wm28 : Cond.initialized RL ∈ WA := wa_of 28 (by decide +kernel) (by decide +kernel)
theorem wm39 : Cond.initialized "java/lang/Throwable" ∈ WA := wa_of 39 (by decide +kernel) (by decide +kernel)
theorem wm40 : Cond.initialized "java/lang/Exception" ∈ WA := wa_of 40 (by decide +kernel) (by decide +kernel)
theorem wm41 : Cond.initialized "java/lang/RuntimeException" ∈ WA := wa_of 41 (by decide +kernel) (by decide +kernel)
theorem wm42 : Cond.initialized "java/lang/IllegalArgumentException" ∈ WA := wa_of 42 (by decide +kernel) (by decide +kernel)
theorem wm43 : Cond.initialized "java/lang/IndexOutOfBoundsException" ∈ WA := wa_of 43 (by decide +kernel) (by decide +kernel)
theorem wm44 : Cond.initialized "java/lang/IllegalStateException" ∈ WA := wa_of 44 (by decide +kernel) (by decide +kernel)
theorem wm45 : Cond.initialized "java/lang/Math" ∈ WA := wa_of 45 (by decide +kernel) (by decide +kernel)
theorem wm46 : Cond.initialized "java/lang/System" ∈ WA := wa_of 46 (by decide +kernel) (by decide +kernel)
theorem wm48 : Cond.instantiable RX8 9 ∈ WA := wa_of 48 (by decide +kernel) (by decide +kernel)
theorem wm56 : Cond.instantiable RX5 3 ∈ WA := wa_of 56 (by decide +kernel) (by decide +kernel)
theorem wm62 : Cond.instantiable RX6 2 ∈ WA := wa_of 62 (by decide +kernel) (by decide +kernel)
theorem wm74 : Cond.arrayClass .int ∈ WA := wa_of 74 (by decide +kernel) (by decide +kernel)
theorem wm86 : Cond.instantiable RX4 3 ∈ WA := wa_of 86 (by decide +kernel) (by decide +kernel)
theorem wm104 : Cond.instantiable RX2 2 ∈ WA := wa_of 104 (by decide +kernel) (by decide +kernel)
theorem wm117 : Cond.instantiable RX1 1 ∈ WA := wa_of 117 (by decide +kernel) (by decide +kernel)
theorem wm127 : Cond.instantiable RX7 2 ∈ WA := wa_of 127 (by decide +kernel) (by decide +kernel)
theorem wm140 : Cond.instantiable RX0 5 ∈ WA := wa_of 140 (by decide +kernel) (by decide +kernel)
theorem wm161 : Cond.arrayClass .long ∈ WA := wa_of 161 (by decide +kernel) (by decide +kernel)
theorem wm163 : Cond.instantiable RX3 4 ∈ WA := wa_of 163 (by decide +kernel) (by decide +kernel)
theorem wm437 : Cond.constantLong RX8 248 4194 ∈ WA := wa_of 437 (by decide +kernel) (by decide +kernel)
theorem wm442 : Cond.constantLong RX8 287 31 ∈ WA := wa_of 442 (by decide +kernel) (by decide +kernel)
theorem wm535 : Cond.arrayClass .byte ∈ WA := wa_of 535 (by decide +kernel) (by decide +kernel)
theorem wm545 : Cond.constant RX8 223 2147483647 ∈ WA := wa_of 545 (by decide +kernel) (by decide +kernel)
theorem wm806 : Cond.instantiable RX9 19 ∈ WA := wa_of 806 (by decide +kernel) (by decide +kernel)
theorem wm869 : Cond.arrayClass .boolean ∈ WA := wa_of 869 (by decide +kernel) (by decide +kernel)
theorem wm1079 : Cond.constantLong RX9 135 4194 ∈ WA := wa_of 1079 (by decide +kernel) (by decide +kernel)
theorem wm1080 : Cond.constantLong RX9 137 31 ∈ WA := wa_of 1080 (by decide +kernel) (by decide +kernel)
theorem wm323 : Cond.static Lib.Math.max.name ∈ WA := wa_of 323 (by decide +kernel) (by decide +kernel)
theorem wm324 : Cond.code Lib.Math.max.name Lib.Math.max.code 2 (some .int) ∈ WA := wa_of 324 (by decide +kernel) (by decide +kernel)
theorem wm292 : Cond.static Lib.Math.min.name ∈ WA := wa_of 292 (by decide +kernel) (by decide +kernel)
theorem wm293 : Cond.code Lib.Math.min.name Lib.Math.min.code 2 (some .int) ∈ WA := wa_of 293 (by decide +kernel) (by decide +kernel)
theorem wm52 : Cond.methodLink RX8 1 objectInit ∈ WA := wa_of 52 (by decide +kernel) (by decide +kernel)
theorem wm60 : Cond.methodLink RX5 3 objectInit ∈ WA := wa_of 60 (by decide +kernel) (by decide +kernel)
theorem wm66 : Cond.methodLink RX6 3 objectInit ∈ WA := wa_of 66 (by decide +kernel) (by decide +kernel)
theorem wm90 : Cond.methodLink RX4 3 objectInit ∈ WA := wa_of 90 (by decide +kernel) (by decide +kernel)
theorem wm108 : Cond.methodLink RX2 3 objectInit ∈ WA := wa_of 108 (by decide +kernel) (by decide +kernel)
theorem wm121 : Cond.methodLink RX1 3 objectInit ∈ WA := wa_of 121 (by decide +kernel) (by decide +kernel)
theorem wm131 : Cond.methodLink RX7 3 objectInit ∈ WA := wa_of 131 (by decide +kernel) (by decide +kernel)
theorem wm144 : Cond.methodLink RX0 5 objectInit ∈ WA := wa_of 144 (by decide +kernel) (by decide +kernel)
theorem wm167 : Cond.methodLink RX3 3 objectInit ∈ WA := wa_of 167 (by decide +kernel) (by decide +kernel)
theorem wm291 : Cond.methodLink RX8 181 Lib.Math.min.name ∈ WA := wa_of 291 (by decide +kernel) (by decide +kernel)
theorem wm322 : Cond.methodLink RX8 176 Lib.Math.max.name ∈ WA := wa_of 322 (by decide +kernel) (by decide +kernel)
theorem wm334 : Cond.methodLink RX0 34 Lib.Math.max.name ∈ WA := wa_of 334 (by decide +kernel) (by decide +kernel)
theorem wm336 : Cond.methodLink RX0 46 Lib.Math.min.name ∈ WA := wa_of 336 (by decide +kernel) (by decide +kernel)
theorem wm399 : Cond.methodLink RX0 28 arraycopyName ∈ WA := wa_of 399 (by decide +kernel) (by decide +kernel)
theorem wm555 : Cond.methodLink RX3 57 Lib.Math.min.name ∈ WA := wa_of 555 (by decide +kernel) (by decide +kernel)
theorem wm810 : Cond.methodLink RX9 1 objectInit ∈ WA := wa_of 810 (by decide +kernel) (by decide +kernel)
theorem wm53 : Cond.instanceMethod objectInit ∈ WA := wa_of 53 (by decide +kernel) (by decide +kernel)
theorem wm54 : Cond.code objectInit ⟨#[0xb1]⟩ 1 none ∈ WA := wa_of 54 (by decide +kernel) (by decide +kernel)
theorem wm400 : Cond.static arraycopyName ∈ WA := wa_of 400 (by decide +kernel) (by decide +kernel)
theorem wm401 : Cond.native arraycopyName ∈ WA := wa_of 401 (by decide +kernel) (by decide +kernel)
end
section
/-! arrays that are made; fields of truth; values that are told anew -/
section MK
variable {p : Program} {l : Launch} {e : Env} {R : Room} {s : State} {m : MethodId} {args : Array Value} {below : List Frame} {meth : Method} {c : Code} {H : Heap} {locs : List Loc} {cells slots : Nat} {Q : State → Prop} {cc : ByteArray} {pc : Nat} {ls : Array Slot} {rest : List Value}
variable {G : GG} {ws : va_W} {A : Nat → Prop} {H0 : Heap}
theorem jv_to {z z' : Int} (h : z = z') (k : W p l e R s m args below meth c H locs cells slots Q (F0 m pc ls (.int (jz z') :: rest))) : W p l e R s m args below meth c H locs cells slots Q (F0 m pc ls (.int (jz z) :: rest)) := h ▸ k
theorem jz_bit {v : Int} (h : v = 0 ∨ v = 1) : jz v &&& 1 = jz v := by rcases h with h | h <;> rw [h] <;> decide
theorem jz_nb {v : Int} (h : v = 0 ∨ v = 1) : narrow .boolean (.int (jz v)) = .int (jz v) := by rcases h with h | h <;> rw [h] <;> decide
theorem jz_fb {v : Int} (h : v = 0 ∨ v = 1) : fits .boolean (.int (jz v)) = true := by rcases h with h | h <;> rw [h] <;> decide
theorem K0_cls {U : State} {cA cB : ClassId} {ty : FieldType} (h1 : va_RA U cA ty) (h2 : va_RA U cB ty) : cA = cB := by
  cases ty with
  | object C =>
    obtain ⟨-, -, -, -, -, e1⟩ := h1
    obtain ⟨-, -, -, -, -, e2⟩ := h2
    exact Option.some.inj (e1.symm.trans e2)
  | _ => exact Option.some.inj (Eq.trans (Eq.symm h1) h2)
theorem jz_0 : jz 0 = 0 := by decide
theorem jv_newi (hx : p.tables.exec = Jvm.exec) (hb : c.code = cc) (hts : ∀ w ∈ WA, w.before args s = true) (hK : K0 G s) (hP : va_P G.1 vwCl ws H) (hD : va_D A ws) (hS : va_S A H0 H locs) (hA : ∀ q : Nat, H0.size ≤ q → A q) {z : Int} (N : Nat) (hz : z = N) (hN : N < 1000000) (hcells : cells + 1 ≤ R.cells) (hslots : slots + N ≤ R.slots) (hm : Cond.arrayClass .int ∈ WA) (hdg : decode cc pc = .ok (.newarray .int, 2))
    (kk : ∀ (q : Nat) (H1 : Heap), va_P G.1 vwCl (ws ++ [(q, ja G N (fun _ => 0))]) H1 → va_D A (ws ++ [(q, ja G N (fun _ => 0))]) → va_S A H0 H1 locs → W p l e R s m args below meth c H1 locs (cells + 1) (slots + N) Q (F0 m (pc + 2) ls (.ref q :: rest))) : W p l e R s m args below meth c H locs cells slots Q (F0 m pc ls (.int (jz z) :: rest)) := by
  subst hz
  refine va_newa (atype := .int) (ty := .int) (a0 := (N, .inl (fun _ => jz 0))) (N' := N) hx hb (hts _ hm) rfl hK hP hD hS hA (fun cA => by rw [vp_cell_i, jz_0]; rfl) ?_ (by rw [jz_clamp (by omega)]; omega) (by show N * 4 ≤ _; omega) hcells hslots hdg ?_
  · intro h
    have h8 : jz (N : Int) < jz 0 := h
    rw [jz_lt (by omega) (by omega)] at h8
    omega
  · intro q cA H1 hK1 hP1 hD1 hS1
    have e : cA = G.2.1 := K0_cls (hK1.2 4 _ rfl).2 (hK1.2 0 _ rfl).2
    subst e
    exact kk q H1 hP1 hD1 hS1
theorem jv_newz (hx : p.tables.exec = Jvm.exec) (hb : c.code = cc) (hts : ∀ w ∈ WA, w.before args s = true) (hK : K0 G s) (hP : va_P G.1 vwCl ws H) (hD : va_D A ws) (hS : va_S A H0 H locs) (hA : ∀ q : Nat, H0.size ≤ q → A q) {z : Int} (N : Nat) (hz : z = N) (hN : N < 1000000) (hcells : cells + 1 ≤ R.cells) (hslots : slots + N ≤ R.slots) (hm : Cond.arrayClass .boolean ∈ WA) (hdg : decode cc pc = .ok (.newarray .boolean, 2))
    (kk : ∀ (q : Nat) (H1 : Heap), va_P G.1 vwCl (ws ++ [(q, jb G N (fun _ => 0))]) H1 → va_D A (ws ++ [(q, jb G N (fun _ => 0))]) → va_S A H0 H1 locs → W p l e R s m args below meth c H1 locs (cells + 1) (slots + N) Q (F0 m (pc + 2) ls (.ref q :: rest))) : W p l e R s m args below meth c H locs cells slots Q (F0 m pc ls (.int (jz z) :: rest)) := by
  subst hz
  refine va_newa (atype := .boolean) (ty := .boolean) (a0 := (N, .inl (fun _ => jz 0))) (N' := N) hx hb (hts _ hm) rfl hK hP hD hS hA (fun cA => by rw [vp_cell_i, jz_0]; rfl) ?_ (by rw [jz_clamp (by omega)]; omega) (by show N * 1 ≤ _; omega) hcells hslots hdg ?_
  · intro h
    have h8 : jz (N : Int) < jz 0 := h
    rw [jz_lt (by omega) (by omega)] at h8
    omega
  · intro q cA H1 hK1 hP1 hD1 hS1
    have e : cA = G.2.2.2.1 := K0_cls (hK1.2 4 _ rfl).2 (hK1.2 2 _ rfl).2
    subst e
    exact kk q H1 hP1 hD1 hS1
theorem jv_newl (hx : p.tables.exec = Jvm.exec) (hb : c.code = cc) (hts : ∀ w ∈ WA, w.before args s = true) (hK : K0 G s) (hP : va_P G.1 vwCl ws H) (hD : va_D A ws) (hS : va_S A H0 H locs) (hA : ∀ q : Nat, H0.size ≤ q → A q) {z : Int} (N : Nat) (hz : z = N) (hN : N < 1000000) (hcells : cells + 1 ≤ R.cells) (hslots : slots + N ≤ R.slots) (hm : Cond.arrayClass .long ∈ WA) (hdg : decode cc pc = .ok (.newarray .long, 2))
    (kk : ∀ (q : Nat) (H1 : Heap), va_P G.1 vwCl (ws ++ [(q, jl G N (fun _ => 0))]) H1 → va_D A (ws ++ [(q, jl G N (fun _ => 0))]) → va_S A H0 H1 locs → W p l e R s m args below meth c H1 locs (cells + 1) (slots + N) Q (F0 m (pc + 2) ls (.ref q :: rest))) : W p l e R s m args below meth c H locs cells slots Q (F0 m pc ls (.int (jz z) :: rest)) := by
  subst hz
  refine va_newa (atype := .long) (ty := .long) (a0 := (N, .inr (.inl (fun _ => 0)))) (N' := N) hx hb (hts _ hm) rfl hK hP hD hS hA (fun cA => by rw [vp_cell_l]; rfl) ?_ (by rw [jz_clamp (by omega)]; omega) (by show N * 8 ≤ _; omega) hcells hslots hdg ?_
  · intro h
    have h8 : jz (N : Int) < jz 0 := h
    rw [jz_lt (by omega) (by omega)] at h8
    omega
  · intro q cA H1 hK1 hP1 hD1 hS1
    have e : cA = G.2.2.1 := K0_cls (hK1.2 4 _ rfl).2 (hK1.2 1 _ rfl).2
    subst e
    exact kk q H1 hP1 hD1 hS1
end MK
/-! pictures of the state -/
def insF (g : Int → Int) (i n v : Int) : Int → Int := fun j => if j = i then v else if i < j ∧ j ≤ n then g (j - 1) else g j
def delF (g : Int → Int) (i n : Int) : Int → Int := fun j => if i ≤ j ∧ j < n - 1 then g (j + 1) else g j
end
section
/-! contracts of methods that return or throw -/
def XK (A : Nat → Prop) (U : State) (H : Heap) : Prop := vx_Zq Bundle.tN "UNASSIGNED_STACK" Bundle.steD A U H ∧ vx_Zq Bundle.tN "SUPPRESSED_SENTINEL" Bundle.listD A U H
def xPre (G : GG) (av : List Value) (bs : List va_W) (sz : Nat) : Array Value → State → Prop := va_Pc av (fun U => U.heap.size = sz ∧ wP G bs U.heap ∧ KK G U ∧ wD (fun _ => True) bs ∧ XK (va_A bs.flatten sz) U U.heap)
def xC (G : GG) (A : Nat → Prop) (bs : List va_W) (pE : String → Prop) : String → State → State → Prop := fun E st t => pE E ∧ wP G bs t.heap ∧ wD A bs ∧ va_F A st t
/-- method y returns as Ct says, or throws an E of which pE holds, and the blocks are as they were -/
def Xt {S : Type} (l : Launch) (y : MethodName) (cc : ByteArray) (maxL : Nat) (ret : Option FieldType) (rm : Room) (G : GG) (av : List Value) (bs : List va_W) (rv : S → Option Value) (post : S → Prop) (bw : S → List va_W) (pE : String → Prop) : Prop :=
  ∀ sz : Nat, vx_Met l y (wz y cc maxL ret) rm (xPre G av bs sz) (cQ G (va_A bs.flatten sz) rv post bw) (xC G (va_A bs.flatten sz) bs pE) rm.cells rm.slots (va_A bs.flatten sz)
theorem XK.same {A : Nat → Prop} {u U : State} {H : Heap} (hv : U.vm = u.vm) (h : XK A u H) : XK A U H := ⟨vx_Zq.moved (by rw [hv]; exact Vm.Alike.refl _) h.1, vx_Zq.moved (by rw [hv]; exact Vm.Alike.refl _) h.2⟩
theorem xPre_blind {G : GG} {av : List Value} {bs : List va_W} {sz : Nat} : FrameBlind (xPre G av bs sz) := fun a U g mk h => ⟨h.1, h.2.1, h.2.2.1, KK.same (s := U) (U := U.calling g mk a) rfl h.2.2.2.1, h.2.2.2.2.1, XK.same (u := U) (U := U.calling g mk a) rfl h.2.2.2.2.2⟩
theorem xof {S : Type} {l : Launch} {y : MethodName} {cc : ByteArray} {maxL : Nat} {ret : Option FieldType} {rm : Room} {G : GG} {av : List Value} {bs : List va_W} {rv : S → Option Value} {post : S → Prop} {bw : S → List va_W} {pE : String → Prop} (hy : plainName y.cls = true) (hn : (lg_sl av).length ≤ maxL)
    (body : ∀ (p : Program) (e : Env) (s : State) (m : MethodId) (args : Array Value) (below : List Frame) (meth : Method) (c : Code) (A : Nat → Prop) (ls : Array Slot), p.tables.exec = Jvm.exec → c.code = cc → meth.sig.returnType = ret → c.maxLocals = maxL → s.vm.findClass y.cls = some m.cls → (∀ w ∈ WA, w.before args s = true) → meth.locks = false → meth.name = y.name → (∀ q : Nat, s.heap.size ≤ q → A q) → KK G s → wP G bs s.heap → wD A bs → va_S A s.heap s.heap [] → lv_has ls maxL (lv_args 0 av) → XK A s s.heap → (∀ x ∈ c.exceptionTable.toList, False) →
      ∀ Q : State → Prop, Q = vx_MQ below (cQ G A rv post bw) (xC G A bs pE) args s rm.cells rm.slots A → W p l e rm s m args below meth c s.heap [] 0 0 Q (F0 m 0 ls [])) : Xt l y cc maxL ret rm G av bs rv post bw pE := by
  intro sz
  refine vx_ofW (cc := cc) (maxL := maxL) (ret := ret) hy rfl ?_
  intro p e s m args below meth c s₁ B hml hout hv
  obtain ⟨rfl, rfl, hP, hK, hD0, hX⟩ := hv
  have hts := atoms_spec (ws := wz y cc maxL ret) B.pre
  have hl := lv_entry av (n := maxL) hn
  rw [lg_entry_eq]
  exact body p e s m _ below meth c _ _ B.exec B.bytes B.returns hml (findClass_of_methodNamed B.named) (fun w h => hts w (List.mem_cons_of_mem _ h)) B.notSynchronized (name_of_methodNamed B.named B.method).1 (fun q h => Or.inr h) hK hP (va_D.self hD0) va_S.rf hl hX hout _ rfl
theorem va_S_A {A : Nat → Prop} {H0 H : Heap} {locs : List Loc} (h : va_S A H0 H locs) : ∀ a : Nat, a < H0.size → ¬ A a → H[a]? = H0[a]? := h.2.1
section XR
variable {p : Program} {l : Launch} {e : Env} {R : Room} {s : State} {m : MethodId} {args : Array Value} {below : List Frame} {meth : Method} {c : Code} {H : Heap} {locs : List Loc} {cells slots : Nat} {Q : State → Prop} {cc : ByteArray} {pc : Nat} {ls : Array Slot} {rest st0 : List Value}
variable {G : GG} {A : Nat → Prop} {bs bc br : List va_W} {mc ms : Nat}
theorem xgo {S : Type} {a : Array Value} {rv : S → Option Value} {post : S → Prop} {bw : S → List va_W} {pE : String → Prop} (hS : va_S A s.heap H locs) (hP : wP G bs H) (hD : wD A bs) (hA : ∀ q : Nat, s.heap.size ≤ q → A q) (isC isR : List Nat) (hC : isC.map (fun i => bs[i]?) = bc.map some) (hR : isR.map (fun i => bs[i]?) = br.map some) (hn : va_nd (isC ++ isR) = true)
    (hr : vx_Run p l e R s m args below meth c H locs cells slots mc ms (F0 m pc ls st0) rest (cQ G (va_A bc.flatten H.size) rv post bw a) (xC G (va_A bc.flatten H.size) bc pE) (va_A bc.flatten H.size))
    (kx : ∀ (E : String) (ce : Cell) (q9 : Addr) (H1 : Heap) (locs1 : List Loc), pE E → wP G (br ++ bc) H1 → wD A (br ++ bc) → va_S A s.heap H1 locs1 → H1[q9]? = some ce → ce.vm = .none → s.vm.findClass E = some ce.cls → vx_W p l e R s m args below meth c H1 locs1 (cells + mc) (slots + ms) Q (F0 m pc ls rest) q9)
    (kk : ∀ (u : S) (H1 : Heap) (locs1 : List Loc), post u → wP G (br ++ bw u) H1 → wD A (br ++ bw u) → va_S A s.heap H1 locs1 → W p l e R s m args below meth c H1 locs1 (cells + mc) (slots + ms) Q (F0 m (pc + 3) ls ((rv u).toList ++ rest))) : W p l e R s m args below meth c H locs cells slots Q (F0 m pc ls st0) := by
  intro T hT X
  have hF := wfree hD hS hA isC hC
  rcases hr T hT X with ⟨v, st₀, t, T', L, h0, X', hL, e1, e2, ⟨⟨u, hv, hp, hb1, hb2⟩, hFr⟩, st⟩ | ⟨q, st₀, t, T', L, E, ce, h0, X', hL, e1, e2, ⟨hE, hb1, hb2, hFr⟩, hce, hcv, hcl, st⟩
  · cases hv
    obtain ⟨k1, k2, k3⟩ := vx_keep h0 e1 hS (fun q _ h => hF q h) hF hL hFr
    have hb1 : wP G (bw u) T'.heap := by rw [e1]; exact hb1
    obtain ⟨j1, j2⟩ := wjoin hP hD isC isR hC hR hn k2 hF hb1 hb2
    obtain ⟨t2, a1, b1⟩ := kk u T'.heap (locs ++ L) hp j1 j2 k3 T' rfl X'
    exact ⟨t2, st t2 a1, b1⟩
  · obtain ⟨k1, k2, k3⟩ := vx_keep h0 e1 hS (fun q _ h => hF q h) hF hL hFr
    have hb1 : wP G bc T'.heap := by rw [e1]; exact hb1
    obtain ⟨j1, j2⟩ := wjoin hP hD isC isR hC hR hn k2 hF hb1 hb2
    obtain ⟨t2, a1, b1⟩ := kx E ce q T'.heap (locs ++ L) hE j1 j2 k3 (by rw [e1]; exact hce) hcv hcl T' rfl X'
    exact ⟨t2, st.trans a1, b1⟩
/-- what a callee threw goes on to the caller -/
theorem xout {S : Type} {rv : S → Option Value} {post : S → Prop} {bw : S → List va_W} {pE : String → Prop} {bs0 : List va_W} {E : String} {ce : Cell} {q9 : Addr} (hout : ∀ x ∈ c.exceptionTable.toList, False) (hlocks : meth.locks = false) (hce : H[q9]? = some ce) (hcv : ce.vm = .none) (hcl : s.vm.findClass E = some ce.cls) (hS : va_S A s.heap H locs) (hP : wP G bs H) (hD : wD A bs) (is : List Nat) (hn : va_nd is = true) (hs : is.map (fun i => bs[i]?) = bs0.map some) (hE : pE E) (hc : cells ≤ mc) (hsl : slots ≤ ms)
    (hQ : Q = vx_MQ below (cQ G A rv post bw) (xC G A bs0 pE) args s mc ms A) : vx_W p l e R s m args below meth c H locs cells slots Q (F0 m pc ls rest) q9 :=
  hQ ▸ vx_out (fun x hx => (hout x hx).elim) hlocks hce hcv hcl (fun t ht _ => ⟨hE, by rw [ht]; exact wP_sub hP is hs, wD_sub hD is hn hs, hS.F ht⟩) hS.2.2 hc hsl
/-- what 'throw new' leaves -/
theorem xthrow {pE : String → Prop} {bs0 : List va_W} {E : String} (hS : va_S A s.heap H locs) (hP : wP G bs H) (hD : wD A bs) (is : List Nat) (hn : va_nd is = true) (hs : is.map (fun i => bs[i]?) = bs0.map some) (hE : pE E) : ∀ t : State, s.vm.Alike t.vm → H.size ≤ t.heap.size → (∀ q : Nat, q < H.size → t.heap[q]? = H[q]?) → xC G A bs0 pE E s t := fun t _ hz hk => by
  refine ⟨hE, ?_, wD_sub hD is hn hs, Nat.le_trans hS.1 hz, fun q h1 h2 => ?_⟩
  · refine wP_mem.mpr (fun q hq => ?_)
    have h9 := wP_mem.mp (wP_sub hP is hs) q hq
    exact h9.kept (hk q.1 h9.lt)
  · rw [hk q (Nat.lt_of_lt_of_le h1 hS.1)]
    exact hS.2.1 q h1 h2
theorem xat (hK : KK G s) (hts : ∀ w ∈ WA, w.before args s = true) {L : List Cond} (h1 : ∀ w ∈ L, w ∈ WA ∨ w ∈ WB) : ∀ w ∈ L, w.before args s = true := fun w hw => (h1 w hw).elim (hts w) (fun h => by
  have h2 := (List.mem_filter.mp h).2
  simp only [w_face, Bool.and_eq_true] at h2
  exact va_Nw.use h2.1 (hK.2.1 w h))
theorem lk_preX {av : List Value} (hK : KK G s) (hX : XK A s s.heap) (hA : ∀ q : Nat, s.heap.size ≤ q → A q) (hS : va_S A s.heap H locs) (hP : wP G bs H) (hD : wD A bs) (isC : List Nat) (hC : isC.map (fun i => bs[i]?) = bc.map some) (hn : va_nd isC = true) : ∀ U : State, U.heap = H → s.WarmedH U.vm → xPre G av bc H.size av.toArray U := by
  intro U hU hW
  have hF := wfree hD hS hA isC hC
  refine ⟨rfl, by rw [hU], by rw [hU]; exact wP_sub hP isC hC, KK.warm hW hK, va_D.weaken (wD_sub hD isC hn hC) (fun _ _ _ _ => trivial), ?_⟩
  have k : ∀ {n d : String}, vx_Zq Bundle.tN n d A s s.heap → vx_Zq Bundle.tN n d (va_A bc.flatten H.size) U U.heap := fun h => by
    rw [hU]
    exact vx_Zq.narrow (vx_Zq.kept (vx_Zq.moved hW.alike h) (fun q h1 h2 => hS.2.1 q h1 h2)) (fun q h => hF q h)
  exact ⟨k hX.1, k hX.2⟩
variable {own : String} {index nL : Nat} {y : MethodName} {cy : ByteArray} {maxL : Nat} {ret : Option FieldType} {n : Nat} {rm : Room} {b : Nat}
variable {S : Type} {rv : S → Option Value} {post : S → Prop} {bw : S → List va_W} {pE : String → Prop}
/-- calls of methods that return or throw -/
theorem xkV (F : CallFix p m c cc nL s args WA own) (hK : KK G s) (hA : ∀ q : Nat, s.heap.size ≤ q → A q) (hS : va_S A s.heap H locs) (hP : wP G bs H) (hD : wD A bs) (As : List Value) (rest : List Value)
    (hM : Xt l y cy maxL ret rm G (.ref b :: As) bc rv post bw pE) (K : LkV own index y cy maxL ret n) (isC isR : List Nat) (hC : isC.map (fun i => bs[i]?) = bc.map some) (hR : isR.map (fun i => bs[i]?) = br.map some) (hn : va_nd (isC ++ isR) = true) (k0 ci : Nat) {fs : List Value} {T : u_T} {N : Nat} (he : bc.flatten[k0]? = some (b, .inr (ci, fs))) (hcl : vwCl[ci]? = some (y.cls, T, N))
    (hlen : As.length = n) (hst : st0 = As.reverse ++ .ref b :: rest) (hW : (rest.map fun v => v.category).sum ≤ 8) (hls : ls.size = nL) (hdg : decode cc pc = .ok (.invokevirtual index, 3)) (hroom : rm.frames + 1 ≤ R.frames ∧ 8 + (maxL + 11) + rm.locals ≤ R.locals) (hf : cells + rm.cells ≤ R.cells ∧ slots + rm.slots ≤ R.slots)
    (hX : XK A s s.heap)
    (kx : ∀ (E : String) (ce : Cell) (q9 : Addr) (H1 : Heap) (locs1 : List Loc), pE E → wP G (br ++ bc) H1 → wD A (br ++ bc) → va_S A s.heap H1 locs1 → H1[q9]? = some ce → ce.vm = .none → s.vm.findClass E = some ce.cls → vx_W p l e R s m args below meth c H1 locs1 (cells + rm.cells) (slots + rm.slots) Q (F0 m pc ls rest) q9)
    (kk : ∀ (u : S) (H1 : Heap) (locs1 : List Loc), post u → wP G (br ++ bw u) H1 → wD A (br ++ bw u) → va_S A s.heap H1 locs1 → W p l e R s m args below meth c H1 locs1 (cells + rm.cells) (slots + rm.slots) Q (F0 m (pc + 3) ls ((rv u).toList ++ rest))) : W p l e R s m args below meth c H locs cells slots Q (F0 m pc ls st0) :=
  xgo hS hP hD hA isC isR hC hR hn (vx_runV (C := y.cls) (As := As) (rest := rest) F (hM H.size) ⟨lk_B F.2.2.2.2 K.1 (F.2.2.2.2 _ K.2.1) hroom, F.2.2.2.2 _ K.2.2.1, F.2.2.2.2 _ K.2.2.2⟩ ⟨xPre_blind, lk_recv hK hP isC hC k0 ci he hcl, lk_preX hK hX hA hS hP hD isC hC (va_nd_l hn)⟩ rfl hlen hls hst (lv_room hW) hdg hf) kx kk
theorem xkS (F : CallFix p m c cc nL s args WA own) (hK : KK G s) (hA : ∀ q : Nat, s.heap.size ≤ q → A q) (hS : va_S A s.heap H locs) (hP : wP G bs H) (hD : wD A bs) (As : List Value) (rest : List Value)
    (hM : Xt l y cy maxL ret rm G As bc rv post bw pE) (K : LkS own index y cy maxL ret n) (isC isR : List Nat) (hC : isC.map (fun i => bs[i]?) = bc.map some) (hR : isR.map (fun i => bs[i]?) = br.map some) (hn : va_nd (isC ++ isR) = true)
    (hlen : As.length = n) (hst : st0 = As.reverse ++ rest) (hW : (rest.map fun v => v.category).sum ≤ 8) (hls : ls.size = nL) (hdg : decode cc pc = .ok (.invokestatic index, 3)) (hroom : rm.frames + 1 ≤ R.frames ∧ 8 + (maxL + 11) + rm.locals ≤ R.locals) (hf : cells + rm.cells ≤ R.cells ∧ slots + rm.slots ≤ R.slots)
    (hX : XK A s s.heap)
    (kx : ∀ (E : String) (ce : Cell) (q9 : Addr) (H1 : Heap) (locs1 : List Loc), pE E → wP G (br ++ bc) H1 → wD A (br ++ bc) → va_S A s.heap H1 locs1 → H1[q9]? = some ce → ce.vm = .none → s.vm.findClass E = some ce.cls → vx_W p l e R s m args below meth c H1 locs1 (cells + rm.cells) (slots + rm.slots) Q (F0 m pc ls rest) q9)
    (kk : ∀ (u : S) (H1 : Heap) (locs1 : List Loc), post u → wP G (br ++ bw u) H1 → wD A (br ++ bw u) → va_S A s.heap H1 locs1 → W p l e R s m args below meth c H1 locs1 (cells + rm.cells) (slots + rm.slots) Q (F0 m (pc + 3) ls ((rv u).toList ++ rest))) : W p l e R s m args below meth c H locs cells slots Q (F0 m pc ls st0) :=
  xgo hS hP hD hA isC isR hC hR hn (vx_runS (As := As) (rest := rest) F (hM H.size) ⟨lk_B F.2.2.2.2 K.1 (F.2.2.2.2 _ K.2.1) hroom, F.2.2.2.2 _ K.2.2⟩ ⟨xPre_blind, lk_preX hK hX hA hS hP hD isC hC (va_nd_l hn)⟩ rfl hlen hls hst (lv_room hW) hdg hf) kx kk
end XR
end
section
theorem xa_80 : ∀ w ∈ vx_atS RX8 80 "java/lang/IllegalArgumentException" ["java/lang/RuntimeException", "java/lang/Exception"], w ∈ WA ∨ w ∈ WB := by
  have h : ∀ w ∈ vx_atS RX8 80 "java/lang/IllegalArgumentException" ["java/lang/RuntimeException", "java/lang/Exception"], w ∈ lw_tbl ∧ (goodWord w || w_face w) = true := by decide +kernel
  intro w hw
  obtain ⟨h1, h2⟩ := h w hw
  rcases (Bool.or_eq_true _ _).mp h2 with h3 | h3
  · exact Or.inl (List.mem_filter.mpr ⟨h1, h3⟩)
  · exact Or.inr (List.mem_filter.mpr ⟨h1, h3⟩)
theorem xg_80 : ∀ w ∈ Cond.classLink RX8 76 "java/lang/IllegalArgumentException" :: Cond.initialized "java/lang/IllegalArgumentException" :: vx_atS RX8 80 "java/lang/IllegalArgumentException" ["java/lang/RuntimeException", "java/lang/Exception"], vx_ot w = true := by decide +kernel
theorem xa_107 : ∀ w ∈ vx_atS RX8 107 "java/lang/IndexOutOfBoundsException" ["java/lang/RuntimeException", "java/lang/Exception"], w ∈ WA ∨ w ∈ WB := by
  have h : ∀ w ∈ vx_atS RX8 107 "java/lang/IndexOutOfBoundsException" ["java/lang/RuntimeException", "java/lang/Exception"], w ∈ lw_tbl ∧ (goodWord w || w_face w) = true := by decide +kernel
  intro w hw
  obtain ⟨h1, h2⟩ := h w hw
  rcases (Bool.or_eq_true _ _).mp h2 with h3 | h3
  · exact Or.inl (List.mem_filter.mpr ⟨h1, h3⟩)
  · exact Or.inr (List.mem_filter.mpr ⟨h1, h3⟩)
theorem xg_107 : ∀ w ∈ Cond.classLink RX8 103 "java/lang/IndexOutOfBoundsException" :: Cond.initialized "java/lang/IndexOutOfBoundsException" :: vx_atS RX8 107 "java/lang/IndexOutOfBoundsException" ["java/lang/RuntimeException", "java/lang/Exception"], vx_ot w = true := by decide +kernel
theorem xa_116 : ∀ w ∈ vx_atS RX8 116 "java/lang/IllegalStateException" ["java/lang/RuntimeException", "java/lang/Exception"], w ∈ WA ∨ w ∈ WB := by
  have h : ∀ w ∈ vx_atS RX8 116 "java/lang/IllegalStateException" ["java/lang/RuntimeException", "java/lang/Exception"], w ∈ lw_tbl ∧ (goodWord w || w_face w) = true := by decide +kernel
  intro w hw
  obtain ⟨h1, h2⟩ := h w hw
  rcases (Bool.or_eq_true _ _).mp h2 with h3 | h3
  · exact Or.inl (List.mem_filter.mpr ⟨h1, h3⟩)
  · exact Or.inr (List.mem_filter.mpr ⟨h1, h3⟩)
theorem xg_116 : ∀ w ∈ Cond.classLink RX8 112 "java/lang/IllegalStateException" :: Cond.initialized "java/lang/IllegalStateException" :: vx_atS RX8 116 "java/lang/IllegalStateException" ["java/lang/RuntimeException", "java/lang/Exception"], vx_ot w = true := by decide +kernel
end
section
abbrev bText (G : GG) (t : Nat) (a : Nat) (n : Int) (g : Int → Int) : va_W := [(t, .inr (6, [.ref a, .int (jz n)])), (a, ja G 20 g)]
abbrev rmX6_size : Room := { frames := 0, cells := 0, slots := 0, locals := 0 }
set_option maxHeartbeats 4000000 in
set_option maxRecDepth 100000 in
theorem mX6_size (l : Launch) (G : GG) (t : Nat) (a : Nat) (n : Int) (g : Int → Int)  : Ct l yX6_size cX6_size 1 (some .int) rmX6_size G [.ref t] [bText G t a n g] (fun uo : Unit => some (.int (jz n))) (fun uo => True) (fun uo => [bText G t a n g]) := by
  refine cof (by decide) (Nat.le_of_ble_eq_true rfl) ?_
  intro p e s m args below meth c A ls hx hb hr hml hown hts hlocks hin hA hK hP hD hS hl Q hQ
  have hown : s.vm.findClass RX6 = some m.cls := hown
  have hl : lv_has ls 1 [(0, .ref t)] := hl
  have KH : ∀ (H : Heap) (locs : List Loc), wP G [bText G t a n g] H → wD A [bText G t a n g] → va_S A s.heap H locs → W p l e rmX6_size s m args below meth c H locs 0 0 Q (F0 m 0 ls []) := by
    intro H locs hP hD hS
    refine lv_aload_n hx hb dX6_size_0 rfl (lv_at hl 0 rfl) ?_
    refine va_get (ci := 6) (v := .int (jz n)) (C := RX6) (T := TX6) (N := 2) hx hb hts wfX6 hown hK.1 hP 0 rfl rfl 1 (by decide) (hts _ wm68) (fun _ h9 => h9) rfl dX6_size_1 ?_
    exact cret_i hx hb hr hlocks hS hP hD (Nat.le_of_ble_eq_true rfl) (Nat.le_of_ble_eq_true rfl) rfl dX6_size_4 [0] (by decide) () rfl trivial (congrArg (fun z : Int => some (Value.int (jz z))) (show n = n from by first | rfl | omega | (split <;> first | rfl | omega | (exfalso; omega)))) hQ
  exact KH s.heap [] hP hD hS
abbrev rmX6_at : Room := { frames := 0, cells := 0, slots := 0, locals := 0 }
set_option maxHeartbeats 4000000 in
set_option maxRecDepth 100000 in
theorem mX6_at (l : Launch) (G : GG) (t : Nat) (a : Nat) (n : Int) (g : Int → Int) (z : Int) (hn : 0 ≤ n ∧ n ≤ 20) (hz : jr z) : Ct l yX6_at cX6_at 2 (some .int) rmX6_at G [.ref t, .int (jz z)] [bText G t a n g] (fun uo : Unit => some (.int (jz (if 0 ≤ z ∧ z < n then g z else -1)))) (fun uo => True) (fun uo => [bText G t a n g]) := by
  refine cof (by decide) (Nat.le_of_ble_eq_true rfl) ?_
  intro p e s m args below meth c A ls hx hb hr hml hown hts hlocks hin hA hK hP hD hS hl Q hQ
  have hown : s.vm.findClass RX6 = some m.cls := hown
  have hl : lv_has ls 2 [(0, .ref t), (1, .int (jz z))] := hl
  have KH : ∀ (H : Heap) (locs : List Loc), wP G [bText G t a n g] H → wD A [bText G t a n g] → va_S A s.heap H locs → W p l e rmX6_at s m args below meth c H locs 0 0 Q (F0 m 0 ls []) := by
    intro H locs hP hD hS
    refine lv_iload_n hx hb dX6_at_0 rfl (lv_at hl 1 rfl) ?_
    refine jv_if_lt (tgt := 21) hx hb dX6_at_1 (by decide) (by omega) (fun c_1 => ?_) (fun c_1 => ?_)
    · refine jv_iconst hx hb dX6_at_21 ?_
      exact cret_i hx hb hr hlocks hS hP hD (Nat.le_of_ble_eq_true rfl) (Nat.le_of_ble_eq_true rfl) rfl dX6_at_22 [0] (by decide) () rfl trivial (congrArg (fun z : Int => some (Value.int (jz z))) (show (-1) = if 0 ≤ z ∧ z < n then g z else -1 from by first | rfl | omega | (split <;> first | rfl | omega | (exfalso; omega)))) hQ
    · refine lv_iload_n hx hb dX6_at_4 rfl (lv_at hl 1 rfl) ?_
      refine lv_aload_n hx hb dX6_at_5 rfl (lv_at hl 0 rfl) ?_
      refine va_get (ci := 6) (v := .int (jz n)) (C := RX6) (T := TX6) (N := 2) hx hb hts wfX6 hown hK.1 hP 0 rfl rfl 1 (by decide) (hts _ wm68) (fun _ h9 => h9) rfl dX6_at_6 ?_
      refine jv_icmp_ge (tgt := 21) hx hb dX6_at_9 (by decide) (by omega) (by omega) (fun c_2 => ?_) (fun c_2 => ?_)
      · refine jv_iconst hx hb dX6_at_21 ?_
        exact cret_i hx hb hr hlocks hS hP hD (Nat.le_of_ble_eq_true rfl) (Nat.le_of_ble_eq_true rfl) rfl dX6_at_22 [0] (by decide) () rfl trivial (congrArg (fun z : Int => some (Value.int (jz z))) (show (-1) = if 0 ≤ z ∧ z < n then g z else -1 from by first | rfl | omega | (split <;> first | rfl | omega | (exfalso; omega)))) hQ
      · refine lv_aload_n hx hb dX6_at_12 rfl (lv_at hl 0 rfl) ?_
        refine va_get (ci := 6) (v := .ref a) (C := RX6) (T := TX6) (N := 2) hx hb hts wfX6 hown hK.1 hP 0 rfl rfl 0 (by decide) (hts _ wm67) (fun _ h9 => h9) rfl dX6_at_13 ?_
        refine lv_iload_n hx hb dX6_at_16 rfl (lv_at hl 1 rfl) ?_
        refine jv_iald hx hb hK.1 hP 1 (g := g) rfl (by omega) (by omega) (by decide) dX6_at_17 ?_
        refine lv_goto (tgt := 22) hx hb dX6_at_18 (by decide) ?_
        exact cret_i hx hb hr hlocks hS hP hD (Nat.le_of_ble_eq_true rfl) (Nat.le_of_ble_eq_true rfl) rfl dX6_at_22 [0] (by decide) () rfl trivial (congrArg (fun z : Int => some (Value.int (jz z))) (show g z = if 0 ≤ z ∧ z < n then g z else -1 from by first | rfl | omega | (split <;> first | rfl | omega | (exfalso; omega)))) hQ
  exact KH s.heap [] hP hD hS
abbrev rmX6_empty : Room := { frames := 0, cells := 0, slots := 0, locals := 0 }
set_option maxHeartbeats 4000000 in
set_option maxRecDepth 100000 in
theorem mX6_empty (l : Launch) (G : GG) (t : Nat) (a : Nat) (n : Int) (g : Int → Int)  : Ct l yX6_empty cX6_empty 1 none rmX6_empty G [.ref t] [bText G t a n g] (fun uo : Unit => none) (fun uo => True) (fun uo => [bText G t a 0 g]) := by
  refine cof (by decide) (Nat.le_of_ble_eq_true rfl) ?_
  intro p e s m args below meth c A ls hx hb hr hml hown hts hlocks hin hA hK hP hD hS hl Q hQ
  have hown : s.vm.findClass RX6 = some m.cls := hown
  have hl : lv_has ls 1 [(0, .ref t)] := hl
  have KH : ∀ (H : Heap) (locs : List Loc), wP G [bText G t a n g] H → wD A [bText G t a n g] → va_S A s.heap H locs → W p l e rmX6_empty s m args below meth c H locs 0 0 Q (F0 m 0 ls []) := by
    intro H locs hP hD hS
    refine lv_aload_n hx hb dX6_empty_0 rfl (lv_at hl 0 rfl) ?_
    refine jv_iconst hx hb dX6_empty_1 ?_
    refine va_put (ci := 6) (v := .int (jz 0)) (ty := .int) (C := RX6) (T := TX6) (N := 2) hx hb hts wfX6 tyX6 tyX6_ok nmX6 hown hK.1 hP hD hS 0 rfl rfl 1 (by decide) (hts _ wm68) (fun _ h9 => h9) rfl (by decide +kernel) rfl rfl (Nat.le_of_ble_eq_true rfl) dX6_empty_2 (fun H locs hP hD hS => ?_)
    have hP : wP G [bText G t a 0 g] H := hP
    have hD : wD A [bText G t a 0 g] := hD
    exact cret_v hx hb hr hlocks hS hP hD (Nat.le_of_ble_eq_true rfl) (Nat.le_of_ble_eq_true rfl) dX6_empty_5 [0] (by decide) () rfl trivial rfl hQ
  exact KH s.heap [] hP hD hS
abbrev rmX6_at_in : Room := { frames := 0, cells := 0, slots := 0, locals := 0 }
set_option maxHeartbeats 4000000 in
set_option maxRecDepth 100000 in
theorem mX6_at_in (l : Launch) (G : GG) (t : Nat) (a : Nat) (n : Int) (g : Int → Int) (z : Int) (hn : 0 ≤ n ∧ n ≤ 20) (hz : 0 ≤ z ∧ z < n) : Ct l yX6_at cX6_at 2 (some .int) rmX6_at_in G [.ref t, .int (jz z)] [bText G t a n g] (fun uo : Unit => some (.int (jz (g z)))) (fun uo => True) (fun uo => [bText G t a n g]) := by
  refine cof (by decide) (Nat.le_of_ble_eq_true rfl) ?_
  intro p e s m args below meth c A ls hx hb hr hml hown hts hlocks hin hA hK hP hD hS hl Q hQ
  have hown : s.vm.findClass RX6 = some m.cls := hown
  have hl : lv_has ls 2 [(0, .ref t), (1, .int (jz z))] := hl
  have KH : ∀ (H : Heap) (locs : List Loc), wP G [bText G t a n g] H → wD A [bText G t a n g] → va_S A s.heap H locs → W p l e rmX6_at_in s m args below meth c H locs 0 0 Q (F0 m 0 ls []) := by
    intro H locs hP hD hS
    refine lv_iload_n hx hb dX6_at_0 rfl (lv_at hl 1 rfl) ?_
    refine jv_if_lt (tgt := 21) hx hb dX6_at_1 (by decide) (by omega) (fun c_1 => ?_) (fun c_1 => ?_)
    · exfalso; omega
    · refine lv_iload_n hx hb dX6_at_4 rfl (lv_at hl 1 rfl) ?_
      refine lv_aload_n hx hb dX6_at_5 rfl (lv_at hl 0 rfl) ?_
      refine va_get (ci := 6) (v := .int (jz n)) (C := RX6) (T := TX6) (N := 2) hx hb hts wfX6 hown hK.1 hP 0 rfl rfl 1 (by decide) (hts _ wm68) (fun _ h9 => h9) rfl dX6_at_6 ?_
      refine jv_icmp_ge (tgt := 21) hx hb dX6_at_9 (by decide) (by omega) (by omega) (fun c_2 => ?_) (fun c_2 => ?_)
      · exfalso; omega
      · refine lv_aload_n hx hb dX6_at_12 rfl (lv_at hl 0 rfl) ?_
        refine va_get (ci := 6) (v := .ref a) (C := RX6) (T := TX6) (N := 2) hx hb hts wfX6 hown hK.1 hP 0 rfl rfl 0 (by decide) (hts _ wm67) (fun _ h9 => h9) rfl dX6_at_13 ?_
        refine lv_iload_n hx hb dX6_at_16 rfl (lv_at hl 1 rfl) ?_
        refine jv_iald hx hb hK.1 hP 1 (g := g) rfl (by omega) (by omega) (by decide) dX6_at_17 ?_
        refine lv_goto (tgt := 22) hx hb dX6_at_18 (by decide) ?_
        exact cret_i hx hb hr hlocks hS hP hD (Nat.le_of_ble_eq_true rfl) (Nat.le_of_ble_eq_true rfl) rfl dX6_at_22 [0] (by decide) () rfl trivial (congrArg (fun z : Int => some (Value.int (jz z))) (show g z = g z from by first | rfl | omega | (split <;> first | rfl | omega | (exfalso; omega)))) hQ
  exact KH s.heap [] hP hD hS
abbrev rmX6_set : Room := { frames := 0, cells := 0, slots := 0, locals := 0 }
set_option maxHeartbeats 4000000 in
set_option maxRecDepth 100000 in
theorem mX6_set (l : Launch) (G : GG) (t : Nat) (a : Nat) (n : Int) (g : Int → Int) (z : Int) (v : Int) (hn : 0 ≤ n ∧ n ≤ 20) (hz : 0 ≤ z ∧ z < n) : Ct l yX6_set cX6_set 3 none rmX6_set G [.ref t, .int (jz z), .int (jz v)] [bText G t a n g] (fun uo : Unit => none) (fun uo => True) (fun uo => [bText G t a n (up g z v)]) := by
  refine cof (by decide) (Nat.le_of_ble_eq_true rfl) ?_
  intro p e s m args below meth c A ls hx hb hr hml hown hts hlocks hin hA hK hP hD hS hl Q hQ
  have hown : s.vm.findClass RX6 = some m.cls := hown
  have hl : lv_has ls 3 [(0, .ref t), (1, .int (jz z)), (2, .int (jz v))] := hl
  have KH : ∀ (H : Heap) (locs : List Loc), wP G [bText G t a n g] H → wD A [bText G t a n g] → va_S A s.heap H locs → W p l e rmX6_set s m args below meth c H locs 0 0 Q (F0 m 0 ls []) := by
    intro H locs hP hD hS
    refine lv_iload_n hx hb dX6_set_0 rfl (lv_at hl 1 rfl) ?_
    refine jv_if_lt (tgt := 19) hx hb dX6_set_1 (by decide) (by omega) (fun c_1 => ?_) (fun c_1 => ?_)
    · exfalso; omega
    · refine lv_iload_n hx hb dX6_set_4 rfl (lv_at hl 1 rfl) ?_
      refine lv_aload_n hx hb dX6_set_5 rfl (lv_at hl 0 rfl) ?_
      refine va_get (ci := 6) (v := .int (jz n)) (C := RX6) (T := TX6) (N := 2) hx hb hts wfX6 hown hK.1 hP 0 rfl rfl 1 (by decide) (hts _ wm68) (fun _ h9 => h9) rfl dX6_set_6 ?_
      refine jv_icmp_ge (tgt := 19) hx hb dX6_set_9 (by decide) (by omega) (by omega) (fun c_2 => ?_) (fun c_2 => ?_)
      · exfalso; omega
      · refine lv_aload_n hx hb dX6_set_12 rfl (lv_at hl 0 rfl) ?_
        refine va_get (ci := 6) (v := .ref a) (C := RX6) (T := TX6) (N := 2) hx hb hts wfX6 hown hK.1 hP 0 rfl rfl 0 (by decide) (hts _ wm67) (fun _ h9 => h9) rfl dX6_set_13 ?_
        refine lv_iload_n hx hb dX6_set_16 rfl (lv_at hl 1 rfl) ?_
        refine lv_iload_n hx hb dX6_set_17 rfl (lv_at hl 2 rfl) ?_
        refine jv_iast hx hb hK.1 hP hD hS 1 (g := g) rfl (by omega) (by omega) (by decide) dX6_set_18 (fun H locs hP hD hS => ?_)
        have hP : wP G [bText G t a n (up g z v)] H := hP
        have hD : wD A [bText G t a n (up g z v)] := hD
        exact cret_v hx hb hr hlocks hS hP hD (Nat.le_of_ble_eq_true rfl) (Nat.le_of_ble_eq_true rfl) dX6_set_19 [0] (by decide) () rfl trivial rfl hQ
  exact KH s.heap [] hP hD hS
abbrev rmX6_putIn : Room := { frames := 0, cells := 0, slots := 0, locals := 0 }
set_option maxHeartbeats 4000000 in
set_option maxRecDepth 100000 in
theorem mX6_putIn (l : Launch) (G : GG) (t : Nat) (a : Nat) (n : Int) (g : Int → Int) (z : Int) (v : Int) (hn : 0 ≤ n ∧ n < 20) (hz : 0 ≤ z ∧ z ≤ n) : Ct l yX6_putIn cX6_putIn 4 none rmX6_putIn G [.ref t, .int (jz z), .int (jz v)] [bText G t a n g] (fun uo : Unit => none) (fun uo => True) (fun uo => [bText G t a (n + 1) (insF g z n v)]) := by
  refine cof (by decide) (Nat.le_of_ble_eq_true rfl) ?_
  intro p e s m args below meth c A ls hx hb hr hml hown hts hlocks hin hA hK hP hD hS hl Q hQ
  have hown : s.vm.findClass RX6 = some m.cls := hown
  have hl : lv_has ls 4 [(0, .ref t), (1, .int (jz z)), (2, .int (jz v))] := hl
  have KH : ∀ (H : Heap) (locs : List Loc), wP G [bText G t a n g] H → wD A [bText G t a n g] → va_S A s.heap H locs → W p l e rmX6_putIn s m args below meth c H locs 0 0 Q (F0 m 0 ls []) := by
    intro H locs hP hD hS
    refine lv_iload_n hx hb dX6_putIn_0 rfl (lv_at hl 1 rfl) ?_
    refine jv_if_lt (tgt := 21) hx hb dX6_putIn_1 (by decide) (by omega) (fun c_1 => ?_) (fun c_1 => ?_)
    · exfalso; omega
    · refine lv_iload_n hx hb dX6_putIn_4 rfl (lv_at hl 1 rfl) ?_
      refine lv_aload_n hx hb dX6_putIn_5 rfl (lv_at hl 0 rfl) ?_
      refine va_get (ci := 6) (v := .int (jz n)) (C := RX6) (T := TX6) (N := 2) hx hb hts wfX6 hown hK.1 hP 0 rfl rfl 1 (by decide) (hts _ wm68) (fun _ h9 => h9) rfl dX6_putIn_6 ?_
      refine jv_icmp_gt (tgt := 21) hx hb dX6_putIn_9 (by decide) (by omega) (by omega) (fun c_2 => ?_) (fun c_2 => ?_)
      · exfalso; omega
      · refine lv_aload_n hx hb dX6_putIn_12 rfl (lv_at hl 0 rfl) ?_
        refine va_get (ci := 6) (v := .int (jz n)) (C := RX6) (T := TX6) (N := 2) hx hb hts wfX6 hown hK.1 hP 0 rfl rfl 1 (by decide) (hts _ wm68) (fun _ h9 => h9) rfl dX6_putIn_13 ?_
        refine jv_bipush hx hb dX6_putIn_16 (by decide) ?_
        refine jv_icmp_lt (tgt := 22) hx hb dX6_putIn_18 (by decide) (by omega) (by omega) (fun c_3 => ?_) (fun c_3 => ?_)
        · refine lv_aload_n hx hb dX6_putIn_22 rfl (lv_at hl 0 rfl) ?_
          refine va_get (ci := 6) (v := .int (jz n)) (C := RX6) (T := TX6) (N := 2) hx hb hts wfX6 hown hK.1 hP 0 rfl rfl 1 (by decide) (hts _ wm68) (fun _ h9 => h9) rfl dX6_putIn_23 ?_
          refine lv_istore_n (lv' := [(3, .int (jz n)), (0, .ref t), (1, .int (jz z)), (2, .int (jz v))]) hx hb dX6_putIn_26 rfl hl (by decide) rfl (fun ls hl => ?_)
          have K27 : ∀ (n9 : Nat) (k : Int) (h : Int → Int) , ((k - z).toNat) < n9 → (z ≤ k ∧ k ≤ n) → (∀ j : Int, h j = if k < j ∧ j ≤ n then g (j - 1) else g j) → ∀ (H : Heap) (locs : List Loc) (ls : Array Slot), wP G [bText G t a n h] H → wD A [bText G t a n h] → va_S A s.heap H locs → lv_has ls 4 [(0, .ref t), (1, .int (jz z)), (2, .int (jz v)), (3, .int (jz k))] → W p l e rmX6_putIn s m args below meth c H locs 0 0 Q (F0 m 27 ls []) := by
            intro n9
            induction n9 with
            | zero => intro k h hm9; exact absurd hm9 (Nat.not_lt_zero _)
            | succ n9 ih27 =>
              intro k h hm9 hk hh H locs ls hP hD hS hl
              refine lv_iload_n hx hb dX6_putIn_27 rfl (lv_at hl 3 rfl) ?_
              refine lv_iload_n hx hb dX6_putIn_28 rfl (lv_at hl 1 rfl) ?_
              refine jv_icmp_le (tgt := 52) hx hb dX6_putIn_29 (by decide) (by omega) (by omega) (fun c_4 => ?_) (fun c_4 => ?_)
              · refine lv_aload_n hx hb dX6_putIn_52 rfl (lv_at hl 0 rfl) ?_
                refine va_get (ci := 6) (v := .ref a) (C := RX6) (T := TX6) (N := 2) hx hb hts wfX6 hown hK.1 hP 0 rfl rfl 0 (by decide) (hts _ wm67) (fun _ h9 => h9) rfl dX6_putIn_53 ?_
                refine lv_iload_n hx hb dX6_putIn_56 rfl (lv_at hl 1 rfl) ?_
                refine lv_iload_n hx hb dX6_putIn_57 rfl (lv_at hl 2 rfl) ?_
                refine jv_iast hx hb hK.1 hP hD hS 1 (g := h) rfl (by omega) (by omega) (by decide) dX6_putIn_58 (fun H locs hP hD hS => ?_)
                have hP : wP G [bText G t a n (up h z v)] H := hP
                have hD : wD A [bText G t a n (up h z v)] := hD
                refine lv_aload_n hx hb dX6_putIn_59 rfl (lv_at hl 0 rfl) ?_
                refine lv_dup hx hb dX6_putIn_60 rfl ?_
                refine va_get (ci := 6) (v := .int (jz n)) (C := RX6) (T := TX6) (N := 2) hx hb hts wfX6 hown hK.1 hP 0 rfl rfl 1 (by decide) (hts _ wm68) (fun _ h9 => h9) rfl dX6_putIn_61 ?_
                refine jv_iconst hx hb dX6_putIn_64 ?_
                refine jv_iadd hx hb dX6_putIn_65 ?_
                have e_5 : (up h z v) = insF g z n v := by funext j; unfold up insF; simp only [hh]; (repeat' split) <;> first | rfl | omega | (apply congrArg; omega)
                rw [e_5] at hP hD
                refine va_put (ci := 6) (v := .int (jz (n + 1))) (ty := .int) (C := RX6) (T := TX6) (N := 2) hx hb hts wfX6 tyX6 tyX6_ok nmX6 hown hK.1 hP hD hS 0 rfl rfl 1 (by decide) (hts _ wm68) (fun _ h9 => h9) rfl (by decide +kernel) rfl rfl (Nat.le_of_ble_eq_true rfl) dX6_putIn_66 (fun H locs hP hD hS => ?_)
                have hP : wP G [bText G t a (n + 1) (insF g z n v)] H := hP
                have hD : wD A [bText G t a (n + 1) (insF g z n v)] := hD
                exact cret_v hx hb hr hlocks hS hP hD (Nat.le_of_ble_eq_true rfl) (Nat.le_of_ble_eq_true rfl) dX6_putIn_69 [0] (by decide) () rfl trivial rfl hQ
              · refine lv_aload_n hx hb dX6_putIn_32 rfl (lv_at hl 0 rfl) ?_
                refine va_get (ci := 6) (v := .ref a) (C := RX6) (T := TX6) (N := 2) hx hb hts wfX6 hown hK.1 hP 0 rfl rfl 0 (by decide) (hts _ wm67) (fun _ h9 => h9) rfl dX6_putIn_33 ?_
                refine lv_iload_n hx hb dX6_putIn_36 rfl (lv_at hl 3 rfl) ?_
                refine lv_aload_n hx hb dX6_putIn_37 rfl (lv_at hl 0 rfl) ?_
                refine va_get (ci := 6) (v := .ref a) (C := RX6) (T := TX6) (N := 2) hx hb hts wfX6 hown hK.1 hP 0 rfl rfl 0 (by decide) (hts _ wm67) (fun _ h9 => h9) rfl dX6_putIn_38 ?_
                refine lv_iload_n hx hb dX6_putIn_41 rfl (lv_at hl 3 rfl) ?_
                refine jv_iconst hx hb dX6_putIn_42 ?_
                refine jv_isub hx hb dX6_putIn_43 ?_
                refine jv_iald hx hb hK.1 hP 1 (g := h) rfl (by omega) (by omega) (by decide) dX6_putIn_44 ?_
                refine jv_iast hx hb hK.1 hP hD hS 1 (g := h) rfl (by omega) (by omega) (by decide) dX6_putIn_45 (fun H locs hP hD hS => ?_)
                have hP : wP G [bText G t a n (up h k (h (k - 1)))] H := hP
                have hD : wD A [bText G t a n (up h k (h (k - 1)))] := hD
                refine jv_iinc (lv' := [(3, .int (jz (k + (-1)))), (0, .ref t), (1, .int (jz z)), (2, .int (jz v))]) (k := 3) hx hb dX6_putIn_46 hl rfl (by decide) rfl (fun ls hl => ?_)
                refine lv_goto (tgt := 27) hx hb dX6_putIn_49 (by decide) ?_
                exact ih27 (k + (-1)) (up h k (h (k - 1))) (by omega) (by omega) (by intro j; unfold up; simp only [hh]; (repeat' split) <;> first | rfl | omega | (apply congrArg; omega)) H _ _ hP hD hS (lv_sub hl [1, 2, 3, 0] rfl)
          exact K27 (((n - z).toNat) + 1) n g (Nat.lt_succ_self _) (by omega) (by intro j; rw [if_neg (by omega)]) H _ _ hP hD hS (lv_sub hl [1, 2, 3, 0] rfl)
        · exfalso; omega
  exact KH s.heap [] hP hD hS
abbrev rmX6_takeOut : Room := { frames := 0, cells := 0, slots := 0, locals := 0 }
set_option maxHeartbeats 4000000 in
set_option maxRecDepth 100000 in
theorem mX6_takeOut (l : Launch) (G : GG) (t : Nat) (a : Nat) (n : Int) (g : Int → Int) (z : Int) (hn : 0 ≤ n ∧ n ≤ 20) (hz : 0 ≤ z ∧ z < n) : Ct l yX6_takeOut cX6_takeOut 3 none rmX6_takeOut G [.ref t, .int (jz z)] [bText G t a n g] (fun uo : Unit => none) (fun uo => True) (fun uo => [bText G t a (n - 1) (delF g z n)]) := by
  refine cof (by decide) (Nat.le_of_ble_eq_true rfl) ?_
  intro p e s m args below meth c A ls hx hb hr hml hown hts hlocks hin hA hK hP hD hS hl Q hQ
  have hown : s.vm.findClass RX6 = some m.cls := hown
  have hl : lv_has ls 3 [(0, .ref t), (1, .int (jz z))] := hl
  have KH : ∀ (H : Heap) (locs : List Loc), wP G [bText G t a n g] H → wD A [bText G t a n g] → va_S A s.heap H locs → W p l e rmX6_takeOut s m args below meth c H locs 0 0 Q (F0 m 0 ls []) := by
    intro H locs hP hD hS
    refine lv_iload_n hx hb dX6_takeOut_0 rfl (lv_at hl 1 rfl) ?_
    refine jv_if_lt (tgt := 12) hx hb dX6_takeOut_1 (by decide) (by omega) (fun c_1 => ?_) (fun c_1 => ?_)
    · exfalso; omega
    · refine lv_iload_n hx hb dX6_takeOut_4 rfl (lv_at hl 1 rfl) ?_
      refine lv_aload_n hx hb dX6_takeOut_5 rfl (lv_at hl 0 rfl) ?_
      refine va_get (ci := 6) (v := .int (jz n)) (C := RX6) (T := TX6) (N := 2) hx hb hts wfX6 hown hK.1 hP 0 rfl rfl 1 (by decide) (hts _ wm68) (fun _ h9 => h9) rfl dX6_takeOut_6 ?_
      refine jv_icmp_lt (tgt := 13) hx hb dX6_takeOut_9 (by decide) (by omega) (by omega) (fun c_2 => ?_) (fun c_2 => ?_)
      · refine lv_aload_n hx hb dX6_takeOut_13 rfl (lv_at hl 0 rfl) ?_
        refine lv_dup hx hb dX6_takeOut_14 rfl ?_
        refine va_get (ci := 6) (v := .int (jz n)) (C := RX6) (T := TX6) (N := 2) hx hb hts wfX6 hown hK.1 hP 0 rfl rfl 1 (by decide) (hts _ wm68) (fun _ h9 => h9) rfl dX6_takeOut_15 ?_
        refine jv_iconst hx hb dX6_takeOut_18 ?_
        refine jv_isub hx hb dX6_takeOut_19 ?_
        refine va_put (ci := 6) (v := .int (jz (n - 1))) (ty := .int) (C := RX6) (T := TX6) (N := 2) hx hb hts wfX6 tyX6 tyX6_ok nmX6 hown hK.1 hP hD hS 0 rfl rfl 1 (by decide) (hts _ wm68) (fun _ h9 => h9) rfl (by decide +kernel) rfl rfl (Nat.le_of_ble_eq_true rfl) dX6_takeOut_20 (fun H locs hP hD hS => ?_)
        have hP : wP G [bText G t a (n - 1) g] H := hP
        have hD : wD A [bText G t a (n - 1) g] := hD
        refine lv_iload_n hx hb dX6_takeOut_23 rfl (lv_at hl 1 rfl) ?_
        refine lv_istore_n (lv' := [(2, .int (jz z)), (0, .ref t), (1, .int (jz z))]) hx hb dX6_takeOut_24 rfl hl (by decide) rfl (fun ls hl => ?_)
        have K25 : ∀ (n9 : Nat) (k : Int) (h : Int → Int) , ((n - k).toNat) < n9 → (z ≤ k ∧ k ≤ n - 1) → (∀ j : Int, h j = if z ≤ j ∧ j < k then g (j + 1) else g j) → ∀ (H : Heap) (locs : List Loc) (ls : Array Slot), wP G [bText G t a (n - 1) h] H → wD A [bText G t a (n - 1) h] → va_S A s.heap H locs → lv_has ls 3 [(0, .ref t), (1, .int (jz z)), (2, .int (jz k))] → W p l e rmX6_takeOut s m args below meth c H locs 0 0 Q (F0 m 25 ls []) := by
          intro n9
          induction n9 with
          | zero => intro k h hm9; exact absurd hm9 (Nat.not_lt_zero _)
          | succ n9 ih25 =>
            intro k h hm9 hk hh H locs ls hP hD hS hl
            refine lv_iload_n hx hb dX6_takeOut_25 rfl (lv_at hl 2 rfl) ?_
            refine lv_aload_n hx hb dX6_takeOut_26 rfl (lv_at hl 0 rfl) ?_
            refine va_get (ci := 6) (v := .int (jz ((n - 1)))) (C := RX6) (T := TX6) (N := 2) hx hb hts wfX6 hown hK.1 hP 0 rfl rfl 1 (by decide) (hts _ wm68) (fun _ h9 => h9) rfl dX6_takeOut_27 ?_
            refine jv_icmp_ge (tgt := 53) hx hb dX6_takeOut_30 (by decide) (by omega) (by omega) (fun c_3 => ?_) (fun c_3 => ?_)
            · have e_4 : h = delF g z n := by funext j; unfold delF; rw [hh j, show k = n - 1 by omega]
              rw [e_4] at hP hD
              exact cret_v hx hb hr hlocks hS hP hD (Nat.le_of_ble_eq_true rfl) (Nat.le_of_ble_eq_true rfl) dX6_takeOut_53 [0] (by decide) () rfl trivial rfl hQ
            · refine lv_aload_n hx hb dX6_takeOut_33 rfl (lv_at hl 0 rfl) ?_
              refine va_get (ci := 6) (v := .ref a) (C := RX6) (T := TX6) (N := 2) hx hb hts wfX6 hown hK.1 hP 0 rfl rfl 0 (by decide) (hts _ wm67) (fun _ h9 => h9) rfl dX6_takeOut_34 ?_
              refine lv_iload_n hx hb dX6_takeOut_37 rfl (lv_at hl 2 rfl) ?_
              refine lv_aload_n hx hb dX6_takeOut_38 rfl (lv_at hl 0 rfl) ?_
              refine va_get (ci := 6) (v := .ref a) (C := RX6) (T := TX6) (N := 2) hx hb hts wfX6 hown hK.1 hP 0 rfl rfl 0 (by decide) (hts _ wm67) (fun _ h9 => h9) rfl dX6_takeOut_39 ?_
              refine lv_iload_n hx hb dX6_takeOut_42 rfl (lv_at hl 2 rfl) ?_
              refine jv_iconst hx hb dX6_takeOut_43 ?_
              refine jv_iadd hx hb dX6_takeOut_44 ?_
              refine jv_iald hx hb hK.1 hP 1 (g := h) rfl (by omega) (by omega) (by decide) dX6_takeOut_45 ?_
              refine jv_iast hx hb hK.1 hP hD hS 1 (g := h) rfl (by omega) (by omega) (by decide) dX6_takeOut_46 (fun H locs hP hD hS => ?_)
              have hP : wP G [bText G t a (n - 1) (up h k (h (k + 1)))] H := hP
              have hD : wD A [bText G t a (n - 1) (up h k (h (k + 1)))] := hD
              refine jv_iinc (lv' := [(2, .int (jz (k + 1))), (0, .ref t), (1, .int (jz z))]) (k := 2) hx hb dX6_takeOut_47 hl rfl (by decide) rfl (fun ls hl => ?_)
              refine lv_goto (tgt := 25) hx hb dX6_takeOut_50 (by decide) ?_
              exact ih25 (k + 1) (up h k (h (k + 1))) (by omega) (by omega) (by intro j; unfold up; simp only [hh]; (repeat' split) <;> first | rfl | omega | (apply congrArg; omega)) H _ _ hP hD hS (lv_sub hl [1, 2, 0] rfl)
        exact K25 (((n - z).toNat) + 1) z g (Nat.lt_succ_self _) (by omega) (by intro j; rw [if_neg (by omega)]) H _ _ hP hD hS (lv_sub hl [1, 2, 0] rfl)
      · exfalso; omega
  exact KH s.heap [] hP hD hS
abbrev rmX6_copyFrom : Room := { frames := 1, cells := 0, slots := 0, locals := 23 }
set_option maxHeartbeats 4000000 in
set_option maxRecDepth 100000 in
theorem mX6_copyFrom (l : Launch) (G : GG) (t : Nat) (a : Nat) (n : Int) (g : Int → Int) (t2 : Nat) (a2 : Nat) (n2 : Int) (g2 : Int → Int) (hn2 : 0 ≤ n2 ∧ n2 ≤ 20) : Ct l yX6_copyFrom cX6_copyFrom 3 none rmX6_copyFrom G [.ref t, .ref t2] [bText G t a n g, bText G t2 a2 n2 g2] (fun uo : (Int → Int) => none) (fun uo => (∀ j : Int, 0 ≤ j → j < n2 → uo j = g2 (j))) (fun uo => [bText G t a n2 uo, bText G t2 a2 n2 g2]) := by
  refine cof (by decide) (Nat.le_of_ble_eq_true rfl) ?_
  intro p e s m args below meth c A ls hx hb hr hml hown hts hlocks hin hA hK hP hD hS hl Q hQ
  have hown : s.vm.findClass RX6 = some m.cls := hown
  have hl : lv_has ls 3 [(0, .ref t), (1, .ref t2)] := hl
  have KH : ∀ (H : Heap) (locs : List Loc), wP G [bText G t a n g, bText G t2 a2 n2 g2] H → wD A [bText G t a n g, bText G t2 a2 n2 g2] → va_S A s.heap H locs → W p l e rmX6_copyFrom s m args below meth c H locs 0 0 Q (F0 m 0 ls []) := by
    intro H locs hP hD hS
    refine lv_aload_n hx hb dX6_copyFrom_0 rfl (lv_at hl 0 rfl) ?_
    refine kV ⟨hx, hb, hml, hown, hts⟩ hK hA hS hP hD [] [] (mX6_empty l G t a n g ) lkX6_19 [0] [1] (br := [bText G t2 a2 n2 g2]) rfl rfl (by decide) 0 6 rfl rfl rfl rfl (Nat.le_of_ble_eq_true rfl) hl.1 dX6_copyFrom_1 ⟨Nat.le_of_ble_eq_true rfl, Nat.le_of_ble_eq_true rfl⟩ ⟨Nat.le_of_ble_eq_true rfl, Nat.le_of_ble_eq_true rfl⟩ (fun u9 H locs hp9 hP hD hS => ?_)
    have hP : wP G [bText G t2 a2 n2 g2, bText G t a 0 g] H := hP
    have hD : wD A [bText G t2 a2 n2 g2, bText G t a 0 g] := hD
    show W p l e rmX6_copyFrom s m args below meth c H locs 0 0 Q (F0 m 4 ls [])
    refine jv_iconst hx hb dX6_copyFrom_4 ?_
    refine lv_istore_n (lv' := [(2, .int (jz 0)), (0, .ref t), (1, .ref t2)]) hx hb dX6_copyFrom_5 rfl hl (by decide) rfl (fun ls hl => ?_)
    have K6 : ∀ (n9 : Nat) (k : Int) (h : Int → Int) , ((n2 - k).toNat) < n9 → (0 ≤ k ∧ k ≤ n2) → (∀ j : Int, 0 ≤ j → j < k → h j = g2 (j)) → ∀ (H : Heap) (locs : List Loc) (ls : Array Slot), wP G [bText G t a k h, bText G t2 a2 n2 g2] H → wD A [bText G t a k h, bText G t2 a2 n2 g2] → va_S A s.heap H locs → lv_has ls 3 [(0, .ref t), (1, .ref t2), (2, .int (jz k))] → W p l e rmX6_copyFrom s m args below meth c H locs 0 0 Q (F0 m 6 ls []) := by
      intro n9
      induction n9 with
      | zero => intro k h hm9; exact absurd hm9 (Nat.not_lt_zero _)
      | succ n9 ih6 =>
        intro k h hm9 hk hh H locs ls hP hD hS hl
        refine lv_iload_n hx hb dX6_copyFrom_6 rfl (lv_at hl 2 rfl) ?_
        refine lv_aload_n hx hb dX6_copyFrom_7 rfl (lv_at hl 1 rfl) ?_
        refine kV ⟨hx, hb, hml, hown, hts⟩ hK hA hS hP hD [] [.int (jz k)] (mX6_size l G t2 a2 n2 g2 ) lkX6_22 [1] [0] (br := [bText G t a k h]) rfl rfl (by decide) 0 6 rfl rfl rfl rfl (Nat.le_of_ble_eq_true rfl) hl.1 dX6_copyFrom_8 ⟨Nat.le_of_ble_eq_true rfl, Nat.le_of_ble_eq_true rfl⟩ ⟨Nat.le_of_ble_eq_true rfl, Nat.le_of_ble_eq_true rfl⟩ (fun u9 H locs hp9 hP hD hS => ?_)
        have hP : wP G [bText G t a k h, bText G t2 a2 n2 g2] H := hP
        have hD : wD A [bText G t a k h, bText G t2 a2 n2 g2] := hD
        show W p l e rmX6_copyFrom s m args below meth c H locs 0 0 Q (F0 m 11 ls [.int (jz n2), .int (jz k)])
        refine jv_icmp_ge (tgt := 30) hx hb dX6_copyFrom_11 (by decide) (by omega) (by omega) (fun c_3 => ?_) (fun c_3 => ?_)
        · have hkn : k = n2 := by omega
          subst hkn
          exact cret_v hx hb hr hlocks hS hP hD (Nat.le_of_ble_eq_true rfl) (Nat.le_of_ble_eq_true rfl) dX6_copyFrom_30 [0, 1] (by decide) h rfl hh rfl hQ
        · refine lv_aload_n hx hb dX6_copyFrom_14 rfl (lv_at hl 0 rfl) ?_
          refine lv_iload_n hx hb dX6_copyFrom_15 rfl (lv_at hl 2 rfl) ?_
          refine lv_aload_n hx hb dX6_copyFrom_16 rfl (lv_at hl 1 rfl) ?_
          refine lv_iload_n hx hb dX6_copyFrom_17 rfl (lv_at hl 2 rfl) ?_
          refine kV ⟨hx, hb, hml, hown, hts⟩ hK hA hS hP hD [.int (jz k)] [.int (jz k), .ref t] (mX6_at_in l G t2 a2 n2 g2 k (by omega) (by omega)) lkX6_25 [1] [0] (br := [bText G t a k h]) rfl rfl (by decide) 0 6 rfl rfl rfl rfl (Nat.le_of_ble_eq_true rfl) hl.1 dX6_copyFrom_18 ⟨Nat.le_of_ble_eq_true rfl, Nat.le_of_ble_eq_true rfl⟩ ⟨Nat.le_of_ble_eq_true rfl, Nat.le_of_ble_eq_true rfl⟩ (fun u9 H locs hp9 hP hD hS => ?_)
          have hP : wP G [bText G t a k h, bText G t2 a2 n2 g2] H := hP
          have hD : wD A [bText G t a k h, bText G t2 a2 n2 g2] := hD
          show W p l e rmX6_copyFrom s m args below meth c H locs 0 0 Q (F0 m 21 ls [.int (jz (g2 k)), .int (jz k), .ref t])
          refine jv_top (fun r_5 er_5 => ?_)
          refine kV ⟨hx, hb, hml, hown, hts⟩ hK hA hS hP hD [.int (jz k), .int (jz r_5)] [] (mX6_putIn l G t a k h k r_5 (by omega) (by omega)) lkX6_29 [0] [1] (br := [bText G t2 a2 n2 g2]) rfl rfl (by decide) 0 6 rfl rfl rfl rfl (Nat.le_of_ble_eq_true rfl) hl.1 dX6_copyFrom_21 ⟨Nat.le_of_ble_eq_true rfl, Nat.le_of_ble_eq_true rfl⟩ ⟨Nat.le_of_ble_eq_true rfl, Nat.le_of_ble_eq_true rfl⟩ (fun u9 H locs hp9 hP hD hS => ?_)
          have hP : wP G [bText G t2 a2 n2 g2, bText G t a (k + 1) (insF h k k r_5)] H := hP
          have hD : wD A [bText G t2 a2 n2 g2, bText G t a (k + 1) (insF h k k r_5)] := hD
          show W p l e rmX6_copyFrom s m args below meth c H locs 0 0 Q (F0 m 24 ls [])
          refine jv_iinc (lv' := [(2, .int (jz (k + 1))), (0, .ref t), (1, .ref t2)]) (k := 2) hx hb dX6_copyFrom_24 hl rfl (by decide) rfl (fun ls hl => ?_)
          refine lv_goto (tgt := 6) hx hb dX6_copyFrom_27 (by decide) ?_
          exact ih6 (k + 1) (insF h k k r_5) (by omega) (by omega) (by intro j h1 h2; unfold insF; if e1 : j = k then (rw [if_pos e1, e1]; assumption) else (rw [if_neg e1, if_neg (by omega)]; exact hh j h1 (by omega))) H _ _ (wP_sub (bc := [bText G t a ((k + 1)) ((insF h k k r_5)), bText G t2 a2 n2 g2]) hP [1, 0] rfl) (wD_sub (bc := [bText G t a ((k + 1)) ((insF h k k r_5)), bText G t2 a2 n2 g2]) hD [1, 0] (by decide) rfl) hS (lv_sub hl [1, 2, 0] rfl)
    exact K6 (((n2 - 0).toNat) + 1) 0 g (Nat.lt_succ_self _) (by omega) (by intro j h1 h2; omega) H _ _ (wP_sub (bc := [bText G t a 0 g, bText G t2 a2 n2 g2]) hP [1, 0] rfl) (wD_sub (bc := [bText G t a 0 g, bText G t2 a2 n2 g2]) hD [1, 0] (by decide) rfl) hS (lv_sub hl [1, 2, 0] rfl)
  exact KH s.heap [] hP hD hS
abbrev rmX6_copyBackward : Room := { frames := 1, cells := 0, slots := 0, locals := 23 }
set_option maxHeartbeats 4000000 in
set_option maxRecDepth 100000 in
theorem mX6_copyBackward (l : Launch) (G : GG) (t : Nat) (a : Nat) (n : Int) (g : Int → Int) (t2 : Nat) (a2 : Nat) (n2 : Int) (g2 : Int → Int) (hn2 : 0 ≤ n2 ∧ n2 ≤ 20) : Ct l yX6_copyBackward cX6_copyBackward 3 none rmX6_copyBackward G [.ref t, .ref t2] [bText G t a n g, bText G t2 a2 n2 g2] (fun uo : (Int → Int) => none) (fun uo => (∀ j : Int, 0 ≤ j → j < n2 → uo j = g2 (n2 - 1 - j))) (fun uo => [bText G t a n2 uo, bText G t2 a2 n2 g2]) := by
  refine cof (by decide) (Nat.le_of_ble_eq_true rfl) ?_
  intro p e s m args below meth c A ls hx hb hr hml hown hts hlocks hin hA hK hP hD hS hl Q hQ
  have hown : s.vm.findClass RX6 = some m.cls := hown
  have hl : lv_has ls 3 [(0, .ref t), (1, .ref t2)] := hl
  have KH : ∀ (H : Heap) (locs : List Loc), wP G [bText G t a n g, bText G t2 a2 n2 g2] H → wD A [bText G t a n g, bText G t2 a2 n2 g2] → va_S A s.heap H locs → W p l e rmX6_copyBackward s m args below meth c H locs 0 0 Q (F0 m 0 ls []) := by
    intro H locs hP hD hS
    refine lv_aload_n hx hb dX6_copyBackward_0 rfl (lv_at hl 0 rfl) ?_
    refine kV ⟨hx, hb, hml, hown, hts⟩ hK hA hS hP hD [] [] (mX6_empty l G t a n g ) lkX6_19 [0] [1] (br := [bText G t2 a2 n2 g2]) rfl rfl (by decide) 0 6 rfl rfl rfl rfl (Nat.le_of_ble_eq_true rfl) hl.1 dX6_copyBackward_1 ⟨Nat.le_of_ble_eq_true rfl, Nat.le_of_ble_eq_true rfl⟩ ⟨Nat.le_of_ble_eq_true rfl, Nat.le_of_ble_eq_true rfl⟩ (fun u9 H locs hp9 hP hD hS => ?_)
    have hP : wP G [bText G t2 a2 n2 g2, bText G t a 0 g] H := hP
    have hD : wD A [bText G t2 a2 n2 g2, bText G t a 0 g] := hD
    show W p l e rmX6_copyBackward s m args below meth c H locs 0 0 Q (F0 m 4 ls [])
    refine jv_iconst hx hb dX6_copyBackward_4 ?_
    refine lv_istore_n (lv' := [(2, .int (jz 0)), (0, .ref t), (1, .ref t2)]) hx hb dX6_copyBackward_5 rfl hl (by decide) rfl (fun ls hl => ?_)
    have K6 : ∀ (n9 : Nat) (k : Int) (h : Int → Int) , ((n2 - k).toNat) < n9 → (0 ≤ k ∧ k ≤ n2) → (∀ j : Int, 0 ≤ j → j < k → h j = g2 (n2 - 1 - j)) → ∀ (H : Heap) (locs : List Loc) (ls : Array Slot), wP G [bText G t a k h, bText G t2 a2 n2 g2] H → wD A [bText G t a k h, bText G t2 a2 n2 g2] → va_S A s.heap H locs → lv_has ls 3 [(0, .ref t), (1, .ref t2), (2, .int (jz k))] → W p l e rmX6_copyBackward s m args below meth c H locs 0 0 Q (F0 m 6 ls []) := by
      intro n9
      induction n9 with
      | zero => intro k h hm9; exact absurd hm9 (Nat.not_lt_zero _)
      | succ n9 ih6 =>
        intro k h hm9 hk hh H locs ls hP hD hS hl
        refine lv_iload_n hx hb dX6_copyBackward_6 rfl (lv_at hl 2 rfl) ?_
        refine lv_aload_n hx hb dX6_copyBackward_7 rfl (lv_at hl 1 rfl) ?_
        refine kV ⟨hx, hb, hml, hown, hts⟩ hK hA hS hP hD [] [.int (jz k)] (mX6_size l G t2 a2 n2 g2 ) lkX6_22 [1] [0] (br := [bText G t a k h]) rfl rfl (by decide) 0 6 rfl rfl rfl rfl (Nat.le_of_ble_eq_true rfl) hl.1 dX6_copyBackward_8 ⟨Nat.le_of_ble_eq_true rfl, Nat.le_of_ble_eq_true rfl⟩ ⟨Nat.le_of_ble_eq_true rfl, Nat.le_of_ble_eq_true rfl⟩ (fun u9 H locs hp9 hP hD hS => ?_)
        have hP : wP G [bText G t a k h, bText G t2 a2 n2 g2] H := hP
        have hD : wD A [bText G t a k h, bText G t2 a2 n2 g2] := hD
        show W p l e rmX6_copyBackward s m args below meth c H locs 0 0 Q (F0 m 11 ls [.int (jz n2), .int (jz k)])
        refine jv_icmp_ge (tgt := 37) hx hb dX6_copyBackward_11 (by decide) (by omega) (by omega) (fun c_3 => ?_) (fun c_3 => ?_)
        · have hkn : k = n2 := by omega
          subst hkn
          exact cret_v hx hb hr hlocks hS hP hD (Nat.le_of_ble_eq_true rfl) (Nat.le_of_ble_eq_true rfl) dX6_copyBackward_37 [0, 1] (by decide) h rfl hh rfl hQ
        · refine lv_aload_n hx hb dX6_copyBackward_14 rfl (lv_at hl 0 rfl) ?_
          refine lv_iload_n hx hb dX6_copyBackward_15 rfl (lv_at hl 2 rfl) ?_
          refine lv_aload_n hx hb dX6_copyBackward_16 rfl (lv_at hl 1 rfl) ?_
          refine lv_aload_n hx hb dX6_copyBackward_17 rfl (lv_at hl 1 rfl) ?_
          refine kV ⟨hx, hb, hml, hown, hts⟩ hK hA hS hP hD [] [.ref t2, .int (jz k), .ref t] (mX6_size l G t2 a2 n2 g2 ) lkX6_22 [1] [0] (br := [bText G t a k h]) rfl rfl (by decide) 0 6 rfl rfl rfl rfl (Nat.le_of_ble_eq_true rfl) hl.1 dX6_copyBackward_18 ⟨Nat.le_of_ble_eq_true rfl, Nat.le_of_ble_eq_true rfl⟩ ⟨Nat.le_of_ble_eq_true rfl, Nat.le_of_ble_eq_true rfl⟩ (fun u9 H locs hp9 hP hD hS => ?_)
          have hP : wP G [bText G t a k h, bText G t2 a2 n2 g2] H := hP
          have hD : wD A [bText G t a k h, bText G t2 a2 n2 g2] := hD
          show W p l e rmX6_copyBackward s m args below meth c H locs 0 0 Q (F0 m 21 ls [.int (jz n2), .ref t2, .int (jz k), .ref t])
          refine jv_iconst hx hb dX6_copyBackward_21 ?_
          refine jv_isub hx hb dX6_copyBackward_22 ?_
          refine lv_iload_n hx hb dX6_copyBackward_23 rfl (lv_at hl 2 rfl) ?_
          refine jv_isub hx hb dX6_copyBackward_24 ?_
          refine kV ⟨hx, hb, hml, hown, hts⟩ hK hA hS hP hD [.int (jz ((n2 - 1) - k))] [.int (jz k), .ref t] (mX6_at_in l G t2 a2 n2 g2 ((n2 - 1) - k) (by omega) (by omega)) lkX6_25 [1] [0] (br := [bText G t a k h]) rfl rfl (by decide) 0 6 rfl rfl rfl rfl (Nat.le_of_ble_eq_true rfl) hl.1 dX6_copyBackward_25 ⟨Nat.le_of_ble_eq_true rfl, Nat.le_of_ble_eq_true rfl⟩ ⟨Nat.le_of_ble_eq_true rfl, Nat.le_of_ble_eq_true rfl⟩ (fun u9 H locs hp9 hP hD hS => ?_)
          have hP : wP G [bText G t a k h, bText G t2 a2 n2 g2] H := hP
          have hD : wD A [bText G t a k h, bText G t2 a2 n2 g2] := hD
          show W p l e rmX6_copyBackward s m args below meth c H locs 0 0 Q (F0 m 28 ls [.int (jz (g2 ((n2 - 1) - k))), .int (jz k), .ref t])
          refine jv_top (fun r_6 er_6 => ?_)
          refine kV ⟨hx, hb, hml, hown, hts⟩ hK hA hS hP hD [.int (jz k), .int (jz r_6)] [] (mX6_putIn l G t a k h k r_6 (by omega) (by omega)) lkX6_29 [0] [1] (br := [bText G t2 a2 n2 g2]) rfl rfl (by decide) 0 6 rfl rfl rfl rfl (Nat.le_of_ble_eq_true rfl) hl.1 dX6_copyBackward_28 ⟨Nat.le_of_ble_eq_true rfl, Nat.le_of_ble_eq_true rfl⟩ ⟨Nat.le_of_ble_eq_true rfl, Nat.le_of_ble_eq_true rfl⟩ (fun u9 H locs hp9 hP hD hS => ?_)
          have hP : wP G [bText G t2 a2 n2 g2, bText G t a (k + 1) (insF h k k r_6)] H := hP
          have hD : wD A [bText G t2 a2 n2 g2, bText G t a (k + 1) (insF h k k r_6)] := hD
          show W p l e rmX6_copyBackward s m args below meth c H locs 0 0 Q (F0 m 31 ls [])
          refine jv_iinc (lv' := [(2, .int (jz (k + 1))), (0, .ref t), (1, .ref t2)]) (k := 2) hx hb dX6_copyBackward_31 hl rfl (by decide) rfl (fun ls hl => ?_)
          refine lv_goto (tgt := 6) hx hb dX6_copyBackward_34 (by decide) ?_
          exact ih6 (k + 1) (insF h k k r_6) (by omega) (by omega) (by intro j h1 h2; unfold insF; if e1 : j = k then (rw [if_pos e1, e1]; assumption) else (rw [if_neg e1, if_neg (by omega)]; exact hh j h1 (by omega))) H _ _ (wP_sub (bc := [bText G t a ((k + 1)) ((insF h k k r_6)), bText G t2 a2 n2 g2]) hP [1, 0] rfl) (wD_sub (bc := [bText G t a ((k + 1)) ((insF h k k r_6)), bText G t2 a2 n2 g2]) hD [1, 0] (by decide) rfl) hS (lv_sub hl [1, 2, 0] rfl)
    exact K6 (((n2 - 0).toNat) + 1) 0 g (Nat.lt_succ_self _) (by omega) (by intro j h1 h2; omega) H _ _ (wP_sub (bc := [bText G t a 0 g, bText G t2 a2 n2 g2]) hP [1, 0] rfl) (wD_sub (bc := [bText G t a 0 g, bText G t2 a2 n2 g2]) hD [1, 0] (by decide) rfl) hS (lv_sub hl [1, 2, 0] rfl)
  exact KH s.heap [] hP hD hS
abbrev rmX6_keepsTo : Room := { frames := 1, cells := 0, slots := 0, locals := 21 }
set_option maxHeartbeats 4000000 in
set_option maxRecDepth 100000 in
theorem mX6_keepsTo (l : Launch) (G : GG) (t : Nat) (a : Nat) (n : Int) (g : Int → Int) (al : Int) (hn : 0 ≤ n ∧ n ≤ 20) (hg : ∀ j : Int, 0 ≤ j → j < n → 0 ≤ g j ∧ g j < 4) (hal : jr al) : Ct l yX6_keepsTo cX6_keepsTo 3 (some .boolean) rmX6_keepsTo G [.ref t, .int (jz al)] [bText G t a n g] (fun uo : Int => some (.int (jz uo))) (fun uo => ((uo = 1 ∧ ∀ j : Int, 0 ≤ j → j < n → g j < al) ∨ (uo = 0 ∧ ∃ j : Int, (0 ≤ j ∧ j < n) ∧ al ≤ g j))) (fun uo => [bText G t a n g]) := by
  refine cof (by decide) (Nat.le_of_ble_eq_true rfl) ?_
  intro p e s m args below meth c A ls hx hb hr hml hown hts hlocks hin hA hK hP hD hS hl Q hQ
  have hown : s.vm.findClass RX6 = some m.cls := hown
  have hl : lv_has ls 3 [(0, .ref t), (1, .int (jz al))] := hl
  have KH : ∀ (H : Heap) (locs : List Loc), wP G [bText G t a n g] H → wD A [bText G t a n g] → va_S A s.heap H locs → W p l e rmX6_keepsTo s m args below meth c H locs 0 0 Q (F0 m 0 ls []) := by
    intro H locs hP hD hS
    refine jv_iconst hx hb dX6_keepsTo_0 ?_
    refine lv_istore_n (lv' := [(2, .int (jz 0)), (0, .ref t), (1, .int (jz al))]) hx hb dX6_keepsTo_1 rfl hl (by decide) rfl (fun ls hl => ?_)
    have K2 : ∀ (n9 : Nat) (k : Int) , ((n - k).toNat) < n9 → (0 ≤ k ∧ k ≤ n) → (∀ j : Int, 0 ≤ j → j < k → g j < al) → ∀ (H : Heap) (locs : List Loc) (ls : Array Slot), wP G [bText G t a n g] H → wD A [bText G t a n g] → va_S A s.heap H locs → lv_has ls 3 [(0, .ref t), (1, .int (jz al)), (2, .int (jz k))] → W p l e rmX6_keepsTo s m args below meth c H locs 0 0 Q (F0 m 2 ls []) := by
      intro n9
      induction n9 with
      | zero => intro k hm9; exact absurd hm9 (Nat.not_lt_zero _)
      | succ n9 ih2 =>
        intro k hm9 hk hh H locs ls hP hD hS hl
        refine lv_iload_n hx hb dX6_keepsTo_2 rfl (lv_at hl 2 rfl) ?_
        refine lv_aload_n hx hb dX6_keepsTo_3 rfl (lv_at hl 0 rfl) ?_
        refine va_get (ci := 6) (v := .int (jz n)) (C := RX6) (T := TX6) (N := 2) hx hb hts wfX6 hown hK.1 hP 0 rfl rfl 1 (by decide) (hts _ wm68) (fun _ h9 => h9) rfl dX6_keepsTo_4 ?_
        refine jv_icmp_ge (tgt := 27) hx hb dX6_keepsTo_7 (by decide) (by omega) (by omega) (fun c_1 => ?_) (fun c_1 => ?_)
        · refine jv_iconst hx hb dX6_keepsTo_27 ?_
          exact cret_i hx hb hr hlocks hS hP hD (Nat.le_of_ble_eq_true rfl) (Nat.le_of_ble_eq_true rfl) (jz_nb (show 1 = 0 ∨ 1 = 1 by omega)) dX6_keepsTo_28 [0] (by decide) 1 rfl (by exact Or.inl ⟨rfl, fun j h1 h2 => hh j h1 (by omega)⟩) (congrArg (fun z : Int => some (Value.int (jz z))) (show 1 = 1 from by first | rfl | omega | (split <;> first | rfl | omega | (exfalso; omega)))) hQ
        · refine lv_aload_n hx hb dX6_keepsTo_10 rfl (lv_at hl 0 rfl) ?_
          refine lv_iload_n hx hb dX6_keepsTo_11 rfl (lv_at hl 2 rfl) ?_
          refine kV ⟨hx, hb, hml, hown, hts⟩ hK hA hS hP hD [.int (jz k)] [] (mX6_at_in l G t a n g k (by omega) (by omega)) lkX6_25 [0] [] (br := []) rfl rfl (by decide) 0 6 rfl rfl rfl rfl (Nat.le_of_ble_eq_true rfl) hl.1 dX6_keepsTo_12 ⟨Nat.le_of_ble_eq_true rfl, Nat.le_of_ble_eq_true rfl⟩ ⟨Nat.le_of_ble_eq_true rfl, Nat.le_of_ble_eq_true rfl⟩ (fun u9 H locs hp9 hP hD hS => ?_)
          have hP : wP G [bText G t a n g] H := hP
          have hD : wD A [bText G t a n g] := hD
          show W p l e rmX6_keepsTo s m args below meth c H locs 0 0 Q (F0 m 15 ls [.int (jz (g k))])
          refine jv_top (fun r_3 er_3 => ?_)
          have hb9 := hg k (by omega) (by omega)
          refine lv_iload_n hx hb dX6_keepsTo_15 rfl (lv_at hl 1 rfl) ?_
          refine jv_icmp_lt (tgt := 21) hx hb dX6_keepsTo_16 (by decide) (by omega) (by omega) (fun c_4 => ?_) (fun c_4 => ?_)
          · refine jv_iinc (lv' := [(2, .int (jz (k + 1))), (0, .ref t), (1, .int (jz al))]) (k := 2) hx hb dX6_keepsTo_21 hl rfl (by decide) rfl (fun ls hl => ?_)
            refine lv_goto (tgt := 2) hx hb dX6_keepsTo_24 (by decide) ?_
            exact ih2 (k + 1) (by omega) (by omega) (by intro j h1 h2; if e1 : j = k then (rw [e1]; omega) else exact hh j h1 (by omega)) H _ _ hP hD hS (lv_sub hl [1, 2, 0] rfl)
          · refine jv_iconst hx hb dX6_keepsTo_19 ?_
            exact cret_i hx hb hr hlocks hS hP hD (Nat.le_of_ble_eq_true rfl) (Nat.le_of_ble_eq_true rfl) (jz_nb (show 0 = 0 ∨ 0 = 1 by omega)) dX6_keepsTo_20 [0] (by decide) 0 rfl (by exact Or.inr ⟨rfl, k, by omega, by omega⟩) (congrArg (fun z : Int => some (Value.int (jz z))) (show 0 = 0 from by first | rfl | omega | (split <;> first | rfl | omega | (exfalso; omega)))) hQ
    exact K2 (((n - 0).toNat) + 1) 0 (Nat.lt_succ_self _) (by omega) (by intro j h1 h2; omega) H _ _ hP hD hS (lv_sub hl [1, 2, 0] rfl)
  exact KH s.heap [] hP hD hS
abbrev rmX6_init : Room := { frames := 1, cells := 1, slots := 20, locals := 20 }
set_option maxHeartbeats 4000000 in
set_option maxRecDepth 100000 in
theorem mX6_init (l : Launch) (G : GG) (t : Nat)  : Ct l yX6_init cX6_init 1 none rmX6_init G [.ref t] [[(t, .inr (6, [.null, .int (jz 0)]))]] (fun uo : Nat => none) (fun uo => True) (fun uo => [bText G t uo 0 (fun _ => 0)]) := by
  refine cof (by decide) (Nat.le_of_ble_eq_true rfl) ?_
  intro p e s m args below meth c A ls hx hb hr hml hown hts hlocks hin hA hK hP hD hS hl Q hQ
  have hown : s.vm.findClass RX6 = some m.cls := hown
  have hl : lv_has ls 1 [(0, .ref t)] := hl
  have KH : ∀ (H : Heap) (locs : List Loc), wP G [[(t, .inr (6, [.null, .int (jz 0)]))]] H → wD A [[(t, .inr (6, [.null, .int (jz 0)]))]] → va_S A s.heap H locs → W p l e rmX6_init s m args below meth c H locs 0 0 Q (F0 m 0 ls []) := by
    intro H locs hP hD hS
    refine lv_aload_n hx hb dX6_init_0 rfl (lv_at hl 0 rfl) ?_
    refine W.objInit hx hb hown (hts _ wm66) (hts _ wm53) (hts _ wm54) rfl (by rw [hml]; exact hl.1) rfl dX6_init_1 (Nat.le_of_ble_eq_true rfl) (Nat.le_of_ble_eq_true rfl) ?_
    refine W.eq (g2 := F0 m 4 ls []) rfl ?_
    refine lv_aload_n hx hb dX6_init_4 rfl (lv_at hl 0 rfl) ?_
    refine jv_bipush hx hb dX6_init_5 (by decide) ?_
    refine jv_newi hx hb hts hK.1 hP hD hS hA 20 rfl (by decide) (Nat.le_of_ble_eq_true rfl) (Nat.le_of_ble_eq_true rfl) wm74 dX6_init_7 (fun q_1 H hP hD hS => ?_)
    have hP : wP G [[(t, .inr (6, [.null, .int (jz 0)]))], [(q_1, ja G 20 ((fun _ => 0)))]] H := hP
    have hD : wD A [[(t, .inr (6, [.null, .int (jz 0)]))], [(q_1, ja G 20 ((fun _ => 0)))]] := hD
    show W p l e rmX6_init s m args below meth c H locs 1 20 Q (F0 m 9 ls [.ref q_1, .ref t])
    refine va_putF (ci := 6) (v := .ref q_1) (ty := (.array .int)) (C := RX6) (T := TX6) (N := 2) hx hb hts wfX6 tyX6 tyX6_ok nmX6 hown hK.1 hP hD hS 0 rfl rfl 0 (by decide) (hts _ wm67) (fun _ h9 => h9) rfl hin rfl (by decide +kernel) rfl rfl (Nat.le_of_ble_eq_true rfl) dX6_init_9 (fun H locs hP hD hS => ?_)
    have hP : wP G [[(t, .inr (6, [.ref q_1, .int (jz 0)]))], [(q_1, ja G 20 ((fun _ => 0)))]] H := hP
    have hD : wD A [[(t, .inr (6, [.ref q_1, .int (jz 0)]))], [(q_1, ja G 20 ((fun _ => 0)))]] := hD
    refine lv_aload_n hx hb dX6_init_12 rfl (lv_at hl 0 rfl) ?_
    refine jv_iconst hx hb dX6_init_13 ?_
    refine va_put (ci := 6) (v := .int (jz 0)) (ty := .int) (C := RX6) (T := TX6) (N := 2) hx hb hts wfX6 tyX6 tyX6_ok nmX6 hown hK.1 hP hD hS 0 rfl rfl 1 (by decide) (hts _ wm68) (fun _ h9 => h9) rfl (by decide +kernel) rfl rfl (Nat.le_of_ble_eq_true rfl) dX6_init_14 (fun H locs hP hD hS => ?_)
    have hP : wP G [[(t, .inr (6, [.ref q_1, .int (jz 0)]))], [(q_1, ja G 20 ((fun _ => 0)))]] H := hP
    have hD : wD A [[(t, .inr (6, [.ref q_1, .int (jz 0)]))], [(q_1, ja G 20 ((fun _ => 0)))]] := hD
    have hP : wP G [bText G t q_1 0 (fun _ => 0)] H := hP
    have hD : wD A [bText G t q_1 0 (fun _ => 0)] := hD
    exact cret_v hx hb hr hlocks hS hP hD (Nat.le_of_ble_eq_true rfl) (Nat.le_of_ble_eq_true rfl) dX6_init_17 [0] (by decide) q_1 rfl trivial rfl hQ
  exact KH s.heap [] hP hD hS
end
section
/-! distances, as numbers: c is 1 for the distance, 0 for the search -/
def cst (x y : Int) : Int := if x = y then 0 else 1
theorem cst_bd (x y : Int) : 0 ≤ cst x y ∧ cst x y ≤ 1 := by unfold cst; split <;> omega
theorem cst_comm (x y : Int) : cst x y = cst y x := by
  unfold cst
  by_cases h : x = y
  · rw [if_pos h, if_pos h.symm]
  · rw [if_neg h, if_neg (fun e => h e.symm)]
def dN (c : Int) (a b : Int → Int) : Nat → Nat → Int
  | 0, j => j
  | i + 1, 0 => ((i : Int) + 1) * c
  | i + 1, j + 1 => min (min (dN c a b i (j + 1)) (dN c a b (i + 1) j) + 1) (dN c a b i j + cst (a i) (b j))
def D (c : Int) (a b : Int → Int) (i j : Int) : Int := dN c a b i.toNat j.toNat
theorem D_0 (c : Int) (a b : Int → Int) {i j : Int} (hi : i = 0) (h : 0 ≤ j) : D c a b i j = j := by
  subst hi
  unfold D
  rw [Int.toNat_zero, dN]
  omega
theorem D_l (c : Int) (a b : Int → Int) {i j : Int} (hj : j = 0) (h : 0 ≤ i) : D c a b i j = i * c := by
  subst hj
  obtain ⟨n, rfl⟩ := Int.eq_ofNat_of_zero_le h
  unfold D
  cases n with
  | zero => rw [Int.toNat_zero]; show dN c a b 0 0 = _; rw [dN]; simp
  | succ n => show dN c a b (n + 1) 0 = _; rw [dN]; rfl
theorem D_s (c : Int) (a b : Int → Int) {i j : Int} (hi : 0 < i) (hj : 0 < j) : D c a b i j = min (min (D c a b (i - 1) j) (D c a b i (j - 1)) + 1) (D c a b (i - 1) (j - 1) + cst (a (i - 1)) (b (j - 1))) := by
  obtain ⟨n, hn⟩ : ∃ n : Nat, i = (n : Int) + 1 := ⟨(i - 1).toNat, by omega⟩
  obtain ⟨k, hk⟩ : ∃ k : Nat, j = (k : Int) + 1 := ⟨(j - 1).toNat, by omega⟩
  subst hn; subst hk
  have e1 : ((n : Int) + 1).toNat = n + 1 := by omega
  have e2 : ((k : Int) + 1).toNat = k + 1 := by omega
  have e3 : ((n : Int) + 1 - 1) = n := by omega
  have e4 : ((k : Int) + 1 - 1) = k := by omega
  unfold D
  rw [e3, e4, e1, e2, Int.toNat_natCast, Int.toNat_natCast, dN]
theorem dN_bd {c : Int} (hc : c = 0 ∨ c = 1) (a b : Int → Int) : ∀ i j : Nat, 0 ≤ dN c a b i j ∧ dN c a b i j ≤ i + j := by
  intro i
  induction i with
  | zero => intro j; rw [dN]; omega
  | succ i ih =>
    intro j
    induction j with
    | zero => rw [dN]; rcases hc with h | h <;> rw [h] <;> omega
    | succ j ihj =>
      have h1 := ih (j + 1)
      have h2 := ih j
      have h3 := cst_bd (a i) (b j)
      rw [dN]
      omega
theorem D_bd {c : Int} (hc : c = 0 ∨ c = 1) (a b : Int → Int) {i j : Int} (hi : 0 ≤ i) (hj : 0 ≤ j) : 0 ≤ D c a b i j ∧ D c a b i j ≤ i + j := by
  have h := dN_bd hc a b i.toNat j.toNat
  unfold D
  omega
theorem dN_cg (c : Int) {a b a' b' : Int → Int} : ∀ i j : Nat, (∀ k : Int, 0 ≤ k → k < i → a k = a' k) → (∀ k : Int, 0 ≤ k → k < j → b k = b' k) → dN c a b i j = dN c a' b' i j := by
  intro i
  induction i with
  | zero => intro j _ _; rw [dN, dN]
  | succ i ih =>
    intro j
    induction j with
    | zero => intro _ _; rw [dN, dN]
    | succ j ihj =>
      intro h1 h2
      rw [dN, dN, ih (j + 1) (fun k p q => h1 k p (by omega)) h2, ihj h1 (fun k p q => h2 k p (by omega)), ih j (fun k p q => h1 k p (by omega)) (fun k p q => h2 k p (by omega)), h1 i (by omega) (by omega), h2 j (by omega) (by omega)]
theorem D_cg (c : Int) {a b a' b' : Int → Int} {i j : Int} (h1 : ∀ k : Int, 0 ≤ k → k < i → a k = a' k) (h2 : ∀ k : Int, 0 ≤ k → k < j → b k = b' k) : D c a b i j = D c a' b' i j :=
  dN_cg c _ _ (fun k p q => h1 k p (by omega)) (fun k p q => h2 k p (by omega))
theorem up_row {h : Int → Int} {F : Int → Int → Int} {i j n2 v : Int} (hn : n2 ≤ 20) (hj : 0 ≤ j ∧ j ≤ n2) (hh : ∀ x y : Int, 0 ≤ x → 0 ≤ y → y ≤ n2 → (x < i ∨ (x = i ∧ y < j)) → h (x * 21 + y) = F x y) (hv : v = F i j) :
    ∀ x y : Int, 0 ≤ x → 0 ≤ y → y ≤ n2 → (x < i ∨ (x = i ∧ y < j + 1)) → up h (i * 21 + j) v (x * 21 + y) = F x y := by
  intro x y h1 h2 h3 h4
  unfold up
  by_cases e : x * 21 + y = i * 21 + j
  · have e1 : x = i := by omega
    have e2 : y = j := by omega
    rw [if_pos e, hv, e1, e2]
  · rw [if_neg e]
    exact hh x y h1 h2 h3 (by omega)
end
section
/-! the way -/
def stp (a b : Int → Int) (i j : Int) : Int :=
  if 0 < i ∧ 0 < j ∧ D 1 a b i j = D 1 a b (i - 1) (j - 1) + cst (a (i - 1)) (b (j - 1)) then cst (a (i - 1)) (b (j - 1))
  else if 0 < i ∧ D 1 a b i j = D 1 a b (i - 1) j + 1 then 2 else 3
theorem stp_bd {a b : Int → Int} {i j : Int} (hi : 0 ≤ i) (hj : 0 ≤ j) (h : 0 < i ∨ 0 < j) :
    0 ≤ stp a b i j ∧ stp a b i j ≤ 3 ∧ (stp a b i j = 3 → 0 < j) ∧ (stp a b i j = 2 → 0 < i) ∧ (stp a b i j ≤ 1 → 0 < i ∧ 0 < j) := by
  have hc := cst_bd (a (i - 1)) (b (j - 1))
  unfold stp
  by_cases h1 : 0 < i ∧ 0 < j ∧ D 1 a b i j = D 1 a b (i - 1) (j - 1) + cst (a (i - 1)) (b (j - 1))
  · rw [if_pos h1]
    omega
  · rw [if_neg h1]
    by_cases h2 : 0 < i ∧ D 1 a b i j = D 1 a b (i - 1) j + 1
    · rw [if_pos h2]
      omega
    · rw [if_neg h2]
      refine ⟨by omega, by omega, fun _ => ?_, by omega, by omega⟩
      by_cases h3 : 0 < j
      · exact h3
      · have hj0 : j = 0 := by omega
        have e1 := D_l 1 a b hj0 hi
        have e2 := D_l 1 a b (i := i - 1) hj0 (by omega)
        exact absurd ⟨by omega, by omega⟩ h2
def wayN (a b : Int → Int) : Nat → Int → Int → List Int
  | 0, _, _ => []
  | f + 1, i, j => if 0 < i ∨ 0 < j then stp a b i j :: wayN a b f (if stp a b i j = 3 then i else i - 1) (if stp a b i j = 2 then j else j - 1) else []
def way (a b : Int → Int) (i j : Int) : List Int := wayN a b 40 i j
def wL (a b : Int → Int) (i j : Int) : Int := (way a b i j).length
def wA (a b : Int → Int) (i j x : Int) : Int := (way a b i j).getD x.toNat 0
/-- k steps of the way are told, and it goes on from (i, j) -/
def wInv (a b : Int → Int) (i0 j0 k i j : Int) : Prop := 0 ≤ k ∧ 0 ≤ i ∧ 0 ≤ j ∧ i + j + k ≤ 40 ∧ i ≤ i0 ∧ j ≤ j0 ∧ (way a b i0 j0).drop k.toNat = wayN a b (40 - k.toNat) i j
theorem wInv_0 {a b : Int → Int} {i j : Int} (hi : 0 ≤ i ∧ i ≤ 20) (hj : 0 ≤ j ∧ j ≤ 20) : wInv a b i j 0 i j := ⟨by omega, by omega, by omega, by omega, by omega, by omega, rfl⟩
theorem wInv_end {a b : Int → Int} {i0 j0 k i j : Int} (h : wInv a b i0 j0 k i j) (hi : i ≤ 0) (hj : j ≤ 0) (hk : k = 0 ∨ k.toNat ≤ (way a b i0 j0).length) : k = wL a b i0 j0 := by
  obtain ⟨h1, h2, h3, h4, h5, h6, h7⟩ := h
  have e : (way a b i0 j0).drop k.toNat = [] := by
    rw [h7]
    cases 40 - k.toNat with
    | zero => rfl
    | succ f => rw [wayN, if_neg (by omega)]
  have e2 := List.drop_eq_nil_iff.mp e
  unfold wL
  omega
theorem wInv_step {a b : Int → Int} {i0 j0 k i j : Int} (h : wInv a b i0 j0 k i j) (hij : 0 < i ∨ 0 < j) :
    k < 40 ∧ k.toNat < (way a b i0 j0).length ∧ wA a b i0 j0 k = stp a b i j ∧ wInv a b i0 j0 (k + 1) (if stp a b i j = 3 then i else i - 1) (if stp a b i j = 2 then j else j - 1) := by
  obtain ⟨h1, h2, h3, h4, h5, h6, h7⟩ := h
  have hb := stp_bd (a := a) (b := b) h2 h3 hij
  obtain ⟨f, hf⟩ : ∃ f, 40 - k.toNat = f + 1 := ⟨39 - k.toNat, by omega⟩
  rw [hf, wayN, if_pos hij] at h7
  have hl : k.toNat < (way a b i0 j0).length := by
    have := congrArg List.length h7
    rw [List.length_drop, List.length_cons] at this
    omega
  have e0 : (k + 1).toNat = k.toNat + 1 := by omega
  refine ⟨by omega, hl, ?_, by omega, ?_, ?_, ?_, ?_, ?_, ?_⟩
  · unfold wA
    rw [List.getD_eq_getElem?_getD, ← List.head?_drop, h7]
    rfl
  · split <;> omega
  · split <;> omega
  · split <;> split <;> omega
  · split <;> omega
  · split <;> omega
  · rw [e0, show 40 - (k.toNat + 1) = f by omega, ← List.drop_drop, h7]
    rfl
/-! counting -/
def cntF (f : Int → Int) (v : Int) : Nat → Int
  | 0 => 0
  | n + 1 => cntF f v n + if f n = v then 1 else 0
def cnt (f : Int → Int) (v n : Int) : Int := cntF f v n.toNat
theorem cnt_0 (f : Int → Int) (v : Int) : cnt f v 0 = 0 := rfl
theorem cnt_s (f : Int → Int) (v : Int) {n : Int} (h : 0 ≤ n) : cnt f v (n + 1) = cnt f v n + if f n = v then 1 else 0 := by
  unfold cnt
  rw [show (n + 1).toNat = n.toNat + 1 by omega, cntF, Int.toNat_of_nonneg h]
theorem cnt_bd (f : Int → Int) (v : Int) {n : Int} (h : 0 ≤ n) : 0 ≤ cnt f v n ∧ cnt f v n ≤ n := by
  have key : ∀ k : Nat, 0 ≤ cntF f v k ∧ cntF f v k ≤ k := by
    intro k
    induction k with
    | zero => exact ⟨Int.le_refl 0, Int.le_refl 0⟩
    | succ k ih => rw [cntF]; split <;> omega
  have := key n.toNat
  unfold cnt
  omega
theorem cntF_cg {f g : Int → Int} (v : Int) : ∀ n : Nat, (∀ x : Int, 0 ≤ x → x < n → f x = g x) → cntF f v n = cntF g v n := by
  intro n
  induction n with
  | zero => intro _; rfl
  | succ n ih => intro h; rw [cntF, cntF, ih (fun x h1 h2 => h x h1 (by omega)), h n (by omega) (by omega)]
theorem cntF_front (f : Int → Int) (v : Int) : ∀ n : Nat, cntF f v (n + 1) = (if f 0 = v then 1 else 0) + cntF (fun x => f (x + 1)) v n := by
  intro n
  induction n with
  | zero => rw [cntF, cntF, cntF]; simp
  | succ n ih => rw [cntF, ih, cntF]; simp only [Int.natCast_add, Int.cast_ofNat_Int]; omega
theorem cntF_rev (f : Int → Int) (v : Int) : ∀ n : Nat, cntF (fun x => f ((n : Int) - 1 - x)) v n = cntF f v n := by
  intro n
  induction n with
  | zero => rfl
  | succ n ih =>
    rw [cntF_front, cntF, ← ih, cntF_cg v n (g := fun x => f ((n : Int) - 1 - x)) (fun x h1 h2 => congrArg f (by omega))]
    have e : ((n + 1 : Nat) : Int) - 1 - 0 = n := by omega
    rw [e]
    omega
theorem cnt_rev (f : Int → Int) (v : Int) {n : Int} (h : 0 ≤ n) : cnt (fun x => f (n - 1 - x)) v n = cnt f v n := by
  unfold cnt
  have := cntF_rev f v n.toNat
  rw [Int.toNat_of_nonneg h] at this
  exact this
theorem cnt_cg {f g : Int → Int} (v : Int) {n : Int} (h : ∀ x : Int, 0 ≤ x → x < n → f x = g x) : cnt f v n = cnt g v n := cntF_cg v n.toNat (fun x h1 h2 => h x h1 (by omega))
/-! the buffer -/
def right (h : Int → Int) (k b : Int) : Prop := (97 ≤ h k ∧ h k ≤ 100 ∧ k - (b + 1) < 20) ∨ (h k = 124 ∧ b < 0)
def scN (h : Int → Int) : Nat → Int × Int
  | 0 => (0, -1)
  | k + 1 => if (scN h k).1 < k then scN h k else if (97 ≤ h k ∧ h k ≤ 100 ∧ (k : Int) - ((scN h k).2 + 1) < 20) ∨ (h k = 124 ∧ (scN h k).2 < 0) then ((k : Int) + 1, if h k = 124 then (k : Int) else (scN h k).2) else scN h k
def sc (h : Int → Int) (k : Int) : Int × Int := scN h k.toNat
theorem sc_0 (h : Int → Int) : sc h 0 = (0, -1) := rfl
theorem sc_ok {h : Int → Int} {k b : Int} (hk : 0 ≤ k) (e : sc h k = (k, b)) (r : right h k b) : sc h (k + 1) = (k + 1, if h k = 124 then k else b) := by
  unfold sc at e ⊢
  rw [show (k + 1).toNat = k.toNat + 1 by omega, scN, e, Int.toNat_of_nonneg hk, if_neg (by show ¬ k < k; omega)]
  exact if_pos r
theorem sc_err {h : Int → Int} {k b : Int} (hk : 0 ≤ k) (e : sc h k = (k, b)) (r : ¬ right h k b) {n : Int} (hn : k ≤ n) : sc h n = (k, b) := by
  have key : ∀ d : Nat, scN h (k.toNat + d) = (k, b) := by
    intro d
    induction d with
    | zero => exact e
    | succ d ih =>
      rw [show k.toNat + (d + 1) = (k.toNat + d) + 1 by omega, scN, ih]
      by_cases hd : k < ((k.toNat + d : Nat) : Int)
      · rw [if_pos hd]
      · rw [if_neg hd]
        have e2 : ((k.toNat + d : Nat) : Int) = k := by omega
        rw [e2]
        exact if_neg r
  have := key (n - k).toNat
  unfold sc
  rw [show n.toNat = k.toNat + (n - k).toNat by omega]
  exact this
theorem scN_good (h : Int → Int) : ∀ k : Nat, 0 ≤ (scN h k).1 ∧ (scN h k).1 ≤ k ∧ -1 ≤ (scN h k).2 ∧ ((scN h k).2 < (scN h k).1) ∧ (scN h k).2 ≤ 20 ∧ (scN h k).1 - (scN h k).2 - 1 ≤ 20 ∧ (0 ≤ (scN h k).2 → h (scN h k).2 = 124) ∧ ∀ x : Int, 0 ≤ x → x < (scN h k).1 → x ≠ (scN h k).2 → 97 ≤ h x ∧ h x ≤ 100 := by
  intro k
  induction k with
  | zero => exact ⟨Int.le_refl 0, Int.le_refl 0, Int.le_refl _, (by show (-1 : Int) < 0; decide), (by show (-1 : Int) ≤ 20; decide), (by show (0 : Int) - (-1) - 1 ≤ 20; decide), fun q => absurd q (by show ¬ (0 : Int) ≤ -1; decide), fun x h1 h2 => absurd h2 (Int.not_lt.mpr h1)⟩
  | succ k ih =>
    obtain ⟨h1, h2, h3, h4, h5, h6, h7, h8⟩ := ih
    rw [scN]
    by_cases c1 : (scN h k).1 < k
    · rw [if_pos c1]
      exact ⟨h1, by omega, h3, h4, h5, h6, h7, h8⟩
    · rw [if_neg c1]
      have e1 : (scN h k).1 = k := by omega
      by_cases c2 : (97 ≤ h k ∧ h k ≤ 100 ∧ (k : Int) - ((scN h k).2 + 1) < 20) ∨ (h k = 124 ∧ (scN h k).2 < 0)
      · rw [if_pos c2]
        by_cases c3 : h k = 124
        · simp only [if_pos c3]
          refine ⟨by omega, by omega, by omega, by omega, by omega, by omega, fun _ => c3, fun x q1 q2 q3 => h8 x q1 (by omega) (by omega)⟩
        · simp only [if_neg c3]
          refine ⟨by omega, by omega, by omega, by omega, by omega, by omega, h7, fun x q1 q2 q3 => ?_⟩
          by_cases c4 : x = k
          · rw [c4]; omega
          · exact h8 x q1 (by omega) q3
      · rw [if_neg c2]
        exact ⟨h1, by omega, h3, h4, h5, h6, h7, h8⟩
theorem sc_good (h : Int → Int) {n k b : Int} (hn : 0 ≤ n) (e : sc h n = (k, b)) : 0 ≤ k ∧ k ≤ n ∧ -1 ≤ b ∧ b < k ∧ b ≤ 20 ∧ k - b - 1 ≤ 20 ∧ (0 ≤ b → h b = 124) ∧ ∀ x : Int, 0 ≤ x → x < k → x ≠ b → 97 ≤ h x ∧ h x ≤ 100 := by
  have g := scN_good h n.toNat
  unfold sc at e
  rw [e] at g
  exact ⟨g.1, by have := g.2.1; omega, g.2.2.1, g.2.2.2.1, g.2.2.2.2.1, g.2.2.2.2.2.1, g.2.2.2.2.2.2.1, g.2.2.2.2.2.2.2⟩
theorem bar_eq {h : Int → Int} {k b r : Int} (h0 : 0 ≤ b) (h1 : b < k) (h8 : ∀ x : Int, 0 ≤ x → x < k → x ≠ b → 97 ≤ h x ∧ h x ≤ 100) (h7 : h b = 124) (hr : (0 ≤ r ∧ r < k ∧ h r = 124 ∧ ∀ x : Int, 0 ≤ x → x < r → h x ≠ 124) ∨ (r = k ∧ ∀ x : Int, 0 ≤ x → x < k → h x ≠ 124)) : r = b := by
  rcases hr with ⟨q1, q2, q3, q4⟩ | ⟨q1, q2⟩
  · by_cases e : r = b
    · exact e
    · have := h8 r q1 q2 e
      omega
  · exact absurd h7 (q2 b h0 h1)
theorem bar_iff {h : Int → Int} {k b r : Int} (hk : 0 ≤ k) (hb : -1 ≤ b) (h1 : b < k ∨ b < k) (h8 : ∀ x : Int, 0 ≤ x → x < k → x ≠ b → 97 ≤ h x ∧ h x ≤ 100) (h7 : 0 ≤ b → h b = 124) (hr : (0 ≤ r ∧ r < k ∧ h r = 124 ∧ ∀ x : Int, 0 ≤ x → x < r → h x ≠ 124) ∨ (r = k ∧ ∀ x : Int, 0 ≤ x → x < k → h x ≠ 124)) : r < k ↔ 0 ≤ b := by
  rcases hr with ⟨q1, q2, q3, q4⟩ | ⟨q1, q2⟩
  · refine ⟨fun _ => ?_, fun _ => q2⟩
    by_cases e : r = b
    · omega
    · have := h8 r q1 q2 e
      omega
  · refine ⟨fun q => by omega, fun q => ?_⟩
    exact absurd (h7 q) (q2 b q (by omega))
end
section
/-! saved states, in any number -/
abbrev bState (G : GG) (st : Nat) (t0 : Nat) (t1 : Nat) (al : Int) : va_W := [(st, .inr (5, [.ref t0, .ref t1, .int (jz al)]))]
abbrev SG : Type := (Nat × Nat × Nat × Nat × Nat) × (Int × Int × Int) × (Int → Int) × (Int → Int)
abbrev sW (G : GG) (x : SG) : List va_W := [bState G x.1.1 x.1.2.1 x.1.2.2.2.1 x.2.1.1, bText G x.1.2.1 x.1.2.2.1 x.2.1.2.1 x.2.2.1, bText G x.1.2.2.2.1 x.1.2.2.2.2 x.2.1.2.2 x.2.2.2]
def bPool (G : GG) (φ : Nat → SG) (k : Nat) : va_W := (List.range k).flatMap (fun i => (sW G (φ i)).flatten)
def bPoolX (G : GG) (φ : Nat → SG) (k : Nat) (z : Nat) : va_W := ((List.range k).erase z).flatMap (fun i => (sW G (φ i)).flatten)
theorem fm_cg {α β : Type} {L : List α} {f g : α → List β} (h : ∀ x ∈ L, f x = g x) : L.flatMap f = L.flatMap g := by
  induction L with
  | nil => rfl
  | cons a t ih => rw [List.flatMap_cons, List.flatMap_cons, h a List.mem_cons_self, ih (fun x hx => h x (List.mem_cons_of_mem _ hx))]
theorem pool_get (G : GG) (φ : Nat → SG) {k z : Nat} (h : z < k) : (bPool G φ k).Perm ((sW G (φ z)).flatten ++ bPoolX G φ k z) := by
  have h1 : (List.range k).Perm (z :: (List.range k).erase z) := List.perm_cons_erase (List.mem_range.mpr h)
  have h2 := h1.flatMap_right (fun i => (sW G (φ i)).flatten)
  rw [List.flatMap_cons] at h2
  exact h2
theorem poolX_cg (G : GG) {φ φ' : Nat → SG} {k z : Nat} (h : ∀ i, i ≠ z → φ' i = φ i) : bPoolX G φ' k z = bPoolX G φ k z := by
  unfold bPoolX
  refine fm_cg (fun i hi => ?_)
  have hne : i ≠ z := fun e => by
    subst e
    exact (List.Nodup.not_mem_erase List.nodup_range) hi
  rw [h i hne]
theorem pool_put (G : GG) {φ φ' : Nat → SG} {k z : Nat} (h : z < k) (h2 : ∀ i, i ≠ z → φ' i = φ i) : ((sW G (φ' z)).flatten ++ bPoolX G φ k z).Perm (bPool G φ' k) := by
  have h3 := (pool_get G φ' h).symm
  rw [poolX_cg G h2] at h3
  exact h3
theorem pool_add (G : GG) {φ φ' : Nat → SG} {k : Nat} (h2 : ∀ i, i < k → φ' i = φ i) : ((sW G (φ' k)).flatten ++ bPool G φ k).Perm (bPool G φ' (k + 1)) := by
  have e : bPool G φ' (k + 1) = bPool G φ k ++ (sW G (φ' k)).flatten := by
    unfold bPool
    rw [List.range_succ, List.flatMap_append, List.flatMap_cons, List.flatMap_nil, List.append_nil]
    congr 1
    refine fm_cg (fun i hi => ?_)
    rw [h2 i (List.mem_range.mp hi)]
  rw [e]
  exact List.perm_append_comm
theorem wP_perm {G : GG} {L x y : List va_W} {H : Heap} (h : x.flatten.Perm y.flatten) (hP : wP G (L ++ x) H) : wP G (L ++ y) H := by
  have hP := wP_mem.mp hP
  refine wP_mem.mpr (fun q hq => hP q ?_)
  rw [List.flatten_append, List.mem_append] at hq ⊢
  exact hq.imp id (fun h9 => h.symm.subset h9)
theorem wD_perm {A : Nat → Prop} {L x y : List va_W} (h : x.flatten.Perm y.flatten) (hD : wD A (L ++ x)) : wD A (L ++ y) := by
  have hD := wD_pw.mp hD
  refine wD_pw.mpr ?_
  rw [List.flatten_append] at hD ⊢
  have hp : (L.flatten ++ x.flatten).Perm (L.flatten ++ y.flatten) := h.append_left _
  refine ⟨hp.pairwise hD.1 (fun q e => q e.symm), fun q hq => hD.2 q (hp.symm.subset hq)⟩
theorem wP_app {G : GG} {bs : List va_W} {x : Nat × va_E} {H : Heap} (h : va_P G.1 vwCl (bs.flatten ++ [x]) H) : wP G (bs ++ [[x]]) H := by
  show va_P G.1 vwCl (bs ++ [[x]]).flatten H
  rw [List.flatten_append]
  exact h
theorem wD_app {A : Nat → Prop} {bs : List va_W} {x : Nat × va_E} (h : va_D A (bs.flatten ++ [x])) : wD A (bs ++ [[x]]) := by
  show va_D A (bs ++ [[x]]).flatten
  rw [List.flatten_append]
  exact h
section MQ
variable {p : Program} {l : Launch} {e : Env} {R : Room} {s : State} {m : MethodId} {args : Array Value} {below : List Frame} {meth : Method} {c : Code} {H : Heap} {locs : List Loc} {cells slots : Nat} {Q : State → Prop} {cc : ByteArray} {pc : Nat} {ls : Array Slot} {rest : List Value}
variable {G : GG} {ws : va_W} {A : Nat → Prop} {H0 : Heap}
theorem jv_rf {o : Option Nat} {a : Nat} (h : o = some a) (k : W p l e R s m args below meth c H locs cells slots Q (F0 m pc ls (.ref a :: rest))) : W p l e R s m args below meth c H locs cells slots Q (F0 m pc ls (va_rf o :: rest)) := by subst h; exact k
theorem jv_nul {o : Option Nat} (h : o = none) (k : W p l e R s m args below meth c H locs cells slots Q (F0 m pc ls (.null :: rest))) : W p l e R s m args below meth c H locs cells slots Q (F0 m pc ls (va_rf o :: rest)) := by subst h; exact k
theorem jv_qast (hx : p.tables.exec = Jvm.exec) (hb : c.code = cc) (hK : K0 G s) (hP : va_P G.1 vwCl ws H) (hD : va_D A ws) (hS : va_S A H0 H locs) (q0 qk : Nat) {a v n : Nat} {g : Int → Option Nat} {vs : List Value} (ha : ws[q0]? = some (a, jq G n g)) (hv : ws[qk]? = some (v, .inr (5, vs))) {z : Int} (h0 : 0 ≤ z) (h1 : z < n) (hn : n < 2147483648) (hdg : decode cc pc = .ok (.aastore, 1))
    (kk : ∀ (H1 : Heap) (locs1 : List Loc), va_P G.1 vwCl (ws.set q0 (a, jq G n (up g z (some v)))) H1 → va_D A (ws.set q0 (a, jq G n (up g z (some v)))) → va_S A H0 H1 locs1 → W p l e R s m args below meth c H1 locs1 cells slots Q (F0 m (pc + 1) ls rest)) : W p l e R s m args below meth c H locs cells slots Q (F0 m pc ls (.ref v :: .int (jz z) :: .ref a :: rest)) :=
  va_astq (r := (RX5, TX5, 3)) hx hb hK hP hD hS q0 3 qk 5 ha rfl hv rfl (jz_in h0 h1 hn) hdg (by rw [jz_clamp (by omega), up_updQ g h0]; exact kk)
theorem jv_newq (hx : p.tables.exec = Jvm.exec) (hb : c.code = cc) {own : String} {index : Nat} (hown : s.vm.findClass own = some m.cls) (hlink : (Cond.classLink own index RX5).before args s = true) (hover : va_AO RX5 s) (hK : K0 G s) (hP : va_P G.1 vwCl ws H) (hD : va_D A ws) (hS : va_S A H0 H locs) (hA : ∀ q : Nat, H0.size ≤ q → A q) {z : Int} (N : Nat) (hz : z = N) (hN : N < 1000000) (hcells : cells + 1 ≤ R.cells) (hslots : slots + N ≤ R.slots) (hdg : decode cc pc = .ok (.anewarray index, 3))
    (kk : ∀ (q : Nat) (H1 : Heap), va_P G.1 vwCl (ws ++ [(q, jq G N (fun _ => none))]) H1 → va_D A (ws ++ [(q, jq G N (fun _ => none))]) → va_S A H0 H1 locs → W p l e R s m args below meth c H1 locs (cells + 1) (slots + N) Q (F0 m (pc + 3) ls (.ref q :: rest))) : W p l e R s m args below meth c H locs cells slots Q (F0 m pc ls (.int (jz z) :: rest)) := by
  subst hz
  refine va_newq (N' := N) hx hb hown hlink hover hK hP hD hS hA ?_ (by rw [jz_clamp (by omega)]; omega) (by omega) hcells hslots hdg ?_
  · intro h
    have h8 : jz (N : Int) < jz 0 := h
    rw [jz_lt (by omega) (by omega)] at h8
    omega
  · intro q cA H1 hK1 hP1 hD1 hS1
    have e : cA = G.2.2.2.2 := K0_cls (hK1.2 4 _ rfl).2 (hK1.2 3 _ rfl).2
    subst e
    exact kk q H1 hP1 hD1 hS1
end MQ
def phS (φ : Nat → SG) (z : Nat) (x : SG) : Nat → SG := fun i => if i = z then x else φ i
theorem phS_at {φ : Nat → SG} {z i : Nat} {x : SG} (h : i = z) : phS φ z x i = x := if_pos h
theorem phS_ne {φ : Nat → SG} {z i : Nat} {x : SG} (h : i ≠ z) : phS φ z x i = φ i := if_neg h
theorem pool_get2 (G : GG) (φ : Nat → SG) {k z : Nat} (h : z < k) : ([bPool G φ k] : List va_W).flatten.Perm (sW G (φ z) ++ [bPoolX G φ k z]).flatten := by
  rw [List.flatten_append, List.flatten_singleton, List.flatten_singleton]
  exact pool_get G φ h
theorem pool_put2 (G : GG) (φ : Nat → SG) {k z : Nat} (x : SG) (h : z < k) : (sW G x ++ [bPoolX G φ k z]).flatten.Perm ([bPool G (phS φ z x) k] : List va_W).flatten := by
  rw [List.flatten_append, List.flatten_singleton, List.flatten_singleton]
  have h1 := pool_put G (φ := φ) (φ' := phS φ z x) h (fun i hi => phS_ne hi)
  rw [phS_at rfl] at h1
  exact h1
theorem pool_add2 (G : GG) (φ : Nat → SG) {k z : Nat} (x : SG) (h : z = k) : (sW G x ++ [bPool G φ k]).flatten.Perm ([bPool G (phS φ z x) (k + 1)] : List va_W).flatten := by
  subst h
  rw [List.flatten_append, List.flatten_singleton, List.flatten_singleton]
  have h1 := pool_add G (φ := φ) (φ' := phS φ z x) (k := z) (fun i hi => phS_ne (by omega))
  rw [phS_at rfl] at h1
  exact h1
end
section
/-! a distance out of the two halves -/
def rv (a : Int → Int) (n : Int) : Int → Int := fun k => a (n - 1 - k)
theorem D_down (a b : Int → Int) {i j : Int} (hi : 0 ≤ i) (hj : 0 ≤ j) : D 1 a b (i + 1) j ≤ D 1 a b i j + 1 := by
  by_cases h : j = 0
  · rw [D_l 1 a b h (by omega), D_l 1 a b h hi]; omega
  · have e := D_s 1 a b (i := i + 1) (j := j) (by omega) (by omega)
    rw [show i + 1 - 1 = i by omega] at e
    omega
theorem D_right (a b : Int → Int) {i j : Int} (hi : 0 ≤ i) (hj : 0 ≤ j) : D 1 a b i (j + 1) ≤ D 1 a b i j + 1 := by
  by_cases h : i = 0
  · rw [D_0 1 a b h (by omega), D_0 1 a b h hj]; omega
  · have e := D_s 1 a b (i := i) (j := j + 1) (by omega) (by omega)
    rw [show j + 1 - 1 = j by omega] at e
    omega
theorem D_diag (a b : Int → Int) {i j : Int} (hi : 0 ≤ i) (hj : 0 ≤ j) : D 1 a b (i + 1) (j + 1) ≤ D 1 a b i j + cst (a i) (b j) := by
  have e := D_s 1 a b (i := i + 1) (j := j + 1) (by omega) (by omega)
  rw [show j + 1 - 1 = j by omega, show i + 1 - 1 = i by omega] at e
  omega
theorem split_le (a b : Int → Int) (M N : Int) : ∀ (k : Nat) (i j : Int), 0 ≤ i → i ≤ M → 0 ≤ j → j ≤ N → (M - i) + (N - j) ≤ k → D 1 a b M N ≤ D 1 a b i j + D 1 (rv a M) (rv b N) (M - i) (N - j) := by
  intro k
  induction k with
  | zero =>
    intro i j h1 h2 h3 h4 h5
    have e1 : i = M := by omega
    have e2 : j = N := by omega
    rw [e1, e2]
    have := D_bd (c := 1) (Or.inr rfl) (rv a M) (rv b N) (i := M - M) (j := N - N) (by omega) (by omega)
    omega
  | succ k ih =>
    intro i j h1 h2 h3 h4 h5
    by_cases c1 : i = M
    · by_cases c2 : j = N
      · rw [c1, c2]
        have := D_bd (c := 1) (Or.inr rfl) (rv a M) (rv b N) (i := M - M) (j := N - N) (by omega) (by omega)
        omega
      · have q := ih i (j + 1) h1 h2 (by omega) (by omega) (by omega)
        have e5 := D_0 1 (rv a M) (rv b N) (i := M - i) (j := N - (j + 1)) (by omega) (by omega)
        have e6 := D_0 1 (rv a M) (rv b N) (i := M - i) (j := N - j) (by omega) (by omega)
        have r := D_right a b h1 h3
        omega
    · by_cases c2 : j = N
      · have q := ih (i + 1) j (by omega) (by omega) h3 h4 (by omega)
        have e5 := D_l 1 (rv a M) (rv b N) (i := M - (i + 1)) (j := N - j) (by omega) (by omega)
        have e6 := D_l 1 (rv a M) (rv b N) (i := M - i) (j := N - j) (by omega) (by omega)
        have r := D_down a b h1 h3
        omega
      · have q1 := ih i (j + 1) h1 h2 (by omega) (by omega) (by omega)
        have q2 := ih (i + 1) j (by omega) (by omega) h3 h4 (by omega)
        have q3 := ih (i + 1) (j + 1) (by omega) (by omega) (by omega) (by omega) (by omega)
        have r1 := D_right a b h1 h3
        have r2 := D_down a b h1 h3
        have r3 := D_diag a b h1 h3
        have e := D_s 1 (rv a M) (rv b N) (i := M - i) (j := N - j) (by omega) (by omega)
        have e1 : rv a M (M - i - 1) = a i := congrArg a (by omega)
        have e2 : rv b N (N - j - 1) = b j := congrArg b (by omega)
        rw [e1, e2] at e
        rw [show N - (j + 1) = N - j - 1 by omega] at q1
        rw [show M - (i + 1) = M - i - 1 by omega] at q2
        rw [show N - (j + 1) = N - j - 1 by omega, show M - (i + 1) = M - i - 1 by omega] at q3
        omega
theorem split_row (a b : Int → Int) (M N : Int) (T : Int) {i : Int} (hi : 0 ≤ i) (hM : i + 1 ≤ M) : ∀ (j : Nat), (j : Int) ≤ N → D 1 a b (i + 1) j + D 1 (rv a M) (rv b N) (M - (i + 1)) (N - j) ≤ T → ∃ y : Int, 0 ≤ y ∧ y ≤ N ∧ D 1 a b i y + D 1 (rv a M) (rv b N) (M - i) (N - y) ≤ T := by
  intro j
  induction j with
  | zero =>
    intro h1 h2
    refine ⟨0, by omega, by omega, ?_⟩
    have z0 : ((0 : Nat) : Int) = 0 := rfl
    rw [z0] at h2
    rw [D_l 1 a b rfl (by omega)] at h2
    rw [D_l 1 a b rfl hi]
    have r := D_down (rv a M) (rv b N) (i := M - (i + 1)) (j := N - 0) (by omega) (by omega)
    rw [show M - (i + 1) + 1 = M - i by omega] at r
    omega
  | succ j ih =>
    intro h1 h2
    have e := D_s 1 a b (i := i + 1) (j := (j : Int) + 1) (by omega) (by omega)
    rw [show i + 1 - 1 = i by omega, show (j : Int) + 1 - 1 = j by omega] at e
    have ej : ((j + 1 : Nat) : Int) = (j : Int) + 1 := by omega
    rw [ej] at h2 h1
    have r1 := D_down (rv a M) (rv b N) (i := M - (i + 1)) (j := N - ((j : Int) + 1)) (by omega) (by omega)
    rw [show M - (i + 1) + 1 = M - i by omega] at r1
    have r2 := D_right (rv a M) (rv b N) (i := M - (i + 1)) (j := N - ((j : Int) + 1)) (by omega) (by omega)
    rw [show N - ((j : Int) + 1) + 1 = N - j by omega] at r2
    have r3 := D_diag (rv a M) (rv b N) (i := M - (i + 1)) (j := N - ((j : Int) + 1)) (by omega) (by omega)
    rw [show M - (i + 1) + 1 = M - i by omega, show N - ((j : Int) + 1) + 1 = N - j by omega] at r3
    have e1 : rv a M (M - (i + 1)) = a i := congrArg a (by omega)
    have e2 : rv b N (N - ((j : Int) + 1)) = b j := congrArg b (by omega)
    rw [e1, e2] at r3
    by_cases c1 : D 1 a b (i + 1) ((j : Int) + 1) = D 1 a b i ((j : Int) + 1) + 1
    · exact ⟨(j : Int) + 1, by omega, by omega, by omega⟩
    · by_cases c2 : D 1 a b (i + 1) ((j : Int) + 1) = D 1 a b i j + cst (a i) (b j)
      · exact ⟨j, by omega, by omega, by omega⟩
      · exact ih (by omega) (by omega)
theorem split_ge (a b : Int → Int) {M N : Int} (hN : 0 ≤ N) : ∀ (k : Nat), (k : Int) ≤ M → ∃ y : Int, 0 ≤ y ∧ y ≤ N ∧ D 1 a b (M - k) y + D 1 (rv a M) (rv b N) k (N - y) ≤ D 1 a b M N := by
  intro k
  induction k with
  | zero =>
    intro h
    refine ⟨N, hN, Int.le_refl N, ?_⟩
    have z0 : ((0 : Nat) : Int) = 0 := rfl
    rw [z0, D_0 1 (rv a M) (rv b N) rfl (by omega), show M - 0 = M by omega]
    omega
  | succ k ih =>
    intro h
    obtain ⟨y, h1, h2, h3⟩ := ih (by omega)
    obtain ⟨j, rfl⟩ := Int.eq_ofNat_of_zero_le h1
    have e1 : M - ((k + 1 : Nat) : Int) + 1 = M - k := by omega
    have e2 : M - (M - ((k + 1 : Nat) : Int) + 1) = k := by omega
    have e3 : M - (M - ((k + 1 : Nat) : Int)) = ((k + 1 : Nat) : Int) := by omega
    have q := split_row a b M N (D 1 a b M N) (i := M - ((k + 1 : Nat) : Int)) (by omega) (by omega) j h2 (by rw [e1, show M - (M - (k : Int)) = k by omega]; exact h3)
    rw [e3] at q
    exact q
/-- the least sum over a row is the distance -/
theorem split_eq (a b : Int → Int) {M N i L : Int} (hN : 0 ≤ N) (hi : 0 ≤ i) (hM : i ≤ M) (h1 : ∀ y : Int, 0 ≤ y → y ≤ N → L ≤ D 1 a b i y + D 1 (rv a M) (rv b N) (M - i) (N - y)) (h2 : ∃ y : Int, 0 ≤ y ∧ y ≤ N ∧ L = D 1 a b i y + D 1 (rv a M) (rv b N) (M - i) (N - y)) : L = D 1 a b M N := by
  obtain ⟨y, q1, q2, q3⟩ := h2
  have r1 := split_le a b M N ((M - i) + (N - y)).toNat i y hi hM q1 q2 (by omega)
  obtain ⟨z, s1, s2, s3⟩ := split_ge a b (M := M) hN (M - i).toNat (by omega)
  have e : ((M - i).toNat : Int) = M - i := Int.toNat_of_nonneg (by omega)
  rw [e, show M - (M - i) = i by omega] at s3
  have r2 := h1 z s1 s2
  omega
theorem dN_sym (a b : Int → Int) : ∀ i j : Nat, dN 1 a b i j = dN 1 b a j i := by
  intro i
  induction i with
  | zero =>
    intro j
    cases j with
    | zero => rw [dN, dN]
    | succ j => rw [dN, dN]; omega
  | succ i ih =>
    intro j
    induction j with
    | zero => rw [dN, dN]; omega
    | succ j ihj =>
      rw [dN, dN, ih (j + 1), ihj, ih j, cst_comm (a i) (b j)]
      omega
theorem D_sym (a b : Int → Int) (i j : Int) : D 1 a b i j = D 1 b a j i := dN_sym a b i.toNat j.toNat
end
section
/-! longs that are compared; rows of bits -/
section JL
variable {p : Program} {l : Launch} {e : Env} {R : Room} {s : State} {m : MethodId} {args : Array Value} {below : List Frame} {meth : Method} {c : Code} {H : Heap} {locs : List Loc} {cells slots : Nat} {Q : State → Prop} {cc : ByteArray} {pc : Nat} {ls : Array Slot} {rest : List Value}
theorem lcmp_0 (x y : Int64) : (if x < y then (-1 : Int32) else if x = y then 0 else 1) = 0 ↔ x = y := by
  by_cases h1 : x < y
  · rw [if_pos h1]
    constructor
    · intro h; exact absurd h (by decide)
    · intro h; subst h; exact absurd h1 (Int64.lt_irrefl)
  · rw [if_neg h1]
    by_cases h2 : x = y
    · rw [if_pos h2]; exact ⟨fun _ => h2, fun _ => rfl⟩
    · rw [if_neg h2]; exact ⟨fun h => absurd h (by decide), fun h => absurd h h2⟩
end JL
/-! neighbours differ by at most one -/
theorem dN_left2 (a b : Int → Int) : ∀ i j : Nat, dN 1 a b i j ≤ dN 1 a b i (j + 1) + 1 := by
  intro i
  induction i with
  | zero => intro j; rw [dN, dN]; omega
  | succ i ih =>
    intro j
    have h := D_down a b (i := i) (j := j) (by omega) (by omega)
    unfold D at h
    rw [show ((i : Int) + 1).toNat = i + 1 by omega, Int.toNat_natCast, Int.toNat_natCast] at h
    have h1 := ih j
    have h2 := cst_bd (a i) (b j)
    have e : dN 1 a b (i + 1) (j + 1) = min (min (dN 1 a b i (j + 1)) (dN 1 a b (i + 1) j) + 1) (dN 1 a b i j + cst (a i) (b j)) := by rw [dN]
    omega
theorem D_left2 (a b : Int → Int) {i j : Int} (hi : 0 ≤ i) (hj : 0 ≤ j) : D 1 a b i j ≤ D 1 a b i (j + 1) + 1 := by
  have h := dN_left2 a b i.toNat j.toNat
  unfold D
  rw [show (j + 1).toNat = j.toNat + 1 by omega]
  exact h
theorem D_up2 (a b : Int → Int) {i j : Int} (hi : 0 ≤ i) (hj : 0 ≤ j) : D 1 a b i j ≤ D 1 a b (i + 1) j + 1 := by
  rw [D_sym a b i j, D_sym a b (i + 1) j]
  exact D_left2 b a hj hi
/-! keys -/
def pk (a b : Int → Int) (i j k : Int) : Int := ((a (i + k - 1) * 4 + b (j + k - 1)) * 3 + (D 1 a b (i - 1) (j + k) - D 1 a b (i - 1) (j + k - 1) + 1)) * 3 + (D 1 a b (i + k) (j - 1) - D 1 a b (i + k - 1) (j - 1) + 1)
theorem pk_bd {a b : Int → Int} {i j k : Int} (hi : 1 ≤ i) (hj : 1 ≤ j) (hk : 0 ≤ k) (ha : 0 ≤ a (i + k - 1) ∧ a (i + k - 1) < 4) (hb : 0 ≤ b (j + k - 1) ∧ b (j + k - 1) < 4) :
    0 ≤ pk a b i j k ∧ pk a b i j k < 144 ∧ -1 ≤ D 1 a b (i - 1) (j + k) - D 1 a b (i - 1) (j + k - 1) ∧ D 1 a b (i - 1) (j + k) - D 1 a b (i - 1) (j + k - 1) ≤ 1 ∧ -1 ≤ D 1 a b (i + k) (j - 1) - D 1 a b (i + k - 1) (j - 1) ∧ D 1 a b (i + k) (j - 1) - D 1 a b (i + k - 1) (j - 1) ≤ 1 := by
  have h1 := D_right a b (i := i - 1) (j := j + k - 1) (by omega) (by omega)
  have h2 := D_left2 a b (i := i - 1) (j := j + k - 1) (by omega) (by omega)
  have h3 := D_down a b (i := i + k - 1) (j := j - 1) (by omega) (by omega)
  have h4 := D_up2 a b (i := i + k - 1) (j := j - 1) (by omega) (by omega)
  rw [show j + k - 1 + 1 = j + k by omega] at h1 h2
  rw [show i + k - 1 + 1 = i + k by omega] at h3 h4
  unfold pk
  omega
def keyC (t : Int) (a b : Int → Int) (i j : Int) : Int := if t = 1 then pk a b i j 0 else pk a b i j 0 * 144 + pk a b i j 1
/-! the table: which keys were met, the hits, the misses, the single steps -/
abbrev TS : Type := (Int → Bool) × Int × Int × Int
def upB (M : Int → Bool) (k : Int) : Int → Bool := fun x => if x = k then true else M x
def tKey (k : Int) (x : TS) : TS := if x.1 k = true then (x.1, x.2.1 + 1, x.2.2.1, x.2.2.2) else (upB x.1 k, x.2.1, x.2.2.1 + 1, x.2.2.2)
def tOne (n : Int) (x : TS) : TS := (x.1, x.2.1, x.2.2.1, x.2.2.2 + n)
def tBlk (t : Int) (a b : Int → Int) (m n i j : Int) (x : TS) : TS := if i + t - 1 ≤ m ∧ j + t - 1 ≤ n then tKey (keyC t a b i j) x else tOne (min t (m - i + 1) * min t (n - j + 1)) x
def tRow (t : Int) (a b : Int → Int) (m n i : Int) : Nat → Int → TS → TS
  | 0, _, x => x
  | f + 1, j, x => if j ≤ n then tRow t a b m n i f (j + t) (tBlk t a b m n i j x) else x
def tAll (t : Int) (a b : Int → Int) (m n : Int) : Nat → Int → TS → TS
  | 0, _, x => x
  | f + 1, i, x => if i ≤ m then tAll t a b m n f (i + t) (tRow t a b m n i 21 1 x) else x
def tGo (t : Int) (a b : Int → Int) (m n : Int) (x : TS) : TS := tAll t a b m n 21 1 x
theorem tRow_s {t : Int} {a b : Int → Int} {m n i j : Int} {f : Nat} {x y : TS} (h : tRow t a b m n i f j x = y) (hj : j ≤ n) (hf : (n + 1 - j).toNat ≤ f) (ht : 1 ≤ t) : ∃ f2, tRow t a b m n i f2 (j + t) (tBlk t a b m n i j x) = y ∧ (n + 1 - (j + t)).toNat ≤ f2 := by
  cases f with
  | zero => exact absurd hf (by omega)
  | succ f => rw [tRow, if_pos hj] at h; exact ⟨f, h, by omega⟩
theorem tRow_e {t : Int} {a b : Int → Int} {m n i j : Int} {f : Nat} {x y : TS} (h : tRow t a b m n i f j x = y) (hj : n < j) : x = y := by
  cases f with
  | zero => exact h
  | succ f => rw [tRow, if_neg (by omega)] at h; exact h
theorem tAll_s {t : Int} {a b : Int → Int} {m n i : Int} {f : Nat} {x y : TS} (h : tAll t a b m n f i x = y) (hi : i ≤ m) (hf : (m + 1 - i).toNat ≤ f) (ht : 1 ≤ t) : ∃ f2, tAll t a b m n f2 (i + t) (tRow t a b m n i 21 1 x) = y ∧ (m + 1 - (i + t)).toNat ≤ f2 := by
  cases f with
  | zero => exact absurd hf (by omega)
  | succ f => rw [tAll, if_pos hi] at h; exact ⟨f, h, by omega⟩
theorem tAll_e {t : Int} {a b : Int → Int} {m n i : Int} {f : Nat} {x y : TS} (h : tAll t a b m n f i x = y) (hi : m < i) : x = y := by
  cases f with
  | zero => exact h
  | succ f => rw [tAll, if_neg (by omega)] at h; exact h
/-! words of bits -/
def rM (F : Int → Int64) (M : Int → Bool) : Prop := ∀ w b : Int, 0 ≤ w → w < 324 → 0 ≤ b → b < 64 → (F w).toBitVec.getLsbD b.toNat = M (w * 64 + b)
abbrev bitW (k : Int) : Int64 := (1 : Int64) <<< ((jz k).toInt64 &&& 63)
theorem bitW_n : ∀ k : Nat, k < 64 → (bitW (k : Int)).toBitVec = BitVec.twoPow 64 k := by decide +kernel
theorem bitW_tp {k : Int} (h0 : 0 ≤ k) (h1 : k < 64) : (bitW k).toBitVec = BitVec.twoPow 64 k.toNat := by
  have h := bitW_n k.toNat (by omega)
  rw [Int.toNat_of_nonneg h0] at h
  exact h
theorem bit_0 {x : Int64} {k : Int} (h0 : 0 ≤ k) (h1 : k < 64) : (x &&& bitW k = 0) ↔ x.toBitVec.getLsbD k.toNat = false := by
  rw [← Int64.toBitVec_inj, Int64.toBitVec_and, bitW_tp h0 h1, BitVec.and_twoPow]
  cases hb : x.toBitVec.getLsbD k.toNat with
  | false => simp
  | true =>
    simp only [if_true]
    constructor
    · intro h
      have h2 := congrArg (fun v : BitVec 64 => v.getLsbD k.toNat) h
      simp [BitVec.getLsbD_twoPow] at h2
      omega
    · intro h; cases h
theorem bit_or {x : Int64} {k : Int} (h0 : 0 ≤ k) (h1 : k < 64) {b : Int} (hb0 : 0 ≤ b) (hb1 : b < 64) : (x ||| bitW k).toBitVec.getLsbD b.toNat = if b = k then true else x.toBitVec.getLsbD b.toNat := by
  rw [Int64.toBitVec_or, bitW_tp h0 h1, BitVec.getLsbD_or, BitVec.getLsbD_twoPow]
  by_cases e : b = k
  · subst e
    rw [if_pos rfl]
    simp
    omega
  · rw [if_neg e]
    have : ¬ k.toNat = b.toNat := by omega
    simp [this]
theorem rM_hit {F : Int → Int64} {M : Int → Bool} (h : rM F M) {k : Int} (h0 : 0 ≤ k) (h1 : k < 20736) : (F (k / 64) &&& bitW (k % 64) = 0) ↔ M k = false := by
  rw [bit_0 (by omega) (by omega), h (k / 64) (k % 64) (by omega) (by omega) (by omega) (by omega), show k / 64 * 64 + k % 64 = k by omega]
theorem rM_up {F : Int → Int64} {M : Int → Bool} (h : rM F M) {k : Int} (h0 : 0 ≤ k) (h1 : k < 20736) : rM (up F (k / 64) (F (k / 64) ||| bitW (k % 64))) (upB M k) := by
  intro w b q1 q2 q3 q4
  unfold up upB
  by_cases e : w = k / 64
  · rw [if_pos e, bit_or (by omega) (by omega) q3 q4, ← e, h w b q1 q2 q3 q4]
    by_cases e2 : b = k % 64
    · rw [if_pos e2, if_pos (by omega)]
    · rw [if_neg e2, if_neg (by omega)]
  · rw [if_neg e, if_neg (by omega)]
    exact h w b q1 q2 q3 q4
theorem rM_0 {F : Int → Int64} (h : ∀ w : Int, 0 ≤ w → w < 324 → F w = 0) : rM F (fun _ => false) := by
  intro w b q1 q2 q3 q4
  rw [h w q1 q2]
  simp
end
section
/-! a comparison of longs and the branch behind it; the copy of a row of longs -/
section JM
variable {p : Program} {l : Launch} {e : Env} {R : Room} {s : State} {m : MethodId} {args : Array Value} {below : List Frame} {meth : Method} {c : Code} {H : Heap} {locs : List Loc} {cells slots : Nat} {Q : State → Prop} {cc : ByteArray} {pc : Nat} {ls : Array Slot} {rest : List Value}
variable {G : GG} {ws : va_W} {A : Nat → Prop} {H0 : Heap}
theorem lg_cmp_0 (x y : Int64) : lg_cmp x y = 0 ↔ x = y := by
  unfold lg_cmp
  by_cases h1 : x > y
  · rw [if_pos h1]
    constructor
    · intro h; exact absurd h (by decide)
    · intro h; subst h; exact absurd h1 (Int64.lt_irrefl)
  · rw [if_neg h1]
    by_cases h2 : x = y
    · rw [if_pos h2]; exact ⟨fun _ => h2, fun _ => rfl⟩
    · rw [if_neg h2]; exact ⟨fun h => absurd h (by decide), fun h => absurd h h2⟩
theorem jv_lcmp_eq (hx : p.tables.exec = Jvm.exec) (hb : c.code = cc) {x y : Int64} {off : Int} {tgt : Nat} (hd1 : decode cc pc = .ok (.lcmp, 1)) (hd2 : decode cc (pc + 1) = .ok (.ifCond .eq off, 3)) (ht : ((pc + 1 : Nat) : Int) + off = (tgt : Int))
    (kt : x = y → W p l e R s m args below meth c H locs cells slots Q (F0 m tgt ls rest)) (kf : ¬ x = y → W p l e R s m args below meth c H locs cells slots Q (F0 m (pc + 1 + 3) ls rest)) : W p l e R s m args below meth c H locs cells slots Q (F0 m pc ls (.long y :: .long x :: rest)) :=
  W.lcmp hx hb hd1 (lv_if_eq hx hb hd2 ht (fun h => kt ((lg_cmp_0 x y).mp h)) (fun h => kf (fun h9 => h ((lg_cmp_0 x y).mpr h9))))
theorem jv_lcmp_ne (hx : p.tables.exec = Jvm.exec) (hb : c.code = cc) {x y : Int64} {off : Int} {tgt : Nat} (hd1 : decode cc pc = .ok (.lcmp, 1)) (hd2 : decode cc (pc + 1) = .ok (.ifCond .ne off, 3)) (ht : ((pc + 1 : Nat) : Int) + off = (tgt : Int))
    (kt : ¬ x = y → W p l e R s m args below meth c H locs cells slots Q (F0 m tgt ls rest)) (kf : x = y → W p l e R s m args below meth c H locs cells slots Q (F0 m (pc + 1 + 3) ls rest)) : W p l e R s m args below meth c H locs cells slots Q (F0 m pc ls (.long y :: .long x :: rest)) :=
  W.lcmp hx hb hd1 (lv_if_ne hx hb hd2 ht (fun h => kt (fun h9 => h ((lg_cmp_0 x y).mpr h9))) (fun h => kf ((lg_cmp_0 x y).mp h)))
theorem jz_nn {z : Int} (h0 : 0 ≤ z) (h : jr z) : ¬ jz z < 0 := by
  intro h9
  have h8 : jz z < jz 0 := h9
  rw [jz_lt h (by omega)] at h8
  omega
theorem jv_copyl {own : String} {index : Nat} (hx : p.tables.exec = Jvm.exec) (hb : c.code = cc) (hml : c.maxLocals = ls.size) (hown : s.vm.findClass own = some m.cls) (hlink : (Cond.methodLink own index arraycopyName).before args s = true) (hnat : (Cond.native arraycopyName).before args s = true) (hstat : (Cond.static arraycopyName).before args s = true) (hini : (Cond.initialized "java/lang/System").before args s = true)
    (hK : K0 G s) (hP : va_P G.1 vwCl ws H) (hD : va_D A ws) (hS : va_S A H0 H locs) (q0 q1 : Nat) {a a0 : Nat} {f g : Int → Int64} (ha0 : ws[q0]? = some (a0, jl G 324 f)) (ha1 : ws[q1]? = some (a, jl G 324 g)) (hframes : 1 ≤ R.frames) (hlocals : (rest.map fun v => v.category).sum + (nativeFrameWords "java/lang/System" "arraycopy" 5 + 11) ≤ R.locals) (hdg : decode cc pc = .ok (.invokestatic index, 3))
    (kk : ∀ (g2 : Int → Int64) (H1 : Heap) (locs1 : List Loc), (∀ w : Int, 0 ≤ w → w < 324 → g2 w = f w) → va_P G.1 vwCl (ws.set q1 (a, jl G 324 g2)) H1 → va_D A (ws.set q1 (a, jl G 324 g2)) → va_S A H0 H1 locs1 → W p l e R s m args below meth c H1 locs1 cells slots Q (F0 m (pc + 3) ls rest)) : W p l e R s m args below meth c H locs cells slots Q (F0 m pc ls (.int (jz 324) :: .int (jz 0) :: .ref a :: .int (jz 0) :: .ref a0 :: rest)) := by
  have e0 : (jz 0).toNatClampNeg = 0 := jz_clamp (by omega)
  have e1 : (jz 324).toNatClampNeg = 324 := jz_clamp (by omega)
  have ef : va_cpy (fun j : Nat => f (j : Int)) (fun j : Nat => g (j : Int)) 0 0 324 = fun j : Nat => (fun w : Int => if 0 ≤ w ∧ w < 324 then f w else g w) (j : Int) := by
    funext j
    unfold va_cpy
    by_cases h : j < 324
    · rw [if_pos ⟨Nat.zero_le j, by omega⟩]
      show f ((0 + (j - 0) : Nat) : Int) = if 0 ≤ (j : Int) ∧ (j : Int) < 324 then f j else g j
      rw [if_pos ⟨by omega, by omega⟩, show 0 + (j - 0) = j by omega]
    · rw [if_neg (by omega)]
      show g j = if 0 ≤ (j : Int) ∧ (j : Int) < 324 then f j else g j
      rw [if_neg (by omega)]
  refine va_copyl hx hb hml hown hlink hnat hstat hini hK hP hD hS q0 q1 1 1 ha0 ha1 rfl rfl rfl (jz_nn (by omega) (by omega)) (jz_nn (by omega) (by omega)) (jz_nn (by omega) (by omega)) (by rw [e0, e1]; omega) (by rw [e0, e1]; omega) (fun i _ => rfl) hframes hlocals hdg ?_
  rw [e0, e1, ef]
  exact fun H1 locs1 h1 h2 h3 => kk (fun w => if 0 ≤ w ∧ w < 324 then f w else g w) H1 locs1 (fun w p1 p2 => if_pos ⟨p1, p2⟩) h1 h2 h3
end JM
end
section
/-! bounds of the way -/
theorem wayN_bd (a b : Int → Int) : ∀ (f : Nat) (i j : Int), 0 ≤ i → 0 ≤ j → (wayN a b f i j).length ≤ f ∧ ∀ v ∈ wayN a b f i j, 0 ≤ v ∧ v ≤ 3 := by
  intro f
  induction f with
  | zero => intro i j _ _; exact ⟨Nat.le_refl 0, fun v hv => absurd hv List.not_mem_nil⟩
  | succ f ih =>
    intro i j hi hj
    rw [wayN]
    by_cases h : 0 < i ∨ 0 < j
    · rw [if_pos h]
      have hb := stp_bd (a := a) (b := b) hi hj h
      have h1 := ih (if stp a b i j = 3 then i else i - 1) (if stp a b i j = 2 then j else j - 1) (by split <;> omega) (by split <;> omega)
      refine ⟨by rw [List.length_cons]; omega, fun v hv => ?_⟩
      rcases List.mem_cons.mp hv with e | e
      · rw [e]; omega
      · exact h1.2 v e
    · rw [if_neg h]
      exact ⟨Nat.zero_le _, fun v hv => absurd hv List.not_mem_nil⟩
theorem wL_bd (a b : Int → Int) {m n : Int} (hm : 0 ≤ m ∧ m ≤ 20) (hn : 0 ≤ n ∧ n ≤ 20) : 0 ≤ wL a b m n ∧ wL a b m n ≤ 40 := by
  have h := (wayN_bd a b 40 m n hm.1 hn.1).1
  unfold wL way
  omega
theorem wA_bd (a b : Int → Int) {m n : Int} (hm : 0 ≤ m ∧ m ≤ 20) (hn : 0 ≤ n ∧ n ≤ 20) {x : Int} (h0 : 0 ≤ x) (h1 : x < wL a b m n) : 0 ≤ wA a b m n x ∧ wA a b m n x ≤ 3 := by
  have h := (wayN_bd a b 40 m n hm.1 hn.1).2
  unfold wL at h1
  unfold wA
  have hl : x.toNat < (way a b m n).length := by omega
  rw [List.getD_eq_getElem?_getD, List.getElem?_eq_getElem hl]
  exact h _ (List.getElem_mem hl)
end
section
/-! the best place, the best letter, the band, the hash -/
def argN (f : Int → Int) : Nat → Int
  | 0 => 0
  | k + 1 => if f ((k : Int) + 1) < f (argN f k) then (k : Int) + 1 else argN f k
def argI (f : Int → Int) (n : Int) : Int := argN f n.toNat
theorem argI_0 (f : Int → Int) : argI f 0 = 0 := rfl
theorem argI_s (f : Int → Int) {n : Int} (h : 0 ≤ n) : argI f (n + 1) = if f (n + 1) < f (argI f n) then n + 1 else argI f n := by
  unfold argI
  rw [show (n + 1).toNat = n.toNat + 1 by omega, argN, Int.toNat_of_nonneg h]
theorem argN_bd (f : Int → Int) : ∀ k : Nat, 0 ≤ argN f k ∧ argN f k ≤ k := by
  intro k
  induction k with
  | zero => exact ⟨Int.le_refl 0, Int.le_refl 0⟩
  | succ k ih => rw [argN]; split <;> omega
theorem argI_bd (f : Int → Int) {n : Int} (h : 0 ≤ n) : 0 ≤ argI f n ∧ argI f n ≤ n := by
  have := argN_bd f n.toNat
  unfold argI
  omega
theorem argN_least (f : Int → Int) : ∀ (k : Nat) (x : Int), 0 ≤ x → x ≤ k → f (argN f k) ≤ f x ∧ (x < argN f k → f (argN f k) < f x) := by
  intro k
  induction k with
  | zero =>
    intro x h1 h2
    have e : x = 0 := by omega
    rw [argN, e]
    exact ⟨Int.le_refl _, fun h => absurd h (Int.lt_irrefl 0)⟩
  | succ k ih =>
    intro x h1 h2
    have hb := argN_bd f k
    rw [argN]
    by_cases c1 : f ((k : Int) + 1) < f (argN f k)
    · rw [if_pos c1]
      by_cases c2 : x = (k : Int) + 1
      · rw [c2]; exact ⟨Int.le_refl _, fun h => absurd h (Int.lt_irrefl _)⟩
      · have := (ih x h1 (by omega)).1
        exact ⟨by omega, fun _ => by omega⟩
    · rw [if_neg c1]
      by_cases c2 : x = (k : Int) + 1
      · rw [c2]; exact ⟨by omega, fun h => by omega⟩
      · exact ih x h1 (by omega)
def bStep (v z : Int) (x : Int × Int) : Int × Int := if x.1 < 0 ∨ v < x.2 then (z, v) else x
def bLet (F : Int → Int → Int) (i : Int) : Nat → Int × Int → Int × Int
  | 0, x => x
  | k + 1, x => bStep (F i k) (10 * i + k) (bLet F i k x)
def bAll (F : Int → Int → Int) (al : Int) : Nat → Int × Int
  | 0 => (-1, 0)
  | k + 1 => bLet F k al.toNat (bAll F al k)
def bestF (F : Int → Int → Int) (al n : Int) : Int := (bAll F al n.toNat).1
theorem bLet_s (F : Int → Int → Int) (i : Int) {k : Int} (h : 0 ≤ k) (x : Int × Int) : bLet F i (k + 1).toNat x = bStep (F i k) (10 * i + k) (bLet F i k.toNat x) := by
  rw [show (k + 1).toNat = k.toNat + 1 by omega, bLet, Int.toNat_of_nonneg h]
theorem bAll_s (F : Int → Int → Int) (al : Int) {k : Int} (h : 0 ≤ k) : bAll F al (k + 1).toNat = bLet F k al.toNat (bAll F al k.toNat) := by
  rw [show (k + 1).toNat = k.toNat + 1 by omega, bAll, Int.toNat_of_nonneg h]
theorem bLet_cg {F F' : Int → Int → Int} {i : Int} : ∀ (k : Nat) (x : Int × Int), (∀ v : Int, 0 ≤ v → v < k → F i v = F' i v) → bLet F i k x = bLet F' i k x := by
  intro k
  induction k with
  | zero => intro x _; rfl
  | succ k ih => intro x h; rw [bLet, bLet, ih x (fun v h1 h2 => h v h1 (by omega)), h k (by omega) (by omega)]
theorem bAll_cg {F F' : Int → Int → Int} {al : Int} : ∀ (k : Nat), (∀ i v : Int, 0 ≤ i → i < k → 0 ≤ v → v < al → F i v = F' i v) → bAll F al k = bAll F' al k := by
  intro k
  induction k with
  | zero => intro _; rfl
  | succ k ih =>
    intro h
    rw [bAll, bAll, ih (fun i v h1 h2 => h i v h1 (by omega)), bLet_cg al.toNat _ (fun v h1 h2 => h k v (by omega) (by omega) h1 (by omega))]
/-- where (b, c) is the class's best and least, and x what is due -/
def bRel (b c : Int) (x : Int × Int) : Prop := (b = -1 ∧ c = 2147483647 ∧ x = (-1, 0)) ∨ (0 ≤ b ∧ 0 ≤ c ∧ c ≤ 100 ∧ x = (b, c))
theorem bRel_up {b c v z : Int} {x : Int × Int} (h : bRel b c x) (hv : 0 ≤ v ∧ v ≤ 100) (hz : 0 ≤ z) (hc : v < c) : bRel z v (bStep v z x) := by
  rcases h with ⟨h1, h2, h3⟩ | ⟨h1, h2, h4, h3⟩
  · refine Or.inr ⟨hz, hv.1, hv.2, ?_⟩
    unfold bStep
    rw [h3, if_pos (Or.inl (by decide))]
  · refine Or.inr ⟨hz, hv.1, hv.2, ?_⟩
    unfold bStep
    rw [h3, if_pos (Or.inr hc)]
theorem bRel_no {b c v z : Int} {x : Int × Int} (h : bRel b c x) (hv : 0 ≤ v ∧ v ≤ 100) (hc : c ≤ v) : bRel b c (bStep v z x) := by
  rcases h with ⟨h1, h2, h3⟩ | ⟨h1, h2, h4, h3⟩
  · omega
  · refine Or.inr ⟨h1, h2, h4, ?_⟩
    unfold bStep
    rw [h3, if_neg (by show ¬ (b < 0 ∨ v < c); omega)]
theorem bRel_1 {b c : Int} {x : Int × Int} (h : bRel b c x) : x.1 = b := by
  rcases h with ⟨h1, h2, h3⟩ | ⟨h1, h2, h4, h3⟩
  · rw [h3, h1]
  · rw [h3]
def bandN (b n : Int) : Nat → Int
  | 0 => 0
  | k + 1 => bandN b n k + max 0 (min n ((k : Int) + b) - max 0 ((k : Int) - b) + 1)
def bandI (b n k : Int) : Int := bandN b n k.toNat
theorem bandI_s (b n : Int) {k : Int} (h : 0 ≤ k) : bandI b n (k + 1) = bandI b n k + max 0 (min n (k + b) - max 0 (k - b) + 1) := by
  unfold bandI
  rw [show (k + 1).toNat = k.toNat + 1 by omega, bandN, Int.toNat_of_nonneg h]
def mx (h : Int64) (v : Int) : Int64 := 31 * h + (jz v).toInt64
def mxN (f : Int → Int) : Nat → Int64 → Int64
  | 0, h => h
  | k + 1, h => mx (mxN f k h) (f k)
def mxI (f : Int → Int) (n : Int) (h : Int64) : Int64 := mxN f n.toNat h
theorem mxI_s (f : Int → Int) {n : Int} (hn : 0 ≤ n) (h : Int64) : mxI f (n + 1) h = mx (mxI f n h) (f n) := by
  unfold mxI
  rw [show (n + 1).toNat = n.toNat + 1 by omega, mxN, Int.toNat_of_nonneg hn]
theorem mxN_cg {f g : Int → Int} : ∀ (k : Nat) (h : Int64), (∀ x : Int, 0 ≤ x → x < k → f x = g x) → mxN f k h = mxN g k h := by
  intro k
  induction k with
  | zero => intro h _; rfl
  | succ k ih => intro h hh; rw [mxN, mxN, ih h (fun x h1 h2 => hh x h1 (by omega)), hh k (by omega) (by omega)]
theorem mxI_cg {f g : Int → Int} {n : Int} {h : Int64} (hh : ∀ x : Int, 0 ≤ x → x < n → f x = g x) : mxI f n h = mxI g n h := mxN_cg n.toNat h (fun x h1 h2 => hh x h1 (by omega))
def mxG (F : Int → Int → Int) (n : Int) : Nat → Int64 → Int64
  | 0, h => h
  | k + 1, h => mxI (F k) (n + 1) (mxG F n k h)
def mxGI (F : Int → Int → Int) (n k : Int) (h : Int64) : Int64 := mxG F n k.toNat h
theorem mxGI_s (F : Int → Int → Int) (n : Int) {k : Int} (hk : 0 ≤ k) (h : Int64) : mxGI F n (k + 1) h = mxI (F k) (n + 1) (mxGI F n k h) := by
  unfold mxGI
  rw [show (k + 1).toNat = k.toNat + 1 by omega, mxG, Int.toNat_of_nonneg hk]
def sim (d g : Int) : UInt64 := if g = 0 then FP.dconst1 else FP.dsub FP.dconst1 (FP.ddiv (FP.i2d (jz d)) (FP.i2d (jz g)))
end
section
/-! the doubles of similarity are numbers -/
def dblOk (d g : Nat) : Bool := decide (FP.ddiv (FP.i2d (jz (d : Int))) (FP.i2d (jz (g : Int))) &&& 0x7fffffffffffffff ≤ 0x7ff0000000000000) && decide (FP.dsub FP.dconst1 (FP.ddiv (FP.i2d (jz (d : Int))) (FP.i2d (jz (g : Int)))) &&& 0x7fffffffffffffff ≤ 0x7ff0000000000000)
theorem dbl_all : (List.range 41).all (fun d => (List.range 20).all (fun g => dblOk d (g + 1))) = true := by decide +kernel
theorem dbl_ok {d g : Int} (h0 : 0 ≤ d) (h1 : d ≤ 40) (h2 : 1 ≤ g) (h3 : g ≤ 20) : vf_n64 (FP.ddiv (FP.i2d (jz d)) (FP.i2d (jz g))) ∧ vf_n64 (FP.dsub FP.dconst1 (FP.ddiv (FP.i2d (jz d)) (FP.i2d (jz g)))) := by
  have h := List.all_eq_true.mp (List.all_eq_true.mp dbl_all d.toNat (List.mem_range.mpr (by omega))) (g - 1).toNat (List.mem_range.mpr (by omega))
  unfold dblOk at h
  rw [Bool.and_eq_true, decide_eq_true_eq, decide_eq_true_eq, show ((d.toNat : Nat) : Int) = d by omega, show (((g - 1).toNat + 1 : Nat) : Int) = g by omega] at h
  exact h
end
