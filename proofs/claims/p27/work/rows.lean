section
-- ===== PART A: goes FIRST, ahead of the names: the tables' words, and 'selects' of the private methods out of them =====
/-- a private method of a class that the tables say can be made, by its rows of tables_1 -/
def lw_okq (q : MethodName × Nat) : Prop := (q.1.cls ≠ "java/lang/invoke/MethodHandle" ∧ q.1.cls ≠ "java/lang/invoke/VarHandle") ∧ Cond.instantiable q.1.cls q.2 ∈ tables_1 ∧ Cond.privateMethod q.1 ∈ tables_1 ∧ Cond.instanceMethod q.1 ∈ tables_1
theorem lw_p0 : lw_okq (⟨"DotToner$Machine", "useToner", "(II)I"⟩, 14) := ⟨⟨by decide +kernel, by decide +kernel⟩, List.mem_of_getElem? (i := 16) (by decide +kernel), List.mem_of_getElem? (i := 220) (by decide +kernel), List.mem_of_getElem? (i := 221) (by decide +kernel)⟩
theorem lw_p1 : lw_okq (⟨"DotToner$Machine", "settleToner", "(I)V"⟩, 14) := ⟨⟨by decide +kernel, by decide +kernel⟩, List.mem_of_getElem? (i := 16) (by decide +kernel), List.mem_of_getElem? (i := 231) (by decide +kernel), List.mem_of_getElem? (i := 232) (by decide +kernel)⟩
theorem lw_p2 : lw_okq (⟨"DotToner$Pad", "readDeed", "()Z"⟩, 9) := ⟨⟨by decide +kernel, by decide +kernel⟩, List.mem_of_getElem? (i := 100) (by decide +kernel), List.mem_of_getElem? (i := 264) (by decide +kernel), List.mem_of_getElem? (i := 265) (by decide +kernel)⟩
theorem lw_p3 : lw_okq (⟨"DotToner$Pad", "read", "(C)Z"⟩, 9) := ⟨⟨by decide +kernel, by decide +kernel⟩, List.mem_of_getElem? (i := 100) (by decide +kernel), List.mem_of_getElem? (i := 268) (by decide +kernel), List.mem_of_getElem? (i := 269) (by decide +kernel)⟩
theorem lw_p4 : lw_okq (⟨"DotToner$Pad", "readPrinting", "()Z"⟩, 9) := ⟨⟨by decide +kernel, by decide +kernel⟩, List.mem_of_getElem? (i := 100) (by decide +kernel), List.mem_of_getElem? (i := 272) (by decide +kernel), List.mem_of_getElem? (i := 273) (by decide +kernel)⟩
theorem lw_p5 : lw_okq (⟨"DotToner$Pad", "readBelow", "(I)I"⟩, 9) := ⟨⟨by decide +kernel, by decide +kernel⟩, List.mem_of_getElem? (i := 100) (by decide +kernel), List.mem_of_getElem? (i := 276) (by decide +kernel), List.mem_of_getElem? (i := 277) (by decide +kernel)⟩
theorem lw_p6 : lw_okq (⟨"DotToner$Pad", "readNumber", "(II)I"⟩, 9) := ⟨⟨by decide +kernel, by decide +kernel⟩, List.mem_of_getElem? (i := 100) (by decide +kernel), List.mem_of_getElem? (i := 280) (by decide +kernel), List.mem_of_getElem? (i := 281) (by decide +kernel)⟩
theorem lw_p7 : lw_okq (⟨"DotToner$Pad", "readShaking", "()Z"⟩, 9) := ⟨⟨by decide +kernel, by decide +kernel⟩, List.mem_of_getElem? (i := 100) (by decide +kernel), List.mem_of_getElem? (i := 284) (by decide +kernel), List.mem_of_getElem? (i := 285) (by decide +kernel)⟩
theorem lw_p8 : lw_okq (⟨"DotToner$Pad", "readMoving", "()Z"⟩, 9) := ⟨⟨by decide +kernel, by decide +kernel⟩, List.mem_of_getElem? (i := 100) (by decide +kernel), List.mem_of_getElem? (i := 288) (by decide +kernel), List.mem_of_getElem? (i := 289) (by decide +kernel)⟩
theorem lw_p9 : lw_okq (⟨"DotToner", "doDeed", "(I)I"⟩, 6) := ⟨⟨by decide +kernel, by decide +kernel⟩, List.mem_of_getElem? (i := 8) (by decide +kernel), List.mem_of_getElem? (i := 308) (by decide +kernel), List.mem_of_getElem? (i := 309) (by decide +kernel)⟩
theorem lw_p10 : lw_okq (⟨"DotToner", "printPagesOf", "(I)I"⟩, 6) := ⟨⟨by decide +kernel, by decide +kernel⟩, List.mem_of_getElem? (i := 8) (by decide +kernel), List.mem_of_getElem? (i := 312) (by decide +kernel), List.mem_of_getElem? (i := 313) (by decide +kernel)⟩
def lw_privs_1 : List (MethodName × Nat) := [(⟨"DotToner$Machine", "useToner", "(II)I"⟩, 14), (⟨"DotToner$Machine", "settleToner", "(I)V"⟩, 14), (⟨"DotToner$Pad", "readDeed", "()Z"⟩, 9), (⟨"DotToner$Pad", "read", "(C)Z"⟩, 9), (⟨"DotToner$Pad", "readPrinting", "()Z"⟩, 9), (⟨"DotToner$Pad", "readBelow", "(I)I"⟩, 9), (⟨"DotToner$Pad", "readNumber", "(II)I"⟩, 9), (⟨"DotToner$Pad", "readShaking", "()Z"⟩, 9), (⟨"DotToner$Pad", "readMoving", "()Z"⟩, 9), (⟨"DotToner", "doDeed", "(I)I"⟩, 6), (⟨"DotToner", "printPagesOf", "(I)I"⟩, 6)]
theorem lw_r1 : ∀ q ∈ lw_privs_1, lw_okq q := List.forall_mem_cons.mpr ⟨lw_p0, List.forall_mem_cons.mpr ⟨lw_p1, List.forall_mem_cons.mpr ⟨lw_p2, List.forall_mem_cons.mpr ⟨lw_p3, List.forall_mem_cons.mpr ⟨lw_p4, List.forall_mem_cons.mpr ⟨lw_p5, List.forall_mem_cons.mpr ⟨lw_p6, List.forall_mem_cons.mpr ⟨lw_p7, List.forall_mem_cons.mpr ⟨lw_p8, List.forall_mem_cons.mpr ⟨lw_p9, List.forall_mem_cons.mpr ⟨lw_p10, fun _ h => absurd h List.not_mem_nil⟩⟩⟩⟩⟩⟩⟩⟩⟩⟩⟩
def lw_privs : List (MethodName × Nat) := lw_privs_1
def lw_tbl : List Cond := k2_sels lw_privs ++ tables_1
theorem lw_privs_ok : ∀ q ∈ lw_privs, lw_okq q := lw_r1
/-- the streams that the claim lets the run draw from -/
abbrev lw_cs : List Choice := [Jvm.Choice.named "NaN.bits"]
theorem lw_bits : nanBits ∈ lw_cs := by first | decide | exact List.mem_cons_self | simp [lw_cs, nanBits]
end
section
def RX0 : String := "DotToner$History"
def TX0 : u_T := fun k => match k with
  | 0 => ("DotToner$History", "states", "[LDotToner$Machine;", true)
  | 1 => ("DotToner$History", "oldest", "I", false)
  | _ => ("DotToner$History", "size", "I", false)
def tyX0 : Nat → FieldType := fun k => match k with
  | 0 => .array (.object "DotToner$Machine")
  | 1 => .int
  | _ => .int
abbrev wsX00 : List Cond := u_ws RX0 TX0 3
theorem nmX0 : ∀ a, a < 3 → ∀ b, b < 3 → a ≠ b → (TX0 a).2.1 ≠ (TX0 b).2.1 := by decide +kernel
theorem tyX0_ok : ∀ k, k < 3 → parseFieldDescriptor (TX0 k).2.2.1 = some (tyX0 k) := by decide +kernel
abbrev cX0_init : ByteArray := prog_2_method_1_code
def yX0_init : MethodName := ⟨RX0, "<init>", "()V"⟩
abbrev cX0_keep : ByteArray := prog_2_method_2_code
def yX0_keep : MethodName := ⟨RX0, "keep", "(LDotToner$Machine;)V"⟩
abbrev cX0_takeBack : ByteArray := prog_2_method_3_code
def yX0_takeBack : MethodName := ⟨RX0, "takeBack", "(LDotToner$Machine;)V"⟩
def RX1 : String := "DotToner$Machine"
def TX1 : u_T := fun k => match k with
  | 0 => ("DotToner$Machine", "settings", "[I", true)
  | 1 => ("DotToner$Machine", "kinds", "[I", true)
  | 2 => ("DotToner$Machine", "hand", "[I", true)
  | 3 => ("DotToner$Machine", "settled", "[I", true)
  | 4 => ("DotToner$Machine", "chips", "[I", true)
  | 5 => ("DotToner$Machine", "cupIn", "[I", true)
  | 6 => ("DotToner$Machine", "darkPages", "[I", true)
  | 7 => ("DotToner$Machine", "lightPages", "[I", true)
  | 8 => ("DotToner$Machine", "refusedPages", "[I", true)
  | 9 => ("DotToner$Machine", "dotsPrinted", "[I", true)
  | 10 => ("DotToner$Machine", "latest", "[I", true)
  | 11 => ("DotToner$Machine", "used", "I", false)
  | 12 => ("DotToner$Machine", "spilt", "I", false)
  | _ => ("DotToner$Machine", "refilled", "I", false)
def tyX1 : Nat → FieldType := fun k => match k with
  | 0 => .array .int
  | 1 => .array .int
  | 2 => .array .int
  | 3 => .array .int
  | 4 => .array .int
  | 5 => .array .int
  | 6 => .array .int
  | 7 => .array .int
  | 8 => .array .int
  | 9 => .array .int
  | 10 => .array .int
  | 11 => .int
  | 12 => .int
  | _ => .int
abbrev wsX10 : List Cond := u_ws RX1 TX1 14
theorem nmX1 : ∀ a, a < 14 → ∀ b, b < 14 → a ≠ b → (TX1 a).2.1 ≠ (TX1 b).2.1 := by decide +kernel
theorem tyX1_ok : ∀ k, k < 14 → parseFieldDescriptor (TX1 k).2.2.1 = some (tyX1 k) := by decide +kernel
abbrev cX1_init : ByteArray := prog_3_method_1_code
def yX1_init : MethodName := ⟨RX1, "<init>", "()V"⟩
abbrev cX1_becomeLike : ByteArray := prog_3_method_2_code
def yX1_becomeLike : MethodName := ⟨RX1, "becomeLike", "(LDotToner$Machine;)V"⟩
abbrev cX1_tonerFor : ByteArray := prog_3_method_3_code
def yX1_tonerFor : MethodName := ⟨RX1, "tonerFor", "(III)I"⟩
abbrev cX1_chipFor : ByteArray := prog_3_method_4_code
def yX1_chipFor : MethodName := ⟨RX1, "chipFor", "(III)I"⟩
abbrev cX1_refusal : ByteArray := prog_3_method_5_code
def yX1_refusal : MethodName := ⟨RX1, "refusal", "(I)I"⟩
abbrev cX1_printPage : ByteArray := prog_3_method_6_code
def yX1_printPage : MethodName := ⟨RX1, "printPage", "(II)I"⟩
abbrev cX1_useToner : ByteArray := prog_3_method_7_code
def yX1_useToner : MethodName := ⟨RX1, "useToner", "(II)I"⟩
abbrev cX1_settleToner : ByteArray := prog_3_method_8_code
def yX1_settleToner : MethodName := ⟨RX1, "settleToner", "(I)V"⟩
abbrev cX1_shakeCup : ByteArray := prog_3_method_9_code
def yX1_shakeCup : MethodName := ⟨RX1, "shakeCup", "(I)I"⟩
abbrev cX1_moveCup : ByteArray := prog_3_method_10_code
def yX1_moveCup : MethodName := ⟨RX1, "moveCup", "(II)I"⟩
abbrev cX1_empty : ByteArray := prog_3_method_11_code
def yX1_empty : MethodName := ⟨RX1, "empty", "(I)V"⟩
abbrev cX1_fillCup : ByteArray := prog_3_method_12_code
def yX1_fillCup : MethodName := ⟨RX1, "fillCup", "(II)I"⟩
abbrev cX1_printerOf : ByteArray := prog_3_method_13_code
def yX1_printerOf : MethodName := ⟨RX1, "printerOf", "(I)I"⟩
abbrev cX1_toner : ByteArray := prog_3_method_14_code
def yX1_toner : MethodName := ⟨RX1, "toner", "(I)I"⟩
abbrev cX1_scaleTells : ByteArray := prog_3_method_15_code
def yX1_scaleTells : MethodName := ⟨RX1, "scaleTells", "(I)I"⟩
abbrev cX1_toldLeft : ByteArray := prog_3_method_16_code
def yX1_toldLeft : MethodName := ⟨RX1, "toldLeft", "(I)I"⟩
abbrev cX1_allToner : ByteArray := prog_3_method_17_code
def yX1_allToner : MethodName := ⟨RX1, "allToner", "()I"⟩
abbrev cX1_allToldLeft : ByteArray := prog_3_method_18_code
def yX1_allToldLeft : MethodName := ⟨RX1, "allToldLeft", "()I"⟩
abbrev cX1_cupsOvertold : ByteArray := prog_3_method_19_code
def yX1_cupsOvertold : MethodName := ⟨RX1, "cupsOvertold", "()I"⟩
abbrev cX1_cupsInside : ByteArray := prog_3_method_20_code
def yX1_cupsInside : MethodName := ⟨RX1, "cupsInside", "()I"⟩
abbrev cX1_darkOfAll : ByteArray := prog_3_method_21_code
def yX1_darkOfAll : MethodName := ⟨RX1, "darkOfAll", "()I"⟩
abbrev cX1_lightOfAll : ByteArray := prog_3_method_22_code
def yX1_lightOfAll : MethodName := ⟨RX1, "lightOfAll", "()I"⟩
abbrev cX1_pagesLasting : ByteArray := prog_3_method_23_code
def yX1_pagesLasting : MethodName := ⟨RX1, "pagesLasting", "(IIZI)I"⟩
abbrev cX1_lastsShaken : ByteArray := prog_3_method_24_code
def yX1_lastsShaken : MethodName := ⟨RX1, "lastsShaken", "(IIII)Z"⟩
abbrev cX1_wouldBeDark : ByteArray := prog_3_method_25_code
def yX1_wouldBeDark : MethodName := ⟨RX1, "wouldBeDark", "(II)Z"⟩
abbrev cX1_handPageByPage : ByteArray := prog_3_method_26_code
def yX1_handPageByPage : MethodName := ⟨RX1, "handPageByPage", "(III)I"⟩
abbrev cX1_handAddedUp : ByteArray := prog_3_method_27_code
def yX1_handAddedUp : MethodName := ⟨RX1, "handAddedUp", "(III)I"⟩
def RX2 : String := "DotToner$Pad"
def TX2 : u_T := fun k => match k with
  | 0 => ("DotToner$Pad", "signs", "[C", true)
  | 1 => ("DotToner$Pad", "length", "I", false)
  | 2 => ("DotToner$Pad", "at", "I", false)
  | 3 => ("DotToner$Pad", "deeds", "I", false)
  | 4 => ("DotToner$Pad", "letters", "[C", true)
  | 5 => ("DotToner$Pad", "places", "[I", true)
  | 6 => ("DotToner$Pad", "firsts", "[I", true)
  | 7 => ("DotToner$Pad", "seconds", "[I", true)
  | _ => ("DotToner$Pad", "times", "[I", true)
def tyX2 : Nat → FieldType := fun k => match k with
  | 0 => .array .char
  | 1 => .int
  | 2 => .int
  | 3 => .int
  | 4 => .array .char
  | 5 => .array .int
  | 6 => .array .int
  | 7 => .array .int
  | _ => .array .int
abbrev wsX20 : List Cond := u_ws RX2 TX2 9
theorem nmX2 : ∀ a, a < 9 → ∀ b, b < 9 → a ≠ b → (TX2 a).2.1 ≠ (TX2 b).2.1 := by decide +kernel
theorem tyX2_ok : ∀ k, k < 9 → parseFieldDescriptor (TX2 k).2.2.1 = some (tyX2 k) := by decide +kernel
abbrev cX2_init : ByteArray := prog_4_method_1_code
def yX2_init : MethodName := ⟨RX2, "<init>", "()V"⟩
abbrev cX2_hasRoom : ByteArray := prog_4_method_2_code
def yX2_hasRoom : MethodName := ⟨RX2, "hasRoom", "()Z"⟩
abbrev cX2_add : ByteArray := prog_4_method_3_code
def yX2_add : MethodName := ⟨RX2, "add", "(C)V"⟩
abbrev cX2_wipe : ByteArray := prog_4_method_4_code
def yX2_wipe : MethodName := ⟨RX2, "wipe", "()V"⟩
abbrev cX2_findFault : ByteArray := prog_4_method_5_code
def yX2_findFault : MethodName := ⟨RX2, "findFault", "()I"⟩
abbrev cX2_readDeed : ByteArray := prog_4_method_6_code
def yX2_readDeed : MethodName := ⟨RX2, "readDeed", "()Z"⟩
abbrev cX2_readPrinting : ByteArray := prog_4_method_7_code
def yX2_readPrinting : MethodName := ⟨RX2, "readPrinting", "()Z"⟩
abbrev cX2_readShaking : ByteArray := prog_4_method_8_code
def yX2_readShaking : MethodName := ⟨RX2, "readShaking", "()Z"⟩
abbrev cX2_readMoving : ByteArray := prog_4_method_9_code
def yX2_readMoving : MethodName := ⟨RX2, "readMoving", "()Z"⟩
abbrev cX2_read : ByteArray := prog_4_method_10_code
def yX2_read : MethodName := ⟨RX2, "read", "(C)Z"⟩
abbrev cX2_readBelow : ByteArray := prog_4_method_11_code
def yX2_readBelow : MethodName := ⟨RX2, "readBelow", "(I)I"⟩
abbrev cX2_readNumber : ByteArray := prog_4_method_12_code
def yX2_readNumber : MethodName := ⟨RX2, "readNumber", "(II)I"⟩
def RX3 : String := "DotToner$Stop"
def TX3 : u_T := fun k => match k with
  | 0 => ("DotToner$Stop", "reason", "I", false)
  | 1 => ("DotToner$Stop", "deed", "I", false)
  | 2 => ("DotToner$Stop", "place", "I", false)
  | _ => ("DotToner$Stop", "pages", "I", false)
def tyX3 : Nat → FieldType := fun k => match k with
  | 0 => .int
  | 1 => .int
  | 2 => .int
  | _ => .int
abbrev wsX30 : List Cond := u_ws RX3 TX3 4
theorem nmX3 : ∀ a, a < 4 → ∀ b, b < 4 → a ≠ b → (TX3 a).2.1 ≠ (TX3 b).2.1 := by decide +kernel
theorem tyX3_ok : ∀ k, k < 4 → parseFieldDescriptor (TX3 k).2.2.1 = some (tyX3 k) := by decide +kernel
abbrev cX3_init : ByteArray := prog_5_method_1_code
def yX3_init : MethodName := ⟨RX3, "<init>", "()V"⟩
abbrev cX3_forget : ByteArray := prog_5_method_2_code
def yX3_forget : MethodName := ⟨RX3, "forget", "()V"⟩
abbrev cX3_note : ByteArray := prog_5_method_3_code
def yX3_note : MethodName := ⟨RX3, "note", "(IIII)V"⟩
abbrev cX3_known : ByteArray := prog_5_method_4_code
def yX3_known : MethodName := ⟨RX3, "known", "()Z"⟩
def RX4 : String := "DotToner"
def TX4 : u_T := fun k => match k with
  | 0 => ("DotToner", "now", "LDotToner$Machine;", true)
  | 1 => ("DotToner", "snapshot", "LDotToner$Machine;", true)
  | 2 => ("DotToner", "snapshotTaken", "Z", false)
  | 3 => ("DotToner", "history", "LDotToner$History;", true)
  | 4 => ("DotToner", "pad", "LDotToner$Pad;", true)
  | _ => ("DotToner", "stop", "LDotToner$Stop;", true)
def tyX4 : Nat → FieldType := fun k => match k with
  | 0 => .object "DotToner$Machine"
  | 1 => .object "DotToner$Machine"
  | 2 => .boolean
  | 3 => .object "DotToner$History"
  | 4 => .object "DotToner$Pad"
  | _ => .object "DotToner$Stop"
abbrev wsX40 : List Cond := u_ws RX4 TX4 6
theorem nmX4 : ∀ a, a < 6 → ∀ b, b < 6 → a ≠ b → (TX4 a).2.1 ≠ (TX4 b).2.1 := by decide +kernel
theorem tyX4_ok : ∀ k, k < 6 → parseFieldDescriptor (TX4 k).2.2.1 = some (tyX4 k) := by decide +kernel
abbrev cX4_init : ByteArray := prog_1_method_1_code
def yX4_init : MethodName := ⟨RX4, "<init>", "()V"⟩
abbrev cX4_print : ByteArray := prog_1_method_2_code
def yX4_print : MethodName := ⟨RX4, "print", "(II)I"⟩
abbrev cX4_shake : ByteArray := prog_1_method_3_code
def yX4_shake : MethodName := ⟨RX4, "shake", "(I)I"⟩
abbrev cX4_move : ByteArray := prog_1_method_4_code
def yX4_move : MethodName := ⟨RX4, "move", "(II)I"⟩
abbrev cX4_takeOut : ByteArray := prog_1_method_5_code
def yX4_takeOut : MethodName := ⟨RX4, "takeOut", "(I)I"⟩
abbrev cX4_refill : ByteArray := prog_1_method_6_code
def yX4_refill : MethodName := ⟨RX4, "refill", "(II)I"⟩
abbrev cX4_set : ByteArray := prog_1_method_7_code
def yX4_set : MethodName := ⟨RX4, "set", "(II)I"⟩
abbrev cX4_append : ByteArray := prog_1_method_8_code
def yX4_append : MethodName := ⟨RX4, "append", "(I)I"⟩
abbrev cX4_clear : ByteArray := prog_1_method_9_code
def yX4_clear : MethodName := ⟨RX4, "clear", "()I"⟩
abbrev cX4_fault : ByteArray := prog_1_method_10_code
def yX4_fault : MethodName := ⟨RX4, "fault", "()I"⟩
abbrev cX4_run : ByteArray := prog_1_method_11_code
def yX4_run : MethodName := ⟨RX4, "run", "()I"⟩
abbrev cX4_why : ByteArray := prog_1_method_12_code
def yX4_why : MethodName := ⟨RX4, "why", "(I)I"⟩
abbrev cX4_cup : ByteArray := prog_1_method_13_code
def yX4_cup : MethodName := ⟨RX4, "cup", "(II)I"⟩
abbrev cX4_printer : ByteArray := prog_1_method_14_code
def yX4_printer : MethodName := ⟨RX4, "printer", "(II)I"⟩
abbrev cX4_needs : ByteArray := prog_1_method_15_code
def yX4_needs : MethodName := ⟨RX4, "needs", "(III)I"⟩
abbrev cX4_whyNot : ByteArray := prog_1_method_16_code
def yX4_whyNot : MethodName := ⟨RX4, "whyNot", "(I)I"⟩
abbrev cX4_count : ByteArray := prog_1_method_17_code
def yX4_count : MethodName := ⟨RX4, "count", "(I)I"⟩
abbrev cX4_darkness : ByteArray := prog_1_method_18_code
def yX4_darkness : MethodName := ⟨RX4, "darkness", "()D"⟩
abbrev cX4_lasts : ByteArray := prog_1_method_19_code
def yX4_lasts : MethodName := ⟨RX4, "lasts", "(IIZ)I"⟩
abbrev cX4_atHand : ByteArray := prog_1_method_20_code
def yX4_atHand : MethodName := ⟨RX4, "atHand", "(IIII)I"⟩
abbrev cX4_bestFor : ByteArray := prog_1_method_21_code
def yX4_bestFor : MethodName := ⟨RX4, "bestFor", "(II)I"⟩
abbrev cX4_darkest : ByteArray := prog_1_method_22_code
def yX4_darkest : MethodName := ⟨RX4, "darkest", "(III)I"⟩
abbrev cX4_undo : ByteArray := prog_1_method_23_code
def yX4_undo : MethodName := ⟨RX4, "undo", "()I"⟩
abbrev cX4_save : ByteArray := prog_1_method_24_code
def yX4_save : MethodName := ⟨RX4, "save", "()I"⟩
abbrev cX4_restore : ByteArray := prog_1_method_25_code
def yX4_restore : MethodName := ⟨RX4, "restore", "()I"⟩
abbrev cX4_doDeed : ByteArray := prog_1_method_26_code
def yX4_doDeed : MethodName := ⟨RX4, "doDeed", "(I)I"⟩
abbrev cX4_printPagesOf : ByteArray := prog_1_method_27_code
def yX4_printPagesOf : MethodName := ⟨RX4, "printPagesOf", "(I)I"⟩
abbrev cX4_isCup : ByteArray := prog_1_method_28_code
def yX4_isCup : MethodName := ⟨RX4, "isCup", "(I)Z"⟩
abbrev cX4_isPrinter : ByteArray := prog_1_method_29_code
def yX4_isPrinter : MethodName := ⟨RX4, "isPrinter", "(I)Z"⟩
abbrev cX4_isDots : ByteArray := prog_1_method_30_code
def yX4_isDots : MethodName := ⟨RX4, "isDots", "(I)Z"⟩
abbrev cX4_isJobLength : ByteArray := prog_1_method_31_code
def yX4_isJobLength : MethodName := ⟨RX4, "isJobLength", "(I)Z"⟩
abbrev cX4_share : ByteArray := prog_1_method_32_code
def yX4_share : MethodName := ⟨RX4, "share", "(II)I"⟩
def RX5 : String := "DotTonerModel"
def TX5 : u_T := fun k => match k with
  | _ => ("", "", "", false)
def tyX5 : Nat → FieldType := fun k => match k with
  | _ => .int
abbrev wsX50 : List Cond := u_ws RX5 TX5 0
theorem nmX5 : ∀ a, a < 0 → ∀ b, b < 0 → a ≠ b → (TX5 a).2.1 ≠ (TX5 b).2.1 := by decide +kernel
theorem tyX5_ok : ∀ k, k < 0 → parseFieldDescriptor (TX5 k).2.2.1 = some (tyX5 k) := by decide +kernel
def RJ10 : String := "java/lang/System"
def TJ10 : u_T := fun k => match k with
  | _ => ("", "", "", false)
def tyJ10 : Nat → FieldType := fun k => match k with
  | _ => .int
abbrev wsJ100 : List Cond := u_ws RJ10 TJ10 0
theorem nmJ10 : ∀ a, a < 0 → ∀ b, b < 0 → a ≠ b → (TJ10 a).2.1 ≠ (TJ10 b).2.1 := by decide +kernel
theorem tyJ10_ok : ∀ k, k < 0 → parseFieldDescriptor (TJ10 k).2.2.1 = some (tyJ10 k) := by decide +kernel
def RL : String := "DotTonerLaw"
abbrev cL_cell : ByteArray := method_2_code
def yL_cell : MethodName := ⟨RL, "cell", "([II)I"⟩
abbrev cL_acts : ByteArray := method_3_code
def yL_acts : MethodName := ⟨RL, "acts", "(LDotToner;I)I"⟩
abbrev cL_hangs : ByteArray := method_4_code
def yL_hangs : MethodName := ⟨RL, "hangs", "(LDotToner;)Z"⟩
abbrev cL_same : ByteArray := method_5_code
def yL_same : MethodName := ⟨RL, "same", "(LDotToner;LDotToner;)Z"⟩
abbrev cL_refuses : ByteArray := method_6_code
def yL_refuses : MethodName := ⟨RL, "refuses", "(LDotToner;I)Z"⟩
abbrev cL_law : ByteArray := code
def yL_law : MethodName := ⟨RL, "law", "([I)Z"⟩
abbrev vwCl : List vw_C := [(RX0, TX0, 3), (RX1, TX1, 14), (RX2, TX2, 9), (RX3, TX3, 4), (RX4, TX4, 6)]
end
section
theorem dX0_init_0 : decode cX0_init 0 = .ok (.aload_n 0, 1) := by decide +kernel
theorem dX0_init_1 : decode cX0_init 1 = .ok (.invokespecial 1, 3) := by decide +kernel
theorem dX0_init_4 : decode cX0_init 4 = .ok (.aload_n 0, 1) := by decide +kernel
theorem dX0_init_5 : decode cX0_init 5 = .ok (.iconst 4, 1) := by decide +kernel
theorem dX0_init_6 : decode cX0_init 6 = .ok (.anewarray 7, 3) := by decide +kernel
theorem dX0_init_9 : decode cX0_init 9 = .ok (.dup, 1) := by decide +kernel
theorem dX0_init_10 : decode cX0_init 10 = .ok (.iconst 0, 1) := by decide +kernel
theorem dX0_init_11 : decode cX0_init 11 = .ok (.new 7, 3) := by decide +kernel
theorem dX0_init_14 : decode cX0_init 14 = .ok (.dup, 1) := by decide +kernel
theorem dX0_init_15 : decode cX0_init 15 = .ok (.invokespecial 9, 3) := by decide +kernel
theorem dX0_init_18 : decode cX0_init 18 = .ok (.aastore, 1) := by decide +kernel
theorem dX0_init_19 : decode cX0_init 19 = .ok (.dup, 1) := by decide +kernel
theorem dX0_init_20 : decode cX0_init 20 = .ok (.iconst 1, 1) := by decide +kernel
theorem dX0_init_21 : decode cX0_init 21 = .ok (.new 7, 3) := by decide +kernel
theorem dX0_init_24 : decode cX0_init 24 = .ok (.dup, 1) := by decide +kernel
theorem dX0_init_25 : decode cX0_init 25 = .ok (.invokespecial 9, 3) := by decide +kernel
theorem dX0_init_28 : decode cX0_init 28 = .ok (.aastore, 1) := by decide +kernel
theorem dX0_init_29 : decode cX0_init 29 = .ok (.dup, 1) := by decide +kernel
theorem dX0_init_30 : decode cX0_init 30 = .ok (.iconst 2, 1) := by decide +kernel
theorem dX0_init_31 : decode cX0_init 31 = .ok (.new 7, 3) := by decide +kernel
theorem dX0_init_34 : decode cX0_init 34 = .ok (.dup, 1) := by decide +kernel
theorem dX0_init_35 : decode cX0_init 35 = .ok (.invokespecial 9, 3) := by decide +kernel
theorem dX0_init_38 : decode cX0_init 38 = .ok (.aastore, 1) := by decide +kernel
theorem dX0_init_39 : decode cX0_init 39 = .ok (.dup, 1) := by decide +kernel
theorem dX0_init_40 : decode cX0_init 40 = .ok (.iconst 3, 1) := by decide +kernel
theorem dX0_init_41 : decode cX0_init 41 = .ok (.new 7, 3) := by decide +kernel
theorem dX0_init_44 : decode cX0_init 44 = .ok (.dup, 1) := by decide +kernel
theorem dX0_init_45 : decode cX0_init 45 = .ok (.invokespecial 9, 3) := by decide +kernel
theorem dX0_init_48 : decode cX0_init 48 = .ok (.aastore, 1) := by decide +kernel
theorem dX0_init_49 : decode cX0_init 49 = .ok (.putfield 10, 3) := by decide +kernel
theorem dX0_init_52 : decode cX0_init 52 = .ok (.aload_n 0, 1) := by decide +kernel
theorem dX0_init_53 : decode cX0_init 53 = .ok (.iconst 0, 1) := by decide +kernel
theorem dX0_init_54 : decode cX0_init 54 = .ok (.putfield 16, 3) := by decide +kernel
theorem dX0_init_57 : decode cX0_init 57 = .ok (.aload_n 0, 1) := by decide +kernel
theorem dX0_init_58 : decode cX0_init 58 = .ok (.iconst 0, 1) := by decide +kernel
theorem dX0_init_59 : decode cX0_init 59 = .ok (.putfield 20, 3) := by decide +kernel
theorem dX0_init_62 : decode cX0_init 62 = .ok (.return_, 1) := by decide +kernel
theorem dX0_keep_0 : decode cX0_keep 0 = .ok (.aload_n 0, 1) := by decide +kernel
theorem dX0_keep_1 : decode cX0_keep 1 = .ok (.getfield 10, 3) := by decide +kernel
theorem dX0_keep_4 : decode cX0_keep 4 = .ok (.aload_n 0, 1) := by decide +kernel
theorem dX0_keep_5 : decode cX0_keep 5 = .ok (.getfield 16, 3) := by decide +kernel
theorem dX0_keep_8 : decode cX0_keep 8 = .ok (.aload_n 0, 1) := by decide +kernel
theorem dX0_keep_9 : decode cX0_keep 9 = .ok (.getfield 20, 3) := by decide +kernel
theorem dX0_keep_12 : decode cX0_keep 12 = .ok (.iadd, 1) := by decide +kernel
theorem dX0_keep_13 : decode cX0_keep 13 = .ok (.iconst 4, 1) := by decide +kernel
theorem dX0_keep_14 : decode cX0_keep 14 = .ok (.irem, 1) := by decide +kernel
theorem dX0_keep_15 : decode cX0_keep 15 = .ok (.aaload, 1) := by decide +kernel
theorem dX0_keep_16 : decode cX0_keep 16 = .ok (.aload_n 1, 1) := by decide +kernel
theorem dX0_keep_17 : decode cX0_keep 17 = .ok (.invokevirtual 23, 3) := by decide +kernel
theorem dX0_keep_20 : decode cX0_keep 20 = .ok (.aload_n 0, 1) := by decide +kernel
theorem dX0_keep_21 : decode cX0_keep 21 = .ok (.getfield 20, 3) := by decide +kernel
theorem dX0_keep_24 : decode cX0_keep 24 = .ok (.iconst 4, 1) := by decide +kernel
theorem dX0_keep_25 : decode cX0_keep 25 = .ok (.if_icmp .ge 16, 3) := by decide +kernel
theorem dX0_keep_28 : decode cX0_keep 28 = .ok (.aload_n 0, 1) := by decide +kernel
theorem dX0_keep_29 : decode cX0_keep 29 = .ok (.dup, 1) := by decide +kernel
theorem dX0_keep_30 : decode cX0_keep 30 = .ok (.getfield 20, 3) := by decide +kernel
theorem dX0_keep_33 : decode cX0_keep 33 = .ok (.iconst 1, 1) := by decide +kernel
theorem dX0_keep_34 : decode cX0_keep 34 = .ok (.iadd, 1) := by decide +kernel
theorem dX0_keep_35 : decode cX0_keep 35 = .ok (.putfield 20, 3) := by decide +kernel
theorem dX0_keep_38 : decode cX0_keep 38 = .ok (.goto 15, 3) := by decide +kernel
theorem dX0_keep_41 : decode cX0_keep 41 = .ok (.aload_n 0, 1) := by decide +kernel
theorem dX0_keep_42 : decode cX0_keep 42 = .ok (.aload_n 0, 1) := by decide +kernel
theorem dX0_keep_43 : decode cX0_keep 43 = .ok (.getfield 16, 3) := by decide +kernel
theorem dX0_keep_46 : decode cX0_keep 46 = .ok (.iconst 1, 1) := by decide +kernel
theorem dX0_keep_47 : decode cX0_keep 47 = .ok (.iadd, 1) := by decide +kernel
theorem dX0_keep_48 : decode cX0_keep 48 = .ok (.iconst 4, 1) := by decide +kernel
theorem dX0_keep_49 : decode cX0_keep 49 = .ok (.irem, 1) := by decide +kernel
theorem dX0_keep_50 : decode cX0_keep 50 = .ok (.putfield 16, 3) := by decide +kernel
theorem dX0_keep_53 : decode cX0_keep 53 = .ok (.return_, 1) := by decide +kernel
theorem dX0_takeBack_0 : decode cX0_takeBack 0 = .ok (.aload_n 0, 1) := by decide +kernel
theorem dX0_takeBack_1 : decode cX0_takeBack 1 = .ok (.getfield 20, 3) := by decide +kernel
theorem dX0_takeBack_4 : decode cX0_takeBack 4 = .ok (.ifCond .le 33, 3) := by decide +kernel
theorem dX0_takeBack_7 : decode cX0_takeBack 7 = .ok (.aload_n 0, 1) := by decide +kernel
theorem dX0_takeBack_8 : decode cX0_takeBack 8 = .ok (.dup, 1) := by decide +kernel
theorem dX0_takeBack_9 : decode cX0_takeBack 9 = .ok (.getfield 20, 3) := by decide +kernel
theorem dX0_takeBack_12 : decode cX0_takeBack 12 = .ok (.iconst 1, 1) := by decide +kernel
theorem dX0_takeBack_13 : decode cX0_takeBack 13 = .ok (.isub, 1) := by decide +kernel
theorem dX0_takeBack_14 : decode cX0_takeBack 14 = .ok (.putfield 20, 3) := by decide +kernel
theorem dX0_takeBack_17 : decode cX0_takeBack 17 = .ok (.aload_n 1, 1) := by decide +kernel
theorem dX0_takeBack_18 : decode cX0_takeBack 18 = .ok (.aload_n 0, 1) := by decide +kernel
theorem dX0_takeBack_19 : decode cX0_takeBack 19 = .ok (.getfield 10, 3) := by decide +kernel
theorem dX0_takeBack_22 : decode cX0_takeBack 22 = .ok (.aload_n 0, 1) := by decide +kernel
theorem dX0_takeBack_23 : decode cX0_takeBack 23 = .ok (.getfield 16, 3) := by decide +kernel
theorem dX0_takeBack_26 : decode cX0_takeBack 26 = .ok (.aload_n 0, 1) := by decide +kernel
theorem dX0_takeBack_27 : decode cX0_takeBack 27 = .ok (.getfield 20, 3) := by decide +kernel
theorem dX0_takeBack_30 : decode cX0_takeBack 30 = .ok (.iadd, 1) := by decide +kernel
theorem dX0_takeBack_31 : decode cX0_takeBack 31 = .ok (.iconst 4, 1) := by decide +kernel
theorem dX0_takeBack_32 : decode cX0_takeBack 32 = .ok (.irem, 1) := by decide +kernel
theorem dX0_takeBack_33 : decode cX0_takeBack 33 = .ok (.aaload, 1) := by decide +kernel
theorem dX0_takeBack_34 : decode cX0_takeBack 34 = .ok (.invokevirtual 23, 3) := by decide +kernel
theorem dX0_takeBack_37 : decode cX0_takeBack 37 = .ok (.return_, 1) := by decide +kernel
theorem dX1_init_0 : decode cX1_init 0 = .ok (.aload_n 0, 1) := by decide +kernel
theorem dX1_init_1 : decode cX1_init 1 = .ok (.invokespecial 3, 3) := by decide +kernel
theorem dX1_init_4 : decode cX1_init 4 = .ok (.aload_n 0, 1) := by decide +kernel
theorem dX1_init_5 : decode cX1_init 5 = .ok (.iconst 4, 1) := by decide +kernel
theorem dX1_init_6 : decode cX1_init 6 = .ok (.newarray .int, 2) := by decide +kernel
theorem dX1_init_8 : decode cX1_init 8 = .ok (.dup, 1) := by decide +kernel
theorem dX1_init_9 : decode cX1_init 9 = .ok (.iconst 0, 1) := by decide +kernel
theorem dX1_init_10 : decode cX1_init 10 = .ok (.iconst 2, 1) := by decide +kernel
theorem dX1_init_11 : decode cX1_init 11 = .ok (.iastore, 1) := by decide +kernel
theorem dX1_init_12 : decode cX1_init 12 = .ok (.dup, 1) := by decide +kernel
theorem dX1_init_13 : decode cX1_init 13 = .ok (.iconst 1, 1) := by decide +kernel
theorem dX1_init_14 : decode cX1_init 14 = .ok (.bipush 10, 2) := by decide +kernel
theorem dX1_init_16 : decode cX1_init 16 = .ok (.iastore, 1) := by decide +kernel
theorem dX1_init_17 : decode cX1_init 17 = .ok (.dup, 1) := by decide +kernel
theorem dX1_init_18 : decode cX1_init 18 = .ok (.iconst 2, 1) := by decide +kernel
theorem dX1_init_19 : decode cX1_init 19 = .ok (.iconst 0, 1) := by decide +kernel
theorem dX1_init_20 : decode cX1_init 20 = .ok (.iastore, 1) := by decide +kernel
theorem dX1_init_21 : decode cX1_init 21 = .ok (.dup, 1) := by decide +kernel
theorem dX1_init_22 : decode cX1_init 22 = .ok (.iconst 3, 1) := by decide +kernel
theorem dX1_init_23 : decode cX1_init 23 = .ok (.bipush 50, 2) := by decide +kernel
theorem dX1_init_25 : decode cX1_init 25 = .ok (.iastore, 1) := by decide +kernel
theorem dX1_init_26 : decode cX1_init 26 = .ok (.putfield 9, 3) := by decide +kernel
theorem dX1_init_29 : decode cX1_init 29 = .ok (.aload_n 0, 1) := by decide +kernel
theorem dX1_init_30 : decode cX1_init 30 = .ok (.iconst 4, 1) := by decide +kernel
theorem dX1_init_31 : decode cX1_init 31 = .ok (.newarray .int, 2) := by decide +kernel
theorem dX1_init_33 : decode cX1_init 33 = .ok (.dup, 1) := by decide +kernel
theorem dX1_init_34 : decode cX1_init 34 = .ok (.iconst 0, 1) := by decide +kernel
theorem dX1_init_35 : decode cX1_init 35 = .ok (.iconst 0, 1) := by decide +kernel
theorem dX1_init_36 : decode cX1_init 36 = .ok (.iastore, 1) := by decide +kernel
theorem dX1_init_37 : decode cX1_init 37 = .ok (.dup, 1) := by decide +kernel
theorem dX1_init_38 : decode cX1_init 38 = .ok (.iconst 1, 1) := by decide +kernel
theorem dX1_init_39 : decode cX1_init 39 = .ok (.iconst 1, 1) := by decide +kernel
theorem dX1_init_40 : decode cX1_init 40 = .ok (.iastore, 1) := by decide +kernel
theorem dX1_init_41 : decode cX1_init 41 = .ok (.dup, 1) := by decide +kernel
theorem dX1_init_42 : decode cX1_init 42 = .ok (.iconst 2, 1) := by decide +kernel
theorem dX1_init_43 : decode cX1_init 43 = .ok (.iconst 2, 1) := by decide +kernel
theorem dX1_init_44 : decode cX1_init 44 = .ok (.iastore, 1) := by decide +kernel
theorem dX1_init_45 : decode cX1_init 45 = .ok (.dup, 1) := by decide +kernel
theorem dX1_init_46 : decode cX1_init 46 = .ok (.iconst 3, 1) := by decide +kernel
theorem dX1_init_47 : decode cX1_init 47 = .ok (.iconst 0, 1) := by decide +kernel
theorem dX1_init_48 : decode cX1_init 48 = .ok (.iastore, 1) := by decide +kernel
theorem dX1_init_49 : decode cX1_init 49 = .ok (.putfield 15, 3) := by decide +kernel
theorem dX1_init_52 : decode cX1_init 52 = .ok (.aload_n 0, 1) := by decide +kernel
theorem dX1_init_53 : decode cX1_init 53 = .ok (.iconst 4, 1) := by decide +kernel
theorem dX1_init_54 : decode cX1_init 54 = .ok (.newarray .int, 2) := by decide +kernel
theorem dX1_init_56 : decode cX1_init 56 = .ok (.dup, 1) := by decide +kernel
theorem dX1_init_57 : decode cX1_init 57 = .ok (.iconst 0, 1) := by decide +kernel
theorem dX1_init_58 : decode cX1_init 58 = .ok (.sipush 2000, 3) := by decide +kernel
theorem dX1_init_61 : decode cX1_init 61 = .ok (.iastore, 1) := by decide +kernel
theorem dX1_init_62 : decode cX1_init 62 = .ok (.dup, 1) := by decide +kernel
theorem dX1_init_63 : decode cX1_init 63 = .ok (.iconst 1, 1) := by decide +kernel
theorem dX1_init_64 : decode cX1_init 64 = .ok (.sipush 2000, 3) := by decide +kernel
theorem dX1_init_67 : decode cX1_init 67 = .ok (.iastore, 1) := by decide +kernel
theorem dX1_init_68 : decode cX1_init 68 = .ok (.dup, 1) := by decide +kernel
theorem dX1_init_69 : decode cX1_init 69 = .ok (.iconst 2, 1) := by decide +kernel
theorem dX1_init_70 : decode cX1_init 70 = .ok (.sipush 2000, 3) := by decide +kernel
theorem dX1_init_73 : decode cX1_init 73 = .ok (.iastore, 1) := by decide +kernel
theorem dX1_init_74 : decode cX1_init 74 = .ok (.dup, 1) := by decide +kernel
theorem dX1_init_75 : decode cX1_init 75 = .ok (.iconst 3, 1) := by decide +kernel
theorem dX1_init_76 : decode cX1_init 76 = .ok (.sipush 2000, 3) := by decide +kernel
theorem dX1_init_79 : decode cX1_init 79 = .ok (.iastore, 1) := by decide +kernel
theorem dX1_init_80 : decode cX1_init 80 = .ok (.putfield 18, 3) := by decide +kernel
theorem dX1_init_83 : decode cX1_init 83 = .ok (.aload_n 0, 1) := by decide +kernel
theorem dX1_init_84 : decode cX1_init 84 = .ok (.iconst 4, 1) := by decide +kernel
theorem dX1_init_85 : decode cX1_init 85 = .ok (.newarray .int, 2) := by decide +kernel
theorem dX1_init_87 : decode cX1_init 87 = .ok (.dup, 1) := by decide +kernel
theorem dX1_init_88 : decode cX1_init 88 = .ok (.iconst 0, 1) := by decide +kernel
theorem dX1_init_89 : decode cX1_init 89 = .ok (.sipush 2000, 3) := by decide +kernel
theorem dX1_init_92 : decode cX1_init 92 = .ok (.iastore, 1) := by decide +kernel
theorem dX1_init_93 : decode cX1_init 93 = .ok (.dup, 1) := by decide +kernel
theorem dX1_init_94 : decode cX1_init 94 = .ok (.iconst 1, 1) := by decide +kernel
theorem dX1_init_95 : decode cX1_init 95 = .ok (.sipush 2000, 3) := by decide +kernel
theorem dX1_init_98 : decode cX1_init 98 = .ok (.iastore, 1) := by decide +kernel
theorem dX1_init_99 : decode cX1_init 99 = .ok (.dup, 1) := by decide +kernel
theorem dX1_init_100 : decode cX1_init 100 = .ok (.iconst 2, 1) := by decide +kernel
theorem dX1_init_101 : decode cX1_init 101 = .ok (.sipush 2000, 3) := by decide +kernel
theorem dX1_init_104 : decode cX1_init 104 = .ok (.iastore, 1) := by decide +kernel
theorem dX1_init_105 : decode cX1_init 105 = .ok (.dup, 1) := by decide +kernel
theorem dX1_init_106 : decode cX1_init 106 = .ok (.iconst 3, 1) := by decide +kernel
theorem dX1_init_107 : decode cX1_init 107 = .ok (.sipush 2000, 3) := by decide +kernel
theorem dX1_init_110 : decode cX1_init 110 = .ok (.iastore, 1) := by decide +kernel
theorem dX1_init_111 : decode cX1_init 111 = .ok (.putfield 21, 3) := by decide +kernel
theorem dX1_init_114 : decode cX1_init 114 = .ok (.aload_n 0, 1) := by decide +kernel
theorem dX1_init_115 : decode cX1_init 115 = .ok (.iconst 4, 1) := by decide +kernel
theorem dX1_init_116 : decode cX1_init 116 = .ok (.newarray .int, 2) := by decide +kernel
theorem dX1_init_118 : decode cX1_init 118 = .ok (.dup, 1) := by decide +kernel
theorem dX1_init_119 : decode cX1_init 119 = .ok (.iconst 0, 1) := by decide +kernel
theorem dX1_init_120 : decode cX1_init 120 = .ok (.sipush 4000, 3) := by decide +kernel
theorem dX1_init_123 : decode cX1_init 123 = .ok (.iastore, 1) := by decide +kernel
theorem dX1_init_124 : decode cX1_init 124 = .ok (.dup, 1) := by decide +kernel
theorem dX1_init_125 : decode cX1_init 125 = .ok (.iconst 1, 1) := by decide +kernel
theorem dX1_init_126 : decode cX1_init 126 = .ok (.sipush 4000, 3) := by decide +kernel
theorem dX1_init_129 : decode cX1_init 129 = .ok (.iastore, 1) := by decide +kernel
theorem dX1_init_130 : decode cX1_init 130 = .ok (.dup, 1) := by decide +kernel
theorem dX1_init_131 : decode cX1_init 131 = .ok (.iconst 2, 1) := by decide +kernel
theorem dX1_init_132 : decode cX1_init 132 = .ok (.sipush 4000, 3) := by decide +kernel
theorem dX1_init_135 : decode cX1_init 135 = .ok (.iastore, 1) := by decide +kernel
theorem dX1_init_136 : decode cX1_init 136 = .ok (.dup, 1) := by decide +kernel
theorem dX1_init_137 : decode cX1_init 137 = .ok (.iconst 3, 1) := by decide +kernel
theorem dX1_init_138 : decode cX1_init 138 = .ok (.sipush 4000, 3) := by decide +kernel
theorem dX1_init_141 : decode cX1_init 141 = .ok (.iastore, 1) := by decide +kernel
theorem dX1_init_142 : decode cX1_init 142 = .ok (.putfield 24, 3) := by decide +kernel
theorem dX1_init_145 : decode cX1_init 145 = .ok (.aload_n 0, 1) := by decide +kernel
theorem dX1_init_146 : decode cX1_init 146 = .ok (.iconst 2, 1) := by decide +kernel
theorem dX1_init_147 : decode cX1_init 147 = .ok (.newarray .int, 2) := by decide +kernel
theorem dX1_init_149 : decode cX1_init 149 = .ok (.dup, 1) := by decide +kernel
theorem dX1_init_150 : decode cX1_init 150 = .ok (.iconst 0, 1) := by decide +kernel
theorem dX1_init_151 : decode cX1_init 151 = .ok (.iconst 0, 1) := by decide +kernel
theorem dX1_init_152 : decode cX1_init 152 = .ok (.iastore, 1) := by decide +kernel
theorem dX1_init_153 : decode cX1_init 153 = .ok (.dup, 1) := by decide +kernel
theorem dX1_init_154 : decode cX1_init 154 = .ok (.iconst 1, 1) := by decide +kernel
theorem dX1_init_155 : decode cX1_init 155 = .ok (.iconst 1, 1) := by decide +kernel
theorem dX1_init_156 : decode cX1_init 156 = .ok (.iastore, 1) := by decide +kernel
theorem dX1_init_157 : decode cX1_init 157 = .ok (.putfield 27, 3) := by decide +kernel
theorem dX1_init_160 : decode cX1_init 160 = .ok (.aload_n 0, 1) := by decide +kernel
theorem dX1_init_161 : decode cX1_init 161 = .ok (.iconst 2, 1) := by decide +kernel
theorem dX1_init_162 : decode cX1_init 162 = .ok (.newarray .int, 2) := by decide +kernel
theorem dX1_init_164 : decode cX1_init 164 = .ok (.dup, 1) := by decide +kernel
theorem dX1_init_165 : decode cX1_init 165 = .ok (.iconst 0, 1) := by decide +kernel
theorem dX1_init_166 : decode cX1_init 166 = .ok (.iconst 0, 1) := by decide +kernel
theorem dX1_init_167 : decode cX1_init 167 = .ok (.iastore, 1) := by decide +kernel
theorem dX1_init_168 : decode cX1_init 168 = .ok (.dup, 1) := by decide +kernel
theorem dX1_init_169 : decode cX1_init 169 = .ok (.iconst 1, 1) := by decide +kernel
theorem dX1_init_170 : decode cX1_init 170 = .ok (.iconst 0, 1) := by decide +kernel
theorem dX1_init_171 : decode cX1_init 171 = .ok (.iastore, 1) := by decide +kernel
theorem dX1_init_172 : decode cX1_init 172 = .ok (.putfield 30, 3) := by decide +kernel
theorem dX1_init_175 : decode cX1_init 175 = .ok (.aload_n 0, 1) := by decide +kernel
theorem dX1_init_176 : decode cX1_init 176 = .ok (.iconst 2, 1) := by decide +kernel
theorem dX1_init_177 : decode cX1_init 177 = .ok (.newarray .int, 2) := by decide +kernel
theorem dX1_init_179 : decode cX1_init 179 = .ok (.dup, 1) := by decide +kernel
theorem dX1_init_180 : decode cX1_init 180 = .ok (.iconst 0, 1) := by decide +kernel
theorem dX1_init_181 : decode cX1_init 181 = .ok (.iconst 0, 1) := by decide +kernel
theorem dX1_init_182 : decode cX1_init 182 = .ok (.iastore, 1) := by decide +kernel
theorem dX1_init_183 : decode cX1_init 183 = .ok (.dup, 1) := by decide +kernel
theorem dX1_init_184 : decode cX1_init 184 = .ok (.iconst 1, 1) := by decide +kernel
theorem dX1_init_185 : decode cX1_init 185 = .ok (.iconst 0, 1) := by decide +kernel
theorem dX1_init_186 : decode cX1_init 186 = .ok (.iastore, 1) := by decide +kernel
theorem dX1_init_187 : decode cX1_init 187 = .ok (.putfield 33, 3) := by decide +kernel
theorem dX1_init_190 : decode cX1_init 190 = .ok (.aload_n 0, 1) := by decide +kernel
theorem dX1_init_191 : decode cX1_init 191 = .ok (.iconst 2, 1) := by decide +kernel
theorem dX1_init_192 : decode cX1_init 192 = .ok (.newarray .int, 2) := by decide +kernel
theorem dX1_init_194 : decode cX1_init 194 = .ok (.dup, 1) := by decide +kernel
theorem dX1_init_195 : decode cX1_init 195 = .ok (.iconst 0, 1) := by decide +kernel
theorem dX1_init_196 : decode cX1_init 196 = .ok (.iconst 0, 1) := by decide +kernel
theorem dX1_init_197 : decode cX1_init 197 = .ok (.iastore, 1) := by decide +kernel
theorem dX1_init_198 : decode cX1_init 198 = .ok (.dup, 1) := by decide +kernel
theorem dX1_init_199 : decode cX1_init 199 = .ok (.iconst 1, 1) := by decide +kernel
theorem dX1_init_200 : decode cX1_init 200 = .ok (.iconst 0, 1) := by decide +kernel
theorem dX1_init_201 : decode cX1_init 201 = .ok (.iastore, 1) := by decide +kernel
theorem dX1_init_202 : decode cX1_init 202 = .ok (.putfield 36, 3) := by decide +kernel
theorem dX1_init_205 : decode cX1_init 205 = .ok (.aload_n 0, 1) := by decide +kernel
theorem dX1_init_206 : decode cX1_init 206 = .ok (.iconst 2, 1) := by decide +kernel
theorem dX1_init_207 : decode cX1_init 207 = .ok (.newarray .int, 2) := by decide +kernel
theorem dX1_init_209 : decode cX1_init 209 = .ok (.dup, 1) := by decide +kernel
theorem dX1_init_210 : decode cX1_init 210 = .ok (.iconst 0, 1) := by decide +kernel
theorem dX1_init_211 : decode cX1_init 211 = .ok (.iconst 0, 1) := by decide +kernel
theorem dX1_init_212 : decode cX1_init 212 = .ok (.iastore, 1) := by decide +kernel
theorem dX1_init_213 : decode cX1_init 213 = .ok (.dup, 1) := by decide +kernel
theorem dX1_init_214 : decode cX1_init 214 = .ok (.iconst 1, 1) := by decide +kernel
theorem dX1_init_215 : decode cX1_init 215 = .ok (.iconst 0, 1) := by decide +kernel
theorem dX1_init_216 : decode cX1_init 216 = .ok (.iastore, 1) := by decide +kernel
theorem dX1_init_217 : decode cX1_init 217 = .ok (.putfield 39, 3) := by decide +kernel
theorem dX1_init_220 : decode cX1_init 220 = .ok (.aload_n 0, 1) := by decide +kernel
theorem dX1_init_221 : decode cX1_init 221 = .ok (.iconst 2, 1) := by decide +kernel
theorem dX1_init_222 : decode cX1_init 222 = .ok (.newarray .int, 2) := by decide +kernel
theorem dX1_init_224 : decode cX1_init 224 = .ok (.dup, 1) := by decide +kernel
theorem dX1_init_225 : decode cX1_init 225 = .ok (.iconst 0, 1) := by decide +kernel
theorem dX1_init_226 : decode cX1_init 226 = .ok (.bipush (-4), 2) := by decide +kernel
theorem dX1_init_228 : decode cX1_init 228 = .ok (.iastore, 1) := by decide +kernel
theorem dX1_init_229 : decode cX1_init 229 = .ok (.dup, 1) := by decide +kernel
theorem dX1_init_230 : decode cX1_init 230 = .ok (.iconst 1, 1) := by decide +kernel
theorem dX1_init_231 : decode cX1_init 231 = .ok (.bipush (-4), 2) := by decide +kernel
theorem dX1_init_233 : decode cX1_init 233 = .ok (.iastore, 1) := by decide +kernel
theorem dX1_init_234 : decode cX1_init 234 = .ok (.putfield 42, 3) := by decide +kernel
theorem dX1_init_237 : decode cX1_init 237 = .ok (.aload_n 0, 1) := by decide +kernel
theorem dX1_init_238 : decode cX1_init 238 = .ok (.iconst 0, 1) := by decide +kernel
theorem dX1_init_239 : decode cX1_init 239 = .ok (.putfield 45, 3) := by decide +kernel
theorem dX1_init_242 : decode cX1_init 242 = .ok (.aload_n 0, 1) := by decide +kernel
theorem dX1_init_243 : decode cX1_init 243 = .ok (.iconst 0, 1) := by decide +kernel
theorem dX1_init_244 : decode cX1_init 244 = .ok (.putfield 49, 3) := by decide +kernel
theorem dX1_init_247 : decode cX1_init 247 = .ok (.aload_n 0, 1) := by decide +kernel
theorem dX1_init_248 : decode cX1_init 248 = .ok (.iconst 0, 1) := by decide +kernel
theorem dX1_init_249 : decode cX1_init 249 = .ok (.putfield 52, 3) := by decide +kernel
theorem dX1_init_252 : decode cX1_init 252 = .ok (.return_, 1) := by decide +kernel
theorem dX1_becomeLike_0 : decode cX1_becomeLike 0 = .ok (.aload_n 1, 1) := by decide +kernel
theorem dX1_becomeLike_1 : decode cX1_becomeLike 1 = .ok (.getfield 9, 3) := by decide +kernel
theorem dX1_becomeLike_4 : decode cX1_becomeLike 4 = .ok (.iconst 0, 1) := by decide +kernel
theorem dX1_becomeLike_5 : decode cX1_becomeLike 5 = .ok (.aload_n 0, 1) := by decide +kernel
theorem dX1_becomeLike_6 : decode cX1_becomeLike 6 = .ok (.getfield 9, 3) := by decide +kernel
theorem dX1_becomeLike_9 : decode cX1_becomeLike 9 = .ok (.iconst 0, 1) := by decide +kernel
theorem dX1_becomeLike_10 : decode cX1_becomeLike 10 = .ok (.iconst 4, 1) := by decide +kernel
theorem dX1_becomeLike_11 : decode cX1_becomeLike 11 = .ok (.invokestatic 55, 3) := by decide +kernel
theorem dX1_becomeLike_14 : decode cX1_becomeLike 14 = .ok (.aload_n 1, 1) := by decide +kernel
theorem dX1_becomeLike_15 : decode cX1_becomeLike 15 = .ok (.getfield 15, 3) := by decide +kernel
theorem dX1_becomeLike_18 : decode cX1_becomeLike 18 = .ok (.iconst 0, 1) := by decide +kernel
theorem dX1_becomeLike_19 : decode cX1_becomeLike 19 = .ok (.aload_n 0, 1) := by decide +kernel
theorem dX1_becomeLike_20 : decode cX1_becomeLike 20 = .ok (.getfield 15, 3) := by decide +kernel
theorem dX1_becomeLike_23 : decode cX1_becomeLike 23 = .ok (.iconst 0, 1) := by decide +kernel
theorem dX1_becomeLike_24 : decode cX1_becomeLike 24 = .ok (.iconst 4, 1) := by decide +kernel
theorem dX1_becomeLike_25 : decode cX1_becomeLike 25 = .ok (.invokestatic 55, 3) := by decide +kernel
theorem dX1_becomeLike_28 : decode cX1_becomeLike 28 = .ok (.aload_n 1, 1) := by decide +kernel
theorem dX1_becomeLike_29 : decode cX1_becomeLike 29 = .ok (.getfield 18, 3) := by decide +kernel
theorem dX1_becomeLike_32 : decode cX1_becomeLike 32 = .ok (.iconst 0, 1) := by decide +kernel
theorem dX1_becomeLike_33 : decode cX1_becomeLike 33 = .ok (.aload_n 0, 1) := by decide +kernel
theorem dX1_becomeLike_34 : decode cX1_becomeLike 34 = .ok (.getfield 18, 3) := by decide +kernel
theorem dX1_becomeLike_37 : decode cX1_becomeLike 37 = .ok (.iconst 0, 1) := by decide +kernel
theorem dX1_becomeLike_38 : decode cX1_becomeLike 38 = .ok (.iconst 4, 1) := by decide +kernel
theorem dX1_becomeLike_39 : decode cX1_becomeLike 39 = .ok (.invokestatic 55, 3) := by decide +kernel
theorem dX1_becomeLike_42 : decode cX1_becomeLike 42 = .ok (.aload_n 1, 1) := by decide +kernel
theorem dX1_becomeLike_43 : decode cX1_becomeLike 43 = .ok (.getfield 21, 3) := by decide +kernel
theorem dX1_becomeLike_46 : decode cX1_becomeLike 46 = .ok (.iconst 0, 1) := by decide +kernel
theorem dX1_becomeLike_47 : decode cX1_becomeLike 47 = .ok (.aload_n 0, 1) := by decide +kernel
theorem dX1_becomeLike_48 : decode cX1_becomeLike 48 = .ok (.getfield 21, 3) := by decide +kernel
theorem dX1_becomeLike_51 : decode cX1_becomeLike 51 = .ok (.iconst 0, 1) := by decide +kernel
theorem dX1_becomeLike_52 : decode cX1_becomeLike 52 = .ok (.iconst 4, 1) := by decide +kernel
theorem dX1_becomeLike_53 : decode cX1_becomeLike 53 = .ok (.invokestatic 55, 3) := by decide +kernel
theorem dX1_becomeLike_56 : decode cX1_becomeLike 56 = .ok (.aload_n 1, 1) := by decide +kernel
theorem dX1_becomeLike_57 : decode cX1_becomeLike 57 = .ok (.getfield 24, 3) := by decide +kernel
theorem dX1_becomeLike_60 : decode cX1_becomeLike 60 = .ok (.iconst 0, 1) := by decide +kernel
theorem dX1_becomeLike_61 : decode cX1_becomeLike 61 = .ok (.aload_n 0, 1) := by decide +kernel
theorem dX1_becomeLike_62 : decode cX1_becomeLike 62 = .ok (.getfield 24, 3) := by decide +kernel
theorem dX1_becomeLike_65 : decode cX1_becomeLike 65 = .ok (.iconst 0, 1) := by decide +kernel
theorem dX1_becomeLike_66 : decode cX1_becomeLike 66 = .ok (.iconst 4, 1) := by decide +kernel
theorem dX1_becomeLike_67 : decode cX1_becomeLike 67 = .ok (.invokestatic 55, 3) := by decide +kernel
theorem dX1_becomeLike_70 : decode cX1_becomeLike 70 = .ok (.aload_n 1, 1) := by decide +kernel
theorem dX1_becomeLike_71 : decode cX1_becomeLike 71 = .ok (.getfield 27, 3) := by decide +kernel
theorem dX1_becomeLike_74 : decode cX1_becomeLike 74 = .ok (.iconst 0, 1) := by decide +kernel
theorem dX1_becomeLike_75 : decode cX1_becomeLike 75 = .ok (.aload_n 0, 1) := by decide +kernel
theorem dX1_becomeLike_76 : decode cX1_becomeLike 76 = .ok (.getfield 27, 3) := by decide +kernel
theorem dX1_becomeLike_79 : decode cX1_becomeLike 79 = .ok (.iconst 0, 1) := by decide +kernel
theorem dX1_becomeLike_80 : decode cX1_becomeLike 80 = .ok (.iconst 2, 1) := by decide +kernel
theorem dX1_becomeLike_81 : decode cX1_becomeLike 81 = .ok (.invokestatic 55, 3) := by decide +kernel
theorem dX1_becomeLike_84 : decode cX1_becomeLike 84 = .ok (.aload_n 1, 1) := by decide +kernel
theorem dX1_becomeLike_85 : decode cX1_becomeLike 85 = .ok (.getfield 30, 3) := by decide +kernel
theorem dX1_becomeLike_88 : decode cX1_becomeLike 88 = .ok (.iconst 0, 1) := by decide +kernel
theorem dX1_becomeLike_89 : decode cX1_becomeLike 89 = .ok (.aload_n 0, 1) := by decide +kernel
theorem dX1_becomeLike_90 : decode cX1_becomeLike 90 = .ok (.getfield 30, 3) := by decide +kernel
theorem dX1_becomeLike_93 : decode cX1_becomeLike 93 = .ok (.iconst 0, 1) := by decide +kernel
theorem dX1_becomeLike_94 : decode cX1_becomeLike 94 = .ok (.iconst 2, 1) := by decide +kernel
theorem dX1_becomeLike_95 : decode cX1_becomeLike 95 = .ok (.invokestatic 55, 3) := by decide +kernel
theorem dX1_becomeLike_98 : decode cX1_becomeLike 98 = .ok (.aload_n 1, 1) := by decide +kernel
theorem dX1_becomeLike_99 : decode cX1_becomeLike 99 = .ok (.getfield 33, 3) := by decide +kernel
theorem dX1_becomeLike_102 : decode cX1_becomeLike 102 = .ok (.iconst 0, 1) := by decide +kernel
theorem dX1_becomeLike_103 : decode cX1_becomeLike 103 = .ok (.aload_n 0, 1) := by decide +kernel
theorem dX1_becomeLike_104 : decode cX1_becomeLike 104 = .ok (.getfield 33, 3) := by decide +kernel
theorem dX1_becomeLike_107 : decode cX1_becomeLike 107 = .ok (.iconst 0, 1) := by decide +kernel
theorem dX1_becomeLike_108 : decode cX1_becomeLike 108 = .ok (.iconst 2, 1) := by decide +kernel
theorem dX1_becomeLike_109 : decode cX1_becomeLike 109 = .ok (.invokestatic 55, 3) := by decide +kernel
theorem dX1_becomeLike_112 : decode cX1_becomeLike 112 = .ok (.aload_n 1, 1) := by decide +kernel
theorem dX1_becomeLike_113 : decode cX1_becomeLike 113 = .ok (.getfield 36, 3) := by decide +kernel
theorem dX1_becomeLike_116 : decode cX1_becomeLike 116 = .ok (.iconst 0, 1) := by decide +kernel
theorem dX1_becomeLike_117 : decode cX1_becomeLike 117 = .ok (.aload_n 0, 1) := by decide +kernel
theorem dX1_becomeLike_118 : decode cX1_becomeLike 118 = .ok (.getfield 36, 3) := by decide +kernel
theorem dX1_becomeLike_121 : decode cX1_becomeLike 121 = .ok (.iconst 0, 1) := by decide +kernel
theorem dX1_becomeLike_122 : decode cX1_becomeLike 122 = .ok (.iconst 2, 1) := by decide +kernel
theorem dX1_becomeLike_123 : decode cX1_becomeLike 123 = .ok (.invokestatic 55, 3) := by decide +kernel
theorem dX1_becomeLike_126 : decode cX1_becomeLike 126 = .ok (.aload_n 1, 1) := by decide +kernel
theorem dX1_becomeLike_127 : decode cX1_becomeLike 127 = .ok (.getfield 39, 3) := by decide +kernel
theorem dX1_becomeLike_130 : decode cX1_becomeLike 130 = .ok (.iconst 0, 1) := by decide +kernel
theorem dX1_becomeLike_131 : decode cX1_becomeLike 131 = .ok (.aload_n 0, 1) := by decide +kernel
theorem dX1_becomeLike_132 : decode cX1_becomeLike 132 = .ok (.getfield 39, 3) := by decide +kernel
theorem dX1_becomeLike_135 : decode cX1_becomeLike 135 = .ok (.iconst 0, 1) := by decide +kernel
theorem dX1_becomeLike_136 : decode cX1_becomeLike 136 = .ok (.iconst 2, 1) := by decide +kernel
theorem dX1_becomeLike_137 : decode cX1_becomeLike 137 = .ok (.invokestatic 55, 3) := by decide +kernel
theorem dX1_becomeLike_140 : decode cX1_becomeLike 140 = .ok (.aload_n 1, 1) := by decide +kernel
theorem dX1_becomeLike_141 : decode cX1_becomeLike 141 = .ok (.getfield 42, 3) := by decide +kernel
theorem dX1_becomeLike_144 : decode cX1_becomeLike 144 = .ok (.iconst 0, 1) := by decide +kernel
theorem dX1_becomeLike_145 : decode cX1_becomeLike 145 = .ok (.aload_n 0, 1) := by decide +kernel
theorem dX1_becomeLike_146 : decode cX1_becomeLike 146 = .ok (.getfield 42, 3) := by decide +kernel
theorem dX1_becomeLike_149 : decode cX1_becomeLike 149 = .ok (.iconst 0, 1) := by decide +kernel
theorem dX1_becomeLike_150 : decode cX1_becomeLike 150 = .ok (.iconst 2, 1) := by decide +kernel
theorem dX1_becomeLike_151 : decode cX1_becomeLike 151 = .ok (.invokestatic 55, 3) := by decide +kernel
theorem dX1_becomeLike_154 : decode cX1_becomeLike 154 = .ok (.aload_n 0, 1) := by decide +kernel
theorem dX1_becomeLike_155 : decode cX1_becomeLike 155 = .ok (.aload_n 1, 1) := by decide +kernel
theorem dX1_becomeLike_156 : decode cX1_becomeLike 156 = .ok (.getfield 45, 3) := by decide +kernel
theorem dX1_becomeLike_159 : decode cX1_becomeLike 159 = .ok (.putfield 45, 3) := by decide +kernel
theorem dX1_becomeLike_162 : decode cX1_becomeLike 162 = .ok (.aload_n 0, 1) := by decide +kernel
theorem dX1_becomeLike_163 : decode cX1_becomeLike 163 = .ok (.aload_n 1, 1) := by decide +kernel
theorem dX1_becomeLike_164 : decode cX1_becomeLike 164 = .ok (.getfield 49, 3) := by decide +kernel
theorem dX1_becomeLike_167 : decode cX1_becomeLike 167 = .ok (.putfield 49, 3) := by decide +kernel
theorem dX1_becomeLike_170 : decode cX1_becomeLike 170 = .ok (.aload_n 0, 1) := by decide +kernel
theorem dX1_becomeLike_171 : decode cX1_becomeLike 171 = .ok (.aload_n 1, 1) := by decide +kernel
theorem dX1_becomeLike_172 : decode cX1_becomeLike 172 = .ok (.getfield 52, 3) := by decide +kernel
theorem dX1_becomeLike_175 : decode cX1_becomeLike 175 = .ok (.putfield 52, 3) := by decide +kernel
theorem dX1_becomeLike_178 : decode cX1_becomeLike 178 = .ok (.return_, 1) := by decide +kernel
theorem dX1_tonerFor_0 : decode cX1_tonerFor 0 = .ok (.iload_n 2, 1) := by decide +kernel
theorem dX1_tonerFor_1 : decode cX1_tonerFor 1 = .ok (.iload_n 3, 1) := by decide +kernel
theorem dX1_tonerFor_2 : decode cX1_tonerFor 2 = .ok (.imul, 1) := by decide +kernel
theorem dX1_tonerFor_3 : decode cX1_tonerFor 3 = .ok (.istore 4, 2) := by decide +kernel
theorem dX1_tonerFor_5 : decode cX1_tonerFor 5 = .ok (.aload_n 0, 1) := by decide +kernel
theorem dX1_tonerFor_6 : decode cX1_tonerFor 6 = .ok (.getfield 15, 3) := by decide +kernel
theorem dX1_tonerFor_9 : decode cX1_tonerFor 9 = .ok (.iload_n 1, 1) := by decide +kernel
theorem dX1_tonerFor_10 : decode cX1_tonerFor 10 = .ok (.iaload, 1) := by decide +kernel
theorem dX1_tonerFor_11 : decode cX1_tonerFor 11 = .ok (.lookupswitch 41 #[(1, 25), (2, 32)], 25) := by decide +kernel
theorem dX1_tonerFor_36 : decode cX1_tonerFor 36 = .ok (.iload 4, 2) := by decide +kernel
theorem dX1_tonerFor_38 : decode cX1_tonerFor 38 = .ok (.iconst 3, 1) := by decide +kernel
theorem dX1_tonerFor_39 : decode cX1_tonerFor 39 = .ok (.imul, 1) := by decide +kernel
theorem dX1_tonerFor_40 : decode cX1_tonerFor 40 = .ok (.iconst 4, 1) := by decide +kernel
theorem dX1_tonerFor_41 : decode cX1_tonerFor 41 = .ok (.idiv, 1) := by decide +kernel
theorem dX1_tonerFor_42 : decode cX1_tonerFor 42 = .ok (.ireturn, 1) := by decide +kernel
theorem dX1_tonerFor_43 : decode cX1_tonerFor 43 = .ok (.iload 4, 2) := by decide +kernel
theorem dX1_tonerFor_45 : decode cX1_tonerFor 45 = .ok (.bipush 9, 2) := by decide +kernel
theorem dX1_tonerFor_47 : decode cX1_tonerFor 47 = .ok (.imul, 1) := by decide +kernel
theorem dX1_tonerFor_48 : decode cX1_tonerFor 48 = .ok (.bipush 8, 2) := by decide +kernel
theorem dX1_tonerFor_50 : decode cX1_tonerFor 50 = .ok (.idiv, 1) := by decide +kernel
theorem dX1_tonerFor_51 : decode cX1_tonerFor 51 = .ok (.ireturn, 1) := by decide +kernel
theorem dX1_tonerFor_52 : decode cX1_tonerFor 52 = .ok (.iload 4, 2) := by decide +kernel
theorem dX1_tonerFor_54 : decode cX1_tonerFor 54 = .ok (.ireturn, 1) := by decide +kernel
theorem dX1_chipFor_0 : decode cX1_chipFor 0 = .ok (.aload_n 0, 1) := by decide +kernel
theorem dX1_chipFor_1 : decode cX1_chipFor 1 = .ok (.getfield 15, 3) := by decide +kernel
theorem dX1_chipFor_4 : decode cX1_chipFor 4 = .ok (.iload_n 1, 1) := by decide +kernel
theorem dX1_chipFor_5 : decode cX1_chipFor 5 = .ok (.iaload, 1) := by decide +kernel
theorem dX1_chipFor_6 : decode cX1_chipFor 6 = .ok (.iconst 2, 1) := by decide +kernel
theorem dX1_chipFor_7 : decode cX1_chipFor 7 = .ok (.if_icmp .ne 9, 3) := by decide +kernel
theorem dX1_chipFor_10 : decode cX1_chipFor 10 = .ok (.iload_n 2, 1) := by decide +kernel
theorem dX1_chipFor_11 : decode cX1_chipFor 11 = .ok (.iload_n 3, 1) := by decide +kernel
theorem dX1_chipFor_12 : decode cX1_chipFor 12 = .ok (.imul, 1) := by decide +kernel
theorem dX1_chipFor_13 : decode cX1_chipFor 13 = .ok (.goto 10, 3) := by decide +kernel
theorem dX1_chipFor_16 : decode cX1_chipFor 16 = .ok (.aload_n 0, 1) := by decide +kernel
theorem dX1_chipFor_17 : decode cX1_chipFor 17 = .ok (.iload_n 1, 1) := by decide +kernel
theorem dX1_chipFor_18 : decode cX1_chipFor 18 = .ok (.iload_n 2, 1) := by decide +kernel
theorem dX1_chipFor_19 : decode cX1_chipFor 19 = .ok (.iload_n 3, 1) := by decide +kernel
theorem dX1_chipFor_20 : decode cX1_chipFor 20 = .ok (.invokevirtual 61, 3) := by decide +kernel
theorem dX1_chipFor_23 : decode cX1_chipFor 23 = .ok (.ireturn, 1) := by decide +kernel
theorem dX1_refusal_0 : decode cX1_refusal 0 = .ok (.iload_n 1, 1) := by decide +kernel
theorem dX1_refusal_1 : decode cX1_refusal 1 = .ok (.invokestatic 65, 3) := by decide +kernel
theorem dX1_refusal_4 : decode cX1_refusal 4 = .ok (.ifCond .ne 5, 3) := by decide +kernel
theorem dX1_refusal_7 : decode cX1_refusal 7 = .ok (.iconst 1, 1) := by decide +kernel
theorem dX1_refusal_8 : decode cX1_refusal 8 = .ok (.ireturn, 1) := by decide +kernel
theorem dX1_refusal_9 : decode cX1_refusal 9 = .ok (.aload_n 0, 1) := by decide +kernel
theorem dX1_refusal_10 : decode cX1_refusal 10 = .ok (.getfield 24, 3) := by decide +kernel
theorem dX1_refusal_13 : decode cX1_refusal 13 = .ok (.iload_n 1, 1) := by decide +kernel
theorem dX1_refusal_14 : decode cX1_refusal 14 = .ok (.iaload, 1) := by decide +kernel
theorem dX1_refusal_15 : decode cX1_refusal 15 = .ok (.ifCond .ne 15, 3) := by decide +kernel
theorem dX1_refusal_18 : decode cX1_refusal 18 = .ok (.aload_n 0, 1) := by decide +kernel
theorem dX1_refusal_19 : decode cX1_refusal 19 = .ok (.getfield 9, 3) := by decide +kernel
theorem dX1_refusal_22 : decode cX1_refusal 22 = .ok (.iconst 2, 1) := by decide +kernel
theorem dX1_refusal_23 : decode cX1_refusal 23 = .ok (.iaload, 1) := by decide +kernel
theorem dX1_refusal_24 : decode cX1_refusal 24 = .ok (.iconst 1, 1) := by decide +kernel
theorem dX1_refusal_25 : decode cX1_refusal 25 = .ok (.if_icmp .ne 5, 3) := by decide +kernel
theorem dX1_refusal_28 : decode cX1_refusal 28 = .ok (.iconst 2, 1) := by decide +kernel
theorem dX1_refusal_29 : decode cX1_refusal 29 = .ok (.ireturn, 1) := by decide +kernel
theorem dX1_refusal_30 : decode cX1_refusal 30 = .ok (.aload_n 0, 1) := by decide +kernel
theorem dX1_refusal_31 : decode cX1_refusal 31 = .ok (.getfield 18, 3) := by decide +kernel
theorem dX1_refusal_34 : decode cX1_refusal 34 = .ok (.iload_n 1, 1) := by decide +kernel
theorem dX1_refusal_35 : decode cX1_refusal 35 = .ok (.iaload, 1) := by decide +kernel
theorem dX1_refusal_36 : decode cX1_refusal 36 = .ok (.ifCond .ne 7, 3) := by decide +kernel
theorem dX1_refusal_39 : decode cX1_refusal 39 = .ok (.iconst 3, 1) := by decide +kernel
theorem dX1_refusal_40 : decode cX1_refusal 40 = .ok (.goto 4, 3) := by decide +kernel
theorem dX1_refusal_43 : decode cX1_refusal 43 = .ok (.iconst 0, 1) := by decide +kernel
theorem dX1_refusal_44 : decode cX1_refusal 44 = .ok (.ireturn, 1) := by decide +kernel
theorem dX1_printPage_0 : decode cX1_printPage 0 = .ok (.aload_n 0, 1) := by decide +kernel
theorem dX1_printPage_1 : decode cX1_printPage 1 = .ok (.getfield 27, 3) := by decide +kernel
theorem dX1_printPage_4 : decode cX1_printPage 4 = .ok (.iload_n 1, 1) := by decide +kernel
theorem dX1_printPage_5 : decode cX1_printPage 5 = .ok (.iaload, 1) := by decide +kernel
theorem dX1_printPage_6 : decode cX1_printPage 6 = .ok (.istore_n 3, 1) := by decide +kernel
theorem dX1_printPage_7 : decode cX1_printPage 7 = .ok (.aload_n 0, 1) := by decide +kernel
theorem dX1_printPage_8 : decode cX1_printPage 8 = .ok (.iload_n 3, 1) := by decide +kernel
theorem dX1_printPage_9 : decode cX1_printPage 9 = .ok (.invokevirtual 69, 3) := by decide +kernel
theorem dX1_printPage_12 : decode cX1_printPage 12 = .ok (.istore 4, 2) := by decide +kernel
theorem dX1_printPage_14 : decode cX1_printPage 14 = .ok (.iload 4, 2) := by decide +kernel
theorem dX1_printPage_16 : decode cX1_printPage 16 = .ok (.ifCond .eq 16, 3) := by decide +kernel
theorem dX1_printPage_19 : decode cX1_printPage 19 = .ok (.aload_n 0, 1) := by decide +kernel
theorem dX1_printPage_20 : decode cX1_printPage 20 = .ok (.getfield 36, 3) := by decide +kernel
theorem dX1_printPage_23 : decode cX1_printPage 23 = .ok (.iload_n 1, 1) := by decide +kernel
theorem dX1_printPage_24 : decode cX1_printPage 24 = .ok (.dup2, 1) := by decide +kernel
theorem dX1_printPage_25 : decode cX1_printPage 25 = .ok (.iaload, 1) := by decide +kernel
theorem dX1_printPage_26 : decode cX1_printPage 26 = .ok (.iconst 1, 1) := by decide +kernel
theorem dX1_printPage_27 : decode cX1_printPage 27 = .ok (.iadd, 1) := by decide +kernel
theorem dX1_printPage_28 : decode cX1_printPage 28 = .ok (.iastore, 1) := by decide +kernel
theorem dX1_printPage_29 : decode cX1_printPage 29 = .ok (.iload 4, 2) := by decide +kernel
theorem dX1_printPage_31 : decode cX1_printPage 31 = .ok (.ireturn, 1) := by decide +kernel
theorem dX1_printPage_32 : decode cX1_printPage 32 = .ok (.aload_n 0, 1) := by decide +kernel
theorem dX1_printPage_33 : decode cX1_printPage 33 = .ok (.iload_n 3, 1) := by decide +kernel
theorem dX1_printPage_34 : decode cX1_printPage 34 = .ok (.aload_n 0, 1) := by decide +kernel
theorem dX1_printPage_35 : decode cX1_printPage 35 = .ok (.iload_n 3, 1) := by decide +kernel
theorem dX1_printPage_36 : decode cX1_printPage 36 = .ok (.iload_n 2, 1) := by decide +kernel
theorem dX1_printPage_37 : decode cX1_printPage 37 = .ok (.aload_n 0, 1) := by decide +kernel
theorem dX1_printPage_38 : decode cX1_printPage 38 = .ok (.getfield 9, 3) := by decide +kernel
theorem dX1_printPage_41 : decode cX1_printPage 41 = .ok (.iconst 0, 1) := by decide +kernel
theorem dX1_printPage_42 : decode cX1_printPage 42 = .ok (.iaload, 1) := by decide +kernel
theorem dX1_printPage_43 : decode cX1_printPage 43 = .ok (.invokevirtual 61, 3) := by decide +kernel
theorem dX1_printPage_46 : decode cX1_printPage 46 = .ok (.invokevirtual 73, 3) := by decide +kernel
theorem dX1_printPage_49 : decode cX1_printPage 49 = .ok (.istore 5, 2) := by decide +kernel
theorem dX1_printPage_51 : decode cX1_printPage 51 = .ok (.aload_n 0, 1) := by decide +kernel
theorem dX1_printPage_52 : decode cX1_printPage 52 = .ok (.getfield 24, 3) := by decide +kernel
theorem dX1_printPage_55 : decode cX1_printPage 55 = .ok (.iload_n 3, 1) := by decide +kernel
theorem dX1_printPage_56 : decode cX1_printPage 56 = .ok (.iaload, 1) := by decide +kernel
theorem dX1_printPage_57 : decode cX1_printPage 57 = .ok (.aload_n 0, 1) := by decide +kernel
theorem dX1_printPage_58 : decode cX1_printPage 58 = .ok (.iload_n 3, 1) := by decide +kernel
theorem dX1_printPage_59 : decode cX1_printPage 59 = .ok (.iload_n 2, 1) := by decide +kernel
theorem dX1_printPage_60 : decode cX1_printPage 60 = .ok (.aload_n 0, 1) := by decide +kernel
theorem dX1_printPage_61 : decode cX1_printPage 61 = .ok (.getfield 9, 3) := by decide +kernel
theorem dX1_printPage_64 : decode cX1_printPage 64 = .ok (.iconst 0, 1) := by decide +kernel
theorem dX1_printPage_65 : decode cX1_printPage 65 = .ok (.iaload, 1) := by decide +kernel
theorem dX1_printPage_66 : decode cX1_printPage 66 = .ok (.invokevirtual 77, 3) := by decide +kernel
theorem dX1_printPage_69 : decode cX1_printPage 69 = .ok (.isub, 1) := by decide +kernel
theorem dX1_printPage_70 : decode cX1_printPage 70 = .ok (.istore 6, 2) := by decide +kernel
theorem dX1_printPage_72 : decode cX1_printPage 72 = .ok (.aload_n 0, 1) := by decide +kernel
theorem dX1_printPage_73 : decode cX1_printPage 73 = .ok (.getfield 24, 3) := by decide +kernel
theorem dX1_printPage_76 : decode cX1_printPage 76 = .ok (.iload_n 3, 1) := by decide +kernel
theorem dX1_printPage_77 : decode cX1_printPage 77 = .ok (.iload 6, 2) := by decide +kernel
theorem dX1_printPage_79 : decode cX1_printPage 79 = .ok (.ifCond .le 8, 3) := by decide +kernel
theorem dX1_printPage_82 : decode cX1_printPage 82 = .ok (.iload 6, 2) := by decide +kernel
theorem dX1_printPage_84 : decode cX1_printPage 84 = .ok (.goto 4, 3) := by decide +kernel
theorem dX1_printPage_87 : decode cX1_printPage 87 = .ok (.iconst 0, 1) := by decide +kernel
theorem dX1_printPage_88 : decode cX1_printPage 88 = .ok (.iastore, 1) := by decide +kernel
theorem dX1_printPage_89 : decode cX1_printPage 89 = .ok (.aload_n 0, 1) := by decide +kernel
theorem dX1_printPage_90 : decode cX1_printPage 90 = .ok (.iload_n 3, 1) := by decide +kernel
theorem dX1_printPage_91 : decode cX1_printPage 91 = .ok (.invokevirtual 80, 3) := by decide +kernel
theorem dX1_printPage_94 : decode cX1_printPage 94 = .ok (.iload 5, 2) := by decide +kernel
theorem dX1_printPage_96 : decode cX1_printPage 96 = .ok (.bipush 100, 2) := by decide +kernel
theorem dX1_printPage_98 : decode cX1_printPage 98 = .ok (.if_icmp .ne 16, 3) := by decide +kernel
theorem dX1_printPage_101 : decode cX1_printPage 101 = .ok (.aload_n 0, 1) := by decide +kernel
theorem dX1_printPage_102 : decode cX1_printPage 102 = .ok (.getfield 30, 3) := by decide +kernel
theorem dX1_printPage_105 : decode cX1_printPage 105 = .ok (.iload_n 1, 1) := by decide +kernel
theorem dX1_printPage_106 : decode cX1_printPage 106 = .ok (.dup2, 1) := by decide +kernel
theorem dX1_printPage_107 : decode cX1_printPage 107 = .ok (.iaload, 1) := by decide +kernel
theorem dX1_printPage_108 : decode cX1_printPage 108 = .ok (.iconst 1, 1) := by decide +kernel
theorem dX1_printPage_109 : decode cX1_printPage 109 = .ok (.iadd, 1) := by decide +kernel
theorem dX1_printPage_110 : decode cX1_printPage 110 = .ok (.iastore, 1) := by decide +kernel
theorem dX1_printPage_111 : decode cX1_printPage 111 = .ok (.goto 13, 3) := by decide +kernel
theorem dX1_printPage_114 : decode cX1_printPage 114 = .ok (.aload_n 0, 1) := by decide +kernel
theorem dX1_printPage_115 : decode cX1_printPage 115 = .ok (.getfield 33, 3) := by decide +kernel
theorem dX1_printPage_118 : decode cX1_printPage 118 = .ok (.iload_n 1, 1) := by decide +kernel
theorem dX1_printPage_119 : decode cX1_printPage 119 = .ok (.dup2, 1) := by decide +kernel
theorem dX1_printPage_120 : decode cX1_printPage 120 = .ok (.iaload, 1) := by decide +kernel
theorem dX1_printPage_121 : decode cX1_printPage 121 = .ok (.iconst 1, 1) := by decide +kernel
theorem dX1_printPage_122 : decode cX1_printPage 122 = .ok (.iadd, 1) := by decide +kernel
theorem dX1_printPage_123 : decode cX1_printPage 123 = .ok (.iastore, 1) := by decide +kernel
theorem dX1_printPage_124 : decode cX1_printPage 124 = .ok (.aload_n 0, 1) := by decide +kernel
theorem dX1_printPage_125 : decode cX1_printPage 125 = .ok (.getfield 39, 3) := by decide +kernel
theorem dX1_printPage_128 : decode cX1_printPage 128 = .ok (.iload_n 1, 1) := by decide +kernel
theorem dX1_printPage_129 : decode cX1_printPage 129 = .ok (.dup2, 1) := by decide +kernel
theorem dX1_printPage_130 : decode cX1_printPage 130 = .ok (.iaload, 1) := by decide +kernel
theorem dX1_printPage_131 : decode cX1_printPage 131 = .ok (.iload_n 2, 1) := by decide +kernel
theorem dX1_printPage_132 : decode cX1_printPage 132 = .ok (.iadd, 1) := by decide +kernel
theorem dX1_printPage_133 : decode cX1_printPage 133 = .ok (.iastore, 1) := by decide +kernel
theorem dX1_printPage_134 : decode cX1_printPage 134 = .ok (.aload_n 0, 1) := by decide +kernel
theorem dX1_printPage_135 : decode cX1_printPage 135 = .ok (.getfield 42, 3) := by decide +kernel
theorem dX1_printPage_138 : decode cX1_printPage 138 = .ok (.iload_n 1, 1) := by decide +kernel
theorem dX1_printPage_139 : decode cX1_printPage 139 = .ok (.iload 5, 2) := by decide +kernel
theorem dX1_printPage_141 : decode cX1_printPage 141 = .ok (.iastore, 1) := by decide +kernel
theorem dX1_printPage_142 : decode cX1_printPage 142 = .ok (.bipush 10, 2) := by decide +kernel
theorem dX1_printPage_144 : decode cX1_printPage 144 = .ok (.iload 5, 2) := by decide +kernel
theorem dX1_printPage_146 : decode cX1_printPage 146 = .ok (.iadd, 1) := by decide +kernel
theorem dX1_printPage_147 : decode cX1_printPage 147 = .ok (.ireturn, 1) := by decide +kernel
theorem dX1_useToner_0 : decode cX1_useToner 0 = .ok (.aload_n 0, 1) := by decide +kernel
theorem dX1_useToner_1 : decode cX1_useToner 1 = .ok (.getfield 18, 3) := by decide +kernel
theorem dX1_useToner_4 : decode cX1_useToner 4 = .ok (.iload_n 1, 1) := by decide +kernel
theorem dX1_useToner_5 : decode cX1_useToner 5 = .ok (.iaload, 1) := by decide +kernel
theorem dX1_useToner_6 : decode cX1_useToner 6 = .ok (.iload_n 2, 1) := by decide +kernel
theorem dX1_useToner_7 : decode cX1_useToner 7 = .ok (.if_icmp .ge 12, 3) := by decide +kernel
theorem dX1_useToner_10 : decode cX1_useToner 10 = .ok (.aload_n 0, 1) := by decide +kernel
theorem dX1_useToner_11 : decode cX1_useToner 11 = .ok (.getfield 18, 3) := by decide +kernel
theorem dX1_useToner_14 : decode cX1_useToner 14 = .ok (.iload_n 1, 1) := by decide +kernel
theorem dX1_useToner_15 : decode cX1_useToner 15 = .ok (.iaload, 1) := by decide +kernel
theorem dX1_useToner_16 : decode cX1_useToner 16 = .ok (.goto 4, 3) := by decide +kernel
theorem dX1_useToner_19 : decode cX1_useToner 19 = .ok (.iload_n 2, 1) := by decide +kernel
theorem dX1_useToner_20 : decode cX1_useToner 20 = .ok (.istore_n 3, 1) := by decide +kernel
theorem dX1_useToner_21 : decode cX1_useToner 21 = .ok (.aload_n 0, 1) := by decide +kernel
theorem dX1_useToner_22 : decode cX1_useToner 22 = .ok (.getfield 18, 3) := by decide +kernel
theorem dX1_useToner_25 : decode cX1_useToner 25 = .ok (.iload_n 1, 1) := by decide +kernel
theorem dX1_useToner_26 : decode cX1_useToner 26 = .ok (.dup2, 1) := by decide +kernel
theorem dX1_useToner_27 : decode cX1_useToner 27 = .ok (.iaload, 1) := by decide +kernel
theorem dX1_useToner_28 : decode cX1_useToner 28 = .ok (.iload_n 3, 1) := by decide +kernel
theorem dX1_useToner_29 : decode cX1_useToner 29 = .ok (.isub, 1) := by decide +kernel
theorem dX1_useToner_30 : decode cX1_useToner 30 = .ok (.iastore, 1) := by decide +kernel
theorem dX1_useToner_31 : decode cX1_useToner 31 = .ok (.aload_n 0, 1) := by decide +kernel
theorem dX1_useToner_32 : decode cX1_useToner 32 = .ok (.dup, 1) := by decide +kernel
theorem dX1_useToner_33 : decode cX1_useToner 33 = .ok (.getfield 45, 3) := by decide +kernel
theorem dX1_useToner_36 : decode cX1_useToner 36 = .ok (.iload_n 3, 1) := by decide +kernel
theorem dX1_useToner_37 : decode cX1_useToner 37 = .ok (.iadd, 1) := by decide +kernel
theorem dX1_useToner_38 : decode cX1_useToner 38 = .ok (.putfield 45, 3) := by decide +kernel
theorem dX1_useToner_41 : decode cX1_useToner 41 = .ok (.iload_n 3, 1) := by decide +kernel
theorem dX1_useToner_42 : decode cX1_useToner 42 = .ok (.iload_n 2, 1) := by decide +kernel
theorem dX1_useToner_43 : decode cX1_useToner 43 = .ok (.if_icmp .ne 8, 3) := by decide +kernel
theorem dX1_useToner_46 : decode cX1_useToner 46 = .ok (.bipush 100, 2) := by decide +kernel
theorem dX1_useToner_48 : decode cX1_useToner 48 = .ok (.goto 11, 3) := by decide +kernel
theorem dX1_useToner_51 : decode cX1_useToner 51 = .ok (.iload_n 3, 1) := by decide +kernel
theorem dX1_useToner_52 : decode cX1_useToner 52 = .ok (.bipush 100, 2) := by decide +kernel
theorem dX1_useToner_54 : decode cX1_useToner 54 = .ok (.imul, 1) := by decide +kernel
theorem dX1_useToner_55 : decode cX1_useToner 55 = .ok (.iload_n 2, 1) := by decide +kernel
theorem dX1_useToner_56 : decode cX1_useToner 56 = .ok (.invokestatic 84, 3) := by decide +kernel
theorem dX1_useToner_59 : decode cX1_useToner 59 = .ok (.ireturn, 1) := by decide +kernel
theorem dX1_settleToner_0 : decode cX1_settleToner 0 = .ok (.aload_n 0, 1) := by decide +kernel
theorem dX1_settleToner_1 : decode cX1_settleToner 1 = .ok (.getfield 18, 3) := by decide +kernel
theorem dX1_settleToner_4 : decode cX1_settleToner 4 = .ok (.iload_n 1, 1) := by decide +kernel
theorem dX1_settleToner_5 : decode cX1_settleToner 5 = .ok (.iaload, 1) := by decide +kernel
theorem dX1_settleToner_6 : decode cX1_settleToner 6 = .ok (.aload_n 0, 1) := by decide +kernel
theorem dX1_settleToner_7 : decode cX1_settleToner 7 = .ok (.getfield 9, 3) := by decide +kernel
theorem dX1_settleToner_10 : decode cX1_settleToner 10 = .ok (.iconst 1, 1) := by decide +kernel
theorem dX1_settleToner_11 : decode cX1_settleToner 11 = .ok (.iaload, 1) := by decide +kernel
theorem dX1_settleToner_12 : decode cX1_settleToner 12 = .ok (.invokestatic 84, 3) := by decide +kernel
theorem dX1_settleToner_15 : decode cX1_settleToner 15 = .ok (.istore_n 2, 1) := by decide +kernel
theorem dX1_settleToner_16 : decode cX1_settleToner 16 = .ok (.aload_n 0, 1) := by decide +kernel
theorem dX1_settleToner_17 : decode cX1_settleToner 17 = .ok (.getfield 18, 3) := by decide +kernel
theorem dX1_settleToner_20 : decode cX1_settleToner 20 = .ok (.iload_n 1, 1) := by decide +kernel
theorem dX1_settleToner_21 : decode cX1_settleToner 21 = .ok (.dup2, 1) := by decide +kernel
theorem dX1_settleToner_22 : decode cX1_settleToner 22 = .ok (.iaload, 1) := by decide +kernel
theorem dX1_settleToner_23 : decode cX1_settleToner 23 = .ok (.iload_n 2, 1) := by decide +kernel
theorem dX1_settleToner_24 : decode cX1_settleToner 24 = .ok (.isub, 1) := by decide +kernel
theorem dX1_settleToner_25 : decode cX1_settleToner 25 = .ok (.iastore, 1) := by decide +kernel
theorem dX1_settleToner_26 : decode cX1_settleToner 26 = .ok (.aload_n 0, 1) := by decide +kernel
theorem dX1_settleToner_27 : decode cX1_settleToner 27 = .ok (.getfield 21, 3) := by decide +kernel
theorem dX1_settleToner_30 : decode cX1_settleToner 30 = .ok (.iload_n 1, 1) := by decide +kernel
theorem dX1_settleToner_31 : decode cX1_settleToner 31 = .ok (.dup2, 1) := by decide +kernel
theorem dX1_settleToner_32 : decode cX1_settleToner 32 = .ok (.iaload, 1) := by decide +kernel
theorem dX1_settleToner_33 : decode cX1_settleToner 33 = .ok (.iload_n 2, 1) := by decide +kernel
theorem dX1_settleToner_34 : decode cX1_settleToner 34 = .ok (.iadd, 1) := by decide +kernel
theorem dX1_settleToner_35 : decode cX1_settleToner 35 = .ok (.iastore, 1) := by decide +kernel
theorem dX1_settleToner_36 : decode cX1_settleToner 36 = .ok (.return_, 1) := by decide +kernel
theorem dX1_shakeCup_0 : decode cX1_shakeCup 0 = .ok (.aload_n 0, 1) := by decide +kernel
theorem dX1_shakeCup_1 : decode cX1_shakeCup 1 = .ok (.getfield 21, 3) := by decide +kernel
theorem dX1_shakeCup_4 : decode cX1_shakeCup 4 = .ok (.iload_n 1, 1) := by decide +kernel
theorem dX1_shakeCup_5 : decode cX1_shakeCup 5 = .ok (.iaload, 1) := by decide +kernel
theorem dX1_shakeCup_6 : decode cX1_shakeCup 6 = .ok (.iconst 2, 1) := by decide +kernel
theorem dX1_shakeCup_7 : decode cX1_shakeCup 7 = .ok (.idiv, 1) := by decide +kernel
theorem dX1_shakeCup_8 : decode cX1_shakeCup 8 = .ok (.istore_n 2, 1) := by decide +kernel
theorem dX1_shakeCup_9 : decode cX1_shakeCup 9 = .ok (.aload_n 0, 1) := by decide +kernel
theorem dX1_shakeCup_10 : decode cX1_shakeCup 10 = .ok (.getfield 21, 3) := by decide +kernel
theorem dX1_shakeCup_13 : decode cX1_shakeCup 13 = .ok (.iload_n 1, 1) := by decide +kernel
theorem dX1_shakeCup_14 : decode cX1_shakeCup 14 = .ok (.dup2, 1) := by decide +kernel
theorem dX1_shakeCup_15 : decode cX1_shakeCup 15 = .ok (.iaload, 1) := by decide +kernel
theorem dX1_shakeCup_16 : decode cX1_shakeCup 16 = .ok (.iload_n 2, 1) := by decide +kernel
theorem dX1_shakeCup_17 : decode cX1_shakeCup 17 = .ok (.isub, 1) := by decide +kernel
theorem dX1_shakeCup_18 : decode cX1_shakeCup 18 = .ok (.iastore, 1) := by decide +kernel
theorem dX1_shakeCup_19 : decode cX1_shakeCup 19 = .ok (.aload_n 0, 1) := by decide +kernel
theorem dX1_shakeCup_20 : decode cX1_shakeCup 20 = .ok (.getfield 18, 3) := by decide +kernel
theorem dX1_shakeCup_23 : decode cX1_shakeCup 23 = .ok (.iload_n 1, 1) := by decide +kernel
theorem dX1_shakeCup_24 : decode cX1_shakeCup 24 = .ok (.dup2, 1) := by decide +kernel
theorem dX1_shakeCup_25 : decode cX1_shakeCup 25 = .ok (.iaload, 1) := by decide +kernel
theorem dX1_shakeCup_26 : decode cX1_shakeCup 26 = .ok (.iload_n 2, 1) := by decide +kernel
theorem dX1_shakeCup_27 : decode cX1_shakeCup 27 = .ok (.iadd, 1) := by decide +kernel
theorem dX1_shakeCup_28 : decode cX1_shakeCup 28 = .ok (.iastore, 1) := by decide +kernel
theorem dX1_shakeCup_29 : decode cX1_shakeCup 29 = .ok (.iload_n 2, 1) := by decide +kernel
theorem dX1_shakeCup_30 : decode cX1_shakeCup 30 = .ok (.ireturn, 1) := by decide +kernel
theorem dX1_moveCup_0 : decode cX1_moveCup 0 = .ok (.aload_n 0, 1) := by decide +kernel
theorem dX1_moveCup_1 : decode cX1_moveCup 1 = .ok (.getfield 27, 3) := by decide +kernel
theorem dX1_moveCup_4 : decode cX1_moveCup 4 = .ok (.iload_n 2, 1) := by decide +kernel
theorem dX1_moveCup_5 : decode cX1_moveCup 5 = .ok (.iaload, 1) := by decide +kernel
theorem dX1_moveCup_6 : decode cX1_moveCup 6 = .ok (.iload_n 1, 1) := by decide +kernel
theorem dX1_moveCup_7 : decode cX1_moveCup 7 = .ok (.if_icmp .ne 5, 3) := by decide +kernel
theorem dX1_moveCup_10 : decode cX1_moveCup 10 = .ok (.iconst 0, 1) := by decide +kernel
theorem dX1_moveCup_11 : decode cX1_moveCup 11 = .ok (.ireturn, 1) := by decide +kernel
theorem dX1_moveCup_12 : decode cX1_moveCup 12 = .ok (.aload_n 0, 1) := by decide +kernel
theorem dX1_moveCup_13 : decode cX1_moveCup 13 = .ok (.getfield 49, 3) := by decide +kernel
theorem dX1_moveCup_16 : decode cX1_moveCup 16 = .ok (.istore_n 3, 1) := by decide +kernel
theorem dX1_moveCup_17 : decode cX1_moveCup 17 = .ok (.aload_n 0, 1) := by decide +kernel
theorem dX1_moveCup_18 : decode cX1_moveCup 18 = .ok (.iload_n 1, 1) := by decide +kernel
theorem dX1_moveCup_19 : decode cX1_moveCup 19 = .ok (.invokevirtual 87, 3) := by decide +kernel
theorem dX1_moveCup_22 : decode cX1_moveCup 22 = .ok (.istore 4, 2) := by decide +kernel
theorem dX1_moveCup_24 : decode cX1_moveCup 24 = .ok (.iload 4, 2) := by decide +kernel
theorem dX1_moveCup_26 : decode cX1_moveCup 26 = .ok (.invokestatic 90, 3) := by decide +kernel
theorem dX1_moveCup_29 : decode cX1_moveCup 29 = .ok (.ifCond .eq 9, 3) := by decide +kernel
theorem dX1_moveCup_32 : decode cX1_moveCup 32 = .ok (.aload_n 0, 1) := by decide +kernel
theorem dX1_moveCup_33 : decode cX1_moveCup 33 = .ok (.iload 4, 2) := by decide +kernel
theorem dX1_moveCup_35 : decode cX1_moveCup 35 = .ok (.invokevirtual 93, 3) := by decide +kernel
theorem dX1_moveCup_38 : decode cX1_moveCup 38 = .ok (.aload_n 0, 1) := by decide +kernel
theorem dX1_moveCup_39 : decode cX1_moveCup 39 = .ok (.iload_n 2, 1) := by decide +kernel
theorem dX1_moveCup_40 : decode cX1_moveCup 40 = .ok (.invokevirtual 93, 3) := by decide +kernel
theorem dX1_moveCup_43 : decode cX1_moveCup 43 = .ok (.aload_n 0, 1) := by decide +kernel
theorem dX1_moveCup_44 : decode cX1_moveCup 44 = .ok (.getfield 27, 3) := by decide +kernel
theorem dX1_moveCup_47 : decode cX1_moveCup 47 = .ok (.iload_n 2, 1) := by decide +kernel
theorem dX1_moveCup_48 : decode cX1_moveCup 48 = .ok (.iload_n 1, 1) := by decide +kernel
theorem dX1_moveCup_49 : decode cX1_moveCup 49 = .ok (.iastore, 1) := by decide +kernel
theorem dX1_moveCup_50 : decode cX1_moveCup 50 = .ok (.aload_n 0, 1) := by decide +kernel
theorem dX1_moveCup_51 : decode cX1_moveCup 51 = .ok (.getfield 49, 3) := by decide +kernel
theorem dX1_moveCup_54 : decode cX1_moveCup 54 = .ok (.iload_n 3, 1) := by decide +kernel
theorem dX1_moveCup_55 : decode cX1_moveCup 55 = .ok (.isub, 1) := by decide +kernel
theorem dX1_moveCup_56 : decode cX1_moveCup 56 = .ok (.ireturn, 1) := by decide +kernel
theorem dX1_empty_0 : decode cX1_empty 0 = .ok (.aload_n 0, 1) := by decide +kernel
theorem dX1_empty_1 : decode cX1_empty 1 = .ok (.getfield 27, 3) := by decide +kernel
theorem dX1_empty_4 : decode cX1_empty 4 = .ok (.iload_n 1, 1) := by decide +kernel
theorem dX1_empty_5 : decode cX1_empty 5 = .ok (.iaload, 1) := by decide +kernel
theorem dX1_empty_6 : decode cX1_empty 6 = .ok (.istore_n 2, 1) := by decide +kernel
theorem dX1_empty_7 : decode cX1_empty 7 = .ok (.iload_n 2, 1) := by decide +kernel
theorem dX1_empty_8 : decode cX1_empty 8 = .ok (.invokestatic 65, 3) := by decide +kernel
theorem dX1_empty_11 : decode cX1_empty 11 = .ok (.ifCond .ne 4, 3) := by decide +kernel
theorem dX1_empty_14 : decode cX1_empty 14 = .ok (.return_, 1) := by decide +kernel
theorem dX1_empty_15 : decode cX1_empty 15 = .ok (.aload_n 0, 1) := by decide +kernel
theorem dX1_empty_16 : decode cX1_empty 16 = .ok (.getfield 18, 3) := by decide +kernel
theorem dX1_empty_19 : decode cX1_empty 19 = .ok (.iload_n 2, 1) := by decide +kernel
theorem dX1_empty_20 : decode cX1_empty 20 = .ok (.iaload, 1) := by decide +kernel
theorem dX1_empty_21 : decode cX1_empty 21 = .ok (.bipush 50, 2) := by decide +kernel
theorem dX1_empty_23 : decode cX1_empty 23 = .ok (.idiv, 1) := by decide +kernel
theorem dX1_empty_24 : decode cX1_empty 24 = .ok (.istore_n 3, 1) := by decide +kernel
theorem dX1_empty_25 : decode cX1_empty 25 = .ok (.aload_n 0, 1) := by decide +kernel
theorem dX1_empty_26 : decode cX1_empty 26 = .ok (.getfield 18, 3) := by decide +kernel
theorem dX1_empty_29 : decode cX1_empty 29 = .ok (.iload_n 2, 1) := by decide +kernel
theorem dX1_empty_30 : decode cX1_empty 30 = .ok (.dup2, 1) := by decide +kernel
theorem dX1_empty_31 : decode cX1_empty 31 = .ok (.iaload, 1) := by decide +kernel
theorem dX1_empty_32 : decode cX1_empty 32 = .ok (.iload_n 3, 1) := by decide +kernel
theorem dX1_empty_33 : decode cX1_empty 33 = .ok (.isub, 1) := by decide +kernel
theorem dX1_empty_34 : decode cX1_empty 34 = .ok (.iastore, 1) := by decide +kernel
theorem dX1_empty_35 : decode cX1_empty 35 = .ok (.aload_n 0, 1) := by decide +kernel
theorem dX1_empty_36 : decode cX1_empty 36 = .ok (.dup, 1) := by decide +kernel
theorem dX1_empty_37 : decode cX1_empty 37 = .ok (.getfield 49, 3) := by decide +kernel
theorem dX1_empty_40 : decode cX1_empty 40 = .ok (.iload_n 3, 1) := by decide +kernel
theorem dX1_empty_41 : decode cX1_empty 41 = .ok (.iadd, 1) := by decide +kernel
theorem dX1_empty_42 : decode cX1_empty 42 = .ok (.putfield 49, 3) := by decide +kernel
theorem dX1_empty_45 : decode cX1_empty 45 = .ok (.aload_n 0, 1) := by decide +kernel
theorem dX1_empty_46 : decode cX1_empty 46 = .ok (.getfield 27, 3) := by decide +kernel
theorem dX1_empty_49 : decode cX1_empty 49 = .ok (.iload_n 1, 1) := by decide +kernel
theorem dX1_empty_50 : decode cX1_empty 50 = .ok (.bipush (-4), 2) := by decide +kernel
theorem dX1_empty_52 : decode cX1_empty 52 = .ok (.iastore, 1) := by decide +kernel
theorem dX1_empty_53 : decode cX1_empty 53 = .ok (.return_, 1) := by decide +kernel
theorem dX1_fillCup_0 : decode cX1_fillCup 0 = .ok (.sipush 6000, 3) := by decide +kernel
theorem dX1_fillCup_3 : decode cX1_fillCup 3 = .ok (.aload_n 0, 1) := by decide +kernel
theorem dX1_fillCup_4 : decode cX1_fillCup 4 = .ok (.iload_n 1, 1) := by decide +kernel
theorem dX1_fillCup_5 : decode cX1_fillCup 5 = .ok (.invokevirtual 96, 3) := by decide +kernel
theorem dX1_fillCup_8 : decode cX1_fillCup 8 = .ok (.isub, 1) := by decide +kernel
theorem dX1_fillCup_9 : decode cX1_fillCup 9 = .ok (.istore_n 3, 1) := by decide +kernel
theorem dX1_fillCup_10 : decode cX1_fillCup 10 = .ok (.iload_n 2, 1) := by decide +kernel
theorem dX1_fillCup_11 : decode cX1_fillCup 11 = .ok (.iload_n 3, 1) := by decide +kernel
theorem dX1_fillCup_12 : decode cX1_fillCup 12 = .ok (.if_icmp .ge 7, 3) := by decide +kernel
theorem dX1_fillCup_15 : decode cX1_fillCup 15 = .ok (.iload_n 2, 1) := by decide +kernel
theorem dX1_fillCup_16 : decode cX1_fillCup 16 = .ok (.goto 4, 3) := by decide +kernel
theorem dX1_fillCup_19 : decode cX1_fillCup 19 = .ok (.iload_n 3, 1) := by decide +kernel
theorem dX1_fillCup_20 : decode cX1_fillCup 20 = .ok (.istore 4, 2) := by decide +kernel
theorem dX1_fillCup_22 : decode cX1_fillCup 22 = .ok (.aload_n 0, 1) := by decide +kernel
theorem dX1_fillCup_23 : decode cX1_fillCup 23 = .ok (.getfield 21, 3) := by decide +kernel
theorem dX1_fillCup_26 : decode cX1_fillCup 26 = .ok (.iload_n 1, 1) := by decide +kernel
theorem dX1_fillCup_27 : decode cX1_fillCup 27 = .ok (.dup2, 1) := by decide +kernel
theorem dX1_fillCup_28 : decode cX1_fillCup 28 = .ok (.iaload, 1) := by decide +kernel
theorem dX1_fillCup_29 : decode cX1_fillCup 29 = .ok (.iload 4, 2) := by decide +kernel
theorem dX1_fillCup_31 : decode cX1_fillCup 31 = .ok (.iadd, 1) := by decide +kernel
theorem dX1_fillCup_32 : decode cX1_fillCup 32 = .ok (.iastore, 1) := by decide +kernel
theorem dX1_fillCup_33 : decode cX1_fillCup 33 = .ok (.aload_n 0, 1) := by decide +kernel
theorem dX1_fillCup_34 : decode cX1_fillCup 34 = .ok (.dup, 1) := by decide +kernel
theorem dX1_fillCup_35 : decode cX1_fillCup 35 = .ok (.getfield 52, 3) := by decide +kernel
theorem dX1_fillCup_38 : decode cX1_fillCup 38 = .ok (.iload 4, 2) := by decide +kernel
theorem dX1_fillCup_40 : decode cX1_fillCup 40 = .ok (.iadd, 1) := by decide +kernel
theorem dX1_fillCup_41 : decode cX1_fillCup 41 = .ok (.putfield 52, 3) := by decide +kernel
theorem dX1_fillCup_44 : decode cX1_fillCup 44 = .ok (.aload_n 0, 1) := by decide +kernel
theorem dX1_fillCup_45 : decode cX1_fillCup 45 = .ok (.getfield 15, 3) := by decide +kernel
theorem dX1_fillCup_48 : decode cX1_fillCup 48 = .ok (.iload_n 1, 1) := by decide +kernel
theorem dX1_fillCup_49 : decode cX1_fillCup 49 = .ok (.iconst 2, 1) := by decide +kernel
theorem dX1_fillCup_50 : decode cX1_fillCup 50 = .ok (.iastore, 1) := by decide +kernel
theorem dX1_fillCup_51 : decode cX1_fillCup 51 = .ok (.iload 4, 2) := by decide +kernel
theorem dX1_fillCup_53 : decode cX1_fillCup 53 = .ok (.ireturn, 1) := by decide +kernel
theorem dX1_printerOf_0 : decode cX1_printerOf 0 = .ok (.iconst 0, 1) := by decide +kernel
theorem dX1_printerOf_1 : decode cX1_printerOf 1 = .ok (.istore_n 2, 1) := by decide +kernel
theorem dX1_printerOf_2 : decode cX1_printerOf 2 = .ok (.iload_n 2, 1) := by decide +kernel
theorem dX1_printerOf_3 : decode cX1_printerOf 3 = .ok (.iconst 2, 1) := by decide +kernel
theorem dX1_printerOf_4 : decode cX1_printerOf 4 = .ok (.if_icmp .ge 21, 3) := by decide +kernel
theorem dX1_printerOf_7 : decode cX1_printerOf 7 = .ok (.aload_n 0, 1) := by decide +kernel
theorem dX1_printerOf_8 : decode cX1_printerOf 8 = .ok (.getfield 27, 3) := by decide +kernel
theorem dX1_printerOf_11 : decode cX1_printerOf 11 = .ok (.iload_n 2, 1) := by decide +kernel
theorem dX1_printerOf_12 : decode cX1_printerOf 12 = .ok (.iaload, 1) := by decide +kernel
theorem dX1_printerOf_13 : decode cX1_printerOf 13 = .ok (.iload_n 1, 1) := by decide +kernel
theorem dX1_printerOf_14 : decode cX1_printerOf 14 = .ok (.if_icmp .ne 5, 3) := by decide +kernel
theorem dX1_printerOf_17 : decode cX1_printerOf 17 = .ok (.iload_n 2, 1) := by decide +kernel
theorem dX1_printerOf_18 : decode cX1_printerOf 18 = .ok (.ireturn, 1) := by decide +kernel
theorem dX1_printerOf_19 : decode cX1_printerOf 19 = .ok (.iinc 2 1, 3) := by decide +kernel
theorem dX1_printerOf_22 : decode cX1_printerOf 22 = .ok (.goto (-20), 3) := by decide +kernel
theorem dX1_printerOf_25 : decode cX1_printerOf 25 = .ok (.bipush (-4), 2) := by decide +kernel
theorem dX1_printerOf_27 : decode cX1_printerOf 27 = .ok (.ireturn, 1) := by decide +kernel
theorem dX1_toner_0 : decode cX1_toner 0 = .ok (.aload_n 0, 1) := by decide +kernel
theorem dX1_toner_1 : decode cX1_toner 1 = .ok (.getfield 18, 3) := by decide +kernel
theorem dX1_toner_4 : decode cX1_toner 4 = .ok (.iload_n 1, 1) := by decide +kernel
theorem dX1_toner_5 : decode cX1_toner 5 = .ok (.iaload, 1) := by decide +kernel
theorem dX1_toner_6 : decode cX1_toner 6 = .ok (.aload_n 0, 1) := by decide +kernel
theorem dX1_toner_7 : decode cX1_toner 7 = .ok (.getfield 21, 3) := by decide +kernel
theorem dX1_toner_10 : decode cX1_toner 10 = .ok (.iload_n 1, 1) := by decide +kernel
theorem dX1_toner_11 : decode cX1_toner 11 = .ok (.iaload, 1) := by decide +kernel
theorem dX1_toner_12 : decode cX1_toner 12 = .ok (.iadd, 1) := by decide +kernel
theorem dX1_toner_13 : decode cX1_toner 13 = .ok (.ireturn, 1) := by decide +kernel
theorem dX1_scaleTells_0 : decode cX1_scaleTells 0 = .ok (.aload_n 0, 1) := by decide +kernel
theorem dX1_scaleTells_1 : decode cX1_scaleTells 1 = .ok (.iload_n 1, 1) := by decide +kernel
theorem dX1_scaleTells_2 : decode cX1_scaleTells 2 = .ok (.invokevirtual 96, 3) := by decide +kernel
theorem dX1_scaleTells_5 : decode cX1_scaleTells 5 = .ok (.aload_n 0, 1) := by decide +kernel
theorem dX1_scaleTells_6 : decode cX1_scaleTells 6 = .ok (.getfield 9, 3) := by decide +kernel
theorem dX1_scaleTells_9 : decode cX1_scaleTells 9 = .ok (.iconst 3, 1) := by decide +kernel
theorem dX1_scaleTells_10 : decode cX1_scaleTells 10 = .ok (.iaload, 1) := by decide +kernel
theorem dX1_scaleTells_11 : decode cX1_scaleTells 11 = .ok (.invokestatic 84, 3) := by decide +kernel
theorem dX1_scaleTells_14 : decode cX1_scaleTells 14 = .ok (.aload_n 0, 1) := by decide +kernel
theorem dX1_scaleTells_15 : decode cX1_scaleTells 15 = .ok (.getfield 9, 3) := by decide +kernel
theorem dX1_scaleTells_18 : decode cX1_scaleTells 18 = .ok (.iconst 3, 1) := by decide +kernel
theorem dX1_scaleTells_19 : decode cX1_scaleTells 19 = .ok (.iaload, 1) := by decide +kernel
theorem dX1_scaleTells_20 : decode cX1_scaleTells 20 = .ok (.imul, 1) := by decide +kernel
theorem dX1_scaleTells_21 : decode cX1_scaleTells 21 = .ok (.ireturn, 1) := by decide +kernel
theorem dX1_toldLeft_0 : decode cX1_toldLeft 0 = .ok (.aload_n 0, 1) := by decide +kernel
theorem dX1_toldLeft_1 : decode cX1_toldLeft 1 = .ok (.iload_n 1, 1) := by decide +kernel
theorem dX1_toldLeft_2 : decode cX1_toldLeft 2 = .ok (.invokevirtual 99, 3) := by decide +kernel
theorem dX1_toldLeft_5 : decode cX1_toldLeft 5 = .ok (.aload_n 0, 1) := by decide +kernel
theorem dX1_toldLeft_6 : decode cX1_toldLeft 6 = .ok (.getfield 24, 3) := by decide +kernel
theorem dX1_toldLeft_9 : decode cX1_toldLeft 9 = .ok (.iload_n 1, 1) := by decide +kernel
theorem dX1_toldLeft_10 : decode cX1_toldLeft 10 = .ok (.iaload, 1) := by decide +kernel
theorem dX1_toldLeft_11 : decode cX1_toldLeft 11 = .ok (.iadd, 1) := by decide +kernel
theorem dX1_toldLeft_12 : decode cX1_toldLeft 12 = .ok (.iconst 2, 1) := by decide +kernel
theorem dX1_toldLeft_13 : decode cX1_toldLeft 13 = .ok (.idiv, 1) := by decide +kernel
theorem dX1_toldLeft_14 : decode cX1_toldLeft 14 = .ok (.ireturn, 1) := by decide +kernel
theorem dX1_allToner_0 : decode cX1_allToner 0 = .ok (.iconst 0, 1) := by decide +kernel
theorem dX1_allToner_1 : decode cX1_allToner 1 = .ok (.istore_n 1, 1) := by decide +kernel
theorem dX1_allToner_2 : decode cX1_allToner 2 = .ok (.iconst 0, 1) := by decide +kernel
theorem dX1_allToner_3 : decode cX1_allToner 3 = .ok (.istore_n 2, 1) := by decide +kernel
theorem dX1_allToner_4 : decode cX1_allToner 4 = .ok (.iload_n 2, 1) := by decide +kernel
theorem dX1_allToner_5 : decode cX1_allToner 5 = .ok (.iconst 4, 1) := by decide +kernel
theorem dX1_allToner_6 : decode cX1_allToner 6 = .ok (.if_icmp .ge 17, 3) := by decide +kernel
theorem dX1_allToner_9 : decode cX1_allToner 9 = .ok (.iload_n 1, 1) := by decide +kernel
theorem dX1_allToner_10 : decode cX1_allToner 10 = .ok (.aload_n 0, 1) := by decide +kernel
theorem dX1_allToner_11 : decode cX1_allToner 11 = .ok (.iload_n 2, 1) := by decide +kernel
theorem dX1_allToner_12 : decode cX1_allToner 12 = .ok (.invokevirtual 96, 3) := by decide +kernel
theorem dX1_allToner_15 : decode cX1_allToner 15 = .ok (.iadd, 1) := by decide +kernel
theorem dX1_allToner_16 : decode cX1_allToner 16 = .ok (.istore_n 1, 1) := by decide +kernel
theorem dX1_allToner_17 : decode cX1_allToner 17 = .ok (.iinc 2 1, 3) := by decide +kernel
theorem dX1_allToner_20 : decode cX1_allToner 20 = .ok (.goto (-16), 3) := by decide +kernel
theorem dX1_allToner_23 : decode cX1_allToner 23 = .ok (.iload_n 1, 1) := by decide +kernel
theorem dX1_allToner_24 : decode cX1_allToner 24 = .ok (.ireturn, 1) := by decide +kernel
theorem dX1_allToldLeft_0 : decode cX1_allToldLeft 0 = .ok (.iconst 0, 1) := by decide +kernel
theorem dX1_allToldLeft_1 : decode cX1_allToldLeft 1 = .ok (.istore_n 1, 1) := by decide +kernel
theorem dX1_allToldLeft_2 : decode cX1_allToldLeft 2 = .ok (.iconst 0, 1) := by decide +kernel
theorem dX1_allToldLeft_3 : decode cX1_allToldLeft 3 = .ok (.istore_n 2, 1) := by decide +kernel
theorem dX1_allToldLeft_4 : decode cX1_allToldLeft 4 = .ok (.iload_n 2, 1) := by decide +kernel
theorem dX1_allToldLeft_5 : decode cX1_allToldLeft 5 = .ok (.iconst 4, 1) := by decide +kernel
theorem dX1_allToldLeft_6 : decode cX1_allToldLeft 6 = .ok (.if_icmp .ge 17, 3) := by decide +kernel
theorem dX1_allToldLeft_9 : decode cX1_allToldLeft 9 = .ok (.iload_n 1, 1) := by decide +kernel
theorem dX1_allToldLeft_10 : decode cX1_allToldLeft 10 = .ok (.aload_n 0, 1) := by decide +kernel
theorem dX1_allToldLeft_11 : decode cX1_allToldLeft 11 = .ok (.iload_n 2, 1) := by decide +kernel
theorem dX1_allToldLeft_12 : decode cX1_allToldLeft 12 = .ok (.invokevirtual 102, 3) := by decide +kernel
theorem dX1_allToldLeft_15 : decode cX1_allToldLeft 15 = .ok (.iadd, 1) := by decide +kernel
theorem dX1_allToldLeft_16 : decode cX1_allToldLeft 16 = .ok (.istore_n 1, 1) := by decide +kernel
theorem dX1_allToldLeft_17 : decode cX1_allToldLeft 17 = .ok (.iinc 2 1, 3) := by decide +kernel
theorem dX1_allToldLeft_20 : decode cX1_allToldLeft 20 = .ok (.goto (-16), 3) := by decide +kernel
theorem dX1_allToldLeft_23 : decode cX1_allToldLeft 23 = .ok (.iload_n 1, 1) := by decide +kernel
theorem dX1_allToldLeft_24 : decode cX1_allToldLeft 24 = .ok (.ireturn, 1) := by decide +kernel
theorem dX1_cupsOvertold_0 : decode cX1_cupsOvertold 0 = .ok (.iconst 0, 1) := by decide +kernel
theorem dX1_cupsOvertold_1 : decode cX1_cupsOvertold 1 = .ok (.istore_n 1, 1) := by decide +kernel
theorem dX1_cupsOvertold_2 : decode cX1_cupsOvertold 2 = .ok (.iconst 0, 1) := by decide +kernel
theorem dX1_cupsOvertold_3 : decode cX1_cupsOvertold 3 = .ok (.istore_n 2, 1) := by decide +kernel
theorem dX1_cupsOvertold_4 : decode cX1_cupsOvertold 4 = .ok (.iload_n 2, 1) := by decide +kernel
theorem dX1_cupsOvertold_5 : decode cX1_cupsOvertold 5 = .ok (.iconst 4, 1) := by decide +kernel
theorem dX1_cupsOvertold_6 : decode cX1_cupsOvertold 6 = .ok (.if_icmp .ge 25, 3) := by decide +kernel
theorem dX1_cupsOvertold_9 : decode cX1_cupsOvertold 9 = .ok (.aload_n 0, 1) := by decide +kernel
theorem dX1_cupsOvertold_10 : decode cX1_cupsOvertold 10 = .ok (.iload_n 2, 1) := by decide +kernel
theorem dX1_cupsOvertold_11 : decode cX1_cupsOvertold 11 = .ok (.invokevirtual 102, 3) := by decide +kernel
theorem dX1_cupsOvertold_14 : decode cX1_cupsOvertold 14 = .ok (.aload_n 0, 1) := by decide +kernel
theorem dX1_cupsOvertold_15 : decode cX1_cupsOvertold 15 = .ok (.iload_n 2, 1) := by decide +kernel
theorem dX1_cupsOvertold_16 : decode cX1_cupsOvertold 16 = .ok (.invokevirtual 96, 3) := by decide +kernel
theorem dX1_cupsOvertold_19 : decode cX1_cupsOvertold 19 = .ok (.if_icmp .le 6, 3) := by decide +kernel
theorem dX1_cupsOvertold_22 : decode cX1_cupsOvertold 22 = .ok (.iinc 1 1, 3) := by decide +kernel
theorem dX1_cupsOvertold_25 : decode cX1_cupsOvertold 25 = .ok (.iinc 2 1, 3) := by decide +kernel
theorem dX1_cupsOvertold_28 : decode cX1_cupsOvertold 28 = .ok (.goto (-24), 3) := by decide +kernel
theorem dX1_cupsOvertold_31 : decode cX1_cupsOvertold 31 = .ok (.iload_n 1, 1) := by decide +kernel
theorem dX1_cupsOvertold_32 : decode cX1_cupsOvertold 32 = .ok (.ireturn, 1) := by decide +kernel
theorem dX1_cupsInside_0 : decode cX1_cupsInside 0 = .ok (.iconst 0, 1) := by decide +kernel
theorem dX1_cupsInside_1 : decode cX1_cupsInside 1 = .ok (.istore_n 1, 1) := by decide +kernel
theorem dX1_cupsInside_2 : decode cX1_cupsInside 2 = .ok (.iconst 0, 1) := by decide +kernel
theorem dX1_cupsInside_3 : decode cX1_cupsInside 3 = .ok (.istore_n 2, 1) := by decide +kernel
theorem dX1_cupsInside_4 : decode cX1_cupsInside 4 = .ok (.iload_n 2, 1) := by decide +kernel
theorem dX1_cupsInside_5 : decode cX1_cupsInside 5 = .ok (.iconst 2, 1) := by decide +kernel
theorem dX1_cupsInside_6 : decode cX1_cupsInside 6 = .ok (.if_icmp .ge 24, 3) := by decide +kernel
theorem dX1_cupsInside_9 : decode cX1_cupsInside 9 = .ok (.aload_n 0, 1) := by decide +kernel
theorem dX1_cupsInside_10 : decode cX1_cupsInside 10 = .ok (.getfield 27, 3) := by decide +kernel
theorem dX1_cupsInside_13 : decode cX1_cupsInside 13 = .ok (.iload_n 2, 1) := by decide +kernel
theorem dX1_cupsInside_14 : decode cX1_cupsInside 14 = .ok (.iaload, 1) := by decide +kernel
theorem dX1_cupsInside_15 : decode cX1_cupsInside 15 = .ok (.invokestatic 65, 3) := by decide +kernel
theorem dX1_cupsInside_18 : decode cX1_cupsInside 18 = .ok (.ifCond .eq 6, 3) := by decide +kernel
theorem dX1_cupsInside_21 : decode cX1_cupsInside 21 = .ok (.iinc 1 1, 3) := by decide +kernel
theorem dX1_cupsInside_24 : decode cX1_cupsInside 24 = .ok (.iinc 2 1, 3) := by decide +kernel
theorem dX1_cupsInside_27 : decode cX1_cupsInside 27 = .ok (.goto (-23), 3) := by decide +kernel
theorem dX1_cupsInside_30 : decode cX1_cupsInside 30 = .ok (.iload_n 1, 1) := by decide +kernel
theorem dX1_cupsInside_31 : decode cX1_cupsInside 31 = .ok (.ireturn, 1) := by decide +kernel
theorem dX1_darkOfAll_0 : decode cX1_darkOfAll 0 = .ok (.aload_n 0, 1) := by decide +kernel
theorem dX1_darkOfAll_1 : decode cX1_darkOfAll 1 = .ok (.getfield 30, 3) := by decide +kernel
theorem dX1_darkOfAll_4 : decode cX1_darkOfAll 4 = .ok (.iconst 0, 1) := by decide +kernel
theorem dX1_darkOfAll_5 : decode cX1_darkOfAll 5 = .ok (.iaload, 1) := by decide +kernel
theorem dX1_darkOfAll_6 : decode cX1_darkOfAll 6 = .ok (.aload_n 0, 1) := by decide +kernel
theorem dX1_darkOfAll_7 : decode cX1_darkOfAll 7 = .ok (.getfield 30, 3) := by decide +kernel
theorem dX1_darkOfAll_10 : decode cX1_darkOfAll 10 = .ok (.iconst 1, 1) := by decide +kernel
theorem dX1_darkOfAll_11 : decode cX1_darkOfAll 11 = .ok (.iaload, 1) := by decide +kernel
theorem dX1_darkOfAll_12 : decode cX1_darkOfAll 12 = .ok (.iadd, 1) := by decide +kernel
theorem dX1_darkOfAll_13 : decode cX1_darkOfAll 13 = .ok (.ireturn, 1) := by decide +kernel
theorem dX1_lightOfAll_0 : decode cX1_lightOfAll 0 = .ok (.aload_n 0, 1) := by decide +kernel
theorem dX1_lightOfAll_1 : decode cX1_lightOfAll 1 = .ok (.getfield 33, 3) := by decide +kernel
theorem dX1_lightOfAll_4 : decode cX1_lightOfAll 4 = .ok (.iconst 0, 1) := by decide +kernel
theorem dX1_lightOfAll_5 : decode cX1_lightOfAll 5 = .ok (.iaload, 1) := by decide +kernel
theorem dX1_lightOfAll_6 : decode cX1_lightOfAll 6 = .ok (.aload_n 0, 1) := by decide +kernel
theorem dX1_lightOfAll_7 : decode cX1_lightOfAll 7 = .ok (.getfield 33, 3) := by decide +kernel
theorem dX1_lightOfAll_10 : decode cX1_lightOfAll 10 = .ok (.iconst 1, 1) := by decide +kernel
theorem dX1_lightOfAll_11 : decode cX1_lightOfAll 11 = .ok (.iaload, 1) := by decide +kernel
theorem dX1_lightOfAll_12 : decode cX1_lightOfAll 12 = .ok (.iadd, 1) := by decide +kernel
theorem dX1_lightOfAll_13 : decode cX1_lightOfAll 13 = .ok (.ireturn, 1) := by decide +kernel
theorem dX1_pagesLasting_0 : decode cX1_pagesLasting 0 = .ok (.aload_n 0, 1) := by decide +kernel
theorem dX1_pagesLasting_1 : decode cX1_pagesLasting 1 = .ok (.getfield 18, 3) := by decide +kernel
theorem dX1_pagesLasting_4 : decode cX1_pagesLasting 4 = .ok (.iload_n 1, 1) := by decide +kernel
theorem dX1_pagesLasting_5 : decode cX1_pagesLasting 5 = .ok (.iaload, 1) := by decide +kernel
theorem dX1_pagesLasting_6 : decode cX1_pagesLasting 6 = .ok (.istore 5, 2) := by decide +kernel
theorem dX1_pagesLasting_8 : decode cX1_pagesLasting 8 = .ok (.aload_n 0, 1) := by decide +kernel
theorem dX1_pagesLasting_9 : decode cX1_pagesLasting 9 = .ok (.getfield 21, 3) := by decide +kernel
theorem dX1_pagesLasting_12 : decode cX1_pagesLasting 12 = .ok (.iload_n 1, 1) := by decide +kernel
theorem dX1_pagesLasting_13 : decode cX1_pagesLasting 13 = .ok (.iaload, 1) := by decide +kernel
theorem dX1_pagesLasting_14 : decode cX1_pagesLasting 14 = .ok (.istore 6, 2) := by decide +kernel
theorem dX1_pagesLasting_16 : decode cX1_pagesLasting 16 = .ok (.iconst 0, 1) := by decide +kernel
theorem dX1_pagesLasting_17 : decode cX1_pagesLasting 17 = .ok (.istore 7, 2) := by decide +kernel
theorem dX1_pagesLasting_19 : decode cX1_pagesLasting 19 = .ok (.iload 7, 2) := by decide +kernel
theorem dX1_pagesLasting_21 : decode cX1_pagesLasting 21 = .ok (.iload 4, 2) := by decide +kernel
theorem dX1_pagesLasting_23 : decode cX1_pagesLasting 23 = .ok (.if_icmp .ge 99, 3) := by decide +kernel
theorem dX1_pagesLasting_26 : decode cX1_pagesLasting 26 = .ok (.iload_n 3, 1) := by decide +kernel
theorem dX1_pagesLasting_27 : decode cX1_pagesLasting 27 = .ok (.ifCond .eq 44, 3) := by decide +kernel
theorem dX1_pagesLasting_30 : decode cX1_pagesLasting 30 = .ok (.iload 5, 2) := by decide +kernel
theorem dX1_pagesLasting_32 : decode cX1_pagesLasting 32 = .ok (.iload_n 2, 1) := by decide +kernel
theorem dX1_pagesLasting_33 : decode cX1_pagesLasting 33 = .ok (.invokestatic 105, 3) := by decide +kernel
theorem dX1_pagesLasting_36 : decode cX1_pagesLasting 36 = .ok (.ifCond .ne 35, 3) := by decide +kernel
theorem dX1_pagesLasting_39 : decode cX1_pagesLasting 39 = .ok (.iload 5, 2) := by decide +kernel
theorem dX1_pagesLasting_41 : decode cX1_pagesLasting 41 = .ok (.iload 6, 2) := by decide +kernel
theorem dX1_pagesLasting_43 : decode cX1_pagesLasting 43 = .ok (.iconst 2, 1) := by decide +kernel
theorem dX1_pagesLasting_44 : decode cX1_pagesLasting 44 = .ok (.idiv, 1) := by decide +kernel
theorem dX1_pagesLasting_45 : decode cX1_pagesLasting 45 = .ok (.iadd, 1) := by decide +kernel
theorem dX1_pagesLasting_46 : decode cX1_pagesLasting 46 = .ok (.iload_n 2, 1) := by decide +kernel
theorem dX1_pagesLasting_47 : decode cX1_pagesLasting 47 = .ok (.invokestatic 105, 3) := by decide +kernel
theorem dX1_pagesLasting_50 : decode cX1_pagesLasting 50 = .ok (.ifCond .eq 21, 3) := by decide +kernel
theorem dX1_pagesLasting_53 : decode cX1_pagesLasting 53 = .ok (.iload 5, 2) := by decide +kernel
theorem dX1_pagesLasting_55 : decode cX1_pagesLasting 55 = .ok (.iload 6, 2) := by decide +kernel
theorem dX1_pagesLasting_57 : decode cX1_pagesLasting 57 = .ok (.iconst 2, 1) := by decide +kernel
theorem dX1_pagesLasting_58 : decode cX1_pagesLasting 58 = .ok (.idiv, 1) := by decide +kernel
theorem dX1_pagesLasting_59 : decode cX1_pagesLasting 59 = .ok (.iadd, 1) := by decide +kernel
theorem dX1_pagesLasting_60 : decode cX1_pagesLasting 60 = .ok (.istore 5, 2) := by decide +kernel
theorem dX1_pagesLasting_62 : decode cX1_pagesLasting 62 = .ok (.iload 6, 2) := by decide +kernel
theorem dX1_pagesLasting_64 : decode cX1_pagesLasting 64 = .ok (.iload 6, 2) := by decide +kernel
theorem dX1_pagesLasting_66 : decode cX1_pagesLasting 66 = .ok (.iconst 2, 1) := by decide +kernel
theorem dX1_pagesLasting_67 : decode cX1_pagesLasting 67 = .ok (.idiv, 1) := by decide +kernel
theorem dX1_pagesLasting_68 : decode cX1_pagesLasting 68 = .ok (.isub, 1) := by decide +kernel
theorem dX1_pagesLasting_69 : decode cX1_pagesLasting 69 = .ok (.istore 6, 2) := by decide +kernel
theorem dX1_pagesLasting_71 : decode cX1_pagesLasting 71 = .ok (.iload 5, 2) := by decide +kernel
theorem dX1_pagesLasting_73 : decode cX1_pagesLasting 73 = .ok (.iload_n 2, 1) := by decide +kernel
theorem dX1_pagesLasting_74 : decode cX1_pagesLasting 74 = .ok (.invokestatic 105, 3) := by decide +kernel
theorem dX1_pagesLasting_77 : decode cX1_pagesLasting 77 = .ok (.ifCond .ne 6, 3) := by decide +kernel
theorem dX1_pagesLasting_80 : decode cX1_pagesLasting 80 = .ok (.iload 7, 2) := by decide +kernel
theorem dX1_pagesLasting_82 : decode cX1_pagesLasting 82 = .ok (.ireturn, 1) := by decide +kernel
theorem dX1_pagesLasting_83 : decode cX1_pagesLasting 83 = .ok (.iload 5, 2) := by decide +kernel
theorem dX1_pagesLasting_85 : decode cX1_pagesLasting 85 = .ok (.iload_n 2, 1) := by decide +kernel
theorem dX1_pagesLasting_86 : decode cX1_pagesLasting 86 = .ok (.isub, 1) := by decide +kernel
theorem dX1_pagesLasting_87 : decode cX1_pagesLasting 87 = .ok (.istore 5, 2) := by decide +kernel
theorem dX1_pagesLasting_89 : decode cX1_pagesLasting 89 = .ok (.iload 5, 2) := by decide +kernel
theorem dX1_pagesLasting_91 : decode cX1_pagesLasting 91 = .ok (.aload_n 0, 1) := by decide +kernel
theorem dX1_pagesLasting_92 : decode cX1_pagesLasting 92 = .ok (.getfield 9, 3) := by decide +kernel
theorem dX1_pagesLasting_95 : decode cX1_pagesLasting 95 = .ok (.iconst 1, 1) := by decide +kernel
theorem dX1_pagesLasting_96 : decode cX1_pagesLasting 96 = .ok (.iaload, 1) := by decide +kernel
theorem dX1_pagesLasting_97 : decode cX1_pagesLasting 97 = .ok (.invokestatic 84, 3) := by decide +kernel
theorem dX1_pagesLasting_100 : decode cX1_pagesLasting 100 = .ok (.istore 8, 2) := by decide +kernel
theorem dX1_pagesLasting_102 : decode cX1_pagesLasting 102 = .ok (.iload 5, 2) := by decide +kernel
theorem dX1_pagesLasting_104 : decode cX1_pagesLasting 104 = .ok (.iload 8, 2) := by decide +kernel
theorem dX1_pagesLasting_106 : decode cX1_pagesLasting 106 = .ok (.isub, 1) := by decide +kernel
theorem dX1_pagesLasting_107 : decode cX1_pagesLasting 107 = .ok (.istore 5, 2) := by decide +kernel
theorem dX1_pagesLasting_109 : decode cX1_pagesLasting 109 = .ok (.iload 6, 2) := by decide +kernel
theorem dX1_pagesLasting_111 : decode cX1_pagesLasting 111 = .ok (.iload 8, 2) := by decide +kernel
theorem dX1_pagesLasting_113 : decode cX1_pagesLasting 113 = .ok (.iadd, 1) := by decide +kernel
theorem dX1_pagesLasting_114 : decode cX1_pagesLasting 114 = .ok (.istore 6, 2) := by decide +kernel
theorem dX1_pagesLasting_116 : decode cX1_pagesLasting 116 = .ok (.iinc 7 1, 3) := by decide +kernel
theorem dX1_pagesLasting_119 : decode cX1_pagesLasting 119 = .ok (.goto (-100), 3) := by decide +kernel
theorem dX1_pagesLasting_122 : decode cX1_pagesLasting 122 = .ok (.iload 4, 2) := by decide +kernel
theorem dX1_pagesLasting_124 : decode cX1_pagesLasting 124 = .ok (.ireturn, 1) := by decide +kernel
theorem dX1_lastsShaken_0 : decode cX1_lastsShaken 0 = .ok (.aload_n 0, 1) := by decide +kernel
theorem dX1_lastsShaken_1 : decode cX1_lastsShaken 1 = .ok (.iload_n 1, 1) := by decide +kernel
theorem dX1_lastsShaken_2 : decode cX1_lastsShaken 2 = .ok (.aload_n 0, 1) := by decide +kernel
theorem dX1_lastsShaken_3 : decode cX1_lastsShaken 3 = .ok (.iload_n 1, 1) := by decide +kernel
theorem dX1_lastsShaken_4 : decode cX1_lastsShaken 4 = .ok (.iload_n 2, 1) := by decide +kernel
theorem dX1_lastsShaken_5 : decode cX1_lastsShaken 5 = .ok (.iload_n 3, 1) := by decide +kernel
theorem dX1_lastsShaken_6 : decode cX1_lastsShaken 6 = .ok (.invokevirtual 61, 3) := by decide +kernel
theorem dX1_lastsShaken_9 : decode cX1_lastsShaken 9 = .ok (.iconst 1, 1) := by decide +kernel
theorem dX1_lastsShaken_10 : decode cX1_lastsShaken 10 = .ok (.iload 4, 2) := by decide +kernel
theorem dX1_lastsShaken_12 : decode cX1_lastsShaken 12 = .ok (.invokevirtual 109, 3) := by decide +kernel
theorem dX1_lastsShaken_15 : decode cX1_lastsShaken 15 = .ok (.iload 4, 2) := by decide +kernel
theorem dX1_lastsShaken_17 : decode cX1_lastsShaken 17 = .ok (.if_icmp .lt 7, 3) := by decide +kernel
theorem dX1_lastsShaken_20 : decode cX1_lastsShaken 20 = .ok (.iconst 1, 1) := by decide +kernel
theorem dX1_lastsShaken_21 : decode cX1_lastsShaken 21 = .ok (.goto 4, 3) := by decide +kernel
theorem dX1_lastsShaken_24 : decode cX1_lastsShaken 24 = .ok (.iconst 0, 1) := by decide +kernel
theorem dX1_lastsShaken_25 : decode cX1_lastsShaken 25 = .ok (.ireturn, 1) := by decide +kernel
theorem dX1_wouldBeDark_0 : decode cX1_wouldBeDark 0 = .ok (.iload_n 0, 1) := by decide +kernel
theorem dX1_wouldBeDark_1 : decode cX1_wouldBeDark 1 = .ok (.ifCond .le 12, 3) := by decide +kernel
theorem dX1_wouldBeDark_4 : decode cX1_wouldBeDark 4 = .ok (.iload_n 0, 1) := by decide +kernel
theorem dX1_wouldBeDark_5 : decode cX1_wouldBeDark 5 = .ok (.iload_n 1, 1) := by decide +kernel
theorem dX1_wouldBeDark_6 : decode cX1_wouldBeDark 6 = .ok (.if_icmp .lt 7, 3) := by decide +kernel
theorem dX1_wouldBeDark_9 : decode cX1_wouldBeDark 9 = .ok (.iconst 1, 1) := by decide +kernel
theorem dX1_wouldBeDark_10 : decode cX1_wouldBeDark 10 = .ok (.goto 4, 3) := by decide +kernel
theorem dX1_wouldBeDark_13 : decode cX1_wouldBeDark 13 = .ok (.iconst 0, 1) := by decide +kernel
theorem dX1_wouldBeDark_14 : decode cX1_wouldBeDark 14 = .ok (.ireturn, 1) := by decide +kernel
theorem dX1_handPageByPage_0 : decode cX1_handPageByPage 0 = .ok (.aload_n 0, 1) := by decide +kernel
theorem dX1_handPageByPage_1 : decode cX1_handPageByPage 1 = .ok (.getfield 18, 3) := by decide +kernel
theorem dX1_handPageByPage_4 : decode cX1_handPageByPage 4 = .ok (.iload_n 1, 1) := by decide +kernel
theorem dX1_handPageByPage_5 : decode cX1_handPageByPage 5 = .ok (.iaload, 1) := by decide +kernel
theorem dX1_handPageByPage_6 : decode cX1_handPageByPage 6 = .ok (.istore 4, 2) := by decide +kernel
theorem dX1_handPageByPage_8 : decode cX1_handPageByPage 8 = .ok (.iconst 0, 1) := by decide +kernel
theorem dX1_handPageByPage_9 : decode cX1_handPageByPage 9 = .ok (.istore 5, 2) := by decide +kernel
theorem dX1_handPageByPage_11 : decode cX1_handPageByPage 11 = .ok (.iload 5, 2) := by decide +kernel
theorem dX1_handPageByPage_13 : decode cX1_handPageByPage 13 = .ok (.iload_n 3, 1) := by decide +kernel
theorem dX1_handPageByPage_14 : decode cX1_handPageByPage 14 = .ok (.if_icmp .ge 31, 3) := by decide +kernel
theorem dX1_handPageByPage_17 : decode cX1_handPageByPage 17 = .ok (.iload 4, 2) := by decide +kernel
theorem dX1_handPageByPage_19 : decode cX1_handPageByPage 19 = .ok (.iload_n 2, 1) := by decide +kernel
theorem dX1_handPageByPage_20 : decode cX1_handPageByPage 20 = .ok (.isub, 1) := by decide +kernel
theorem dX1_handPageByPage_21 : decode cX1_handPageByPage 21 = .ok (.istore 4, 2) := by decide +kernel
theorem dX1_handPageByPage_23 : decode cX1_handPageByPage 23 = .ok (.iload 4, 2) := by decide +kernel
theorem dX1_handPageByPage_25 : decode cX1_handPageByPage 25 = .ok (.iload 4, 2) := by decide +kernel
theorem dX1_handPageByPage_27 : decode cX1_handPageByPage 27 = .ok (.aload_n 0, 1) := by decide +kernel
theorem dX1_handPageByPage_28 : decode cX1_handPageByPage 28 = .ok (.getfield 9, 3) := by decide +kernel
theorem dX1_handPageByPage_31 : decode cX1_handPageByPage 31 = .ok (.iconst 1, 1) := by decide +kernel
theorem dX1_handPageByPage_32 : decode cX1_handPageByPage 32 = .ok (.iaload, 1) := by decide +kernel
theorem dX1_handPageByPage_33 : decode cX1_handPageByPage 33 = .ok (.invokestatic 84, 3) := by decide +kernel
theorem dX1_handPageByPage_36 : decode cX1_handPageByPage 36 = .ok (.isub, 1) := by decide +kernel
theorem dX1_handPageByPage_37 : decode cX1_handPageByPage 37 = .ok (.istore 4, 2) := by decide +kernel
theorem dX1_handPageByPage_39 : decode cX1_handPageByPage 39 = .ok (.iinc 5 1, 3) := by decide +kernel
theorem dX1_handPageByPage_42 : decode cX1_handPageByPage 42 = .ok (.goto (-31), 3) := by decide +kernel
theorem dX1_handPageByPage_45 : decode cX1_handPageByPage 45 = .ok (.iload 4, 2) := by decide +kernel
theorem dX1_handPageByPage_47 : decode cX1_handPageByPage 47 = .ok (.ireturn, 1) := by decide +kernel
theorem dX1_handAddedUp_0 : decode cX1_handAddedUp 0 = .ok (.aload_n 0, 1) := by decide +kernel
theorem dX1_handAddedUp_1 : decode cX1_handAddedUp 1 = .ok (.getfield 18, 3) := by decide +kernel
theorem dX1_handAddedUp_4 : decode cX1_handAddedUp 4 = .ok (.iload_n 1, 1) := by decide +kernel
theorem dX1_handAddedUp_5 : decode cX1_handAddedUp 5 = .ok (.iaload, 1) := by decide +kernel
theorem dX1_handAddedUp_6 : decode cX1_handAddedUp 6 = .ok (.istore 4, 2) := by decide +kernel
theorem dX1_handAddedUp_8 : decode cX1_handAddedUp 8 = .ok (.iconst 0, 1) := by decide +kernel
theorem dX1_handAddedUp_9 : decode cX1_handAddedUp 9 = .ok (.istore 5, 2) := by decide +kernel
theorem dX1_handAddedUp_11 : decode cX1_handAddedUp 11 = .ok (.iconst 0, 1) := by decide +kernel
theorem dX1_handAddedUp_12 : decode cX1_handAddedUp 12 = .ok (.istore 6, 2) := by decide +kernel
theorem dX1_handAddedUp_14 : decode cX1_handAddedUp 14 = .ok (.iconst 0, 1) := by decide +kernel
theorem dX1_handAddedUp_15 : decode cX1_handAddedUp 15 = .ok (.istore 7, 2) := by decide +kernel
theorem dX1_handAddedUp_17 : decode cX1_handAddedUp 17 = .ok (.iload 7, 2) := by decide +kernel
theorem dX1_handAddedUp_19 : decode cX1_handAddedUp 19 = .ok (.iload_n 3, 1) := by decide +kernel
theorem dX1_handAddedUp_20 : decode cX1_handAddedUp 20 = .ok (.if_icmp .ge 37, 3) := by decide +kernel
theorem dX1_handAddedUp_23 : decode cX1_handAddedUp 23 = .ok (.iload 5, 2) := by decide +kernel
theorem dX1_handAddedUp_25 : decode cX1_handAddedUp 25 = .ok (.iload_n 2, 1) := by decide +kernel
theorem dX1_handAddedUp_26 : decode cX1_handAddedUp 26 = .ok (.iadd, 1) := by decide +kernel
theorem dX1_handAddedUp_27 : decode cX1_handAddedUp 27 = .ok (.istore 5, 2) := by decide +kernel
theorem dX1_handAddedUp_29 : decode cX1_handAddedUp 29 = .ok (.iload 6, 2) := by decide +kernel
theorem dX1_handAddedUp_31 : decode cX1_handAddedUp 31 = .ok (.iload 4, 2) := by decide +kernel
theorem dX1_handAddedUp_33 : decode cX1_handAddedUp 33 = .ok (.iload 5, 2) := by decide +kernel
theorem dX1_handAddedUp_35 : decode cX1_handAddedUp 35 = .ok (.isub, 1) := by decide +kernel
theorem dX1_handAddedUp_36 : decode cX1_handAddedUp 36 = .ok (.iload 6, 2) := by decide +kernel
theorem dX1_handAddedUp_38 : decode cX1_handAddedUp 38 = .ok (.isub, 1) := by decide +kernel
theorem dX1_handAddedUp_39 : decode cX1_handAddedUp 39 = .ok (.aload_n 0, 1) := by decide +kernel
theorem dX1_handAddedUp_40 : decode cX1_handAddedUp 40 = .ok (.getfield 9, 3) := by decide +kernel
theorem dX1_handAddedUp_43 : decode cX1_handAddedUp 43 = .ok (.iconst 1, 1) := by decide +kernel
theorem dX1_handAddedUp_44 : decode cX1_handAddedUp 44 = .ok (.iaload, 1) := by decide +kernel
theorem dX1_handAddedUp_45 : decode cX1_handAddedUp 45 = .ok (.invokestatic 84, 3) := by decide +kernel
theorem dX1_handAddedUp_48 : decode cX1_handAddedUp 48 = .ok (.iadd, 1) := by decide +kernel
theorem dX1_handAddedUp_49 : decode cX1_handAddedUp 49 = .ok (.istore 6, 2) := by decide +kernel
theorem dX1_handAddedUp_51 : decode cX1_handAddedUp 51 = .ok (.iinc 7 1, 3) := by decide +kernel
theorem dX1_handAddedUp_54 : decode cX1_handAddedUp 54 = .ok (.goto (-37), 3) := by decide +kernel
theorem dX1_handAddedUp_57 : decode cX1_handAddedUp 57 = .ok (.iload 4, 2) := by decide +kernel
theorem dX1_handAddedUp_59 : decode cX1_handAddedUp 59 = .ok (.iload 5, 2) := by decide +kernel
theorem dX1_handAddedUp_61 : decode cX1_handAddedUp 61 = .ok (.isub, 1) := by decide +kernel
theorem dX1_handAddedUp_62 : decode cX1_handAddedUp 62 = .ok (.iload 6, 2) := by decide +kernel
theorem dX1_handAddedUp_64 : decode cX1_handAddedUp 64 = .ok (.isub, 1) := by decide +kernel
theorem dX1_handAddedUp_65 : decode cX1_handAddedUp 65 = .ok (.ireturn, 1) := by decide +kernel
theorem dX2_init_0 : decode cX2_init 0 = .ok (.aload_n 0, 1) := by decide +kernel
theorem dX2_init_1 : decode cX2_init 1 = .ok (.invokespecial 3, 3) := by decide +kernel
theorem dX2_init_4 : decode cX2_init 4 = .ok (.aload_n 0, 1) := by decide +kernel
theorem dX2_init_5 : decode cX2_init 5 = .ok (.bipush 60, 2) := by decide +kernel
theorem dX2_init_7 : decode cX2_init 7 = .ok (.newarray .char, 2) := by decide +kernel
theorem dX2_init_9 : decode cX2_init 9 = .ok (.putfield 11, 3) := by decide +kernel
theorem dX2_init_12 : decode cX2_init 12 = .ok (.aload_n 0, 1) := by decide +kernel
theorem dX2_init_13 : decode cX2_init 13 = .ok (.iconst 0, 1) := by decide +kernel
theorem dX2_init_14 : decode cX2_init 14 = .ok (.putfield 15, 3) := by decide +kernel
theorem dX2_init_17 : decode cX2_init 17 = .ok (.aload_n 0, 1) := by decide +kernel
theorem dX2_init_18 : decode cX2_init 18 = .ok (.iconst 0, 1) := by decide +kernel
theorem dX2_init_19 : decode cX2_init 19 = .ok (.putfield 19, 3) := by decide +kernel
theorem dX2_init_22 : decode cX2_init 22 = .ok (.aload_n 0, 1) := by decide +kernel
theorem dX2_init_23 : decode cX2_init 23 = .ok (.iconst 0, 1) := by decide +kernel
theorem dX2_init_24 : decode cX2_init 24 = .ok (.putfield 22, 3) := by decide +kernel
theorem dX2_init_27 : decode cX2_init 27 = .ok (.aload_n 0, 1) := by decide +kernel
theorem dX2_init_28 : decode cX2_init 28 = .ok (.bipush 30, 2) := by decide +kernel
theorem dX2_init_30 : decode cX2_init 30 = .ok (.newarray .char, 2) := by decide +kernel
theorem dX2_init_32 : decode cX2_init 32 = .ok (.putfield 25, 3) := by decide +kernel
theorem dX2_init_35 : decode cX2_init 35 = .ok (.aload_n 0, 1) := by decide +kernel
theorem dX2_init_36 : decode cX2_init 36 = .ok (.bipush 30, 2) := by decide +kernel
theorem dX2_init_38 : decode cX2_init 38 = .ok (.newarray .int, 2) := by decide +kernel
theorem dX2_init_40 : decode cX2_init 40 = .ok (.putfield 28, 3) := by decide +kernel
theorem dX2_init_43 : decode cX2_init 43 = .ok (.aload_n 0, 1) := by decide +kernel
theorem dX2_init_44 : decode cX2_init 44 = .ok (.bipush 30, 2) := by decide +kernel
theorem dX2_init_46 : decode cX2_init 46 = .ok (.newarray .int, 2) := by decide +kernel
theorem dX2_init_48 : decode cX2_init 48 = .ok (.putfield 32, 3) := by decide +kernel
theorem dX2_init_51 : decode cX2_init 51 = .ok (.aload_n 0, 1) := by decide +kernel
theorem dX2_init_52 : decode cX2_init 52 = .ok (.bipush 30, 2) := by decide +kernel
theorem dX2_init_54 : decode cX2_init 54 = .ok (.newarray .int, 2) := by decide +kernel
theorem dX2_init_56 : decode cX2_init 56 = .ok (.putfield 35, 3) := by decide +kernel
theorem dX2_init_59 : decode cX2_init 59 = .ok (.aload_n 0, 1) := by decide +kernel
theorem dX2_init_60 : decode cX2_init 60 = .ok (.bipush 30, 2) := by decide +kernel
theorem dX2_init_62 : decode cX2_init 62 = .ok (.newarray .int, 2) := by decide +kernel
theorem dX2_init_64 : decode cX2_init 64 = .ok (.putfield 38, 3) := by decide +kernel
theorem dX2_init_67 : decode cX2_init 67 = .ok (.return_, 1) := by decide +kernel
theorem dX2_hasRoom_0 : decode cX2_hasRoom 0 = .ok (.aload_n 0, 1) := by decide +kernel
theorem dX2_hasRoom_1 : decode cX2_hasRoom 1 = .ok (.getfield 15, 3) := by decide +kernel
theorem dX2_hasRoom_4 : decode cX2_hasRoom 4 = .ok (.bipush 60, 2) := by decide +kernel
theorem dX2_hasRoom_6 : decode cX2_hasRoom 6 = .ok (.if_icmp .ge 7, 3) := by decide +kernel
theorem dX2_hasRoom_9 : decode cX2_hasRoom 9 = .ok (.iconst 1, 1) := by decide +kernel
theorem dX2_hasRoom_10 : decode cX2_hasRoom 10 = .ok (.goto 4, 3) := by decide +kernel
theorem dX2_hasRoom_13 : decode cX2_hasRoom 13 = .ok (.iconst 0, 1) := by decide +kernel
theorem dX2_hasRoom_14 : decode cX2_hasRoom 14 = .ok (.ireturn, 1) := by decide +kernel
theorem dX2_add_0 : decode cX2_add 0 = .ok (.aload_n 0, 1) := by decide +kernel
theorem dX2_add_1 : decode cX2_add 1 = .ok (.invokevirtual 41, 3) := by decide +kernel
theorem dX2_add_4 : decode cX2_add 4 = .ok (.ifCond .eq 23, 3) := by decide +kernel
theorem dX2_add_7 : decode cX2_add 7 = .ok (.aload_n 0, 1) := by decide +kernel
theorem dX2_add_8 : decode cX2_add 8 = .ok (.getfield 11, 3) := by decide +kernel
theorem dX2_add_11 : decode cX2_add 11 = .ok (.aload_n 0, 1) := by decide +kernel
theorem dX2_add_12 : decode cX2_add 12 = .ok (.getfield 15, 3) := by decide +kernel
theorem dX2_add_15 : decode cX2_add 15 = .ok (.iload_n 1, 1) := by decide +kernel
theorem dX2_add_16 : decode cX2_add 16 = .ok (.castore, 1) := by decide +kernel
theorem dX2_add_17 : decode cX2_add 17 = .ok (.aload_n 0, 1) := by decide +kernel
theorem dX2_add_18 : decode cX2_add 18 = .ok (.dup, 1) := by decide +kernel
theorem dX2_add_19 : decode cX2_add 19 = .ok (.getfield 15, 3) := by decide +kernel
theorem dX2_add_22 : decode cX2_add 22 = .ok (.iconst 1, 1) := by decide +kernel
theorem dX2_add_23 : decode cX2_add 23 = .ok (.iadd, 1) := by decide +kernel
theorem dX2_add_24 : decode cX2_add 24 = .ok (.putfield 15, 3) := by decide +kernel
theorem dX2_add_27 : decode cX2_add 27 = .ok (.return_, 1) := by decide +kernel
theorem dX2_wipe_0 : decode cX2_wipe 0 = .ok (.aload_n 0, 1) := by decide +kernel
theorem dX2_wipe_1 : decode cX2_wipe 1 = .ok (.iconst 0, 1) := by decide +kernel
theorem dX2_wipe_2 : decode cX2_wipe 2 = .ok (.putfield 15, 3) := by decide +kernel
theorem dX2_wipe_5 : decode cX2_wipe 5 = .ok (.return_, 1) := by decide +kernel
theorem dX2_findFault_0 : decode cX2_findFault 0 = .ok (.aload_n 0, 1) := by decide +kernel
theorem dX2_findFault_1 : decode cX2_findFault 1 = .ok (.iconst 0, 1) := by decide +kernel
theorem dX2_findFault_2 : decode cX2_findFault 2 = .ok (.putfield 19, 3) := by decide +kernel
theorem dX2_findFault_5 : decode cX2_findFault 5 = .ok (.aload_n 0, 1) := by decide +kernel
theorem dX2_findFault_6 : decode cX2_findFault 6 = .ok (.iconst 0, 1) := by decide +kernel
theorem dX2_findFault_7 : decode cX2_findFault 7 = .ok (.putfield 22, 3) := by decide +kernel
theorem dX2_findFault_10 : decode cX2_findFault 10 = .ok (.aload_n 0, 1) := by decide +kernel
theorem dX2_findFault_11 : decode cX2_findFault 11 = .ok (.invokevirtual 45, 3) := by decide +kernel
theorem dX2_findFault_14 : decode cX2_findFault 14 = .ok (.istore_n 1, 1) := by decide +kernel
theorem dX2_findFault_15 : decode cX2_findFault 15 = .ok (.iconst 1, 1) := by decide +kernel
theorem dX2_findFault_16 : decode cX2_findFault 16 = .ok (.istore_n 2, 1) := by decide +kernel
theorem dX2_findFault_17 : decode cX2_findFault 17 = .ok (.iload_n 2, 1) := by decide +kernel
theorem dX2_findFault_18 : decode cX2_findFault 18 = .ok (.bipush 30, 2) := by decide +kernel
theorem dX2_findFault_20 : decode cX2_findFault 20 = .ok (.if_icmp .ge 27, 3) := by decide +kernel
theorem dX2_findFault_23 : decode cX2_findFault 23 = .ok (.iload_n 1, 1) := by decide +kernel
theorem dX2_findFault_24 : decode cX2_findFault 24 = .ok (.ifCond .eq 23, 3) := by decide +kernel
theorem dX2_findFault_27 : decode cX2_findFault 27 = .ok (.aload_n 0, 1) := by decide +kernel
theorem dX2_findFault_28 : decode cX2_findFault 28 = .ok (.bipush 59, 2) := by decide +kernel
theorem dX2_findFault_30 : decode cX2_findFault 30 = .ok (.invokevirtual 48, 3) := by decide +kernel
theorem dX2_findFault_33 : decode cX2_findFault 33 = .ok (.ifCond .eq 14, 3) := by decide +kernel
theorem dX2_findFault_36 : decode cX2_findFault 36 = .ok (.aload_n 0, 1) := by decide +kernel
theorem dX2_findFault_37 : decode cX2_findFault 37 = .ok (.invokevirtual 45, 3) := by decide +kernel
theorem dX2_findFault_40 : decode cX2_findFault 40 = .ok (.istore_n 1, 1) := by decide +kernel
theorem dX2_findFault_41 : decode cX2_findFault 41 = .ok (.iinc 2 1, 3) := by decide +kernel
theorem dX2_findFault_44 : decode cX2_findFault 44 = .ok (.goto (-27), 3) := by decide +kernel
theorem dX2_findFault_47 : decode cX2_findFault 47 = .ok (.iload_n 1, 1) := by decide +kernel
theorem dX2_findFault_48 : decode cX2_findFault 48 = .ok (.ifCond .eq 19, 3) := by decide +kernel
theorem dX2_findFault_51 : decode cX2_findFault 51 = .ok (.aload_n 0, 1) := by decide +kernel
theorem dX2_findFault_52 : decode cX2_findFault 52 = .ok (.getfield 19, 3) := by decide +kernel
theorem dX2_findFault_55 : decode cX2_findFault 55 = .ok (.aload_n 0, 1) := by decide +kernel
theorem dX2_findFault_56 : decode cX2_findFault 56 = .ok (.getfield 15, 3) := by decide +kernel
theorem dX2_findFault_59 : decode cX2_findFault 59 = .ok (.if_icmp .ne 8, 3) := by decide +kernel
theorem dX2_findFault_62 : decode cX2_findFault 62 = .ok (.bipush (-4), 2) := by decide +kernel
theorem dX2_findFault_64 : decode cX2_findFault 64 = .ok (.goto 7, 3) := by decide +kernel
theorem dX2_findFault_67 : decode cX2_findFault 67 = .ok (.aload_n 0, 1) := by decide +kernel
theorem dX2_findFault_68 : decode cX2_findFault 68 = .ok (.getfield 19, 3) := by decide +kernel
theorem dX2_findFault_71 : decode cX2_findFault 71 = .ok (.ireturn, 1) := by decide +kernel
theorem dX2_readDeed_0 : decode cX2_readDeed 0 = .ok (.aload_n 0, 1) := by decide +kernel
theorem dX2_readDeed_1 : decode cX2_readDeed 1 = .ok (.getfield 22, 3) := by decide +kernel
theorem dX2_readDeed_4 : decode cX2_readDeed 4 = .ok (.bipush 30, 2) := by decide +kernel
theorem dX2_readDeed_6 : decode cX2_readDeed 6 = .ok (.if_icmp .lt 5, 3) := by decide +kernel
theorem dX2_readDeed_9 : decode cX2_readDeed 9 = .ok (.iconst 0, 1) := by decide +kernel
theorem dX2_readDeed_10 : decode cX2_readDeed 10 = .ok (.ireturn, 1) := by decide +kernel
theorem dX2_readDeed_11 : decode cX2_readDeed 11 = .ok (.aload_n 0, 1) := by decide +kernel
theorem dX2_readDeed_12 : decode cX2_readDeed 12 = .ok (.getfield 28, 3) := by decide +kernel
theorem dX2_readDeed_15 : decode cX2_readDeed 15 = .ok (.aload_n 0, 1) := by decide +kernel
theorem dX2_readDeed_16 : decode cX2_readDeed 16 = .ok (.getfield 22, 3) := by decide +kernel
theorem dX2_readDeed_19 : decode cX2_readDeed 19 = .ok (.aload_n 0, 1) := by decide +kernel
theorem dX2_readDeed_20 : decode cX2_readDeed 20 = .ok (.getfield 19, 3) := by decide +kernel
theorem dX2_readDeed_23 : decode cX2_readDeed 23 = .ok (.iastore, 1) := by decide +kernel
theorem dX2_readDeed_24 : decode cX2_readDeed 24 = .ok (.aload_n 0, 1) := by decide +kernel
theorem dX2_readDeed_25 : decode cX2_readDeed 25 = .ok (.bipush 112, 2) := by decide +kernel
theorem dX2_readDeed_27 : decode cX2_readDeed 27 = .ok (.invokevirtual 48, 3) := by decide +kernel
theorem dX2_readDeed_30 : decode cX2_readDeed 30 = .ok (.ifCond .eq 22, 3) := by decide +kernel
theorem dX2_readDeed_33 : decode cX2_readDeed 33 = .ok (.aload_n 0, 1) := by decide +kernel
theorem dX2_readDeed_34 : decode cX2_readDeed 34 = .ok (.getfield 25, 3) := by decide +kernel
theorem dX2_readDeed_37 : decode cX2_readDeed 37 = .ok (.aload_n 0, 1) := by decide +kernel
theorem dX2_readDeed_38 : decode cX2_readDeed 38 = .ok (.getfield 22, 3) := by decide +kernel
theorem dX2_readDeed_41 : decode cX2_readDeed 41 = .ok (.bipush 112, 2) := by decide +kernel
theorem dX2_readDeed_43 : decode cX2_readDeed 43 = .ok (.castore, 1) := by decide +kernel
theorem dX2_readDeed_44 : decode cX2_readDeed 44 = .ok (.aload_n 0, 1) := by decide +kernel
theorem dX2_readDeed_45 : decode cX2_readDeed 45 = .ok (.invokevirtual 52, 3) := by decide +kernel
theorem dX2_readDeed_48 : decode cX2_readDeed 48 = .ok (.istore_n 1, 1) := by decide +kernel
theorem dX2_readDeed_49 : decode cX2_readDeed 49 = .ok (.goto 64, 3) := by decide +kernel
theorem dX2_readDeed_52 : decode cX2_readDeed 52 = .ok (.aload_n 0, 1) := by decide +kernel
theorem dX2_readDeed_53 : decode cX2_readDeed 53 = .ok (.bipush 115, 2) := by decide +kernel
theorem dX2_readDeed_55 : decode cX2_readDeed 55 = .ok (.invokevirtual 48, 3) := by decide +kernel
theorem dX2_readDeed_58 : decode cX2_readDeed 58 = .ok (.ifCond .eq 22, 3) := by decide +kernel
theorem dX2_readDeed_61 : decode cX2_readDeed 61 = .ok (.aload_n 0, 1) := by decide +kernel
theorem dX2_readDeed_62 : decode cX2_readDeed 62 = .ok (.getfield 25, 3) := by decide +kernel
theorem dX2_readDeed_65 : decode cX2_readDeed 65 = .ok (.aload_n 0, 1) := by decide +kernel
theorem dX2_readDeed_66 : decode cX2_readDeed 66 = .ok (.getfield 22, 3) := by decide +kernel
theorem dX2_readDeed_69 : decode cX2_readDeed 69 = .ok (.bipush 115, 2) := by decide +kernel
theorem dX2_readDeed_71 : decode cX2_readDeed 71 = .ok (.castore, 1) := by decide +kernel
theorem dX2_readDeed_72 : decode cX2_readDeed 72 = .ok (.aload_n 0, 1) := by decide +kernel
theorem dX2_readDeed_73 : decode cX2_readDeed 73 = .ok (.invokevirtual 55, 3) := by decide +kernel
theorem dX2_readDeed_76 : decode cX2_readDeed 76 = .ok (.istore_n 1, 1) := by decide +kernel
theorem dX2_readDeed_77 : decode cX2_readDeed 77 = .ok (.goto 36, 3) := by decide +kernel
theorem dX2_readDeed_80 : decode cX2_readDeed 80 = .ok (.aload_n 0, 1) := by decide +kernel
theorem dX2_readDeed_81 : decode cX2_readDeed 81 = .ok (.getfield 25, 3) := by decide +kernel
theorem dX2_readDeed_84 : decode cX2_readDeed 84 = .ok (.aload_n 0, 1) := by decide +kernel
theorem dX2_readDeed_85 : decode cX2_readDeed 85 = .ok (.getfield 22, 3) := by decide +kernel
theorem dX2_readDeed_88 : decode cX2_readDeed 88 = .ok (.bipush 109, 2) := by decide +kernel
theorem dX2_readDeed_90 : decode cX2_readDeed 90 = .ok (.castore, 1) := by decide +kernel
theorem dX2_readDeed_91 : decode cX2_readDeed 91 = .ok (.aload_n 0, 1) := by decide +kernel
theorem dX2_readDeed_92 : decode cX2_readDeed 92 = .ok (.bipush 109, 2) := by decide +kernel
theorem dX2_readDeed_94 : decode cX2_readDeed 94 = .ok (.invokevirtual 48, 3) := by decide +kernel
theorem dX2_readDeed_97 : decode cX2_readDeed 97 = .ok (.ifCond .eq 14, 3) := by decide +kernel
theorem dX2_readDeed_100 : decode cX2_readDeed 100 = .ok (.aload_n 0, 1) := by decide +kernel
theorem dX2_readDeed_101 : decode cX2_readDeed 101 = .ok (.invokevirtual 58, 3) := by decide +kernel
theorem dX2_readDeed_104 : decode cX2_readDeed 104 = .ok (.ifCond .eq 7, 3) := by decide +kernel
theorem dX2_readDeed_107 : decode cX2_readDeed 107 = .ok (.iconst 1, 1) := by decide +kernel
theorem dX2_readDeed_108 : decode cX2_readDeed 108 = .ok (.goto 4, 3) := by decide +kernel
theorem dX2_readDeed_111 : decode cX2_readDeed 111 = .ok (.iconst 0, 1) := by decide +kernel
theorem dX2_readDeed_112 : decode cX2_readDeed 112 = .ok (.istore_n 1, 1) := by decide +kernel
theorem dX2_readDeed_113 : decode cX2_readDeed 113 = .ok (.aload_n 0, 1) := by decide +kernel
theorem dX2_readDeed_114 : decode cX2_readDeed 114 = .ok (.dup, 1) := by decide +kernel
theorem dX2_readDeed_115 : decode cX2_readDeed 115 = .ok (.getfield 22, 3) := by decide +kernel
theorem dX2_readDeed_118 : decode cX2_readDeed 118 = .ok (.iconst 1, 1) := by decide +kernel
theorem dX2_readDeed_119 : decode cX2_readDeed 119 = .ok (.iadd, 1) := by decide +kernel
theorem dX2_readDeed_120 : decode cX2_readDeed 120 = .ok (.putfield 22, 3) := by decide +kernel
theorem dX2_readDeed_123 : decode cX2_readDeed 123 = .ok (.iload_n 1, 1) := by decide +kernel
theorem dX2_readDeed_124 : decode cX2_readDeed 124 = .ok (.ireturn, 1) := by decide +kernel
theorem dX2_readPrinting_0 : decode cX2_readPrinting 0 = .ok (.aload_n 0, 1) := by decide +kernel
theorem dX2_readPrinting_1 : decode cX2_readPrinting 1 = .ok (.iconst 2, 1) := by decide +kernel
theorem dX2_readPrinting_2 : decode cX2_readPrinting 2 = .ok (.invokevirtual 61, 3) := by decide +kernel
theorem dX2_readPrinting_5 : decode cX2_readPrinting 5 = .ok (.istore_n 1, 1) := by decide +kernel
theorem dX2_readPrinting_6 : decode cX2_readPrinting 6 = .ok (.iload_n 1, 1) := by decide +kernel
theorem dX2_readPrinting_7 : decode cX2_readPrinting 7 = .ok (.bipush (-4), 2) := by decide +kernel
theorem dX2_readPrinting_9 : decode cX2_readPrinting 9 = .ok (.if_icmp .eq 12, 3) := by decide +kernel
theorem dX2_readPrinting_12 : decode cX2_readPrinting 12 = .ok (.aload_n 0, 1) := by decide +kernel
theorem dX2_readPrinting_13 : decode cX2_readPrinting 13 = .ok (.bipush 58, 2) := by decide +kernel
theorem dX2_readPrinting_15 : decode cX2_readPrinting 15 = .ok (.invokevirtual 48, 3) := by decide +kernel
theorem dX2_readPrinting_18 : decode cX2_readPrinting 18 = .ok (.ifCond .ne 5, 3) := by decide +kernel
theorem dX2_readPrinting_21 : decode cX2_readPrinting 21 = .ok (.iconst 0, 1) := by decide +kernel
theorem dX2_readPrinting_22 : decode cX2_readPrinting 22 = .ok (.ireturn, 1) := by decide +kernel
theorem dX2_readPrinting_23 : decode cX2_readPrinting 23 = .ok (.aload_n 0, 1) := by decide +kernel
theorem dX2_readPrinting_24 : decode cX2_readPrinting 24 = .ok (.iconst 1, 1) := by decide +kernel
theorem dX2_readPrinting_25 : decode cX2_readPrinting 25 = .ok (.sipush 999, 3) := by decide +kernel
theorem dX2_readPrinting_28 : decode cX2_readPrinting 28 = .ok (.invokevirtual 65, 3) := by decide +kernel
theorem dX2_readPrinting_31 : decode cX2_readPrinting 31 = .ok (.istore_n 2, 1) := by decide +kernel
theorem dX2_readPrinting_32 : decode cX2_readPrinting 32 = .ok (.iload_n 2, 1) := by decide +kernel
theorem dX2_readPrinting_33 : decode cX2_readPrinting 33 = .ok (.bipush (-4), 2) := by decide +kernel
theorem dX2_readPrinting_35 : decode cX2_readPrinting 35 = .ok (.if_icmp .ne 5, 3) := by decide +kernel
theorem dX2_readPrinting_38 : decode cX2_readPrinting 38 = .ok (.iconst 0, 1) := by decide +kernel
theorem dX2_readPrinting_39 : decode cX2_readPrinting 39 = .ok (.ireturn, 1) := by decide +kernel
theorem dX2_readPrinting_40 : decode cX2_readPrinting 40 = .ok (.aload_n 0, 1) := by decide +kernel
theorem dX2_readPrinting_41 : decode cX2_readPrinting 41 = .ok (.bipush 120, 2) := by decide +kernel
theorem dX2_readPrinting_43 : decode cX2_readPrinting 43 = .ok (.invokevirtual 48, 3) := by decide +kernel
theorem dX2_readPrinting_46 : decode cX2_readPrinting 46 = .ok (.ifCond .eq 13, 3) := by decide +kernel
theorem dX2_readPrinting_49 : decode cX2_readPrinting 49 = .ok (.aload_n 0, 1) := by decide +kernel
theorem dX2_readPrinting_50 : decode cX2_readPrinting 50 = .ok (.iconst 2, 1) := by decide +kernel
theorem dX2_readPrinting_51 : decode cX2_readPrinting 51 = .ok (.bipush 50, 2) := by decide +kernel
theorem dX2_readPrinting_53 : decode cX2_readPrinting 53 = .ok (.invokevirtual 65, 3) := by decide +kernel
theorem dX2_readPrinting_56 : decode cX2_readPrinting 56 = .ok (.goto 4, 3) := by decide +kernel
theorem dX2_readPrinting_59 : decode cX2_readPrinting 59 = .ok (.iconst 1, 1) := by decide +kernel
theorem dX2_readPrinting_60 : decode cX2_readPrinting 60 = .ok (.istore_n 3, 1) := by decide +kernel
theorem dX2_readPrinting_61 : decode cX2_readPrinting 61 = .ok (.aload_n 0, 1) := by decide +kernel
theorem dX2_readPrinting_62 : decode cX2_readPrinting 62 = .ok (.getfield 32, 3) := by decide +kernel
theorem dX2_readPrinting_65 : decode cX2_readPrinting 65 = .ok (.aload_n 0, 1) := by decide +kernel
theorem dX2_readPrinting_66 : decode cX2_readPrinting 66 = .ok (.getfield 22, 3) := by decide +kernel
theorem dX2_readPrinting_69 : decode cX2_readPrinting 69 = .ok (.iload_n 1, 1) := by decide +kernel
theorem dX2_readPrinting_70 : decode cX2_readPrinting 70 = .ok (.iastore, 1) := by decide +kernel
theorem dX2_readPrinting_71 : decode cX2_readPrinting 71 = .ok (.aload_n 0, 1) := by decide +kernel
theorem dX2_readPrinting_72 : decode cX2_readPrinting 72 = .ok (.getfield 35, 3) := by decide +kernel
theorem dX2_readPrinting_75 : decode cX2_readPrinting 75 = .ok (.aload_n 0, 1) := by decide +kernel
theorem dX2_readPrinting_76 : decode cX2_readPrinting 76 = .ok (.getfield 22, 3) := by decide +kernel
theorem dX2_readPrinting_79 : decode cX2_readPrinting 79 = .ok (.iload_n 2, 1) := by decide +kernel
theorem dX2_readPrinting_80 : decode cX2_readPrinting 80 = .ok (.iastore, 1) := by decide +kernel
theorem dX2_readPrinting_81 : decode cX2_readPrinting 81 = .ok (.aload_n 0, 1) := by decide +kernel
theorem dX2_readPrinting_82 : decode cX2_readPrinting 82 = .ok (.getfield 38, 3) := by decide +kernel
theorem dX2_readPrinting_85 : decode cX2_readPrinting 85 = .ok (.aload_n 0, 1) := by decide +kernel
theorem dX2_readPrinting_86 : decode cX2_readPrinting 86 = .ok (.getfield 22, 3) := by decide +kernel
theorem dX2_readPrinting_89 : decode cX2_readPrinting 89 = .ok (.iload_n 3, 1) := by decide +kernel
theorem dX2_readPrinting_90 : decode cX2_readPrinting 90 = .ok (.iastore, 1) := by decide +kernel
theorem dX2_readPrinting_91 : decode cX2_readPrinting 91 = .ok (.iload_n 3, 1) := by decide +kernel
theorem dX2_readPrinting_92 : decode cX2_readPrinting 92 = .ok (.bipush (-4), 2) := by decide +kernel
theorem dX2_readPrinting_94 : decode cX2_readPrinting 94 = .ok (.if_icmp .eq 7, 3) := by decide +kernel
theorem dX2_readPrinting_97 : decode cX2_readPrinting 97 = .ok (.iconst 1, 1) := by decide +kernel
theorem dX2_readPrinting_98 : decode cX2_readPrinting 98 = .ok (.goto 4, 3) := by decide +kernel
theorem dX2_readPrinting_101 : decode cX2_readPrinting 101 = .ok (.iconst 0, 1) := by decide +kernel
theorem dX2_readPrinting_102 : decode cX2_readPrinting 102 = .ok (.ireturn, 1) := by decide +kernel
theorem dX2_readShaking_0 : decode cX2_readShaking 0 = .ok (.aload_n 0, 1) := by decide +kernel
theorem dX2_readShaking_1 : decode cX2_readShaking 1 = .ok (.iconst 4, 1) := by decide +kernel
theorem dX2_readShaking_2 : decode cX2_readShaking 2 = .ok (.invokevirtual 61, 3) := by decide +kernel
theorem dX2_readShaking_5 : decode cX2_readShaking 5 = .ok (.istore_n 1, 1) := by decide +kernel
theorem dX2_readShaking_6 : decode cX2_readShaking 6 = .ok (.aload_n 0, 1) := by decide +kernel
theorem dX2_readShaking_7 : decode cX2_readShaking 7 = .ok (.getfield 32, 3) := by decide +kernel
theorem dX2_readShaking_10 : decode cX2_readShaking 10 = .ok (.aload_n 0, 1) := by decide +kernel
theorem dX2_readShaking_11 : decode cX2_readShaking 11 = .ok (.getfield 22, 3) := by decide +kernel
theorem dX2_readShaking_14 : decode cX2_readShaking 14 = .ok (.iload_n 1, 1) := by decide +kernel
theorem dX2_readShaking_15 : decode cX2_readShaking 15 = .ok (.iastore, 1) := by decide +kernel
theorem dX2_readShaking_16 : decode cX2_readShaking 16 = .ok (.iload_n 1, 1) := by decide +kernel
theorem dX2_readShaking_17 : decode cX2_readShaking 17 = .ok (.bipush (-4), 2) := by decide +kernel
theorem dX2_readShaking_19 : decode cX2_readShaking 19 = .ok (.if_icmp .eq 7, 3) := by decide +kernel
theorem dX2_readShaking_22 : decode cX2_readShaking 22 = .ok (.iconst 1, 1) := by decide +kernel
theorem dX2_readShaking_23 : decode cX2_readShaking 23 = .ok (.goto 4, 3) := by decide +kernel
theorem dX2_readShaking_26 : decode cX2_readShaking 26 = .ok (.iconst 0, 1) := by decide +kernel
theorem dX2_readShaking_27 : decode cX2_readShaking 27 = .ok (.ireturn, 1) := by decide +kernel
theorem dX2_readMoving_0 : decode cX2_readMoving 0 = .ok (.aload_n 0, 1) := by decide +kernel
theorem dX2_readMoving_1 : decode cX2_readMoving 1 = .ok (.iconst 4, 1) := by decide +kernel
theorem dX2_readMoving_2 : decode cX2_readMoving 2 = .ok (.invokevirtual 61, 3) := by decide +kernel
theorem dX2_readMoving_5 : decode cX2_readMoving 5 = .ok (.istore_n 1, 1) := by decide +kernel
theorem dX2_readMoving_6 : decode cX2_readMoving 6 = .ok (.iload_n 1, 1) := by decide +kernel
theorem dX2_readMoving_7 : decode cX2_readMoving 7 = .ok (.bipush (-4), 2) := by decide +kernel
theorem dX2_readMoving_9 : decode cX2_readMoving 9 = .ok (.if_icmp .eq 12, 3) := by decide +kernel
theorem dX2_readMoving_12 : decode cX2_readMoving 12 = .ok (.aload_n 0, 1) := by decide +kernel
theorem dX2_readMoving_13 : decode cX2_readMoving 13 = .ok (.bipush 62, 2) := by decide +kernel
theorem dX2_readMoving_15 : decode cX2_readMoving 15 = .ok (.invokevirtual 48, 3) := by decide +kernel
theorem dX2_readMoving_18 : decode cX2_readMoving 18 = .ok (.ifCond .ne 5, 3) := by decide +kernel
theorem dX2_readMoving_21 : decode cX2_readMoving 21 = .ok (.iconst 0, 1) := by decide +kernel
theorem dX2_readMoving_22 : decode cX2_readMoving 22 = .ok (.ireturn, 1) := by decide +kernel
theorem dX2_readMoving_23 : decode cX2_readMoving 23 = .ok (.aload_n 0, 1) := by decide +kernel
theorem dX2_readMoving_24 : decode cX2_readMoving 24 = .ok (.iconst 2, 1) := by decide +kernel
theorem dX2_readMoving_25 : decode cX2_readMoving 25 = .ok (.invokevirtual 61, 3) := by decide +kernel
theorem dX2_readMoving_28 : decode cX2_readMoving 28 = .ok (.istore_n 2, 1) := by decide +kernel
theorem dX2_readMoving_29 : decode cX2_readMoving 29 = .ok (.aload_n 0, 1) := by decide +kernel
theorem dX2_readMoving_30 : decode cX2_readMoving 30 = .ok (.getfield 32, 3) := by decide +kernel
theorem dX2_readMoving_33 : decode cX2_readMoving 33 = .ok (.aload_n 0, 1) := by decide +kernel
theorem dX2_readMoving_34 : decode cX2_readMoving 34 = .ok (.getfield 22, 3) := by decide +kernel
end
section
theorem dX2_readMoving_37 : decode cX2_readMoving 37 = .ok (.iload_n 1, 1) := by decide +kernel
theorem dX2_readMoving_38 : decode cX2_readMoving 38 = .ok (.iastore, 1) := by decide +kernel
theorem dX2_readMoving_39 : decode cX2_readMoving 39 = .ok (.aload_n 0, 1) := by decide +kernel
theorem dX2_readMoving_40 : decode cX2_readMoving 40 = .ok (.getfield 35, 3) := by decide +kernel
theorem dX2_readMoving_43 : decode cX2_readMoving 43 = .ok (.aload_n 0, 1) := by decide +kernel
theorem dX2_readMoving_44 : decode cX2_readMoving 44 = .ok (.getfield 22, 3) := by decide +kernel
theorem dX2_readMoving_47 : decode cX2_readMoving 47 = .ok (.iload_n 2, 1) := by decide +kernel
theorem dX2_readMoving_48 : decode cX2_readMoving 48 = .ok (.iastore, 1) := by decide +kernel
theorem dX2_readMoving_49 : decode cX2_readMoving 49 = .ok (.iload_n 2, 1) := by decide +kernel
theorem dX2_readMoving_50 : decode cX2_readMoving 50 = .ok (.bipush (-4), 2) := by decide +kernel
theorem dX2_readMoving_52 : decode cX2_readMoving 52 = .ok (.if_icmp .eq 7, 3) := by decide +kernel
theorem dX2_readMoving_55 : decode cX2_readMoving 55 = .ok (.iconst 1, 1) := by decide +kernel
theorem dX2_readMoving_56 : decode cX2_readMoving 56 = .ok (.goto 4, 3) := by decide +kernel
theorem dX2_readMoving_59 : decode cX2_readMoving 59 = .ok (.iconst 0, 1) := by decide +kernel
theorem dX2_readMoving_60 : decode cX2_readMoving 60 = .ok (.ireturn, 1) := by decide +kernel
theorem dX2_read_0 : decode cX2_read 0 = .ok (.aload_n 0, 1) := by decide +kernel
theorem dX2_read_1 : decode cX2_read 1 = .ok (.getfield 19, 3) := by decide +kernel
theorem dX2_read_4 : decode cX2_read 4 = .ok (.aload_n 0, 1) := by decide +kernel
theorem dX2_read_5 : decode cX2_read 5 = .ok (.getfield 15, 3) := by decide +kernel
theorem dX2_read_8 : decode cX2_read 8 = .ok (.if_icmp .ge 28, 3) := by decide +kernel
theorem dX2_read_11 : decode cX2_read 11 = .ok (.aload_n 0, 1) := by decide +kernel
theorem dX2_read_12 : decode cX2_read 12 = .ok (.getfield 11, 3) := by decide +kernel
theorem dX2_read_15 : decode cX2_read 15 = .ok (.aload_n 0, 1) := by decide +kernel
theorem dX2_read_16 : decode cX2_read 16 = .ok (.getfield 19, 3) := by decide +kernel
theorem dX2_read_19 : decode cX2_read 19 = .ok (.caload, 1) := by decide +kernel
theorem dX2_read_20 : decode cX2_read 20 = .ok (.iload_n 1, 1) := by decide +kernel
theorem dX2_read_21 : decode cX2_read 21 = .ok (.if_icmp .ne 15, 3) := by decide +kernel
theorem dX2_read_24 : decode cX2_read 24 = .ok (.aload_n 0, 1) := by decide +kernel
theorem dX2_read_25 : decode cX2_read 25 = .ok (.dup, 1) := by decide +kernel
theorem dX2_read_26 : decode cX2_read 26 = .ok (.getfield 19, 3) := by decide +kernel
theorem dX2_read_29 : decode cX2_read 29 = .ok (.iconst 1, 1) := by decide +kernel
theorem dX2_read_30 : decode cX2_read 30 = .ok (.iadd, 1) := by decide +kernel
theorem dX2_read_31 : decode cX2_read 31 = .ok (.putfield 19, 3) := by decide +kernel
theorem dX2_read_34 : decode cX2_read 34 = .ok (.iconst 1, 1) := by decide +kernel
theorem dX2_read_35 : decode cX2_read 35 = .ok (.ireturn, 1) := by decide +kernel
theorem dX2_read_36 : decode cX2_read 36 = .ok (.iconst 0, 1) := by decide +kernel
theorem dX2_read_37 : decode cX2_read 37 = .ok (.ireturn, 1) := by decide +kernel
theorem dX2_readBelow_0 : decode cX2_readBelow 0 = .ok (.aload_n 0, 1) := by decide +kernel
theorem dX2_readBelow_1 : decode cX2_readBelow 1 = .ok (.getfield 19, 3) := by decide +kernel
theorem dX2_readBelow_4 : decode cX2_readBelow 4 = .ok (.aload_n 0, 1) := by decide +kernel
theorem dX2_readBelow_5 : decode cX2_readBelow 5 = .ok (.getfield 15, 3) := by decide +kernel
theorem dX2_readBelow_8 : decode cX2_readBelow 8 = .ok (.if_icmp .ge 18, 3) := by decide +kernel
theorem dX2_readBelow_11 : decode cX2_readBelow 11 = .ok (.aload_n 0, 1) := by decide +kernel
theorem dX2_readBelow_12 : decode cX2_readBelow 12 = .ok (.getfield 11, 3) := by decide +kernel
theorem dX2_readBelow_15 : decode cX2_readBelow 15 = .ok (.aload_n 0, 1) := by decide +kernel
theorem dX2_readBelow_16 : decode cX2_readBelow 16 = .ok (.getfield 19, 3) := by decide +kernel
theorem dX2_readBelow_19 : decode cX2_readBelow 19 = .ok (.caload, 1) := by decide +kernel
theorem dX2_readBelow_20 : decode cX2_readBelow 20 = .ok (.bipush 48, 2) := by decide +kernel
theorem dX2_readBelow_22 : decode cX2_readBelow 22 = .ok (.isub, 1) := by decide +kernel
theorem dX2_readBelow_23 : decode cX2_readBelow 23 = .ok (.goto 5, 3) := by decide +kernel
theorem dX2_readBelow_26 : decode cX2_readBelow 26 = .ok (.bipush (-4), 2) := by decide +kernel
theorem dX2_readBelow_28 : decode cX2_readBelow 28 = .ok (.istore_n 2, 1) := by decide +kernel
theorem dX2_readBelow_29 : decode cX2_readBelow 29 = .ok (.iload_n 2, 1) := by decide +kernel
theorem dX2_readBelow_30 : decode cX2_readBelow 30 = .ok (.ifCond .lt 8, 3) := by decide +kernel
theorem dX2_readBelow_33 : decode cX2_readBelow 33 = .ok (.iload_n 2, 1) := by decide +kernel
theorem dX2_readBelow_34 : decode cX2_readBelow 34 = .ok (.iload_n 1, 1) := by decide +kernel
theorem dX2_readBelow_35 : decode cX2_readBelow 35 = .ok (.if_icmp .lt 6, 3) := by decide +kernel
theorem dX2_readBelow_38 : decode cX2_readBelow 38 = .ok (.bipush (-4), 2) := by decide +kernel
theorem dX2_readBelow_40 : decode cX2_readBelow 40 = .ok (.ireturn, 1) := by decide +kernel
theorem dX2_readBelow_41 : decode cX2_readBelow 41 = .ok (.aload_n 0, 1) := by decide +kernel
theorem dX2_readBelow_42 : decode cX2_readBelow 42 = .ok (.dup, 1) := by decide +kernel
theorem dX2_readBelow_43 : decode cX2_readBelow 43 = .ok (.getfield 19, 3) := by decide +kernel
theorem dX2_readBelow_46 : decode cX2_readBelow 46 = .ok (.iconst 1, 1) := by decide +kernel
theorem dX2_readBelow_47 : decode cX2_readBelow 47 = .ok (.iadd, 1) := by decide +kernel
theorem dX2_readBelow_48 : decode cX2_readBelow 48 = .ok (.putfield 19, 3) := by decide +kernel
theorem dX2_readBelow_51 : decode cX2_readBelow 51 = .ok (.iload_n 2, 1) := by decide +kernel
theorem dX2_readBelow_52 : decode cX2_readBelow 52 = .ok (.ireturn, 1) := by decide +kernel
theorem dX2_readNumber_0 : decode cX2_readNumber 0 = .ok (.iconst 0, 1) := by decide +kernel
theorem dX2_readNumber_1 : decode cX2_readNumber 1 = .ok (.istore_n 3, 1) := by decide +kernel
theorem dX2_readNumber_2 : decode cX2_readNumber 2 = .ok (.aload_n 0, 1) := by decide +kernel
theorem dX2_readNumber_3 : decode cX2_readNumber 3 = .ok (.getfield 19, 3) := by decide +kernel
theorem dX2_readNumber_6 : decode cX2_readNumber 6 = .ok (.istore 4, 2) := by decide +kernel
theorem dX2_readNumber_8 : decode cX2_readNumber 8 = .ok (.iload 4, 2) := by decide +kernel
theorem dX2_readNumber_10 : decode cX2_readNumber 10 = .ok (.aload_n 0, 1) := by decide +kernel
theorem dX2_readNumber_11 : decode cX2_readNumber 11 = .ok (.getfield 15, 3) := by decide +kernel
theorem dX2_readNumber_14 : decode cX2_readNumber 14 = .ok (.if_icmp .ge 67, 3) := by decide +kernel
theorem dX2_readNumber_17 : decode cX2_readNumber 17 = .ok (.aload_n 0, 1) := by decide +kernel
theorem dX2_readNumber_18 : decode cX2_readNumber 18 = .ok (.getfield 11, 3) := by decide +kernel
theorem dX2_readNumber_21 : decode cX2_readNumber 21 = .ok (.iload 4, 2) := by decide +kernel
theorem dX2_readNumber_23 : decode cX2_readNumber 23 = .ok (.caload, 1) := by decide +kernel
theorem dX2_readNumber_24 : decode cX2_readNumber 24 = .ok (.bipush 48, 2) := by decide +kernel
theorem dX2_readNumber_26 : decode cX2_readNumber 26 = .ok (.isub, 1) := by decide +kernel
theorem dX2_readNumber_27 : decode cX2_readNumber 27 = .ok (.istore 5, 2) := by decide +kernel
theorem dX2_readNumber_29 : decode cX2_readNumber 29 = .ok (.bipush 10, 2) := by decide +kernel
theorem dX2_readNumber_31 : decode cX2_readNumber 31 = .ok (.iload_n 3, 1) := by decide +kernel
theorem dX2_readNumber_32 : decode cX2_readNumber 32 = .ok (.imul, 1) := by decide +kernel
theorem dX2_readNumber_33 : decode cX2_readNumber 33 = .ok (.iload 5, 2) := by decide +kernel
theorem dX2_readNumber_35 : decode cX2_readNumber 35 = .ok (.iadd, 1) := by decide +kernel
theorem dX2_readNumber_36 : decode cX2_readNumber 36 = .ok (.istore 6, 2) := by decide +kernel
theorem dX2_readNumber_38 : decode cX2_readNumber 38 = .ok (.iload 5, 2) := by decide +kernel
theorem dX2_readNumber_40 : decode cX2_readNumber 40 = .ok (.ifCond .lt 41, 3) := by decide +kernel
theorem dX2_readNumber_43 : decode cX2_readNumber 43 = .ok (.iload 5, 2) := by decide +kernel
theorem dX2_readNumber_45 : decode cX2_readNumber 45 = .ok (.bipush 9, 2) := by decide +kernel
theorem dX2_readNumber_47 : decode cX2_readNumber 47 = .ok (.if_icmp .gt 34, 3) := by decide +kernel
theorem dX2_readNumber_50 : decode cX2_readNumber 50 = .ok (.iload 6, 2) := by decide +kernel
theorem dX2_readNumber_52 : decode cX2_readNumber 52 = .ok (.ifCond .eq 29, 3) := by decide +kernel
theorem dX2_readNumber_55 : decode cX2_readNumber 55 = .ok (.iload 6, 2) := by decide +kernel
theorem dX2_readNumber_57 : decode cX2_readNumber 57 = .ok (.iload_n 2, 1) := by decide +kernel
theorem dX2_readNumber_58 : decode cX2_readNumber 58 = .ok (.if_icmp .le 6, 3) := by decide +kernel
theorem dX2_readNumber_61 : decode cX2_readNumber 61 = .ok (.goto 20, 3) := by decide +kernel
theorem dX2_readNumber_64 : decode cX2_readNumber 64 = .ok (.iload 6, 2) := by decide +kernel
theorem dX2_readNumber_66 : decode cX2_readNumber 66 = .ok (.istore_n 3, 1) := by decide +kernel
theorem dX2_readNumber_67 : decode cX2_readNumber 67 = .ok (.aload_n 0, 1) := by decide +kernel
theorem dX2_readNumber_68 : decode cX2_readNumber 68 = .ok (.iload 4, 2) := by decide +kernel
theorem dX2_readNumber_70 : decode cX2_readNumber 70 = .ok (.iconst 1, 1) := by decide +kernel
theorem dX2_readNumber_71 : decode cX2_readNumber 71 = .ok (.iadd, 1) := by decide +kernel
theorem dX2_readNumber_72 : decode cX2_readNumber 72 = .ok (.putfield 19, 3) := by decide +kernel
theorem dX2_readNumber_75 : decode cX2_readNumber 75 = .ok (.iinc 4 1, 3) := by decide +kernel
theorem dX2_readNumber_78 : decode cX2_readNumber 78 = .ok (.goto (-70), 3) := by decide +kernel
theorem dX2_readNumber_81 : decode cX2_readNumber 81 = .ok (.iload_n 3, 1) := by decide +kernel
theorem dX2_readNumber_82 : decode cX2_readNumber 82 = .ok (.iload_n 1, 1) := by decide +kernel
theorem dX2_readNumber_83 : decode cX2_readNumber 83 = .ok (.if_icmp .lt 7, 3) := by decide +kernel
theorem dX2_readNumber_86 : decode cX2_readNumber 86 = .ok (.iload_n 3, 1) := by decide +kernel
theorem dX2_readNumber_87 : decode cX2_readNumber 87 = .ok (.goto 5, 3) := by decide +kernel
theorem dX2_readNumber_90 : decode cX2_readNumber 90 = .ok (.bipush (-4), 2) := by decide +kernel
theorem dX2_readNumber_92 : decode cX2_readNumber 92 = .ok (.ireturn, 1) := by decide +kernel
theorem dX3_init_0 : decode cX3_init 0 = .ok (.aload_n 0, 1) := by decide +kernel
theorem dX3_init_1 : decode cX3_init 1 = .ok (.invokespecial 3, 3) := by decide +kernel
theorem dX3_init_4 : decode cX3_init 4 = .ok (.aload_n 0, 1) := by decide +kernel
theorem dX3_init_5 : decode cX3_init 5 = .ok (.bipush (-4), 2) := by decide +kernel
theorem dX3_init_7 : decode cX3_init 7 = .ok (.putfield 9, 3) := by decide +kernel
theorem dX3_init_10 : decode cX3_init 10 = .ok (.aload_n 0, 1) := by decide +kernel
theorem dX3_init_11 : decode cX3_init 11 = .ok (.bipush (-4), 2) := by decide +kernel
theorem dX3_init_13 : decode cX3_init 13 = .ok (.putfield 15, 3) := by decide +kernel
theorem dX3_init_16 : decode cX3_init 16 = .ok (.aload_n 0, 1) := by decide +kernel
theorem dX3_init_17 : decode cX3_init 17 = .ok (.bipush (-4), 2) := by decide +kernel
theorem dX3_init_19 : decode cX3_init 19 = .ok (.putfield 18, 3) := by decide +kernel
theorem dX3_init_22 : decode cX3_init 22 = .ok (.aload_n 0, 1) := by decide +kernel
theorem dX3_init_23 : decode cX3_init 23 = .ok (.bipush (-4), 2) := by decide +kernel
theorem dX3_init_25 : decode cX3_init 25 = .ok (.putfield 21, 3) := by decide +kernel
theorem dX3_init_28 : decode cX3_init 28 = .ok (.return_, 1) := by decide +kernel
theorem dX3_forget_0 : decode cX3_forget 0 = .ok (.aload_n 0, 1) := by decide +kernel
theorem dX3_forget_1 : decode cX3_forget 1 = .ok (.bipush (-4), 2) := by decide +kernel
theorem dX3_forget_3 : decode cX3_forget 3 = .ok (.bipush (-4), 2) := by decide +kernel
theorem dX3_forget_5 : decode cX3_forget 5 = .ok (.bipush (-4), 2) := by decide +kernel
theorem dX3_forget_7 : decode cX3_forget 7 = .ok (.bipush (-4), 2) := by decide +kernel
theorem dX3_forget_9 : decode cX3_forget 9 = .ok (.invokevirtual 24, 3) := by decide +kernel
theorem dX3_forget_12 : decode cX3_forget 12 = .ok (.return_, 1) := by decide +kernel
theorem dX3_note_0 : decode cX3_note 0 = .ok (.aload_n 0, 1) := by decide +kernel
theorem dX3_note_1 : decode cX3_note 1 = .ok (.iload_n 1, 1) := by decide +kernel
theorem dX3_note_2 : decode cX3_note 2 = .ok (.putfield 9, 3) := by decide +kernel
theorem dX3_note_5 : decode cX3_note 5 = .ok (.aload_n 0, 1) := by decide +kernel
theorem dX3_note_6 : decode cX3_note 6 = .ok (.iload_n 2, 1) := by decide +kernel
theorem dX3_note_7 : decode cX3_note 7 = .ok (.putfield 15, 3) := by decide +kernel
theorem dX3_note_10 : decode cX3_note 10 = .ok (.aload_n 0, 1) := by decide +kernel
theorem dX3_note_11 : decode cX3_note 11 = .ok (.iload_n 3, 1) := by decide +kernel
theorem dX3_note_12 : decode cX3_note 12 = .ok (.putfield 18, 3) := by decide +kernel
theorem dX3_note_15 : decode cX3_note 15 = .ok (.aload_n 0, 1) := by decide +kernel
theorem dX3_note_16 : decode cX3_note 16 = .ok (.iload 4, 2) := by decide +kernel
theorem dX3_note_18 : decode cX3_note 18 = .ok (.putfield 21, 3) := by decide +kernel
theorem dX3_note_21 : decode cX3_note 21 = .ok (.return_, 1) := by decide +kernel
theorem dX3_known_0 : decode cX3_known 0 = .ok (.aload_n 0, 1) := by decide +kernel
theorem dX3_known_1 : decode cX3_known 1 = .ok (.getfield 9, 3) := by decide +kernel
theorem dX3_known_4 : decode cX3_known 4 = .ok (.bipush (-4), 2) := by decide +kernel
theorem dX3_known_6 : decode cX3_known 6 = .ok (.if_icmp .eq 7, 3) := by decide +kernel
theorem dX3_known_9 : decode cX3_known 9 = .ok (.iconst 1, 1) := by decide +kernel
theorem dX3_known_10 : decode cX3_known 10 = .ok (.goto 4, 3) := by decide +kernel
theorem dX3_known_13 : decode cX3_known 13 = .ok (.iconst 0, 1) := by decide +kernel
theorem dX3_known_14 : decode cX3_known 14 = .ok (.ireturn, 1) := by decide +kernel
theorem dX4_init_0 : decode cX4_init 0 = .ok (.aload_n 0, 1) := by decide +kernel
theorem dX4_init_1 : decode cX4_init 1 = .ok (.invokespecial 1, 3) := by decide +kernel
theorem dX4_init_4 : decode cX4_init 4 = .ok (.aload_n 0, 1) := by decide +kernel
theorem dX4_init_5 : decode cX4_init 5 = .ok (.new 7, 3) := by decide +kernel
theorem dX4_init_8 : decode cX4_init 8 = .ok (.dup, 1) := by decide +kernel
theorem dX4_init_9 : decode cX4_init 9 = .ok (.invokespecial 9, 3) := by decide +kernel
theorem dX4_init_12 : decode cX4_init 12 = .ok (.putfield 10, 3) := by decide +kernel
theorem dX4_init_15 : decode cX4_init 15 = .ok (.aload_n 0, 1) := by decide +kernel
theorem dX4_init_16 : decode cX4_init 16 = .ok (.new 7, 3) := by decide +kernel
theorem dX4_init_19 : decode cX4_init 19 = .ok (.dup, 1) := by decide +kernel
theorem dX4_init_20 : decode cX4_init 20 = .ok (.invokespecial 9, 3) := by decide +kernel
theorem dX4_init_23 : decode cX4_init 23 = .ok (.putfield 16, 3) := by decide +kernel
theorem dX4_init_26 : decode cX4_init 26 = .ok (.aload_n 0, 1) := by decide +kernel
theorem dX4_init_27 : decode cX4_init 27 = .ok (.iconst 0, 1) := by decide +kernel
theorem dX4_init_28 : decode cX4_init 28 = .ok (.putfield 19, 3) := by decide +kernel
theorem dX4_init_31 : decode cX4_init 31 = .ok (.aload_n 0, 1) := by decide +kernel
theorem dX4_init_32 : decode cX4_init 32 = .ok (.new 23, 3) := by decide +kernel
theorem dX4_init_35 : decode cX4_init 35 = .ok (.dup, 1) := by decide +kernel
theorem dX4_init_36 : decode cX4_init 36 = .ok (.invokespecial 25, 3) := by decide +kernel
theorem dX4_init_39 : decode cX4_init 39 = .ok (.putfield 26, 3) := by decide +kernel
theorem dX4_init_42 : decode cX4_init 42 = .ok (.aload_n 0, 1) := by decide +kernel
theorem dX4_init_43 : decode cX4_init 43 = .ok (.new 30, 3) := by decide +kernel
theorem dX4_init_46 : decode cX4_init 46 = .ok (.dup, 1) := by decide +kernel
theorem dX4_init_47 : decode cX4_init 47 = .ok (.invokespecial 32, 3) := by decide +kernel
theorem dX4_init_50 : decode cX4_init 50 = .ok (.putfield 33, 3) := by decide +kernel
theorem dX4_init_53 : decode cX4_init 53 = .ok (.aload_n 0, 1) := by decide +kernel
theorem dX4_init_54 : decode cX4_init 54 = .ok (.new 37, 3) := by decide +kernel
theorem dX4_init_57 : decode cX4_init 57 = .ok (.dup, 1) := by decide +kernel
theorem dX4_init_58 : decode cX4_init 58 = .ok (.invokespecial 39, 3) := by decide +kernel
theorem dX4_init_61 : decode cX4_init 61 = .ok (.putfield 40, 3) := by decide +kernel
theorem dX4_init_64 : decode cX4_init 64 = .ok (.return_, 1) := by decide +kernel
theorem dX4_print_0 : decode cX4_print 0 = .ok (.iload_n 1, 1) := by decide +kernel
theorem dX4_print_1 : decode cX4_print 1 = .ok (.invokestatic 44, 3) := by decide +kernel
theorem dX4_print_4 : decode cX4_print 4 = .ok (.ifCond .eq 10, 3) := by decide +kernel
theorem dX4_print_7 : decode cX4_print 7 = .ok (.iload_n 2, 1) := by decide +kernel
theorem dX4_print_8 : decode cX4_print 8 = .ok (.invokestatic 48, 3) := by decide +kernel
theorem dX4_print_11 : decode cX4_print 11 = .ok (.ifCond .ne 5, 3) := by decide +kernel
theorem dX4_print_14 : decode cX4_print 14 = .ok (.iconst (-1), 1) := by decide +kernel
theorem dX4_print_15 : decode cX4_print 15 = .ok (.ireturn, 1) := by decide +kernel
theorem dX4_print_16 : decode cX4_print 16 = .ok (.aload_n 0, 1) := by decide +kernel
theorem dX4_print_17 : decode cX4_print 17 = .ok (.getfield 26, 3) := by decide +kernel
theorem dX4_print_20 : decode cX4_print 20 = .ok (.aload_n 0, 1) := by decide +kernel
theorem dX4_print_21 : decode cX4_print 21 = .ok (.getfield 10, 3) := by decide +kernel
theorem dX4_print_24 : decode cX4_print 24 = .ok (.invokevirtual 51, 3) := by decide +kernel
theorem dX4_print_27 : decode cX4_print 27 = .ok (.aload_n 0, 1) := by decide +kernel
theorem dX4_print_28 : decode cX4_print 28 = .ok (.getfield 10, 3) := by decide +kernel
theorem dX4_print_31 : decode cX4_print 31 = .ok (.iload_n 1, 1) := by decide +kernel
theorem dX4_print_32 : decode cX4_print 32 = .ok (.iload_n 2, 1) := by decide +kernel
theorem dX4_print_33 : decode cX4_print 33 = .ok (.invokevirtual 55, 3) := by decide +kernel
theorem dX4_print_36 : decode cX4_print 36 = .ok (.ireturn, 1) := by decide +kernel
theorem dX4_shake_0 : decode cX4_shake 0 = .ok (.iload_n 1, 1) := by decide +kernel
theorem dX4_shake_1 : decode cX4_shake 1 = .ok (.invokestatic 59, 3) := by decide +kernel
theorem dX4_shake_4 : decode cX4_shake 4 = .ok (.ifCond .ne 5, 3) := by decide +kernel
theorem dX4_shake_7 : decode cX4_shake 7 = .ok (.iconst (-1), 1) := by decide +kernel
theorem dX4_shake_8 : decode cX4_shake 8 = .ok (.ireturn, 1) := by decide +kernel
theorem dX4_shake_9 : decode cX4_shake 9 = .ok (.aload_n 0, 1) := by decide +kernel
theorem dX4_shake_10 : decode cX4_shake 10 = .ok (.getfield 26, 3) := by decide +kernel
theorem dX4_shake_13 : decode cX4_shake 13 = .ok (.aload_n 0, 1) := by decide +kernel
theorem dX4_shake_14 : decode cX4_shake 14 = .ok (.getfield 10, 3) := by decide +kernel
theorem dX4_shake_17 : decode cX4_shake 17 = .ok (.invokevirtual 51, 3) := by decide +kernel
theorem dX4_shake_20 : decode cX4_shake 20 = .ok (.aload_n 0, 1) := by decide +kernel
theorem dX4_shake_21 : decode cX4_shake 21 = .ok (.getfield 10, 3) := by decide +kernel
theorem dX4_shake_24 : decode cX4_shake 24 = .ok (.iload_n 1, 1) := by decide +kernel
theorem dX4_shake_25 : decode cX4_shake 25 = .ok (.invokevirtual 62, 3) := by decide +kernel
theorem dX4_shake_28 : decode cX4_shake 28 = .ok (.ireturn, 1) := by decide +kernel
theorem dX4_move_0 : decode cX4_move 0 = .ok (.iload_n 1, 1) := by decide +kernel
theorem dX4_move_1 : decode cX4_move 1 = .ok (.invokestatic 59, 3) := by decide +kernel
theorem dX4_move_4 : decode cX4_move 4 = .ok (.ifCond .eq 10, 3) := by decide +kernel
theorem dX4_move_7 : decode cX4_move 7 = .ok (.iload_n 2, 1) := by decide +kernel
theorem dX4_move_8 : decode cX4_move 8 = .ok (.invokestatic 44, 3) := by decide +kernel
theorem dX4_move_11 : decode cX4_move 11 = .ok (.ifCond .ne 5, 3) := by decide +kernel
theorem dX4_move_14 : decode cX4_move 14 = .ok (.iconst (-1), 1) := by decide +kernel
theorem dX4_move_15 : decode cX4_move 15 = .ok (.ireturn, 1) := by decide +kernel
theorem dX4_move_16 : decode cX4_move 16 = .ok (.aload_n 0, 1) := by decide +kernel
theorem dX4_move_17 : decode cX4_move 17 = .ok (.getfield 26, 3) := by decide +kernel
theorem dX4_move_20 : decode cX4_move 20 = .ok (.aload_n 0, 1) := by decide +kernel
theorem dX4_move_21 : decode cX4_move 21 = .ok (.getfield 10, 3) := by decide +kernel
theorem dX4_move_24 : decode cX4_move 24 = .ok (.invokevirtual 51, 3) := by decide +kernel
theorem dX4_move_27 : decode cX4_move 27 = .ok (.aload_n 0, 1) := by decide +kernel
theorem dX4_move_28 : decode cX4_move 28 = .ok (.getfield 10, 3) := by decide +kernel
theorem dX4_move_31 : decode cX4_move 31 = .ok (.iload_n 1, 1) := by decide +kernel
theorem dX4_move_32 : decode cX4_move 32 = .ok (.iload_n 2, 1) := by decide +kernel
theorem dX4_move_33 : decode cX4_move 33 = .ok (.invokevirtual 66, 3) := by decide +kernel
theorem dX4_move_36 : decode cX4_move 36 = .ok (.ireturn, 1) := by decide +kernel
theorem dX4_takeOut_0 : decode cX4_takeOut 0 = .ok (.iload_n 1, 1) := by decide +kernel
theorem dX4_takeOut_1 : decode cX4_takeOut 1 = .ok (.invokestatic 44, 3) := by decide +kernel
theorem dX4_takeOut_4 : decode cX4_takeOut 4 = .ok (.ifCond .ne 5, 3) := by decide +kernel
theorem dX4_takeOut_7 : decode cX4_takeOut 7 = .ok (.iconst (-1), 1) := by decide +kernel
theorem dX4_takeOut_8 : decode cX4_takeOut 8 = .ok (.ireturn, 1) := by decide +kernel
theorem dX4_takeOut_9 : decode cX4_takeOut 9 = .ok (.aload_n 0, 1) := by decide +kernel
theorem dX4_takeOut_10 : decode cX4_takeOut 10 = .ok (.getfield 10, 3) := by decide +kernel
theorem dX4_takeOut_13 : decode cX4_takeOut 13 = .ok (.getfield 69, 3) := by decide +kernel
theorem dX4_takeOut_16 : decode cX4_takeOut 16 = .ok (.iload_n 1, 1) := by decide +kernel
theorem dX4_takeOut_17 : decode cX4_takeOut 17 = .ok (.iaload, 1) := by decide +kernel
theorem dX4_takeOut_18 : decode cX4_takeOut 18 = .ok (.istore_n 2, 1) := by decide +kernel
theorem dX4_takeOut_19 : decode cX4_takeOut 19 = .ok (.iload_n 2, 1) := by decide +kernel
theorem dX4_takeOut_20 : decode cX4_takeOut 20 = .ok (.invokestatic 59, 3) := by decide +kernel
theorem dX4_takeOut_23 : decode cX4_takeOut 23 = .ok (.ifCond .ne 6, 3) := by decide +kernel
theorem dX4_takeOut_26 : decode cX4_takeOut 26 = .ok (.bipush (-2), 2) := by decide +kernel
theorem dX4_takeOut_28 : decode cX4_takeOut 28 = .ok (.ireturn, 1) := by decide +kernel
theorem dX4_takeOut_29 : decode cX4_takeOut 29 = .ok (.aload_n 0, 1) := by decide +kernel
theorem dX4_takeOut_30 : decode cX4_takeOut 30 = .ok (.getfield 26, 3) := by decide +kernel
theorem dX4_takeOut_33 : decode cX4_takeOut 33 = .ok (.aload_n 0, 1) := by decide +kernel
theorem dX4_takeOut_34 : decode cX4_takeOut 34 = .ok (.getfield 10, 3) := by decide +kernel
theorem dX4_takeOut_37 : decode cX4_takeOut 37 = .ok (.invokevirtual 51, 3) := by decide +kernel
theorem dX4_takeOut_40 : decode cX4_takeOut 40 = .ok (.aload_n 0, 1) := by decide +kernel
theorem dX4_takeOut_41 : decode cX4_takeOut 41 = .ok (.getfield 10, 3) := by decide +kernel
theorem dX4_takeOut_44 : decode cX4_takeOut 44 = .ok (.iload_n 1, 1) := by decide +kernel
theorem dX4_takeOut_45 : decode cX4_takeOut 45 = .ok (.invokevirtual 73, 3) := by decide +kernel
theorem dX4_takeOut_48 : decode cX4_takeOut 48 = .ok (.iload_n 2, 1) := by decide +kernel
theorem dX4_takeOut_49 : decode cX4_takeOut 49 = .ok (.ireturn, 1) := by decide +kernel
theorem dX4_refill_0 : decode cX4_refill 0 = .ok (.iload_n 1, 1) := by decide +kernel
theorem dX4_refill_1 : decode cX4_refill 1 = .ok (.invokestatic 59, 3) := by decide +kernel
theorem dX4_refill_4 : decode cX4_refill 4 = .ok (.ifCond .eq 15, 3) := by decide +kernel
theorem dX4_refill_7 : decode cX4_refill 7 = .ok (.iload_n 2, 1) := by decide +kernel
theorem dX4_refill_8 : decode cX4_refill 8 = .ok (.iconst 1, 1) := by decide +kernel
theorem dX4_refill_9 : decode cX4_refill 9 = .ok (.if_icmp .lt 10, 3) := by decide +kernel
theorem dX4_refill_12 : decode cX4_refill 12 = .ok (.iload_n 2, 1) := by decide +kernel
theorem dX4_refill_13 : decode cX4_refill 13 = .ok (.sipush 6000, 3) := by decide +kernel
theorem dX4_refill_16 : decode cX4_refill 16 = .ok (.if_icmp .le 5, 3) := by decide +kernel
theorem dX4_refill_19 : decode cX4_refill 19 = .ok (.iconst (-1), 1) := by decide +kernel
theorem dX4_refill_20 : decode cX4_refill 20 = .ok (.ireturn, 1) := by decide +kernel
theorem dX4_refill_21 : decode cX4_refill 21 = .ok (.aload_n 0, 1) := by decide +kernel
theorem dX4_refill_22 : decode cX4_refill 22 = .ok (.getfield 10, 3) := by decide +kernel
theorem dX4_refill_25 : decode cX4_refill 25 = .ok (.iload_n 1, 1) := by decide +kernel
theorem dX4_refill_26 : decode cX4_refill 26 = .ok (.invokevirtual 77, 3) := by decide +kernel
theorem dX4_refill_29 : decode cX4_refill 29 = .ok (.invokestatic 44, 3) := by decide +kernel
theorem dX4_refill_32 : decode cX4_refill 32 = .ok (.ifCond .eq 6, 3) := by decide +kernel
theorem dX4_refill_35 : decode cX4_refill 35 = .ok (.bipush (-2), 2) := by decide +kernel
theorem dX4_refill_37 : decode cX4_refill 37 = .ok (.ireturn, 1) := by decide +kernel
theorem dX4_refill_38 : decode cX4_refill 38 = .ok (.aload_n 0, 1) := by decide +kernel
theorem dX4_refill_39 : decode cX4_refill 39 = .ok (.getfield 10, 3) := by decide +kernel
theorem dX4_refill_42 : decode cX4_refill 42 = .ok (.iload_n 1, 1) := by decide +kernel
theorem dX4_refill_43 : decode cX4_refill 43 = .ok (.invokevirtual 80, 3) := by decide +kernel
theorem dX4_refill_46 : decode cX4_refill 46 = .ok (.sipush 6000, 3) := by decide +kernel
theorem dX4_refill_49 : decode cX4_refill 49 = .ok (.if_icmp .lt 6, 3) := by decide +kernel
theorem dX4_refill_52 : decode cX4_refill 52 = .ok (.bipush (-3), 2) := by decide +kernel
theorem dX4_refill_54 : decode cX4_refill 54 = .ok (.ireturn, 1) := by decide +kernel
theorem dX4_refill_55 : decode cX4_refill 55 = .ok (.aload_n 0, 1) := by decide +kernel
theorem dX4_refill_56 : decode cX4_refill 56 = .ok (.getfield 26, 3) := by decide +kernel
theorem dX4_refill_59 : decode cX4_refill 59 = .ok (.aload_n 0, 1) := by decide +kernel
theorem dX4_refill_60 : decode cX4_refill 60 = .ok (.getfield 10, 3) := by decide +kernel
theorem dX4_refill_63 : decode cX4_refill 63 = .ok (.invokevirtual 51, 3) := by decide +kernel
theorem dX4_refill_66 : decode cX4_refill 66 = .ok (.aload_n 0, 1) := by decide +kernel
theorem dX4_refill_67 : decode cX4_refill 67 = .ok (.getfield 10, 3) := by decide +kernel
theorem dX4_refill_70 : decode cX4_refill 70 = .ok (.iload_n 1, 1) := by decide +kernel
theorem dX4_refill_71 : decode cX4_refill 71 = .ok (.iload_n 2, 1) := by decide +kernel
theorem dX4_refill_72 : decode cX4_refill 72 = .ok (.invokevirtual 83, 3) := by decide +kernel
theorem dX4_refill_75 : decode cX4_refill 75 = .ok (.ireturn, 1) := by decide +kernel
theorem dX4_set_0 : decode cX4_set 0 = .ok (.iload_n 1, 1) := by decide +kernel
theorem dX4_set_1 : decode cX4_set 1 = .ok (.ifCond .lt 8, 3) := by decide +kernel
theorem dX4_set_4 : decode cX4_set 4 = .ok (.iload_n 1, 1) := by decide +kernel
theorem dX4_set_5 : decode cX4_set 5 = .ok (.iconst 4, 1) := by decide +kernel
theorem dX4_set_6 : decode cX4_set 6 = .ok (.if_icmp .lt 5, 3) := by decide +kernel
theorem dX4_set_9 : decode cX4_set 9 = .ok (.iconst (-1), 1) := by decide +kernel
theorem dX4_set_10 : decode cX4_set 10 = .ok (.ireturn, 1) := by decide +kernel
theorem dX4_set_11 : decode cX4_set 11 = .ok (.iload_n 2, 1) := by decide +kernel
theorem dX4_set_12 : decode cX4_set 12 = .ok (.getstatic 86, 3) := by decide +kernel
theorem dX4_set_15 : decode cX4_set 15 = .ok (.iload_n 1, 1) := by decide +kernel
theorem dX4_set_16 : decode cX4_set 16 = .ok (.iaload, 1) := by decide +kernel
theorem dX4_set_17 : decode cX4_set 17 = .ok (.if_icmp .lt 12, 3) := by decide +kernel
theorem dX4_set_20 : decode cX4_set 20 = .ok (.iload_n 2, 1) := by decide +kernel
theorem dX4_set_21 : decode cX4_set 21 = .ok (.getstatic 89, 3) := by decide +kernel
theorem dX4_set_24 : decode cX4_set 24 = .ok (.iload_n 1, 1) := by decide +kernel
theorem dX4_set_25 : decode cX4_set 25 = .ok (.iaload, 1) := by decide +kernel
theorem dX4_set_26 : decode cX4_set 26 = .ok (.if_icmp .le 5, 3) := by decide +kernel
theorem dX4_set_29 : decode cX4_set 29 = .ok (.iconst (-1), 1) := by decide +kernel
theorem dX4_set_30 : decode cX4_set 30 = .ok (.ireturn, 1) := by decide +kernel
theorem dX4_set_31 : decode cX4_set 31 = .ok (.aload_n 0, 1) := by decide +kernel
theorem dX4_set_32 : decode cX4_set 32 = .ok (.getfield 26, 3) := by decide +kernel
theorem dX4_set_35 : decode cX4_set 35 = .ok (.aload_n 0, 1) := by decide +kernel
theorem dX4_set_36 : decode cX4_set 36 = .ok (.getfield 10, 3) := by decide +kernel
theorem dX4_set_39 : decode cX4_set 39 = .ok (.invokevirtual 51, 3) := by decide +kernel
theorem dX4_set_42 : decode cX4_set 42 = .ok (.aload_n 0, 1) := by decide +kernel
theorem dX4_set_43 : decode cX4_set 43 = .ok (.getfield 10, 3) := by decide +kernel
theorem dX4_set_46 : decode cX4_set 46 = .ok (.getfield 92, 3) := by decide +kernel
theorem dX4_set_49 : decode cX4_set 49 = .ok (.iload_n 1, 1) := by decide +kernel
theorem dX4_set_50 : decode cX4_set 50 = .ok (.iaload, 1) := by decide +kernel
theorem dX4_set_51 : decode cX4_set 51 = .ok (.istore_n 3, 1) := by decide +kernel
theorem dX4_set_52 : decode cX4_set 52 = .ok (.aload_n 0, 1) := by decide +kernel
theorem dX4_set_53 : decode cX4_set 53 = .ok (.getfield 10, 3) := by decide +kernel
theorem dX4_set_56 : decode cX4_set 56 = .ok (.getfield 92, 3) := by decide +kernel
theorem dX4_set_59 : decode cX4_set 59 = .ok (.iload_n 1, 1) := by decide +kernel
theorem dX4_set_60 : decode cX4_set 60 = .ok (.iload_n 2, 1) := by decide +kernel
theorem dX4_set_61 : decode cX4_set 61 = .ok (.iastore, 1) := by decide +kernel
theorem dX4_set_62 : decode cX4_set 62 = .ok (.iload_n 3, 1) := by decide +kernel
theorem dX4_set_63 : decode cX4_set 63 = .ok (.ireturn, 1) := by decide +kernel
theorem dX4_append_0 : decode cX4_append 0 = .ok (.iload_n 1, 1) := by decide +kernel
theorem dX4_append_1 : decode cX4_append 1 = .ok (.bipush 33, 2) := by decide +kernel
theorem dX4_append_3 : decode cX4_append 3 = .ok (.if_icmp .lt 9, 3) := by decide +kernel
theorem dX4_append_6 : decode cX4_append 6 = .ok (.iload_n 1, 1) := by decide +kernel
theorem dX4_append_7 : decode cX4_append 7 = .ok (.bipush 126, 2) := by decide +kernel
theorem dX4_append_9 : decode cX4_append 9 = .ok (.if_icmp .le 5, 3) := by decide +kernel
theorem dX4_append_12 : decode cX4_append 12 = .ok (.iconst (-1), 1) := by decide +kernel
theorem dX4_append_13 : decode cX4_append 13 = .ok (.ireturn, 1) := by decide +kernel
theorem dX4_append_14 : decode cX4_append 14 = .ok (.aload_n 0, 1) := by decide +kernel
theorem dX4_append_15 : decode cX4_append 15 = .ok (.getfield 33, 3) := by decide +kernel
theorem dX4_append_18 : decode cX4_append 18 = .ok (.invokevirtual 95, 3) := by decide +kernel
theorem dX4_append_21 : decode cX4_append 21 = .ok (.ifCond .ne 6, 3) := by decide +kernel
theorem dX4_append_24 : decode cX4_append 24 = .ok (.bipush (-3), 2) := by decide +kernel
theorem dX4_append_26 : decode cX4_append 26 = .ok (.ireturn, 1) := by decide +kernel
theorem dX4_append_27 : decode cX4_append 27 = .ok (.aload_n 0, 1) := by decide +kernel
theorem dX4_append_28 : decode cX4_append 28 = .ok (.getfield 33, 3) := by decide +kernel
theorem dX4_append_31 : decode cX4_append 31 = .ok (.iload_n 1, 1) := by decide +kernel
theorem dX4_append_32 : decode cX4_append 32 = .ok (.i2c, 1) := by decide +kernel
theorem dX4_append_33 : decode cX4_append 33 = .ok (.invokevirtual 99, 3) := by decide +kernel
theorem dX4_append_36 : decode cX4_append 36 = .ok (.aload_n 0, 1) := by decide +kernel
theorem dX4_append_37 : decode cX4_append 37 = .ok (.getfield 33, 3) := by decide +kernel
theorem dX4_append_40 : decode cX4_append 40 = .ok (.getfield 103, 3) := by decide +kernel
theorem dX4_append_43 : decode cX4_append 43 = .ok (.ireturn, 1) := by decide +kernel
theorem dX4_clear_0 : decode cX4_clear 0 = .ok (.aload_n 0, 1) := by decide +kernel
theorem dX4_clear_1 : decode cX4_clear 1 = .ok (.getfield 33, 3) := by decide +kernel
theorem dX4_clear_4 : decode cX4_clear 4 = .ok (.getfield 103, 3) := by decide +kernel
theorem dX4_clear_7 : decode cX4_clear 7 = .ok (.istore_n 1, 1) := by decide +kernel
theorem dX4_clear_8 : decode cX4_clear 8 = .ok (.aload_n 0, 1) := by decide +kernel
theorem dX4_clear_9 : decode cX4_clear 9 = .ok (.getfield 33, 3) := by decide +kernel
theorem dX4_clear_12 : decode cX4_clear 12 = .ok (.invokevirtual 107, 3) := by decide +kernel
theorem dX4_clear_15 : decode cX4_clear 15 = .ok (.iload_n 1, 1) := by decide +kernel
theorem dX4_clear_16 : decode cX4_clear 16 = .ok (.ireturn, 1) := by decide +kernel
theorem dX4_fault_0 : decode cX4_fault 0 = .ok (.aload_n 0, 1) := by decide +kernel
theorem dX4_fault_1 : decode cX4_fault 1 = .ok (.getfield 33, 3) := by decide +kernel
theorem dX4_fault_4 : decode cX4_fault 4 = .ok (.invokevirtual 110, 3) := by decide +kernel
theorem dX4_fault_7 : decode cX4_fault 7 = .ok (.ireturn, 1) := by decide +kernel
theorem dX4_run_0 : decode cX4_run 0 = .ok (.aload_n 0, 1) := by decide +kernel
theorem dX4_run_1 : decode cX4_run 1 = .ok (.getfield 33, 3) := by decide +kernel
theorem dX4_run_4 : decode cX4_run 4 = .ok (.invokevirtual 110, 3) := by decide +kernel
theorem dX4_run_7 : decode cX4_run 7 = .ok (.bipush (-4), 2) := by decide +kernel
theorem dX4_run_9 : decode cX4_run 9 = .ok (.if_icmp .eq 6, 3) := by decide +kernel
theorem dX4_run_12 : decode cX4_run 12 = .ok (.bipush (-2), 2) := by decide +kernel
theorem dX4_run_14 : decode cX4_run 14 = .ok (.ireturn, 1) := by decide +kernel
theorem dX4_run_15 : decode cX4_run 15 = .ok (.aload_n 0, 1) := by decide +kernel
theorem dX4_run_16 : decode cX4_run 16 = .ok (.getfield 26, 3) := by decide +kernel
theorem dX4_run_19 : decode cX4_run 19 = .ok (.aload_n 0, 1) := by decide +kernel
theorem dX4_run_20 : decode cX4_run 20 = .ok (.getfield 10, 3) := by decide +kernel
theorem dX4_run_23 : decode cX4_run 23 = .ok (.invokevirtual 51, 3) := by decide +kernel
theorem dX4_run_26 : decode cX4_run 26 = .ok (.aload_n 0, 1) := by decide +kernel
theorem dX4_run_27 : decode cX4_run 27 = .ok (.getfield 40, 3) := by decide +kernel
theorem dX4_run_30 : decode cX4_run 30 = .ok (.invokevirtual 114, 3) := by decide +kernel
theorem dX4_run_33 : decode cX4_run 33 = .ok (.iconst 0, 1) := by decide +kernel
theorem dX4_run_34 : decode cX4_run 34 = .ok (.istore_n 1, 1) := by decide +kernel
theorem dX4_run_35 : decode cX4_run 35 = .ok (.iconst 0, 1) := by decide +kernel
theorem dX4_run_36 : decode cX4_run 36 = .ok (.istore_n 2, 1) := by decide +kernel
theorem dX4_run_37 : decode cX4_run 37 = .ok (.iload_n 2, 1) := by decide +kernel
theorem dX4_run_38 : decode cX4_run 38 = .ok (.aload_n 0, 1) := by decide +kernel
theorem dX4_run_39 : decode cX4_run 39 = .ok (.getfield 33, 3) := by decide +kernel
theorem dX4_run_42 : decode cX4_run 42 = .ok (.getfield 117, 3) := by decide +kernel
theorem dX4_run_45 : decode cX4_run 45 = .ok (.if_icmp .ge 27, 3) := by decide +kernel
theorem dX4_run_48 : decode cX4_run 48 = .ok (.aload_n 0, 1) := by decide +kernel
theorem dX4_run_49 : decode cX4_run 49 = .ok (.getfield 40, 3) := by decide +kernel
theorem dX4_run_52 : decode cX4_run 52 = .ok (.invokevirtual 120, 3) := by decide +kernel
theorem dX4_run_55 : decode cX4_run 55 = .ok (.ifCond .ne 17, 3) := by decide +kernel
theorem dX4_run_58 : decode cX4_run 58 = .ok (.iload_n 1, 1) := by decide +kernel
theorem dX4_run_59 : decode cX4_run 59 = .ok (.aload_n 0, 1) := by decide +kernel
theorem dX4_run_60 : decode cX4_run 60 = .ok (.iload_n 2, 1) := by decide +kernel
theorem dX4_run_61 : decode cX4_run 61 = .ok (.invokevirtual 123, 3) := by decide +kernel
theorem dX4_run_64 : decode cX4_run 64 = .ok (.iadd, 1) := by decide +kernel
theorem dX4_run_65 : decode cX4_run 65 = .ok (.istore_n 1, 1) := by decide +kernel
theorem dX4_run_66 : decode cX4_run 66 = .ok (.iinc 2 1, 3) := by decide +kernel
theorem dX4_run_69 : decode cX4_run 69 = .ok (.goto (-32), 3) := by decide +kernel
theorem dX4_run_72 : decode cX4_run 72 = .ok (.aload_n 0, 1) := by decide +kernel
theorem dX4_run_73 : decode cX4_run 73 = .ok (.getfield 33, 3) := by decide +kernel
theorem dX4_run_76 : decode cX4_run 76 = .ok (.invokevirtual 107, 3) := by decide +kernel
theorem dX4_run_79 : decode cX4_run 79 = .ok (.iload_n 1, 1) := by decide +kernel
theorem dX4_run_80 : decode cX4_run 80 = .ok (.ireturn, 1) := by decide +kernel
theorem dX4_why_0 : decode cX4_why 0 = .ok (.iload_n 1, 1) := by decide +kernel
theorem dX4_why_1 : decode cX4_why 1 = .ok (.tableswitch 63 0 3 #[31, 39, 47, 55], 31) := by decide +kernel
theorem dX4_why_32 : decode cX4_why 32 = .ok (.aload_n 0, 1) := by decide +kernel
theorem dX4_why_33 : decode cX4_why 33 = .ok (.getfield 40, 3) := by decide +kernel
theorem dX4_why_36 : decode cX4_why 36 = .ok (.getfield 126, 3) := by decide +kernel
theorem dX4_why_39 : decode cX4_why 39 = .ok (.ireturn, 1) := by decide +kernel
theorem dX4_why_40 : decode cX4_why 40 = .ok (.aload_n 0, 1) := by decide +kernel
theorem dX4_why_41 : decode cX4_why 41 = .ok (.getfield 40, 3) := by decide +kernel
theorem dX4_why_44 : decode cX4_why 44 = .ok (.getfield 129, 3) := by decide +kernel
theorem dX4_why_47 : decode cX4_why 47 = .ok (.ireturn, 1) := by decide +kernel
theorem dX4_why_48 : decode cX4_why 48 = .ok (.aload_n 0, 1) := by decide +kernel
theorem dX4_why_49 : decode cX4_why 49 = .ok (.getfield 40, 3) := by decide +kernel
theorem dX4_why_52 : decode cX4_why 52 = .ok (.getfield 132, 3) := by decide +kernel
theorem dX4_why_55 : decode cX4_why 55 = .ok (.ireturn, 1) := by decide +kernel
theorem dX4_why_56 : decode cX4_why 56 = .ok (.aload_n 0, 1) := by decide +kernel
theorem dX4_why_57 : decode cX4_why 57 = .ok (.getfield 40, 3) := by decide +kernel
theorem dX4_why_60 : decode cX4_why 60 = .ok (.getfield 135, 3) := by decide +kernel
theorem dX4_why_63 : decode cX4_why 63 = .ok (.ireturn, 1) := by decide +kernel
theorem dX4_why_64 : decode cX4_why 64 = .ok (.iconst (-1), 1) := by decide +kernel
theorem dX4_why_65 : decode cX4_why 65 = .ok (.ireturn, 1) := by decide +kernel
theorem dX4_cup_0 : decode cX4_cup 0 = .ok (.iload_n 1, 1) := by decide +kernel
theorem dX4_cup_1 : decode cX4_cup 1 = .ok (.invokestatic 59, 3) := by decide +kernel
theorem dX4_cup_4 : decode cX4_cup 4 = .ok (.ifCond .ne 5, 3) := by decide +kernel
theorem dX4_cup_7 : decode cX4_cup 7 = .ok (.iconst (-1), 1) := by decide +kernel
theorem dX4_cup_8 : decode cX4_cup 8 = .ok (.ireturn, 1) := by decide +kernel
theorem dX4_cup_9 : decode cX4_cup 9 = .ok (.iload_n 2, 1) := by decide +kernel
theorem dX4_cup_10 : decode cX4_cup 10 = .ok (.tableswitch 134 0 7 #[46, 56, 66, 76, 86, 95, 104, 113], 46) := by decide +kernel
theorem dX4_cup_56 : decode cX4_cup 56 = .ok (.aload_n 0, 1) := by decide +kernel
theorem dX4_cup_57 : decode cX4_cup 57 = .ok (.getfield 10, 3) := by decide +kernel
theorem dX4_cup_60 : decode cX4_cup 60 = .ok (.getfield 138, 3) := by decide +kernel
theorem dX4_cup_63 : decode cX4_cup 63 = .ok (.iload_n 1, 1) := by decide +kernel
theorem dX4_cup_64 : decode cX4_cup 64 = .ok (.iaload, 1) := by decide +kernel
theorem dX4_cup_65 : decode cX4_cup 65 = .ok (.ireturn, 1) := by decide +kernel
theorem dX4_cup_66 : decode cX4_cup 66 = .ok (.aload_n 0, 1) := by decide +kernel
theorem dX4_cup_67 : decode cX4_cup 67 = .ok (.getfield 10, 3) := by decide +kernel
theorem dX4_cup_70 : decode cX4_cup 70 = .ok (.getfield 141, 3) := by decide +kernel
theorem dX4_cup_73 : decode cX4_cup 73 = .ok (.iload_n 1, 1) := by decide +kernel
theorem dX4_cup_74 : decode cX4_cup 74 = .ok (.iaload, 1) := by decide +kernel
theorem dX4_cup_75 : decode cX4_cup 75 = .ok (.ireturn, 1) := by decide +kernel
theorem dX4_cup_76 : decode cX4_cup 76 = .ok (.aload_n 0, 1) := by decide +kernel
theorem dX4_cup_77 : decode cX4_cup 77 = .ok (.getfield 10, 3) := by decide +kernel
theorem dX4_cup_80 : decode cX4_cup 80 = .ok (.getfield 144, 3) := by decide +kernel
theorem dX4_cup_83 : decode cX4_cup 83 = .ok (.iload_n 1, 1) := by decide +kernel
theorem dX4_cup_84 : decode cX4_cup 84 = .ok (.iaload, 1) := by decide +kernel
theorem dX4_cup_85 : decode cX4_cup 85 = .ok (.ireturn, 1) := by decide +kernel
theorem dX4_cup_86 : decode cX4_cup 86 = .ok (.aload_n 0, 1) := by decide +kernel
theorem dX4_cup_87 : decode cX4_cup 87 = .ok (.getfield 10, 3) := by decide +kernel
theorem dX4_cup_90 : decode cX4_cup 90 = .ok (.getfield 147, 3) := by decide +kernel
theorem dX4_cup_93 : decode cX4_cup 93 = .ok (.iload_n 1, 1) := by decide +kernel
theorem dX4_cup_94 : decode cX4_cup 94 = .ok (.iaload, 1) := by decide +kernel
theorem dX4_cup_95 : decode cX4_cup 95 = .ok (.ireturn, 1) := by decide +kernel
theorem dX4_cup_96 : decode cX4_cup 96 = .ok (.aload_n 0, 1) := by decide +kernel
theorem dX4_cup_97 : decode cX4_cup 97 = .ok (.getfield 10, 3) := by decide +kernel
theorem dX4_cup_100 : decode cX4_cup 100 = .ok (.iload_n 1, 1) := by decide +kernel
theorem dX4_cup_101 : decode cX4_cup 101 = .ok (.invokevirtual 77, 3) := by decide +kernel
theorem dX4_cup_104 : decode cX4_cup 104 = .ok (.ireturn, 1) := by decide +kernel
theorem dX4_cup_105 : decode cX4_cup 105 = .ok (.aload_n 0, 1) := by decide +kernel
theorem dX4_cup_106 : decode cX4_cup 106 = .ok (.getfield 10, 3) := by decide +kernel
theorem dX4_cup_109 : decode cX4_cup 109 = .ok (.iload_n 1, 1) := by decide +kernel
theorem dX4_cup_110 : decode cX4_cup 110 = .ok (.invokevirtual 150, 3) := by decide +kernel
theorem dX4_cup_113 : decode cX4_cup 113 = .ok (.ireturn, 1) := by decide +kernel
theorem dX4_cup_114 : decode cX4_cup 114 = .ok (.aload_n 0, 1) := by decide +kernel
theorem dX4_cup_115 : decode cX4_cup 115 = .ok (.getfield 10, 3) := by decide +kernel
theorem dX4_cup_118 : decode cX4_cup 118 = .ok (.iload_n 1, 1) := by decide +kernel
theorem dX4_cup_119 : decode cX4_cup 119 = .ok (.invokevirtual 153, 3) := by decide +kernel
theorem dX4_cup_122 : decode cX4_cup 122 = .ok (.ireturn, 1) := by decide +kernel
theorem dX4_cup_123 : decode cX4_cup 123 = .ok (.aload_n 0, 1) := by decide +kernel
theorem dX4_cup_124 : decode cX4_cup 124 = .ok (.getfield 10, 3) := by decide +kernel
theorem dX4_cup_127 : decode cX4_cup 127 = .ok (.iload_n 1, 1) := by decide +kernel
theorem dX4_cup_128 : decode cX4_cup 128 = .ok (.invokevirtual 153, 3) := by decide +kernel
theorem dX4_cup_131 : decode cX4_cup 131 = .ok (.aload_n 0, 1) := by decide +kernel
theorem dX4_cup_132 : decode cX4_cup 132 = .ok (.getfield 10, 3) := by decide +kernel
theorem dX4_cup_135 : decode cX4_cup 135 = .ok (.iload_n 1, 1) := by decide +kernel
theorem dX4_cup_136 : decode cX4_cup 136 = .ok (.invokevirtual 80, 3) := by decide +kernel
theorem dX4_cup_139 : decode cX4_cup 139 = .ok (.isub, 1) := by decide +kernel
theorem dX4_cup_140 : decode cX4_cup 140 = .ok (.ldc 156, 2) := by decide +kernel
theorem dX4_cup_142 : decode cX4_cup 142 = .ok (.iadd, 1) := by decide +kernel
theorem dX4_cup_143 : decode cX4_cup 143 = .ok (.ireturn, 1) := by decide +kernel
theorem dX4_cup_144 : decode cX4_cup 144 = .ok (.iconst (-1), 1) := by decide +kernel
theorem dX4_cup_145 : decode cX4_cup 145 = .ok (.ireturn, 1) := by decide +kernel
theorem dX4_printer_0 : decode cX4_printer 0 = .ok (.iload_n 1, 1) := by decide +kernel
theorem dX4_printer_1 : decode cX4_printer 1 = .ok (.invokestatic 44, 3) := by decide +kernel
theorem dX4_printer_4 : decode cX4_printer 4 = .ok (.ifCond .ne 5, 3) := by decide +kernel
theorem dX4_printer_7 : decode cX4_printer 7 = .ok (.iconst (-1), 1) := by decide +kernel
theorem dX4_printer_8 : decode cX4_printer 8 = .ok (.ireturn, 1) := by decide +kernel
theorem dX4_printer_9 : decode cX4_printer 9 = .ok (.iload_n 2, 1) := by decide +kernel
theorem dX4_printer_10 : decode cX4_printer 10 = .ok (.tableswitch 98 0 5 #[38, 48, 58, 68, 78, 88], 38) := by decide +kernel
theorem dX4_printer_48 : decode cX4_printer 48 = .ok (.aload_n 0, 1) := by decide +kernel
theorem dX4_printer_49 : decode cX4_printer 49 = .ok (.getfield 10, 3) := by decide +kernel
theorem dX4_printer_52 : decode cX4_printer 52 = .ok (.getfield 69, 3) := by decide +kernel
theorem dX4_printer_55 : decode cX4_printer 55 = .ok (.iload_n 1, 1) := by decide +kernel
theorem dX4_printer_56 : decode cX4_printer 56 = .ok (.iaload, 1) := by decide +kernel
theorem dX4_printer_57 : decode cX4_printer 57 = .ok (.ireturn, 1) := by decide +kernel
theorem dX4_printer_58 : decode cX4_printer 58 = .ok (.aload_n 0, 1) := by decide +kernel
theorem dX4_printer_59 : decode cX4_printer 59 = .ok (.getfield 10, 3) := by decide +kernel
theorem dX4_printer_62 : decode cX4_printer 62 = .ok (.getfield 157, 3) := by decide +kernel
theorem dX4_printer_65 : decode cX4_printer 65 = .ok (.iload_n 1, 1) := by decide +kernel
theorem dX4_printer_66 : decode cX4_printer 66 = .ok (.iaload, 1) := by decide +kernel
theorem dX4_printer_67 : decode cX4_printer 67 = .ok (.ireturn, 1) := by decide +kernel
theorem dX4_printer_68 : decode cX4_printer 68 = .ok (.aload_n 0, 1) := by decide +kernel
theorem dX4_printer_69 : decode cX4_printer 69 = .ok (.getfield 10, 3) := by decide +kernel
theorem dX4_printer_72 : decode cX4_printer 72 = .ok (.getfield 160, 3) := by decide +kernel
theorem dX4_printer_75 : decode cX4_printer 75 = .ok (.iload_n 1, 1) := by decide +kernel
theorem dX4_printer_76 : decode cX4_printer 76 = .ok (.iaload, 1) := by decide +kernel
theorem dX4_printer_77 : decode cX4_printer 77 = .ok (.ireturn, 1) := by decide +kernel
theorem dX4_printer_78 : decode cX4_printer 78 = .ok (.aload_n 0, 1) := by decide +kernel
theorem dX4_printer_79 : decode cX4_printer 79 = .ok (.getfield 10, 3) := by decide +kernel
theorem dX4_printer_82 : decode cX4_printer 82 = .ok (.getfield 163, 3) := by decide +kernel
theorem dX4_printer_85 : decode cX4_printer 85 = .ok (.iload_n 1, 1) := by decide +kernel
theorem dX4_printer_86 : decode cX4_printer 86 = .ok (.iaload, 1) := by decide +kernel
theorem dX4_printer_87 : decode cX4_printer 87 = .ok (.ireturn, 1) := by decide +kernel
theorem dX4_printer_88 : decode cX4_printer 88 = .ok (.aload_n 0, 1) := by decide +kernel
theorem dX4_printer_89 : decode cX4_printer 89 = .ok (.getfield 10, 3) := by decide +kernel
theorem dX4_printer_92 : decode cX4_printer 92 = .ok (.getfield 166, 3) := by decide +kernel
theorem dX4_printer_95 : decode cX4_printer 95 = .ok (.iload_n 1, 1) := by decide +kernel
theorem dX4_printer_96 : decode cX4_printer 96 = .ok (.iaload, 1) := by decide +kernel
theorem dX4_printer_97 : decode cX4_printer 97 = .ok (.ireturn, 1) := by decide +kernel
theorem dX4_printer_98 : decode cX4_printer 98 = .ok (.aload_n 0, 1) := by decide +kernel
theorem dX4_printer_99 : decode cX4_printer 99 = .ok (.getfield 10, 3) := by decide +kernel
theorem dX4_printer_102 : decode cX4_printer 102 = .ok (.getfield 169, 3) := by decide +kernel
theorem dX4_printer_105 : decode cX4_printer 105 = .ok (.iload_n 1, 1) := by decide +kernel
theorem dX4_printer_106 : decode cX4_printer 106 = .ok (.iaload, 1) := by decide +kernel
theorem dX4_printer_107 : decode cX4_printer 107 = .ok (.ireturn, 1) := by decide +kernel
theorem dX4_printer_108 : decode cX4_printer 108 = .ok (.iconst (-1), 1) := by decide +kernel
theorem dX4_printer_109 : decode cX4_printer 109 = .ok (.ireturn, 1) := by decide +kernel
theorem dX4_needs_0 : decode cX4_needs 0 = .ok (.iload_n 1, 1) := by decide +kernel
theorem dX4_needs_1 : decode cX4_needs 1 = .ok (.invokestatic 59, 3) := by decide +kernel
theorem dX4_needs_4 : decode cX4_needs 4 = .ok (.ifCond .eq 10, 3) := by decide +kernel
theorem dX4_needs_7 : decode cX4_needs 7 = .ok (.iload_n 2, 1) := by decide +kernel
theorem dX4_needs_8 : decode cX4_needs 8 = .ok (.invokestatic 48, 3) := by decide +kernel
theorem dX4_needs_11 : decode cX4_needs 11 = .ok (.ifCond .ne 5, 3) := by decide +kernel
theorem dX4_needs_14 : decode cX4_needs 14 = .ok (.iconst (-1), 1) := by decide +kernel
theorem dX4_needs_15 : decode cX4_needs 15 = .ok (.ireturn, 1) := by decide +kernel
theorem dX4_needs_16 : decode cX4_needs 16 = .ok (.iload_n 3, 1) := by decide +kernel
theorem dX4_needs_17 : decode cX4_needs 17 = .ok (.lookupswitch 65 #[(0, 27), (1, 46)], 27) := by decide +kernel
theorem dX4_needs_44 : decode cX4_needs 44 = .ok (.aload_n 0, 1) := by decide +kernel
theorem dX4_needs_45 : decode cX4_needs 45 = .ok (.getfield 10, 3) := by decide +kernel
theorem dX4_needs_48 : decode cX4_needs 48 = .ok (.iload_n 1, 1) := by decide +kernel
theorem dX4_needs_49 : decode cX4_needs 49 = .ok (.iload_n 2, 1) := by decide +kernel
theorem dX4_needs_50 : decode cX4_needs 50 = .ok (.aload_n 0, 1) := by decide +kernel
theorem dX4_needs_51 : decode cX4_needs 51 = .ok (.getfield 10, 3) := by decide +kernel
theorem dX4_needs_54 : decode cX4_needs 54 = .ok (.getfield 92, 3) := by decide +kernel
theorem dX4_needs_57 : decode cX4_needs 57 = .ok (.iconst 0, 1) := by decide +kernel
theorem dX4_needs_58 : decode cX4_needs 58 = .ok (.iaload, 1) := by decide +kernel
theorem dX4_needs_59 : decode cX4_needs 59 = .ok (.invokevirtual 172, 3) := by decide +kernel
theorem dX4_needs_62 : decode cX4_needs 62 = .ok (.ireturn, 1) := by decide +kernel
theorem dX4_needs_63 : decode cX4_needs 63 = .ok (.aload_n 0, 1) := by decide +kernel
theorem dX4_needs_64 : decode cX4_needs 64 = .ok (.getfield 10, 3) := by decide +kernel
theorem dX4_needs_67 : decode cX4_needs 67 = .ok (.iload_n 1, 1) := by decide +kernel
theorem dX4_needs_68 : decode cX4_needs 68 = .ok (.iload_n 2, 1) := by decide +kernel
theorem dX4_needs_69 : decode cX4_needs 69 = .ok (.aload_n 0, 1) := by decide +kernel
theorem dX4_needs_70 : decode cX4_needs 70 = .ok (.getfield 10, 3) := by decide +kernel
theorem dX4_needs_73 : decode cX4_needs 73 = .ok (.getfield 92, 3) := by decide +kernel
theorem dX4_needs_76 : decode cX4_needs 76 = .ok (.iconst 0, 1) := by decide +kernel
theorem dX4_needs_77 : decode cX4_needs 77 = .ok (.iaload, 1) := by decide +kernel
theorem dX4_needs_78 : decode cX4_needs 78 = .ok (.invokevirtual 176, 3) := by decide +kernel
theorem dX4_needs_81 : decode cX4_needs 81 = .ok (.ireturn, 1) := by decide +kernel
theorem dX4_needs_82 : decode cX4_needs 82 = .ok (.iconst (-1), 1) := by decide +kernel
theorem dX4_needs_83 : decode cX4_needs 83 = .ok (.ireturn, 1) := by decide +kernel
theorem dX4_whyNot_0 : decode cX4_whyNot 0 = .ok (.iload_n 1, 1) := by decide +kernel
theorem dX4_whyNot_1 : decode cX4_whyNot 1 = .ok (.invokestatic 44, 3) := by decide +kernel
theorem dX4_whyNot_4 : decode cX4_whyNot 4 = .ok (.ifCond .ne 5, 3) := by decide +kernel
theorem dX4_whyNot_7 : decode cX4_whyNot 7 = .ok (.iconst (-1), 1) := by decide +kernel
theorem dX4_whyNot_8 : decode cX4_whyNot 8 = .ok (.ireturn, 1) := by decide +kernel
theorem dX4_whyNot_9 : decode cX4_whyNot 9 = .ok (.aload_n 0, 1) := by decide +kernel
theorem dX4_whyNot_10 : decode cX4_whyNot 10 = .ok (.getfield 10, 3) := by decide +kernel
theorem dX4_whyNot_13 : decode cX4_whyNot 13 = .ok (.aload_n 0, 1) := by decide +kernel
theorem dX4_whyNot_14 : decode cX4_whyNot 14 = .ok (.getfield 10, 3) := by decide +kernel
theorem dX4_whyNot_17 : decode cX4_whyNot 17 = .ok (.getfield 69, 3) := by decide +kernel
theorem dX4_whyNot_20 : decode cX4_whyNot 20 = .ok (.iload_n 1, 1) := by decide +kernel
theorem dX4_whyNot_21 : decode cX4_whyNot 21 = .ok (.iaload, 1) := by decide +kernel
theorem dX4_whyNot_22 : decode cX4_whyNot 22 = .ok (.invokevirtual 179, 3) := by decide +kernel
theorem dX4_whyNot_25 : decode cX4_whyNot 25 = .ok (.ireturn, 1) := by decide +kernel
theorem dX4_count_0 : decode cX4_count 0 = .ok (.iload_n 1, 1) := by decide +kernel
theorem dX4_count_1 : decode cX4_count 1 = .ok (.tableswitch 172 0 13 #[71, 79, 87, 95, 103, 119, 127, 135, 143, 143, 143, 143, 156, 164], 71) := by decide +kernel
theorem dX4_count_72 : decode cX4_count 72 = .ok (.aload_n 0, 1) := by decide +kernel
theorem dX4_count_73 : decode cX4_count 73 = .ok (.getfield 10, 3) := by decide +kernel
theorem dX4_count_76 : decode cX4_count 76 = .ok (.invokevirtual 182, 3) := by decide +kernel
theorem dX4_count_79 : decode cX4_count 79 = .ok (.ireturn, 1) := by decide +kernel
theorem dX4_count_80 : decode cX4_count 80 = .ok (.aload_n 0, 1) := by decide +kernel
theorem dX4_count_81 : decode cX4_count 81 = .ok (.getfield 10, 3) := by decide +kernel
theorem dX4_count_84 : decode cX4_count 84 = .ok (.getfield 185, 3) := by decide +kernel
theorem dX4_count_87 : decode cX4_count 87 = .ok (.ireturn, 1) := by decide +kernel
theorem dX4_count_88 : decode cX4_count 88 = .ok (.aload_n 0, 1) := by decide +kernel
theorem dX4_count_89 : decode cX4_count 89 = .ok (.getfield 10, 3) := by decide +kernel
theorem dX4_count_92 : decode cX4_count 92 = .ok (.getfield 188, 3) := by decide +kernel
theorem dX4_count_95 : decode cX4_count 95 = .ok (.ireturn, 1) := by decide +kernel
theorem dX4_count_96 : decode cX4_count 96 = .ok (.aload_n 0, 1) := by decide +kernel
theorem dX4_count_97 : decode cX4_count 97 = .ok (.getfield 10, 3) := by decide +kernel
theorem dX4_count_100 : decode cX4_count 100 = .ok (.getfield 191, 3) := by decide +kernel
theorem dX4_count_103 : decode cX4_count 103 = .ok (.ireturn, 1) := by decide +kernel
theorem dX4_count_104 : decode cX4_count 104 = .ok (.aload_n 0, 1) := by decide +kernel
theorem dX4_count_105 : decode cX4_count 105 = .ok (.getfield 10, 3) := by decide +kernel
theorem dX4_count_108 : decode cX4_count 108 = .ok (.invokevirtual 194, 3) := by decide +kernel
theorem dX4_count_111 : decode cX4_count 111 = .ok (.aload_n 0, 1) := by decide +kernel
theorem dX4_count_112 : decode cX4_count 112 = .ok (.getfield 10, 3) := by decide +kernel
theorem dX4_count_115 : decode cX4_count 115 = .ok (.invokevirtual 197, 3) := by decide +kernel
theorem dX4_count_118 : decode cX4_count 118 = .ok (.iadd, 1) := by decide +kernel
theorem dX4_count_119 : decode cX4_count 119 = .ok (.ireturn, 1) := by decide +kernel
theorem dX4_count_120 : decode cX4_count 120 = .ok (.aload_n 0, 1) := by decide +kernel
theorem dX4_count_121 : decode cX4_count 121 = .ok (.getfield 10, 3) := by decide +kernel
theorem dX4_count_124 : decode cX4_count 124 = .ok (.invokevirtual 200, 3) := by decide +kernel
theorem dX4_count_127 : decode cX4_count 127 = .ok (.ireturn, 1) := by decide +kernel
theorem dX4_count_128 : decode cX4_count 128 = .ok (.aload_n 0, 1) := by decide +kernel
theorem dX4_count_129 : decode cX4_count 129 = .ok (.getfield 10, 3) := by decide +kernel
theorem dX4_count_132 : decode cX4_count 132 = .ok (.invokevirtual 203, 3) := by decide +kernel
theorem dX4_count_135 : decode cX4_count 135 = .ok (.ireturn, 1) := by decide +kernel
theorem dX4_count_136 : decode cX4_count 136 = .ok (.aload_n 0, 1) := by decide +kernel
theorem dX4_count_137 : decode cX4_count 137 = .ok (.getfield 10, 3) := by decide +kernel
theorem dX4_count_140 : decode cX4_count 140 = .ok (.invokevirtual 206, 3) := by decide +kernel
theorem dX4_count_143 : decode cX4_count 143 = .ok (.ireturn, 1) := by decide +kernel
theorem dX4_count_144 : decode cX4_count 144 = .ok (.aload_n 0, 1) := by decide +kernel
theorem dX4_count_145 : decode cX4_count 145 = .ok (.getfield 10, 3) := by decide +kernel
theorem dX4_count_148 : decode cX4_count 148 = .ok (.getfield 92, 3) := by decide +kernel
theorem dX4_count_151 : decode cX4_count 151 = .ok (.iload_n 1, 1) := by decide +kernel
theorem dX4_count_152 : decode cX4_count 152 = .ok (.bipush 8, 2) := by decide +kernel
theorem dX4_count_154 : decode cX4_count 154 = .ok (.isub, 1) := by decide +kernel
theorem dX4_count_155 : decode cX4_count 155 = .ok (.iaload, 1) := by decide +kernel
theorem dX4_count_156 : decode cX4_count 156 = .ok (.ireturn, 1) := by decide +kernel
theorem dX4_count_157 : decode cX4_count 157 = .ok (.aload_n 0, 1) := by decide +kernel
theorem dX4_count_158 : decode cX4_count 158 = .ok (.getfield 33, 3) := by decide +kernel
theorem dX4_count_161 : decode cX4_count 161 = .ok (.getfield 103, 3) := by decide +kernel
theorem dX4_count_164 : decode cX4_count 164 = .ok (.ireturn, 1) := by decide +kernel
theorem dX4_count_165 : decode cX4_count 165 = .ok (.aload_n 0, 1) := by decide +kernel
theorem dX4_count_166 : decode cX4_count 166 = .ok (.getfield 26, 3) := by decide +kernel
theorem dX4_count_169 : decode cX4_count 169 = .ok (.getfield 209, 3) := by decide +kernel
theorem dX4_count_172 : decode cX4_count 172 = .ok (.ireturn, 1) := by decide +kernel
theorem dX4_count_173 : decode cX4_count 173 = .ok (.iconst (-1), 1) := by decide +kernel
theorem dX4_count_174 : decode cX4_count 174 = .ok (.ireturn, 1) := by decide +kernel
theorem dX4_darkness_0 : decode cX4_darkness 0 = .ok (.aload_n 0, 1) := by decide +kernel
theorem dX4_darkness_1 : decode cX4_darkness 1 = .ok (.getfield 10, 3) := by decide +kernel
theorem dX4_darkness_4 : decode cX4_darkness 4 = .ok (.invokevirtual 194, 3) := by decide +kernel
theorem dX4_darkness_7 : decode cX4_darkness 7 = .ok (.istore_n 1, 1) := by decide +kernel
theorem dX4_darkness_8 : decode cX4_darkness 8 = .ok (.iload_n 1, 1) := by decide +kernel
theorem dX4_darkness_9 : decode cX4_darkness 9 = .ok (.aload_n 0, 1) := by decide +kernel
theorem dX4_darkness_10 : decode cX4_darkness 10 = .ok (.getfield 10, 3) := by decide +kernel
theorem dX4_darkness_13 : decode cX4_darkness 13 = .ok (.invokevirtual 197, 3) := by decide +kernel
theorem dX4_darkness_16 : decode cX4_darkness 16 = .ok (.iadd, 1) := by decide +kernel
theorem dX4_darkness_17 : decode cX4_darkness 17 = .ok (.istore_n 2, 1) := by decide +kernel
theorem dX4_darkness_18 : decode cX4_darkness 18 = .ok (.iload_n 2, 1) := by decide +kernel
theorem dX4_darkness_19 : decode cX4_darkness 19 = .ok (.ifCond .le 11, 3) := by decide +kernel
theorem dX4_darkness_22 : decode cX4_darkness 22 = .ok (.iload_n 1, 1) := by decide +kernel
theorem dX4_darkness_23 : decode cX4_darkness 23 = .ok (.i2d, 1) := by decide +kernel
theorem dX4_darkness_24 : decode cX4_darkness 24 = .ok (.iload_n 2, 1) := by decide +kernel
theorem dX4_darkness_25 : decode cX4_darkness 25 = .ok (.i2d, 1) := by decide +kernel
theorem dX4_darkness_26 : decode cX4_darkness 26 = .ok (.ddiv, 1) := by decide +kernel
theorem dX4_darkness_27 : decode cX4_darkness 27 = .ok (.goto 4, 3) := by decide +kernel
theorem dX4_darkness_30 : decode cX4_darkness 30 = .ok (.dconst 1, 1) := by decide +kernel
theorem dX4_darkness_31 : decode cX4_darkness 31 = .ok (.dreturn, 1) := by decide +kernel
theorem dX4_lasts_0 : decode cX4_lasts 0 = .ok (.iload_n 1, 1) := by decide +kernel
theorem dX4_lasts_1 : decode cX4_lasts 1 = .ok (.invokestatic 59, 3) := by decide +kernel
theorem dX4_lasts_4 : decode cX4_lasts 4 = .ok (.ifCond .eq 10, 3) := by decide +kernel
theorem dX4_lasts_7 : decode cX4_lasts 7 = .ok (.iload_n 2, 1) := by decide +kernel
theorem dX4_lasts_8 : decode cX4_lasts 8 = .ok (.invokestatic 48, 3) := by decide +kernel
theorem dX4_lasts_11 : decode cX4_lasts 11 = .ok (.ifCond .ne 5, 3) := by decide +kernel
theorem dX4_lasts_14 : decode cX4_lasts 14 = .ok (.iconst (-1), 1) := by decide +kernel
theorem dX4_lasts_15 : decode cX4_lasts 15 = .ok (.ireturn, 1) := by decide +kernel
theorem dX4_lasts_16 : decode cX4_lasts 16 = .ok (.aload_n 0, 1) := by decide +kernel
theorem dX4_lasts_17 : decode cX4_lasts 17 = .ok (.getfield 10, 3) := by decide +kernel
theorem dX4_lasts_20 : decode cX4_lasts 20 = .ok (.iload_n 1, 1) := by decide +kernel
theorem dX4_lasts_21 : decode cX4_lasts 21 = .ok (.iload_n 2, 1) := by decide +kernel
theorem dX4_lasts_22 : decode cX4_lasts 22 = .ok (.aload_n 0, 1) := by decide +kernel
theorem dX4_lasts_23 : decode cX4_lasts 23 = .ok (.getfield 10, 3) := by decide +kernel
theorem dX4_lasts_26 : decode cX4_lasts 26 = .ok (.getfield 92, 3) := by decide +kernel
theorem dX4_lasts_29 : decode cX4_lasts 29 = .ok (.iconst 0, 1) := by decide +kernel
theorem dX4_lasts_30 : decode cX4_lasts 30 = .ok (.iaload, 1) := by decide +kernel
theorem dX4_lasts_31 : decode cX4_lasts 31 = .ok (.invokevirtual 172, 3) := by decide +kernel
theorem dX4_lasts_34 : decode cX4_lasts 34 = .ok (.istore 4, 2) := by decide +kernel
theorem dX4_lasts_36 : decode cX4_lasts 36 = .ok (.aload_n 0, 1) := by decide +kernel
theorem dX4_lasts_37 : decode cX4_lasts 37 = .ok (.getfield 10, 3) := by decide +kernel
theorem dX4_lasts_40 : decode cX4_lasts 40 = .ok (.iload_n 1, 1) := by decide +kernel
theorem dX4_lasts_41 : decode cX4_lasts 41 = .ok (.iload 4, 2) := by decide +kernel
theorem dX4_lasts_43 : decode cX4_lasts 43 = .ok (.iload_n 3, 1) := by decide +kernel
theorem dX4_lasts_44 : decode cX4_lasts 44 = .ok (.sipush 999, 3) := by decide +kernel
theorem dX4_lasts_47 : decode cX4_lasts 47 = .ok (.invokevirtual 212, 3) := by decide +kernel
theorem dX4_lasts_50 : decode cX4_lasts 50 = .ok (.ireturn, 1) := by decide +kernel
theorem dX4_atHand_0 : decode cX4_atHand 0 = .ok (.iload_n 1, 1) := by decide +kernel
theorem dX4_atHand_1 : decode cX4_atHand 1 = .ok (.invokestatic 59, 3) := by decide +kernel
theorem dX4_atHand_4 : decode cX4_atHand 4 = .ok (.ifCond .eq 31, 3) := by decide +kernel
theorem dX4_atHand_7 : decode cX4_atHand 7 = .ok (.iload_n 2, 1) := by decide +kernel
theorem dX4_atHand_8 : decode cX4_atHand 8 = .ok (.invokestatic 48, 3) := by decide +kernel
theorem dX4_atHand_11 : decode cX4_atHand 11 = .ok (.ifCond .eq 24, 3) := by decide +kernel
theorem dX4_atHand_14 : decode cX4_atHand 14 = .ok (.iload_n 3, 1) := by decide +kernel
theorem dX4_atHand_15 : decode cX4_atHand 15 = .ok (.ifCond .lt 20, 3) := by decide +kernel
theorem dX4_atHand_18 : decode cX4_atHand 18 = .ok (.iload_n 3, 1) := by decide +kernel
theorem dX4_atHand_19 : decode cX4_atHand 19 = .ok (.bipush 50, 2) := by decide +kernel
theorem dX4_atHand_21 : decode cX4_atHand 21 = .ok (.if_icmp .gt 14, 3) := by decide +kernel
theorem dX4_atHand_24 : decode cX4_atHand 24 = .ok (.iload 4, 2) := by decide +kernel
theorem dX4_atHand_26 : decode cX4_atHand 26 = .ok (.ifCond .lt 9, 3) := by decide +kernel
theorem dX4_atHand_29 : decode cX4_atHand 29 = .ok (.iload 4, 2) := by decide +kernel
theorem dX4_atHand_31 : decode cX4_atHand 31 = .ok (.iconst 1, 1) := by decide +kernel
theorem dX4_atHand_32 : decode cX4_atHand 32 = .ok (.if_icmp .le 5, 3) := by decide +kernel
theorem dX4_atHand_35 : decode cX4_atHand 35 = .ok (.iconst (-1), 1) := by decide +kernel
theorem dX4_atHand_36 : decode cX4_atHand 36 = .ok (.ireturn, 1) := by decide +kernel
theorem dX4_atHand_37 : decode cX4_atHand 37 = .ok (.aload_n 0, 1) := by decide +kernel
theorem dX4_atHand_38 : decode cX4_atHand 38 = .ok (.getfield 10, 3) := by decide +kernel
theorem dX4_atHand_41 : decode cX4_atHand 41 = .ok (.iload_n 1, 1) := by decide +kernel
theorem dX4_atHand_42 : decode cX4_atHand 42 = .ok (.iload_n 2, 1) := by decide +kernel
theorem dX4_atHand_43 : decode cX4_atHand 43 = .ok (.aload_n 0, 1) := by decide +kernel
theorem dX4_atHand_44 : decode cX4_atHand 44 = .ok (.getfield 10, 3) := by decide +kernel
theorem dX4_atHand_47 : decode cX4_atHand 47 = .ok (.getfield 92, 3) := by decide +kernel
theorem dX4_atHand_50 : decode cX4_atHand 50 = .ok (.iconst 0, 1) := by decide +kernel
theorem dX4_atHand_51 : decode cX4_atHand 51 = .ok (.iaload, 1) := by decide +kernel
theorem dX4_atHand_52 : decode cX4_atHand 52 = .ok (.invokevirtual 172, 3) := by decide +kernel
theorem dX4_atHand_55 : decode cX4_atHand 55 = .ok (.istore 5, 2) := by decide +kernel
theorem dX4_atHand_57 : decode cX4_atHand 57 = .ok (.aload_n 0, 1) := by decide +kernel
theorem dX4_atHand_58 : decode cX4_atHand 58 = .ok (.getfield 10, 3) := by decide +kernel
theorem dX4_atHand_61 : decode cX4_atHand 61 = .ok (.iload_n 1, 1) := by decide +kernel
theorem dX4_atHand_62 : decode cX4_atHand 62 = .ok (.iload 5, 2) := by decide +kernel
theorem dX4_atHand_64 : decode cX4_atHand 64 = .ok (.iconst 0, 1) := by decide +kernel
theorem dX4_atHand_65 : decode cX4_atHand 65 = .ok (.iload_n 3, 1) := by decide +kernel
theorem dX4_atHand_66 : decode cX4_atHand 66 = .ok (.invokevirtual 212, 3) := by decide +kernel
theorem dX4_atHand_69 : decode cX4_atHand 69 = .ok (.iload_n 3, 1) := by decide +kernel
theorem dX4_atHand_70 : decode cX4_atHand 70 = .ok (.if_icmp .ge 6, 3) := by decide +kernel
theorem dX4_atHand_73 : decode cX4_atHand 73 = .ok (.bipush (-4), 2) := by decide +kernel
theorem dX4_atHand_75 : decode cX4_atHand 75 = .ok (.ireturn, 1) := by decide +kernel
theorem dX4_atHand_76 : decode cX4_atHand 76 = .ok (.iload 4, 2) := by decide +kernel
theorem dX4_atHand_78 : decode cX4_atHand 78 = .ok (.ifCond .ne 17, 3) := by decide +kernel
theorem dX4_atHand_81 : decode cX4_atHand 81 = .ok (.aload_n 0, 1) := by decide +kernel
theorem dX4_atHand_82 : decode cX4_atHand 82 = .ok (.getfield 10, 3) := by decide +kernel
theorem dX4_atHand_85 : decode cX4_atHand 85 = .ok (.iload_n 1, 1) := by decide +kernel
theorem dX4_atHand_86 : decode cX4_atHand 86 = .ok (.iload 5, 2) := by decide +kernel
theorem dX4_atHand_88 : decode cX4_atHand 88 = .ok (.iload_n 3, 1) := by decide +kernel
theorem dX4_atHand_89 : decode cX4_atHand 89 = .ok (.invokevirtual 216, 3) := by decide +kernel
theorem dX4_atHand_92 : decode cX4_atHand 92 = .ok (.goto 14, 3) := by decide +kernel
theorem dX4_atHand_95 : decode cX4_atHand 95 = .ok (.aload_n 0, 1) := by decide +kernel
theorem dX4_atHand_96 : decode cX4_atHand 96 = .ok (.getfield 10, 3) := by decide +kernel
theorem dX4_atHand_99 : decode cX4_atHand 99 = .ok (.iload_n 1, 1) := by decide +kernel
theorem dX4_atHand_100 : decode cX4_atHand 100 = .ok (.iload 5, 2) := by decide +kernel
theorem dX4_atHand_102 : decode cX4_atHand 102 = .ok (.iload_n 3, 1) := by decide +kernel
theorem dX4_atHand_103 : decode cX4_atHand 103 = .ok (.invokevirtual 219, 3) := by decide +kernel
theorem dX4_atHand_106 : decode cX4_atHand 106 = .ok (.ireturn, 1) := by decide +kernel
theorem dX4_bestFor_0 : decode cX4_bestFor 0 = .ok (.iload_n 1, 1) := by decide +kernel
theorem dX4_bestFor_1 : decode cX4_bestFor 1 = .ok (.invokestatic 48, 3) := by decide +kernel
theorem dX4_bestFor_4 : decode cX4_bestFor 4 = .ok (.ifCond .eq 10, 3) := by decide +kernel
theorem dX4_bestFor_7 : decode cX4_bestFor 7 = .ok (.iload_n 2, 1) := by decide +kernel
theorem dX4_bestFor_8 : decode cX4_bestFor 8 = .ok (.invokestatic 222, 3) := by decide +kernel
theorem dX4_bestFor_11 : decode cX4_bestFor 11 = .ok (.ifCond .ne 5, 3) := by decide +kernel
theorem dX4_bestFor_14 : decode cX4_bestFor 14 = .ok (.iconst (-1), 1) := by decide +kernel
theorem dX4_bestFor_15 : decode cX4_bestFor 15 = .ok (.ireturn, 1) := by decide +kernel
theorem dX4_bestFor_16 : decode cX4_bestFor 16 = .ok (.bipush (-4), 2) := by decide +kernel
theorem dX4_bestFor_18 : decode cX4_bestFor 18 = .ok (.istore_n 3, 1) := by decide +kernel
theorem dX4_bestFor_19 : decode cX4_bestFor 19 = .ok (.iconst 0, 1) := by decide +kernel
theorem dX4_bestFor_20 : decode cX4_bestFor 20 = .ok (.istore 4, 2) := by decide +kernel
theorem dX4_bestFor_22 : decode cX4_bestFor 22 = .ok (.iconst 0, 1) := by decide +kernel
theorem dX4_bestFor_23 : decode cX4_bestFor 23 = .ok (.istore 5, 2) := by decide +kernel
theorem dX4_bestFor_25 : decode cX4_bestFor 25 = .ok (.iload 5, 2) := by decide +kernel
theorem dX4_bestFor_27 : decode cX4_bestFor 27 = .ok (.iconst 4, 1) := by decide +kernel
theorem dX4_bestFor_28 : decode cX4_bestFor 28 = .ok (.if_icmp .ge 70, 3) := by decide +kernel
theorem dX4_bestFor_31 : decode cX4_bestFor 31 = .ok (.aload_n 0, 1) := by decide +kernel
theorem dX4_bestFor_32 : decode cX4_bestFor 32 = .ok (.getfield 10, 3) := by decide +kernel
theorem dX4_bestFor_35 : decode cX4_bestFor 35 = .ok (.iload 5, 2) := by decide +kernel
theorem dX4_bestFor_37 : decode cX4_bestFor 37 = .ok (.iload_n 1, 1) := by decide +kernel
theorem dX4_bestFor_38 : decode cX4_bestFor 38 = .ok (.aload_n 0, 1) := by decide +kernel
theorem dX4_bestFor_39 : decode cX4_bestFor 39 = .ok (.getfield 10, 3) := by decide +kernel
theorem dX4_bestFor_42 : decode cX4_bestFor 42 = .ok (.getfield 92, 3) := by decide +kernel
theorem dX4_bestFor_45 : decode cX4_bestFor 45 = .ok (.iconst 0, 1) := by decide +kernel
theorem dX4_bestFor_46 : decode cX4_bestFor 46 = .ok (.iaload, 1) := by decide +kernel
theorem dX4_bestFor_47 : decode cX4_bestFor 47 = .ok (.iload_n 2, 1) := by decide +kernel
theorem dX4_bestFor_48 : decode cX4_bestFor 48 = .ok (.invokevirtual 225, 3) := by decide +kernel
theorem dX4_bestFor_51 : decode cX4_bestFor 51 = .ok (.istore 6, 2) := by decide +kernel
theorem dX4_bestFor_53 : decode cX4_bestFor 53 = .ok (.iload 6, 2) := by decide +kernel
theorem dX4_bestFor_55 : decode cX4_bestFor 55 = .ok (.ifCond .eq 37, 3) := by decide +kernel
theorem dX4_bestFor_58 : decode cX4_bestFor 58 = .ok (.iload_n 3, 1) := by decide +kernel
theorem dX4_bestFor_59 : decode cX4_bestFor 59 = .ok (.bipush (-4), 2) := by decide +kernel
theorem dX4_bestFor_61 : decode cX4_bestFor 61 = .ok (.if_icmp .eq 17, 3) := by decide +kernel
theorem dX4_bestFor_64 : decode cX4_bestFor 64 = .ok (.aload_n 0, 1) := by decide +kernel
theorem dX4_bestFor_65 : decode cX4_bestFor 65 = .ok (.getfield 10, 3) := by decide +kernel
theorem dX4_bestFor_68 : decode cX4_bestFor 68 = .ok (.iload 5, 2) := by decide +kernel
theorem dX4_bestFor_70 : decode cX4_bestFor 70 = .ok (.invokevirtual 80, 3) := by decide +kernel
theorem dX4_bestFor_73 : decode cX4_bestFor 73 = .ok (.iload 4, 2) := by decide +kernel
theorem dX4_bestFor_75 : decode cX4_bestFor 75 = .ok (.if_icmp .ge 17, 3) := by decide +kernel
theorem dX4_bestFor_78 : decode cX4_bestFor 78 = .ok (.iload 5, 2) := by decide +kernel
theorem dX4_bestFor_80 : decode cX4_bestFor 80 = .ok (.istore_n 3, 1) := by decide +kernel
theorem dX4_bestFor_81 : decode cX4_bestFor 81 = .ok (.aload_n 0, 1) := by decide +kernel
theorem dX4_bestFor_82 : decode cX4_bestFor 82 = .ok (.getfield 10, 3) := by decide +kernel
theorem dX4_bestFor_85 : decode cX4_bestFor 85 = .ok (.iload 5, 2) := by decide +kernel
theorem dX4_bestFor_87 : decode cX4_bestFor 87 = .ok (.invokevirtual 80, 3) := by decide +kernel
theorem dX4_bestFor_90 : decode cX4_bestFor 90 = .ok (.istore 4, 2) := by decide +kernel
theorem dX4_bestFor_92 : decode cX4_bestFor 92 = .ok (.iinc 5 1, 3) := by decide +kernel
theorem dX4_bestFor_95 : decode cX4_bestFor 95 = .ok (.goto (-70), 3) := by decide +kernel
theorem dX4_bestFor_98 : decode cX4_bestFor 98 = .ok (.iload_n 3, 1) := by decide +kernel
theorem dX4_bestFor_99 : decode cX4_bestFor 99 = .ok (.ireturn, 1) := by decide +kernel
theorem dX4_darkest_0 : decode cX4_darkest 0 = .ok (.iload_n 1, 1) := by decide +kernel
theorem dX4_darkest_1 : decode cX4_darkest 1 = .ok (.invokestatic 59, 3) := by decide +kernel
theorem dX4_darkest_4 : decode cX4_darkest 4 = .ok (.ifCond .eq 17, 3) := by decide +kernel
theorem dX4_darkest_7 : decode cX4_darkest 7 = .ok (.iload_n 2, 1) := by decide +kernel
theorem dX4_darkest_8 : decode cX4_darkest 8 = .ok (.invokestatic 48, 3) := by decide +kernel
theorem dX4_darkest_11 : decode cX4_darkest 11 = .ok (.ifCond .eq 10, 3) := by decide +kernel
theorem dX4_darkest_14 : decode cX4_darkest 14 = .ok (.iload_n 3, 1) := by decide +kernel
theorem dX4_darkest_15 : decode cX4_darkest 15 = .ok (.invokestatic 222, 3) := by decide +kernel
theorem dX4_darkest_18 : decode cX4_darkest 18 = .ok (.ifCond .ne 5, 3) := by decide +kernel
theorem dX4_darkest_21 : decode cX4_darkest 21 = .ok (.iconst (-1), 1) := by decide +kernel
theorem dX4_darkest_22 : decode cX4_darkest 22 = .ok (.ireturn, 1) := by decide +kernel
theorem dX4_darkest_23 : decode cX4_darkest 23 = .ok (.iconst 5, 1) := by decide +kernel
theorem dX4_darkest_24 : decode cX4_darkest 24 = .ok (.istore 4, 2) := by decide +kernel
theorem dX4_darkest_26 : decode cX4_darkest 26 = .ok (.iload 4, 2) := by decide +kernel
theorem dX4_darkest_28 : decode cX4_darkest 28 = .ok (.iconst 1, 1) := by decide +kernel
theorem dX4_darkest_29 : decode cX4_darkest 29 = .ok (.if_icmp .lt 27, 3) := by decide +kernel
theorem dX4_darkest_32 : decode cX4_darkest 32 = .ok (.aload_n 0, 1) := by decide +kernel
theorem dX4_darkest_33 : decode cX4_darkest 33 = .ok (.getfield 10, 3) := by decide +kernel
theorem dX4_darkest_36 : decode cX4_darkest 36 = .ok (.iload_n 1, 1) := by decide +kernel
theorem dX4_darkest_37 : decode cX4_darkest 37 = .ok (.iload_n 2, 1) := by decide +kernel
theorem dX4_darkest_38 : decode cX4_darkest 38 = .ok (.iload 4, 2) := by decide +kernel
theorem dX4_darkest_40 : decode cX4_darkest 40 = .ok (.iload_n 3, 1) := by decide +kernel
theorem dX4_darkest_41 : decode cX4_darkest 41 = .ok (.invokevirtual 225, 3) := by decide +kernel
theorem dX4_darkest_44 : decode cX4_darkest 44 = .ok (.ifCond .eq 6, 3) := by decide +kernel
theorem dX4_darkest_47 : decode cX4_darkest 47 = .ok (.iload 4, 2) := by decide +kernel
theorem dX4_darkest_49 : decode cX4_darkest 49 = .ok (.ireturn, 1) := by decide +kernel
theorem dX4_darkest_50 : decode cX4_darkest 50 = .ok (.iinc 4 (-1), 3) := by decide +kernel
theorem dX4_darkest_53 : decode cX4_darkest 53 = .ok (.goto (-27), 3) := by decide +kernel
theorem dX4_darkest_56 : decode cX4_darkest 56 = .ok (.bipush (-4), 2) := by decide +kernel
theorem dX4_darkest_58 : decode cX4_darkest 58 = .ok (.ireturn, 1) := by decide +kernel
theorem dX4_undo_0 : decode cX4_undo 0 = .ok (.aload_n 0, 1) := by decide +kernel
theorem dX4_undo_1 : decode cX4_undo 1 = .ok (.getfield 26, 3) := by decide +kernel
theorem dX4_undo_4 : decode cX4_undo 4 = .ok (.getfield 209, 3) := by decide +kernel
theorem dX4_undo_7 : decode cX4_undo 7 = .ok (.iconst 1, 1) := by decide +kernel
theorem dX4_undo_8 : decode cX4_undo 8 = .ok (.if_icmp .ge 6, 3) := by decide +kernel
theorem dX4_undo_11 : decode cX4_undo 11 = .ok (.bipush (-2), 2) := by decide +kernel
theorem dX4_undo_13 : decode cX4_undo 13 = .ok (.ireturn, 1) := by decide +kernel
theorem dX4_undo_14 : decode cX4_undo 14 = .ok (.aload_n 0, 1) := by decide +kernel
theorem dX4_undo_15 : decode cX4_undo 15 = .ok (.getfield 26, 3) := by decide +kernel
theorem dX4_undo_18 : decode cX4_undo 18 = .ok (.aload_n 0, 1) := by decide +kernel
theorem dX4_undo_19 : decode cX4_undo 19 = .ok (.getfield 10, 3) := by decide +kernel
theorem dX4_undo_22 : decode cX4_undo 22 = .ok (.invokevirtual 229, 3) := by decide +kernel
theorem dX4_undo_25 : decode cX4_undo 25 = .ok (.aload_n 0, 1) := by decide +kernel
theorem dX4_undo_26 : decode cX4_undo 26 = .ok (.getfield 26, 3) := by decide +kernel
theorem dX4_undo_29 : decode cX4_undo 29 = .ok (.getfield 209, 3) := by decide +kernel
theorem dX4_undo_32 : decode cX4_undo 32 = .ok (.ireturn, 1) := by decide +kernel
theorem dX4_save_0 : decode cX4_save 0 = .ok (.aload_n 0, 1) := by decide +kernel
theorem dX4_save_1 : decode cX4_save 1 = .ok (.getfield 16, 3) := by decide +kernel
theorem dX4_save_4 : decode cX4_save 4 = .ok (.aload_n 0, 1) := by decide +kernel
theorem dX4_save_5 : decode cX4_save 5 = .ok (.getfield 10, 3) := by decide +kernel
theorem dX4_save_8 : decode cX4_save 8 = .ok (.invokevirtual 232, 3) := by decide +kernel
theorem dX4_save_11 : decode cX4_save 11 = .ok (.aload_n 0, 1) := by decide +kernel
theorem dX4_save_12 : decode cX4_save 12 = .ok (.iconst 1, 1) := by decide +kernel
theorem dX4_save_13 : decode cX4_save 13 = .ok (.putfield 19, 3) := by decide +kernel
theorem dX4_save_16 : decode cX4_save 16 = .ok (.aload_n 0, 1) := by decide +kernel
theorem dX4_save_17 : decode cX4_save 17 = .ok (.getfield 10, 3) := by decide +kernel
theorem dX4_save_20 : decode cX4_save 20 = .ok (.invokevirtual 182, 3) := by decide +kernel
theorem dX4_save_23 : decode cX4_save 23 = .ok (.ireturn, 1) := by decide +kernel
theorem dX4_restore_0 : decode cX4_restore 0 = .ok (.aload_n 0, 1) := by decide +kernel
theorem dX4_restore_1 : decode cX4_restore 1 = .ok (.getfield 19, 3) := by decide +kernel
theorem dX4_restore_4 : decode cX4_restore 4 = .ok (.ifCond .ne 6, 3) := by decide +kernel
theorem dX4_restore_7 : decode cX4_restore 7 = .ok (.bipush (-2), 2) := by decide +kernel
theorem dX4_restore_9 : decode cX4_restore 9 = .ok (.ireturn, 1) := by decide +kernel
theorem dX4_restore_10 : decode cX4_restore 10 = .ok (.aload_n 0, 1) := by decide +kernel
theorem dX4_restore_11 : decode cX4_restore 11 = .ok (.getfield 26, 3) := by decide +kernel
theorem dX4_restore_14 : decode cX4_restore 14 = .ok (.aload_n 0, 1) := by decide +kernel
theorem dX4_restore_15 : decode cX4_restore 15 = .ok (.getfield 10, 3) := by decide +kernel
theorem dX4_restore_18 : decode cX4_restore 18 = .ok (.invokevirtual 51, 3) := by decide +kernel
theorem dX4_restore_21 : decode cX4_restore 21 = .ok (.aload_n 0, 1) := by decide +kernel
theorem dX4_restore_22 : decode cX4_restore 22 = .ok (.getfield 10, 3) := by decide +kernel
theorem dX4_restore_25 : decode cX4_restore 25 = .ok (.aload_n 0, 1) := by decide +kernel
theorem dX4_restore_26 : decode cX4_restore 26 = .ok (.getfield 16, 3) := by decide +kernel
theorem dX4_restore_29 : decode cX4_restore 29 = .ok (.invokevirtual 232, 3) := by decide +kernel
theorem dX4_restore_32 : decode cX4_restore 32 = .ok (.aload_n 0, 1) := by decide +kernel
theorem dX4_restore_33 : decode cX4_restore 33 = .ok (.getfield 10, 3) := by decide +kernel
theorem dX4_restore_36 : decode cX4_restore 36 = .ok (.invokevirtual 182, 3) := by decide +kernel
theorem dX4_restore_39 : decode cX4_restore 39 = .ok (.ireturn, 1) := by decide +kernel
theorem dX4_doDeed_0 : decode cX4_doDeed 0 = .ok (.aload_n 0, 1) := by decide +kernel
theorem dX4_doDeed_1 : decode cX4_doDeed 1 = .ok (.getfield 33, 3) := by decide +kernel
theorem dX4_doDeed_4 : decode cX4_doDeed 4 = .ok (.getfield 235, 3) := by decide +kernel
theorem dX4_doDeed_7 : decode cX4_doDeed 7 = .ok (.iload_n 1, 1) := by decide +kernel
theorem dX4_doDeed_8 : decode cX4_doDeed 8 = .ok (.caload, 1) := by decide +kernel
theorem dX4_doDeed_9 : decode cX4_doDeed 9 = .ok (.istore_n 2, 1) := by decide +kernel
theorem dX4_doDeed_10 : decode cX4_doDeed 10 = .ok (.iload_n 2, 1) := by decide +kernel
theorem dX4_doDeed_11 : decode cX4_doDeed 11 = .ok (.bipush 112, 2) := by decide +kernel
theorem dX4_doDeed_13 : decode cX4_doDeed 13 = .ok (.if_icmp .ne 9, 3) := by decide +kernel
theorem dX4_doDeed_16 : decode cX4_doDeed 16 = .ok (.aload_n 0, 1) := by decide +kernel
theorem dX4_doDeed_17 : decode cX4_doDeed 17 = .ok (.iload_n 1, 1) := by decide +kernel
theorem dX4_doDeed_18 : decode cX4_doDeed 18 = .ok (.invokevirtual 239, 3) := by decide +kernel
theorem dX4_doDeed_21 : decode cX4_doDeed 21 = .ok (.ireturn, 1) := by decide +kernel
theorem dX4_doDeed_22 : decode cX4_doDeed 22 = .ok (.iload_n 2, 1) := by decide +kernel
theorem dX4_doDeed_23 : decode cX4_doDeed 23 = .ok (.bipush 115, 2) := by decide +kernel
theorem dX4_doDeed_25 : decode cX4_doDeed 25 = .ok (.if_icmp .ne 23, 3) := by decide +kernel
theorem dX4_doDeed_28 : decode cX4_doDeed 28 = .ok (.aload_n 0, 1) := by decide +kernel
theorem dX4_doDeed_29 : decode cX4_doDeed 29 = .ok (.getfield 10, 3) := by decide +kernel
theorem dX4_doDeed_32 : decode cX4_doDeed 32 = .ok (.aload_n 0, 1) := by decide +kernel
theorem dX4_doDeed_33 : decode cX4_doDeed 33 = .ok (.getfield 33, 3) := by decide +kernel
theorem dX4_doDeed_36 : decode cX4_doDeed 36 = .ok (.getfield 242, 3) := by decide +kernel
theorem dX4_doDeed_39 : decode cX4_doDeed 39 = .ok (.iload_n 1, 1) := by decide +kernel
theorem dX4_doDeed_40 : decode cX4_doDeed 40 = .ok (.iaload, 1) := by decide +kernel
theorem dX4_doDeed_41 : decode cX4_doDeed 41 = .ok (.invokevirtual 62, 3) := by decide +kernel
theorem dX4_doDeed_44 : decode cX4_doDeed 44 = .ok (.pop, 1) := by decide +kernel
theorem dX4_doDeed_45 : decode cX4_doDeed 45 = .ok (.goto 29, 3) := by decide +kernel
theorem dX4_doDeed_48 : decode cX4_doDeed 48 = .ok (.aload_n 0, 1) := by decide +kernel
theorem dX4_doDeed_49 : decode cX4_doDeed 49 = .ok (.getfield 10, 3) := by decide +kernel
theorem dX4_doDeed_52 : decode cX4_doDeed 52 = .ok (.aload_n 0, 1) := by decide +kernel
theorem dX4_doDeed_53 : decode cX4_doDeed 53 = .ok (.getfield 33, 3) := by decide +kernel
theorem dX4_doDeed_56 : decode cX4_doDeed 56 = .ok (.getfield 242, 3) := by decide +kernel
theorem dX4_doDeed_59 : decode cX4_doDeed 59 = .ok (.iload_n 1, 1) := by decide +kernel
theorem dX4_doDeed_60 : decode cX4_doDeed 60 = .ok (.iaload, 1) := by decide +kernel
theorem dX4_doDeed_61 : decode cX4_doDeed 61 = .ok (.aload_n 0, 1) := by decide +kernel
theorem dX4_doDeed_62 : decode cX4_doDeed 62 = .ok (.getfield 33, 3) := by decide +kernel
theorem dX4_doDeed_65 : decode cX4_doDeed 65 = .ok (.getfield 245, 3) := by decide +kernel
theorem dX4_doDeed_68 : decode cX4_doDeed 68 = .ok (.iload_n 1, 1) := by decide +kernel
theorem dX4_doDeed_69 : decode cX4_doDeed 69 = .ok (.iaload, 1) := by decide +kernel
theorem dX4_doDeed_70 : decode cX4_doDeed 70 = .ok (.invokevirtual 66, 3) := by decide +kernel
theorem dX4_doDeed_73 : decode cX4_doDeed 73 = .ok (.pop, 1) := by decide +kernel
theorem dX4_doDeed_74 : decode cX4_doDeed 74 = .ok (.iconst 0, 1) := by decide +kernel
theorem dX4_doDeed_75 : decode cX4_doDeed 75 = .ok (.ireturn, 1) := by decide +kernel
theorem dX4_printPagesOf_0 : decode cX4_printPagesOf 0 = .ok (.aload_n 0, 1) := by decide +kernel
theorem dX4_printPagesOf_1 : decode cX4_printPagesOf 1 = .ok (.getfield 33, 3) := by decide +kernel
theorem dX4_printPagesOf_4 : decode cX4_printPagesOf 4 = .ok (.getfield 248, 3) := by decide +kernel
theorem dX4_printPagesOf_7 : decode cX4_printPagesOf 7 = .ok (.iload_n 1, 1) := by decide +kernel
theorem dX4_printPagesOf_8 : decode cX4_printPagesOf 8 = .ok (.iaload, 1) := by decide +kernel
theorem dX4_printPagesOf_9 : decode cX4_printPagesOf 9 = .ok (.istore_n 2, 1) := by decide +kernel
theorem dX4_printPagesOf_10 : decode cX4_printPagesOf 10 = .ok (.iconst 0, 1) := by decide +kernel
theorem dX4_printPagesOf_11 : decode cX4_printPagesOf 11 = .ok (.istore_n 3, 1) := by decide +kernel
theorem dX4_printPagesOf_12 : decode cX4_printPagesOf 12 = .ok (.iload_n 3, 1) := by decide +kernel
theorem dX4_printPagesOf_13 : decode cX4_printPagesOf 13 = .ok (.iload_n 2, 1) := by decide +kernel
theorem dX4_printPagesOf_14 : decode cX4_printPagesOf 14 = .ok (.if_icmp .ge 65, 3) := by decide +kernel
theorem dX4_printPagesOf_17 : decode cX4_printPagesOf 17 = .ok (.aload_n 0, 1) := by decide +kernel
theorem dX4_printPagesOf_18 : decode cX4_printPagesOf 18 = .ok (.getfield 10, 3) := by decide +kernel
theorem dX4_printPagesOf_21 : decode cX4_printPagesOf 21 = .ok (.aload_n 0, 1) := by decide +kernel
theorem dX4_printPagesOf_22 : decode cX4_printPagesOf 22 = .ok (.getfield 33, 3) := by decide +kernel
theorem dX4_printPagesOf_25 : decode cX4_printPagesOf 25 = .ok (.getfield 242, 3) := by decide +kernel
theorem dX4_printPagesOf_28 : decode cX4_printPagesOf 28 = .ok (.iload_n 1, 1) := by decide +kernel
theorem dX4_printPagesOf_29 : decode cX4_printPagesOf 29 = .ok (.iaload, 1) := by decide +kernel
theorem dX4_printPagesOf_30 : decode cX4_printPagesOf 30 = .ok (.aload_n 0, 1) := by decide +kernel
theorem dX4_printPagesOf_31 : decode cX4_printPagesOf 31 = .ok (.getfield 33, 3) := by decide +kernel
theorem dX4_printPagesOf_34 : decode cX4_printPagesOf 34 = .ok (.getfield 245, 3) := by decide +kernel
theorem dX4_printPagesOf_37 : decode cX4_printPagesOf 37 = .ok (.iload_n 1, 1) := by decide +kernel
theorem dX4_printPagesOf_38 : decode cX4_printPagesOf 38 = .ok (.iaload, 1) := by decide +kernel
theorem dX4_printPagesOf_39 : decode cX4_printPagesOf 39 = .ok (.invokevirtual 55, 3) := by decide +kernel
theorem dX4_printPagesOf_42 : decode cX4_printPagesOf 42 = .ok (.istore 4, 2) := by decide +kernel
theorem dX4_printPagesOf_44 : decode cX4_printPagesOf 44 = .ok (.iload 4, 2) := by decide +kernel
theorem dX4_printPagesOf_46 : decode cX4_printPagesOf 46 = .ok (.bipush 10, 2) := by decide +kernel
theorem dX4_printPagesOf_48 : decode cX4_printPagesOf 48 = .ok (.if_icmp .ge 25, 3) := by decide +kernel
theorem dX4_printPagesOf_51 : decode cX4_printPagesOf 51 = .ok (.aload_n 0, 1) := by decide +kernel
theorem dX4_printPagesOf_52 : decode cX4_printPagesOf 52 = .ok (.getfield 40, 3) := by decide +kernel
theorem dX4_printPagesOf_55 : decode cX4_printPagesOf 55 = .ok (.iload 4, 2) := by decide +kernel
theorem dX4_printPagesOf_57 : decode cX4_printPagesOf 57 = .ok (.iload_n 1, 1) := by decide +kernel
theorem dX4_printPagesOf_58 : decode cX4_printPagesOf 58 = .ok (.aload_n 0, 1) := by decide +kernel
theorem dX4_printPagesOf_59 : decode cX4_printPagesOf 59 = .ok (.getfield 33, 3) := by decide +kernel
theorem dX4_printPagesOf_62 : decode cX4_printPagesOf 62 = .ok (.getfield 251, 3) := by decide +kernel
theorem dX4_printPagesOf_65 : decode cX4_printPagesOf 65 = .ok (.iload_n 1, 1) := by decide +kernel
theorem dX4_printPagesOf_66 : decode cX4_printPagesOf 66 = .ok (.iaload, 1) := by decide +kernel
theorem dX4_printPagesOf_67 : decode cX4_printPagesOf 67 = .ok (.iload_n 3, 1) := by decide +kernel
theorem dX4_printPagesOf_68 : decode cX4_printPagesOf 68 = .ok (.invokevirtual 254, 3) := by decide +kernel
theorem dX4_printPagesOf_71 : decode cX4_printPagesOf 71 = .ok (.iload_n 3, 1) := by decide +kernel
theorem dX4_printPagesOf_72 : decode cX4_printPagesOf 72 = .ok (.ireturn, 1) := by decide +kernel
theorem dX4_printPagesOf_73 : decode cX4_printPagesOf 73 = .ok (.iinc 3 1, 3) := by decide +kernel
theorem dX4_printPagesOf_76 : decode cX4_printPagesOf 76 = .ok (.goto (-64), 3) := by decide +kernel
theorem dX4_printPagesOf_79 : decode cX4_printPagesOf 79 = .ok (.iload_n 2, 1) := by decide +kernel
theorem dX4_printPagesOf_80 : decode cX4_printPagesOf 80 = .ok (.ireturn, 1) := by decide +kernel
theorem dX4_isCup_0 : decode cX4_isCup 0 = .ok (.iload_n 0, 1) := by decide +kernel
theorem dX4_isCup_1 : decode cX4_isCup 1 = .ok (.ifCond .lt 12, 3) := by decide +kernel
theorem dX4_isCup_4 : decode cX4_isCup 4 = .ok (.iload_n 0, 1) := by decide +kernel
theorem dX4_isCup_5 : decode cX4_isCup 5 = .ok (.iconst 4, 1) := by decide +kernel
theorem dX4_isCup_6 : decode cX4_isCup 6 = .ok (.if_icmp .ge 7, 3) := by decide +kernel
theorem dX4_isCup_9 : decode cX4_isCup 9 = .ok (.iconst 1, 1) := by decide +kernel
theorem dX4_isCup_10 : decode cX4_isCup 10 = .ok (.goto 4, 3) := by decide +kernel
theorem dX4_isCup_13 : decode cX4_isCup 13 = .ok (.iconst 0, 1) := by decide +kernel
theorem dX4_isCup_14 : decode cX4_isCup 14 = .ok (.ireturn, 1) := by decide +kernel
theorem dX4_isPrinter_0 : decode cX4_isPrinter 0 = .ok (.iload_n 0, 1) := by decide +kernel
theorem dX4_isPrinter_1 : decode cX4_isPrinter 1 = .ok (.ifCond .lt 12, 3) := by decide +kernel
theorem dX4_isPrinter_4 : decode cX4_isPrinter 4 = .ok (.iload_n 0, 1) := by decide +kernel
theorem dX4_isPrinter_5 : decode cX4_isPrinter 5 = .ok (.iconst 2, 1) := by decide +kernel
theorem dX4_isPrinter_6 : decode cX4_isPrinter 6 = .ok (.if_icmp .ge 7, 3) := by decide +kernel
theorem dX4_isPrinter_9 : decode cX4_isPrinter 9 = .ok (.iconst 1, 1) := by decide +kernel
theorem dX4_isPrinter_10 : decode cX4_isPrinter 10 = .ok (.goto 4, 3) := by decide +kernel
theorem dX4_isPrinter_13 : decode cX4_isPrinter 13 = .ok (.iconst 0, 1) := by decide +kernel
theorem dX4_isPrinter_14 : decode cX4_isPrinter 14 = .ok (.ireturn, 1) := by decide +kernel
theorem dX4_isDots_0 : decode cX4_isDots 0 = .ok (.iload_n 0, 1) := by decide +kernel
theorem dX4_isDots_1 : decode cX4_isDots 1 = .ok (.iconst 1, 1) := by decide +kernel
theorem dX4_isDots_2 : decode cX4_isDots 2 = .ok (.if_icmp .lt 14, 3) := by decide +kernel
theorem dX4_isDots_5 : decode cX4_isDots 5 = .ok (.iload_n 0, 1) := by decide +kernel
theorem dX4_isDots_6 : decode cX4_isDots 6 = .ok (.sipush 999, 3) := by decide +kernel
theorem dX4_isDots_9 : decode cX4_isDots 9 = .ok (.if_icmp .gt 7, 3) := by decide +kernel
theorem dX4_isDots_12 : decode cX4_isDots 12 = .ok (.iconst 1, 1) := by decide +kernel
theorem dX4_isDots_13 : decode cX4_isDots 13 = .ok (.goto 4, 3) := by decide +kernel
theorem dX4_isDots_16 : decode cX4_isDots 16 = .ok (.iconst 0, 1) := by decide +kernel
theorem dX4_isDots_17 : decode cX4_isDots 17 = .ok (.ireturn, 1) := by decide +kernel
theorem dX4_isJobLength_0 : decode cX4_isJobLength 0 = .ok (.iload_n 0, 1) := by decide +kernel
theorem dX4_isJobLength_1 : decode cX4_isJobLength 1 = .ok (.iconst 1, 1) := by decide +kernel
theorem dX4_isJobLength_2 : decode cX4_isJobLength 2 = .ok (.if_icmp .lt 13, 3) := by decide +kernel
theorem dX4_isJobLength_5 : decode cX4_isJobLength 5 = .ok (.iload_n 0, 1) := by decide +kernel
theorem dX4_isJobLength_6 : decode cX4_isJobLength 6 = .ok (.bipush 50, 2) := by decide +kernel
theorem dX4_isJobLength_8 : decode cX4_isJobLength 8 = .ok (.if_icmp .gt 7, 3) := by decide +kernel
theorem dX4_isJobLength_11 : decode cX4_isJobLength 11 = .ok (.iconst 1, 1) := by decide +kernel
theorem dX4_isJobLength_12 : decode cX4_isJobLength 12 = .ok (.goto 4, 3) := by decide +kernel
theorem dX4_isJobLength_15 : decode cX4_isJobLength 15 = .ok (.iconst 0, 1) := by decide +kernel
theorem dX4_isJobLength_16 : decode cX4_isJobLength 16 = .ok (.ireturn, 1) := by decide +kernel
theorem dX4_share_0 : decode cX4_share 0 = .ok (.iload_n 1, 1) := by decide +kernel
theorem dX4_share_1 : decode cX4_share 1 = .ok (.ifCond .le 9, 3) := by decide +kernel
theorem dX4_share_4 : decode cX4_share 4 = .ok (.iload_n 0, 1) := by decide +kernel
theorem dX4_share_5 : decode cX4_share 5 = .ok (.iload_n 1, 1) := by decide +kernel
theorem dX4_share_6 : decode cX4_share 6 = .ok (.idiv, 1) := by decide +kernel
theorem dX4_share_7 : decode cX4_share 7 = .ok (.goto 4, 3) := by decide +kernel
theorem dX4_share_10 : decode cX4_share 10 = .ok (.iconst 0, 1) := by decide +kernel
theorem dX4_share_11 : decode cX4_share 11 = .ok (.ireturn, 1) := by decide +kernel
theorem dL_cell_0 : decode cL_cell 0 = .ok (.iload_n 1, 1) := by decide +kernel
theorem dL_cell_1 : decode cL_cell 1 = .ok (.aload_n 0, 1) := by decide +kernel
theorem dL_cell_2 : decode cL_cell 2 = .ok (.arraylength, 1) := by decide +kernel
theorem dL_cell_3 : decode cL_cell 3 = .ok (.if_icmp .ge 9, 3) := by decide +kernel
theorem dL_cell_6 : decode cL_cell 6 = .ok (.aload_n 0, 1) := by decide +kernel
theorem dL_cell_7 : decode cL_cell 7 = .ok (.iload_n 1, 1) := by decide +kernel
theorem dL_cell_8 : decode cL_cell 8 = .ok (.iaload, 1) := by decide +kernel
theorem dL_cell_9 : decode cL_cell 9 = .ok (.goto 13, 3) := by decide +kernel
theorem dL_cell_12 : decode cL_cell 12 = .ok (.ldc 7, 2) := by decide +kernel
theorem dL_cell_14 : decode cL_cell 14 = .ok (.iload_n 1, 1) := by decide +kernel
theorem dL_cell_15 : decode cL_cell 15 = .ok (.bipush 29, 2) := by decide +kernel
theorem dL_cell_17 : decode cL_cell 17 = .ok (.iadd, 1) := by decide +kernel
theorem dL_cell_18 : decode cL_cell 18 = .ok (.imul, 1) := by decide +kernel
theorem dL_cell_19 : decode cL_cell 19 = .ok (.bipush 61, 2) := by decide +kernel
theorem dL_cell_21 : decode cL_cell 21 = .ok (.iadd, 1) := by decide +kernel
theorem dL_cell_22 : decode cL_cell 22 = .ok (.ldc 8, 2) := by decide +kernel
theorem dL_cell_24 : decode cL_cell 24 = .ok (.iand, 1) := by decide +kernel
theorem dL_cell_25 : decode cL_cell 25 = .ok (.ireturn, 1) := by decide +kernel
theorem dL_acts_0 : decode cL_acts 0 = .ok (.iload_n 1, 1) := by decide +kernel
theorem dL_acts_1 : decode cL_acts 1 = .ok (.bipush 32, 2) := by decide +kernel
theorem dL_acts_3 : decode cL_acts 3 = .ok (.idiv, 1) := by decide +kernel
theorem dL_acts_4 : decode cL_acts 4 = .ok (.istore_n 2, 1) := by decide +kernel
theorem dL_acts_5 : decode cL_acts 5 = .ok (.iload_n 1, 1) := by decide +kernel
theorem dL_acts_6 : decode cL_acts 6 = .ok (.bipush 32, 2) := by decide +kernel
theorem dL_acts_8 : decode cL_acts 8 = .ok (.irem, 1) := by decide +kernel
theorem dL_acts_9 : decode cL_acts 9 = .ok (.tableswitch 556 0 18 #[91, 91, 91, 99, 99, 99, 112, 120, 120, 137, 137, 216, 216, 221, 226, 231, 231, 231, 231], 91) := by decide +kernel
theorem dL_acts_100 : decode cL_acts 100 = .ok (.aload_n 0, 1) := by decide +kernel
theorem dL_acts_101 : decode cL_acts 101 = .ok (.iload_n 2, 1) := by decide +kernel
theorem dL_acts_102 : decode cL_acts 102 = .ok (.iconst 4, 1) := by decide +kernel
theorem dL_acts_103 : decode cL_acts 103 = .ok (.irem, 1) := by decide +kernel
theorem dL_acts_104 : decode cL_acts 104 = .ok (.invokevirtual 9, 3) := by decide +kernel
theorem dL_acts_107 : decode cL_acts 107 = .ok (.ireturn, 1) := by decide +kernel
theorem dL_acts_108 : decode cL_acts 108 = .ok (.aload_n 0, 1) := by decide +kernel
theorem dL_acts_109 : decode cL_acts 109 = .ok (.iload_n 2, 1) := by decide +kernel
theorem dL_acts_110 : decode cL_acts 110 = .ok (.iconst 4, 1) := by decide +kernel
theorem dL_acts_111 : decode cL_acts 111 = .ok (.irem, 1) := by decide +kernel
theorem dL_acts_112 : decode cL_acts 112 = .ok (.iload_n 2, 1) := by decide +kernel
theorem dL_acts_113 : decode cL_acts 113 = .ok (.iconst 4, 1) := by decide +kernel
theorem dL_acts_114 : decode cL_acts 114 = .ok (.idiv, 1) := by decide +kernel
theorem dL_acts_115 : decode cL_acts 115 = .ok (.iconst 2, 1) := by decide +kernel
theorem dL_acts_116 : decode cL_acts 116 = .ok (.irem, 1) := by decide +kernel
theorem dL_acts_117 : decode cL_acts 117 = .ok (.invokevirtual 15, 3) := by decide +kernel
theorem dL_acts_120 : decode cL_acts 120 = .ok (.ireturn, 1) := by decide +kernel
theorem dL_acts_121 : decode cL_acts 121 = .ok (.aload_n 0, 1) := by decide +kernel
theorem dL_acts_122 : decode cL_acts 122 = .ok (.iload_n 2, 1) := by decide +kernel
theorem dL_acts_123 : decode cL_acts 123 = .ok (.iconst 2, 1) := by decide +kernel
theorem dL_acts_124 : decode cL_acts 124 = .ok (.irem, 1) := by decide +kernel
theorem dL_acts_125 : decode cL_acts 125 = .ok (.invokevirtual 19, 3) := by decide +kernel
theorem dL_acts_128 : decode cL_acts 128 = .ok (.ireturn, 1) := by decide +kernel
theorem dL_acts_129 : decode cL_acts 129 = .ok (.aload_n 0, 1) := by decide +kernel
theorem dL_acts_130 : decode cL_acts 130 = .ok (.iload_n 2, 1) := by decide +kernel
theorem dL_acts_131 : decode cL_acts 131 = .ok (.iconst 4, 1) := by decide +kernel
theorem dL_acts_132 : decode cL_acts 132 = .ok (.irem, 1) := by decide +kernel
theorem dL_acts_133 : decode cL_acts 133 = .ok (.iconst 1, 1) := by decide +kernel
theorem dL_acts_134 : decode cL_acts 134 = .ok (.iload_n 2, 1) := by decide +kernel
theorem dL_acts_135 : decode cL_acts 135 = .ok (.iconst 4, 1) := by decide +kernel
theorem dL_acts_136 : decode cL_acts 136 = .ok (.idiv, 1) := by decide +kernel
theorem dL_acts_137 : decode cL_acts 137 = .ok (.sipush 6000, 3) := by decide +kernel
theorem dL_acts_140 : decode cL_acts 140 = .ok (.irem, 1) := by decide +kernel
theorem dL_acts_141 : decode cL_acts 141 = .ok (.iadd, 1) := by decide +kernel
theorem dL_acts_142 : decode cL_acts 142 = .ok (.invokevirtual 22, 3) := by decide +kernel
theorem dL_acts_145 : decode cL_acts 145 = .ok (.ireturn, 1) := by decide +kernel
theorem dL_acts_146 : decode cL_acts 146 = .ok (.iload_n 2, 1) := by decide +kernel
theorem dL_acts_147 : decode cL_acts 147 = .ok (.iconst 4, 1) := by decide +kernel
theorem dL_acts_148 : decode cL_acts 148 = .ok (.irem, 1) := by decide +kernel
theorem dL_acts_149 : decode cL_acts 149 = .ok (.ifCond .ne 18, 3) := by decide +kernel
theorem dL_acts_152 : decode cL_acts 152 = .ok (.aload_n 0, 1) := by decide +kernel
theorem dL_acts_153 : decode cL_acts 153 = .ok (.iconst 0, 1) := by decide +kernel
theorem dL_acts_154 : decode cL_acts 154 = .ok (.iconst 1, 1) := by decide +kernel
theorem dL_acts_155 : decode cL_acts 155 = .ok (.iload_n 2, 1) := by decide +kernel
theorem dL_acts_156 : decode cL_acts 156 = .ok (.iconst 4, 1) := by decide +kernel
theorem dL_acts_157 : decode cL_acts 157 = .ok (.idiv, 1) := by decide +kernel
theorem dL_acts_158 : decode cL_acts 158 = .ok (.iconst 5, 1) := by decide +kernel
theorem dL_acts_159 : decode cL_acts 159 = .ok (.irem, 1) := by decide +kernel
theorem dL_acts_160 : decode cL_acts 160 = .ok (.iadd, 1) := by decide +kernel
theorem dL_acts_161 : decode cL_acts 161 = .ok (.invokevirtual 25, 3) := by decide +kernel
theorem dL_acts_164 : decode cL_acts 164 = .ok (.goto 60, 3) := by decide +kernel
theorem dL_acts_167 : decode cL_acts 167 = .ok (.iload_n 2, 1) := by decide +kernel
theorem dL_acts_168 : decode cL_acts 168 = .ok (.iconst 4, 1) := by decide +kernel
theorem dL_acts_169 : decode cL_acts 169 = .ok (.irem, 1) := by decide +kernel
theorem dL_acts_170 : decode cL_acts 170 = .ok (.iconst 1, 1) := by decide +kernel
theorem dL_acts_171 : decode cL_acts 171 = .ok (.if_icmp .ne 19, 3) := by decide +kernel
theorem dL_acts_174 : decode cL_acts 174 = .ok (.aload_n 0, 1) := by decide +kernel
theorem dL_acts_175 : decode cL_acts 175 = .ok (.iconst 1, 1) := by decide +kernel
theorem dL_acts_176 : decode cL_acts 176 = .ok (.iconst 2, 1) := by decide +kernel
theorem dL_acts_177 : decode cL_acts 177 = .ok (.iload_n 2, 1) := by decide +kernel
theorem dL_acts_178 : decode cL_acts 178 = .ok (.iconst 4, 1) := by decide +kernel
theorem dL_acts_179 : decode cL_acts 179 = .ok (.idiv, 1) := by decide +kernel
theorem dL_acts_180 : decode cL_acts 180 = .ok (.bipush 49, 2) := by decide +kernel
theorem dL_acts_182 : decode cL_acts 182 = .ok (.irem, 1) := by decide +kernel
theorem dL_acts_183 : decode cL_acts 183 = .ok (.iadd, 1) := by decide +kernel
theorem dL_acts_184 : decode cL_acts 184 = .ok (.invokevirtual 25, 3) := by decide +kernel
theorem dL_acts_187 : decode cL_acts 187 = .ok (.goto 37, 3) := by decide +kernel
theorem dL_acts_190 : decode cL_acts 190 = .ok (.iload_n 2, 1) := by decide +kernel
theorem dL_acts_191 : decode cL_acts 191 = .ok (.iconst 4, 1) := by decide +kernel
theorem dL_acts_192 : decode cL_acts 192 = .ok (.irem, 1) := by decide +kernel
theorem dL_acts_193 : decode cL_acts 193 = .ok (.iconst 2, 1) := by decide +kernel
theorem dL_acts_194 : decode cL_acts 194 = .ok (.if_icmp .ne 16, 3) := by decide +kernel
theorem dL_acts_197 : decode cL_acts 197 = .ok (.aload_n 0, 1) := by decide +kernel
theorem dL_acts_198 : decode cL_acts 198 = .ok (.iconst 2, 1) := by decide +kernel
theorem dL_acts_199 : decode cL_acts 199 = .ok (.iload_n 2, 1) := by decide +kernel
theorem dL_acts_200 : decode cL_acts 200 = .ok (.iconst 4, 1) := by decide +kernel
theorem dL_acts_201 : decode cL_acts 201 = .ok (.idiv, 1) := by decide +kernel
theorem dL_acts_202 : decode cL_acts 202 = .ok (.iconst 2, 1) := by decide +kernel
theorem dL_acts_203 : decode cL_acts 203 = .ok (.irem, 1) := by decide +kernel
theorem dL_acts_204 : decode cL_acts 204 = .ok (.invokevirtual 25, 3) := by decide +kernel
theorem dL_acts_207 : decode cL_acts 207 = .ok (.goto 17, 3) := by decide +kernel
theorem dL_acts_210 : decode cL_acts 210 = .ok (.aload_n 0, 1) := by decide +kernel
theorem dL_acts_211 : decode cL_acts 211 = .ok (.iconst 3, 1) := by decide +kernel
theorem dL_acts_212 : decode cL_acts 212 = .ok (.iconst 1, 1) := by decide +kernel
theorem dL_acts_213 : decode cL_acts 213 = .ok (.iload_n 2, 1) := by decide +kernel
theorem dL_acts_214 : decode cL_acts 214 = .ok (.iconst 4, 1) := by decide +kernel
theorem dL_acts_215 : decode cL_acts 215 = .ok (.idiv, 1) := by decide +kernel
theorem dL_acts_216 : decode cL_acts 216 = .ok (.sipush 500, 3) := by decide +kernel
theorem dL_acts_219 : decode cL_acts 219 = .ok (.irem, 1) := by decide +kernel
theorem dL_acts_220 : decode cL_acts 220 = .ok (.iadd, 1) := by decide +kernel
theorem dL_acts_221 : decode cL_acts 221 = .ok (.invokevirtual 25, 3) := by decide +kernel
theorem dL_acts_224 : decode cL_acts 224 = .ok (.ireturn, 1) := by decide +kernel
theorem dL_acts_225 : decode cL_acts 225 = .ok (.aload_n 0, 1) := by decide +kernel
theorem dL_acts_226 : decode cL_acts 226 = .ok (.invokevirtual 28, 3) := by decide +kernel
theorem dL_acts_229 : decode cL_acts 229 = .ok (.ireturn, 1) := by decide +kernel
theorem dL_acts_230 : decode cL_acts 230 = .ok (.aload_n 0, 1) := by decide +kernel
theorem dL_acts_231 : decode cL_acts 231 = .ok (.invokevirtual 32, 3) := by decide +kernel
theorem dL_acts_234 : decode cL_acts 234 = .ok (.ireturn, 1) := by decide +kernel
theorem dL_acts_235 : decode cL_acts 235 = .ok (.aload_n 0, 1) := by decide +kernel
theorem dL_acts_236 : decode cL_acts 236 = .ok (.invokevirtual 35, 3) := by decide +kernel
theorem dL_acts_239 : decode cL_acts 239 = .ok (.ireturn, 1) := by decide +kernel
theorem dL_acts_240 : decode cL_acts 240 = .ok (.aload_n 0, 1) := by decide +kernel
theorem dL_acts_241 : decode cL_acts 241 = .ok (.invokevirtual 38, 3) := by decide +kernel
theorem dL_acts_244 : decode cL_acts 244 = .ok (.istore_n 3, 1) := by decide +kernel
theorem dL_acts_245 : decode cL_acts 245 = .ok (.iconst 0, 1) := by decide +kernel
theorem dL_acts_246 : decode cL_acts 246 = .ok (.istore 4, 2) := by decide +kernel
theorem dL_acts_248 : decode cL_acts 248 = .ok (.iload 4, 2) := by decide +kernel
theorem dL_acts_250 : decode cL_acts 250 = .ok (.iconst 1, 1) := by decide +kernel
theorem dL_acts_251 : decode cL_acts 251 = .ok (.iload_n 2, 1) := by decide +kernel
theorem dL_acts_252 : decode cL_acts 252 = .ok (.iconst 4, 1) := by decide +kernel
theorem dL_acts_253 : decode cL_acts 253 = .ok (.irem, 1) := by decide +kernel
theorem dL_acts_254 : decode cL_acts 254 = .ok (.iadd, 1) := by decide +kernel
theorem dL_acts_255 : decode cL_acts 255 = .ok (.if_icmp .ge 286, 3) := by decide +kernel
theorem dL_acts_258 : decode cL_acts 258 = .ok (.iload_n 2, 1) := by decide +kernel
theorem dL_acts_259 : decode cL_acts 259 = .ok (.iconst 4, 1) := by decide +kernel
theorem dL_acts_260 : decode cL_acts 260 = .ok (.idiv, 1) := by decide +kernel
theorem dL_acts_261 : decode cL_acts 261 = .ok (.iconst 5, 1) := by decide +kernel
theorem dL_acts_262 : decode cL_acts 262 = .ok (.iload 4, 2) := by decide +kernel
theorem dL_acts_264 : decode cL_acts 264 = .ok (.imul, 1) := by decide +kernel
theorem dL_acts_265 : decode cL_acts 265 = .ok (.ishr, 1) := by decide +kernel
theorem dL_acts_266 : decode cL_acts 266 = .ok (.istore 5, 2) := by decide +kernel
theorem dL_acts_268 : decode cL_acts 268 = .ok (.iload 4, 2) := by decide +kernel
theorem dL_acts_270 : decode cL_acts 270 = .ok (.ifCond .le 12, 3) := by decide +kernel
theorem dL_acts_273 : decode cL_acts 273 = .ok (.aload_n 0, 1) := by decide +kernel
theorem dL_acts_274 : decode cL_acts 274 = .ok (.bipush 59, 2) := by decide +kernel
theorem dL_acts_276 : decode cL_acts 276 = .ok (.invokevirtual 41, 3) := by decide +kernel
theorem dL_acts_279 : decode cL_acts 279 = .ok (.goto 4, 3) := by decide +kernel
theorem dL_acts_282 : decode cL_acts 282 = .ok (.iconst 0, 1) := by decide +kernel
theorem dL_acts_283 : decode cL_acts 283 = .ok (.istore_n 3, 1) := by decide +kernel
theorem dL_acts_284 : decode cL_acts 284 = .ok (.iload 5, 2) := by decide +kernel
theorem dL_acts_286 : decode cL_acts 286 = .ok (.bipush 8, 2) := by decide +kernel
theorem dL_acts_288 : decode cL_acts 288 = .ok (.irem, 1) := by decide +kernel
theorem dL_acts_289 : decode cL_acts 289 = .ok (.iconst 5, 1) := by decide +kernel
theorem dL_acts_290 : decode cL_acts 290 = .ok (.if_icmp .ge 161, 3) := by decide +kernel
theorem dL_acts_293 : decode cL_acts 293 = .ok (.aload_n 0, 1) := by decide +kernel
theorem dL_acts_294 : decode cL_acts 294 = .ok (.bipush 112, 2) := by decide +kernel
theorem dL_acts_296 : decode cL_acts 296 = .ok (.invokevirtual 41, 3) := by decide +kernel
theorem dL_acts_299 : decode cL_acts 299 = .ok (.istore_n 3, 1) := by decide +kernel
theorem dL_acts_300 : decode cL_acts 300 = .ok (.aload_n 0, 1) := by decide +kernel
theorem dL_acts_301 : decode cL_acts 301 = .ok (.bipush 48, 2) := by decide +kernel
theorem dL_acts_303 : decode cL_acts 303 = .ok (.iload 5, 2) := by decide +kernel
theorem dL_acts_305 : decode cL_acts 305 = .ok (.bipush 8, 2) := by decide +kernel
theorem dL_acts_307 : decode cL_acts 307 = .ok (.idiv, 1) := by decide +kernel
theorem dL_acts_308 : decode cL_acts 308 = .ok (.iconst 2, 1) := by decide +kernel
theorem dL_acts_309 : decode cL_acts 309 = .ok (.irem, 1) := by decide +kernel
theorem dL_acts_310 : decode cL_acts 310 = .ok (.iadd, 1) := by decide +kernel
theorem dL_acts_311 : decode cL_acts 311 = .ok (.invokevirtual 41, 3) := by decide +kernel
theorem dL_acts_314 : decode cL_acts 314 = .ok (.istore_n 3, 1) := by decide +kernel
theorem dL_acts_315 : decode cL_acts 315 = .ok (.aload_n 0, 1) := by decide +kernel
theorem dL_acts_316 : decode cL_acts 316 = .ok (.bipush 58, 2) := by decide +kernel
theorem dL_acts_318 : decode cL_acts 318 = .ok (.invokevirtual 41, 3) := by decide +kernel
theorem dL_acts_321 : decode cL_acts 321 = .ok (.istore_n 3, 1) := by decide +kernel
theorem dL_acts_322 : decode cL_acts 322 = .ok (.aload_n 0, 1) := by decide +kernel
theorem dL_acts_323 : decode cL_acts 323 = .ok (.bipush 49, 2) := by decide +kernel
theorem dL_acts_325 : decode cL_acts 325 = .ok (.iload 5, 2) := by decide +kernel
theorem dL_acts_327 : decode cL_acts 327 = .ok (.bipush 16, 2) := by decide +kernel
theorem dL_acts_329 : decode cL_acts 329 = .ok (.idiv, 1) := by decide +kernel
theorem dL_acts_330 : decode cL_acts 330 = .ok (.bipush 9, 2) := by decide +kernel
theorem dL_acts_332 : decode cL_acts 332 = .ok (.irem, 1) := by decide +kernel
theorem dL_acts_333 : decode cL_acts 333 = .ok (.iadd, 1) := by decide +kernel
theorem dL_acts_334 : decode cL_acts 334 = .ok (.invokevirtual 41, 3) := by decide +kernel
theorem dL_acts_337 : decode cL_acts 337 = .ok (.istore_n 3, 1) := by decide +kernel
theorem dL_acts_338 : decode cL_acts 338 = .ok (.iload 5, 2) := by decide +kernel
theorem dL_acts_340 : decode cL_acts 340 = .ok (.bipush 8, 2) := by decide +kernel
theorem dL_acts_342 : decode cL_acts 342 = .ok (.irem, 1) := by decide +kernel
theorem dL_acts_343 : decode cL_acts 343 = .ok (.iconst 3, 1) := by decide +kernel
theorem dL_acts_344 : decode cL_acts 344 = .ok (.if_icmp .ge 21, 3) := by decide +kernel
theorem dL_acts_347 : decode cL_acts 347 = .ok (.aload_n 0, 1) := by decide +kernel
theorem dL_acts_348 : decode cL_acts 348 = .ok (.bipush 48, 2) := by decide +kernel
theorem dL_acts_350 : decode cL_acts 350 = .ok (.iload 5, 2) := by decide +kernel
theorem dL_acts_352 : decode cL_acts 352 = .ok (.bipush 32, 2) := by decide +kernel
theorem dL_acts_354 : decode cL_acts 354 = .ok (.idiv, 1) := by decide +kernel
theorem dL_acts_355 : decode cL_acts 355 = .ok (.bipush 10, 2) := by decide +kernel
theorem dL_acts_357 : decode cL_acts 357 = .ok (.irem, 1) := by decide +kernel
theorem dL_acts_358 : decode cL_acts 358 = .ok (.iadd, 1) := by decide +kernel
theorem dL_acts_359 : decode cL_acts 359 = .ok (.invokevirtual 41, 3) := by decide +kernel
theorem dL_acts_362 : decode cL_acts 362 = .ok (.goto 4, 3) := by decide +kernel
theorem dL_acts_365 : decode cL_acts 365 = .ok (.iload_n 3, 1) := by decide +kernel
theorem dL_acts_366 : decode cL_acts 366 = .ok (.istore_n 3, 1) := by decide +kernel
theorem dL_acts_367 : decode cL_acts 367 = .ok (.iload 5, 2) := by decide +kernel
theorem dL_acts_369 : decode cL_acts 369 = .ok (.bipush 8, 2) := by decide +kernel
theorem dL_acts_371 : decode cL_acts 371 = .ok (.irem, 1) := by decide +kernel
theorem dL_acts_372 : decode cL_acts 372 = .ok (.iconst 1, 1) := by decide +kernel
theorem dL_acts_373 : decode cL_acts 373 = .ok (.if_icmp .ge 21, 3) := by decide +kernel
theorem dL_acts_376 : decode cL_acts 376 = .ok (.aload_n 0, 1) := by decide +kernel
theorem dL_acts_377 : decode cL_acts 377 = .ok (.bipush 48, 2) := by decide +kernel
theorem dL_acts_379 : decode cL_acts 379 = .ok (.iload 5, 2) := by decide +kernel
theorem dL_acts_381 : decode cL_acts 381 = .ok (.bipush 64, 2) := by decide +kernel
theorem dL_acts_383 : decode cL_acts 383 = .ok (.idiv, 1) := by decide +kernel
theorem dL_acts_384 : decode cL_acts 384 = .ok (.bipush 10, 2) := by decide +kernel
theorem dL_acts_386 : decode cL_acts 386 = .ok (.irem, 1) := by decide +kernel
theorem dL_acts_387 : decode cL_acts 387 = .ok (.iadd, 1) := by decide +kernel
theorem dL_acts_388 : decode cL_acts 388 = .ok (.invokevirtual 41, 3) := by decide +kernel
theorem dL_acts_391 : decode cL_acts 391 = .ok (.goto 4, 3) := by decide +kernel
theorem dL_acts_394 : decode cL_acts 394 = .ok (.iload_n 3, 1) := by decide +kernel
theorem dL_acts_395 : decode cL_acts 395 = .ok (.istore_n 3, 1) := by decide +kernel
theorem dL_acts_396 : decode cL_acts 396 = .ok (.iload 5, 2) := by decide +kernel
theorem dL_acts_398 : decode cL_acts 398 = .ok (.bipush 16, 2) := by decide +kernel
theorem dL_acts_400 : decode cL_acts 400 = .ok (.idiv, 1) := by decide +kernel
theorem dL_acts_401 : decode cL_acts 401 = .ok (.iconst 3, 1) := by decide +kernel
theorem dL_acts_402 : decode cL_acts 402 = .ok (.irem, 1) := by decide +kernel
theorem dL_acts_403 : decode cL_acts 403 = .ok (.ifCond .ne 12, 3) := by decide +kernel
theorem dL_acts_406 : decode cL_acts 406 = .ok (.aload_n 0, 1) := by decide +kernel
theorem dL_acts_407 : decode cL_acts 407 = .ok (.bipush 120, 2) := by decide +kernel
theorem dL_acts_409 : decode cL_acts 409 = .ok (.invokevirtual 41, 3) := by decide +kernel
theorem dL_acts_412 : decode cL_acts 412 = .ok (.goto 4, 3) := by decide +kernel
theorem dL_acts_415 : decode cL_acts 415 = .ok (.iload_n 3, 1) := by decide +kernel
theorem dL_acts_416 : decode cL_acts 416 = .ok (.istore_n 3, 1) := by decide +kernel
theorem dL_acts_417 : decode cL_acts 417 = .ok (.iload 5, 2) := by decide +kernel
theorem dL_acts_419 : decode cL_acts 419 = .ok (.bipush 16, 2) := by decide +kernel
theorem dL_acts_421 : decode cL_acts 421 = .ok (.idiv, 1) := by decide +kernel
theorem dL_acts_422 : decode cL_acts 422 = .ok (.iconst 3, 1) := by decide +kernel
theorem dL_acts_423 : decode cL_acts 423 = .ok (.irem, 1) := by decide +kernel
theorem dL_acts_424 : decode cL_acts 424 = .ok (.ifCond .ne 22, 3) := by decide +kernel
theorem dL_acts_427 : decode cL_acts 427 = .ok (.aload_n 0, 1) := by decide +kernel
theorem dL_acts_428 : decode cL_acts 428 = .ok (.bipush 50, 2) := by decide +kernel
theorem dL_acts_430 : decode cL_acts 430 = .ok (.iload 5, 2) := by decide +kernel
theorem dL_acts_432 : decode cL_acts 432 = .ok (.sipush 128, 3) := by decide +kernel
theorem dL_acts_435 : decode cL_acts 435 = .ok (.idiv, 1) := by decide +kernel
theorem dL_acts_436 : decode cL_acts 436 = .ok (.bipush 8, 2) := by decide +kernel
theorem dL_acts_438 : decode cL_acts 438 = .ok (.irem, 1) := by decide +kernel
theorem dL_acts_439 : decode cL_acts 439 = .ok (.iadd, 1) := by decide +kernel
theorem dL_acts_440 : decode cL_acts 440 = .ok (.invokevirtual 41, 3) := by decide +kernel
theorem dL_acts_443 : decode cL_acts 443 = .ok (.goto 4, 3) := by decide +kernel
theorem dL_acts_446 : decode cL_acts 446 = .ok (.iload_n 3, 1) := by decide +kernel
theorem dL_acts_447 : decode cL_acts 447 = .ok (.istore_n 3, 1) := by decide +kernel
theorem dL_acts_448 : decode cL_acts 448 = .ok (.goto 87, 3) := by decide +kernel
theorem dL_acts_451 : decode cL_acts 451 = .ok (.aload_n 0, 1) := by decide +kernel
theorem dL_acts_452 : decode cL_acts 452 = .ok (.iload 5, 2) := by decide +kernel
theorem dL_acts_454 : decode cL_acts 454 = .ok (.bipush 8, 2) := by decide +kernel
theorem dL_acts_456 : decode cL_acts 456 = .ok (.irem, 1) := by decide +kernel
theorem dL_acts_457 : decode cL_acts 457 = .ok (.iconst 5, 1) := by decide +kernel
theorem dL_acts_458 : decode cL_acts 458 = .ok (.if_icmp .ne 8, 3) := by decide +kernel
theorem dL_acts_461 : decode cL_acts 461 = .ok (.bipush 115, 2) := by decide +kernel
theorem dL_acts_463 : decode cL_acts 463 = .ok (.goto 5, 3) := by decide +kernel
theorem dL_acts_466 : decode cL_acts 466 = .ok (.bipush 109, 2) := by decide +kernel
theorem dL_acts_468 : decode cL_acts 468 = .ok (.invokevirtual 41, 3) := by decide +kernel
theorem dL_acts_471 : decode cL_acts 471 = .ok (.istore_n 3, 1) := by decide +kernel
theorem dL_acts_472 : decode cL_acts 472 = .ok (.aload_n 0, 1) := by decide +kernel
theorem dL_acts_473 : decode cL_acts 473 = .ok (.bipush 48, 2) := by decide +kernel
theorem dL_acts_475 : decode cL_acts 475 = .ok (.iload 5, 2) := by decide +kernel
theorem dL_acts_477 : decode cL_acts 477 = .ok (.bipush 8, 2) := by decide +kernel
theorem dL_acts_479 : decode cL_acts 479 = .ok (.idiv, 1) := by decide +kernel
theorem dL_acts_480 : decode cL_acts 480 = .ok (.iconst 4, 1) := by decide +kernel
theorem dL_acts_481 : decode cL_acts 481 = .ok (.irem, 1) := by decide +kernel
theorem dL_acts_482 : decode cL_acts 482 = .ok (.iadd, 1) := by decide +kernel
theorem dL_acts_483 : decode cL_acts 483 = .ok (.invokevirtual 41, 3) := by decide +kernel
theorem dL_acts_486 : decode cL_acts 486 = .ok (.istore_n 3, 1) := by decide +kernel
theorem dL_acts_487 : decode cL_acts 487 = .ok (.iload 5, 2) := by decide +kernel
theorem dL_acts_489 : decode cL_acts 489 = .ok (.bipush 8, 2) := by decide +kernel
theorem dL_acts_491 : decode cL_acts 491 = .ok (.irem, 1) := by decide +kernel
theorem dL_acts_492 : decode cL_acts 492 = .ok (.iconst 5, 1) := by decide +kernel
theorem dL_acts_493 : decode cL_acts 493 = .ok (.if_icmp .le 12, 3) := by decide +kernel
theorem dL_acts_496 : decode cL_acts 496 = .ok (.aload_n 0, 1) := by decide +kernel
theorem dL_acts_497 : decode cL_acts 497 = .ok (.bipush 62, 2) := by decide +kernel
theorem dL_acts_499 : decode cL_acts 499 = .ok (.invokevirtual 41, 3) := by decide +kernel
theorem dL_acts_502 : decode cL_acts 502 = .ok (.goto 4, 3) := by decide +kernel
theorem dL_acts_505 : decode cL_acts 505 = .ok (.iload_n 3, 1) := by decide +kernel
end
section
theorem dL_acts_506 : decode cL_acts 506 = .ok (.istore_n 3, 1) := by decide +kernel
theorem dL_acts_507 : decode cL_acts 507 = .ok (.iload 5, 2) := by decide +kernel
theorem dL_acts_509 : decode cL_acts 509 = .ok (.bipush 8, 2) := by decide +kernel
theorem dL_acts_511 : decode cL_acts 511 = .ok (.irem, 1) := by decide +kernel
theorem dL_acts_512 : decode cL_acts 512 = .ok (.iconst 5, 1) := by decide +kernel
theorem dL_acts_513 : decode cL_acts 513 = .ok (.if_icmp .le 20, 3) := by decide +kernel
theorem dL_acts_516 : decode cL_acts 516 = .ok (.aload_n 0, 1) := by decide +kernel
theorem dL_acts_517 : decode cL_acts 517 = .ok (.bipush 48, 2) := by decide +kernel
theorem dL_acts_519 : decode cL_acts 519 = .ok (.iload 5, 2) := by decide +kernel
theorem dL_acts_521 : decode cL_acts 521 = .ok (.bipush 32, 2) := by decide +kernel
theorem dL_acts_523 : decode cL_acts 523 = .ok (.idiv, 1) := by decide +kernel
theorem dL_acts_524 : decode cL_acts 524 = .ok (.iconst 2, 1) := by decide +kernel
theorem dL_acts_525 : decode cL_acts 525 = .ok (.irem, 1) := by decide +kernel
theorem dL_acts_526 : decode cL_acts 526 = .ok (.iadd, 1) := by decide +kernel
theorem dL_acts_527 : decode cL_acts 527 = .ok (.invokevirtual 41, 3) := by decide +kernel
theorem dL_acts_530 : decode cL_acts 530 = .ok (.goto 4, 3) := by decide +kernel
theorem dL_acts_533 : decode cL_acts 533 = .ok (.iload_n 3, 1) := by decide +kernel
theorem dL_acts_534 : decode cL_acts 534 = .ok (.istore_n 3, 1) := by decide +kernel
theorem dL_acts_535 : decode cL_acts 535 = .ok (.iinc 4 1, 3) := by decide +kernel
theorem dL_acts_538 : decode cL_acts 538 = .ok (.goto (-290), 3) := by decide +kernel
theorem dL_acts_541 : decode cL_acts 541 = .ok (.iload_n 3, 1) := by decide +kernel
theorem dL_acts_542 : decode cL_acts 542 = .ok (.iconst 1, 1) := by decide +kernel
theorem dL_acts_543 : decode cL_acts 543 = .ok (.if_icmp .lt 12, 3) := by decide +kernel
theorem dL_acts_546 : decode cL_acts 546 = .ok (.aload_n 0, 1) := by decide +kernel
theorem dL_acts_547 : decode cL_acts 547 = .ok (.invokevirtual 44, 3) := by decide +kernel
theorem dL_acts_550 : decode cL_acts 550 = .ok (.bipush (-4), 2) := by decide +kernel
theorem dL_acts_552 : decode cL_acts 552 = .ok (.if_icmp .eq 8, 3) := by decide +kernel
theorem dL_acts_555 : decode cL_acts 555 = .ok (.bipush (-9), 2) := by decide +kernel
theorem dL_acts_557 : decode cL_acts 557 = .ok (.goto 7, 3) := by decide +kernel
theorem dL_acts_560 : decode cL_acts 560 = .ok (.aload_n 0, 1) := by decide +kernel
theorem dL_acts_561 : decode cL_acts 561 = .ok (.invokevirtual 47, 3) := by decide +kernel
theorem dL_acts_564 : decode cL_acts 564 = .ok (.ireturn, 1) := by decide +kernel
theorem dL_acts_565 : decode cL_acts 565 = .ok (.aload_n 0, 1) := by decide +kernel
theorem dL_acts_566 : decode cL_acts 566 = .ok (.iload_n 2, 1) := by decide +kernel
theorem dL_acts_567 : decode cL_acts 567 = .ok (.iconst 2, 1) := by decide +kernel
theorem dL_acts_568 : decode cL_acts 568 = .ok (.irem, 1) := by decide +kernel
theorem dL_acts_569 : decode cL_acts 569 = .ok (.iconst 1, 1) := by decide +kernel
theorem dL_acts_570 : decode cL_acts 570 = .ok (.iload_n 2, 1) := by decide +kernel
theorem dL_acts_571 : decode cL_acts 571 = .ok (.iconst 2, 1) := by decide +kernel
theorem dL_acts_572 : decode cL_acts 572 = .ok (.idiv, 1) := by decide +kernel
theorem dL_acts_573 : decode cL_acts 573 = .ok (.iload_n 2, 1) := by decide +kernel
theorem dL_acts_574 : decode cL_acts 574 = .ok (.bipush 7, 2) := by decide +kernel
theorem dL_acts_576 : decode cL_acts 576 = .ok (.irem, 1) := by decide +kernel
theorem dL_acts_577 : decode cL_acts 577 = .ok (.ifCond .ne 9, 3) := by decide +kernel
theorem dL_acts_580 : decode cL_acts 580 = .ok (.sipush 999, 3) := by decide +kernel
theorem dL_acts_583 : decode cL_acts 583 = .ok (.goto 6, 3) := by decide +kernel
theorem dL_acts_586 : decode cL_acts 586 = .ok (.sipush 250, 3) := by decide +kernel
theorem dL_acts_589 : decode cL_acts 589 = .ok (.irem, 1) := by decide +kernel
theorem dL_acts_590 : decode cL_acts 590 = .ok (.iadd, 1) := by decide +kernel
theorem dL_acts_591 : decode cL_acts 591 = .ok (.invokevirtual 50, 3) := by decide +kernel
theorem dL_acts_594 : decode cL_acts 594 = .ok (.ireturn, 1) := by decide +kernel
theorem dL_hangs_0 : decode cL_hangs 0 = .ok (.iconst 0, 1) := by decide +kernel
theorem dL_hangs_1 : decode cL_hangs 1 = .ok (.istore_n 1, 1) := by decide +kernel
theorem dL_hangs_2 : decode cL_hangs 2 = .ok (.iconst 0, 1) := by decide +kernel
theorem dL_hangs_3 : decode cL_hangs 3 = .ok (.istore_n 2, 1) := by decide +kernel
theorem dL_hangs_4 : decode cL_hangs 4 = .ok (.iconst 0, 1) := by decide +kernel
theorem dL_hangs_5 : decode cL_hangs 5 = .ok (.istore_n 3, 1) := by decide +kernel
theorem dL_hangs_6 : decode cL_hangs 6 = .ok (.iconst 0, 1) := by decide +kernel
theorem dL_hangs_7 : decode cL_hangs 7 = .ok (.istore 4, 2) := by decide +kernel
theorem dL_hangs_9 : decode cL_hangs 9 = .ok (.aload_n 0, 1) := by decide +kernel
theorem dL_hangs_10 : decode cL_hangs 10 = .ok (.bipush 8, 2) := by decide +kernel
theorem dL_hangs_12 : decode cL_hangs 12 = .ok (.invokevirtual 53, 3) := by decide +kernel
theorem dL_hangs_15 : decode cL_hangs 15 = .ok (.ifCond .le 79, 3) := by decide +kernel
theorem dL_hangs_18 : decode cL_hangs 18 = .ok (.aload_n 0, 1) := by decide +kernel
theorem dL_hangs_19 : decode cL_hangs 19 = .ok (.bipush 8, 2) := by decide +kernel
theorem dL_hangs_21 : decode cL_hangs 21 = .ok (.invokevirtual 53, 3) := by decide +kernel
theorem dL_hangs_24 : decode cL_hangs 24 = .ok (.bipush 6, 2) := by decide +kernel
theorem dL_hangs_26 : decode cL_hangs 26 = .ok (.if_icmp .ge 68, 3) := by decide +kernel
theorem dL_hangs_29 : decode cL_hangs 29 = .ok (.aload_n 0, 1) := by decide +kernel
theorem dL_hangs_30 : decode cL_hangs 30 = .ok (.bipush 9, 2) := by decide +kernel
theorem dL_hangs_32 : decode cL_hangs 32 = .ok (.invokevirtual 53, 3) := by decide +kernel
theorem dL_hangs_35 : decode cL_hangs 35 = .ok (.iconst 1, 1) := by decide +kernel
theorem dL_hangs_36 : decode cL_hangs 36 = .ok (.if_icmp .le 58, 3) := by decide +kernel
theorem dL_hangs_39 : decode cL_hangs 39 = .ok (.aload_n 0, 1) := by decide +kernel
theorem dL_hangs_40 : decode cL_hangs 40 = .ok (.bipush 9, 2) := by decide +kernel
theorem dL_hangs_42 : decode cL_hangs 42 = .ok (.invokevirtual 53, 3) := by decide +kernel
theorem dL_hangs_45 : decode cL_hangs 45 = .ok (.bipush 51, 2) := by decide +kernel
theorem dL_hangs_47 : decode cL_hangs 47 = .ok (.if_icmp .ge 47, 3) := by decide +kernel
theorem dL_hangs_50 : decode cL_hangs 50 = .ok (.aload_n 0, 1) := by decide +kernel
theorem dL_hangs_51 : decode cL_hangs 51 = .ok (.bipush 10, 2) := by decide +kernel
theorem dL_hangs_53 : decode cL_hangs 53 = .ok (.invokevirtual 53, 3) := by decide +kernel
theorem dL_hangs_56 : decode cL_hangs 56 = .ok (.ifCond .lt 38, 3) := by decide +kernel
theorem dL_hangs_59 : decode cL_hangs 59 = .ok (.aload_n 0, 1) := by decide +kernel
theorem dL_hangs_60 : decode cL_hangs 60 = .ok (.bipush 10, 2) := by decide +kernel
theorem dL_hangs_62 : decode cL_hangs 62 = .ok (.invokevirtual 53, 3) := by decide +kernel
theorem dL_hangs_65 : decode cL_hangs 65 = .ok (.iconst 2, 1) := by decide +kernel
theorem dL_hangs_66 : decode cL_hangs 66 = .ok (.if_icmp .ge 28, 3) := by decide +kernel
theorem dL_hangs_69 : decode cL_hangs 69 = .ok (.aload_n 0, 1) := by decide +kernel
theorem dL_hangs_70 : decode cL_hangs 70 = .ok (.bipush 11, 2) := by decide +kernel
theorem dL_hangs_72 : decode cL_hangs 72 = .ok (.invokevirtual 53, 3) := by decide +kernel
theorem dL_hangs_75 : decode cL_hangs 75 = .ok (.ifCond .le 19, 3) := by decide +kernel
theorem dL_hangs_78 : decode cL_hangs 78 = .ok (.aload_n 0, 1) := by decide +kernel
theorem dL_hangs_79 : decode cL_hangs 79 = .ok (.bipush 11, 2) := by decide +kernel
theorem dL_hangs_81 : decode cL_hangs 81 = .ok (.invokevirtual 53, 3) := by decide +kernel
theorem dL_hangs_84 : decode cL_hangs 84 = .ok (.sipush 501, 3) := by decide +kernel
theorem dL_hangs_87 : decode cL_hangs 87 = .ok (.if_icmp .ge 7, 3) := by decide +kernel
theorem dL_hangs_90 : decode cL_hangs 90 = .ok (.iconst 1, 1) := by decide +kernel
theorem dL_hangs_91 : decode cL_hangs 91 = .ok (.goto 4, 3) := by decide +kernel
theorem dL_hangs_94 : decode cL_hangs 94 = .ok (.iconst 0, 1) := by decide +kernel
theorem dL_hangs_95 : decode cL_hangs 95 = .ok (.istore 5, 2) := by decide +kernel
theorem dL_hangs_97 : decode cL_hangs 97 = .ok (.iconst 0, 1) := by decide +kernel
theorem dL_hangs_98 : decode cL_hangs 98 = .ok (.istore 6, 2) := by decide +kernel
theorem dL_hangs_100 : decode cL_hangs 100 = .ok (.iload 6, 2) := by decide +kernel
theorem dL_hangs_102 : decode cL_hangs 102 = .ok (.iconst 4, 1) := by decide +kernel
theorem dL_hangs_103 : decode cL_hangs 103 = .ok (.if_icmp .ge 538, 3) := by decide +kernel
theorem dL_hangs_106 : decode cL_hangs 106 = .ok (.iload 5, 2) := by decide +kernel
theorem dL_hangs_108 : decode cL_hangs 108 = .ok (.ifCond .eq 533, 3) := by decide +kernel
theorem dL_hangs_111 : decode cL_hangs 111 = .ok (.aload_n 0, 1) := by decide +kernel
theorem dL_hangs_112 : decode cL_hangs 112 = .ok (.iload 6, 2) := by decide +kernel
theorem dL_hangs_114 : decode cL_hangs 114 = .ok (.iconst 1, 1) := by decide +kernel
theorem dL_hangs_115 : decode cL_hangs 115 = .ok (.invokevirtual 56, 3) := by decide +kernel
theorem dL_hangs_118 : decode cL_hangs 118 = .ok (.aload_n 0, 1) := by decide +kernel
theorem dL_hangs_119 : decode cL_hangs 119 = .ok (.iload 6, 2) := by decide +kernel
theorem dL_hangs_121 : decode cL_hangs 121 = .ok (.iconst 2, 1) := by decide +kernel
theorem dL_hangs_122 : decode cL_hangs 122 = .ok (.invokevirtual 56, 3) := by decide +kernel
theorem dL_hangs_125 : decode cL_hangs 125 = .ok (.iadd, 1) := by decide +kernel
theorem dL_hangs_126 : decode cL_hangs 126 = .ok (.istore 7, 2) := by decide +kernel
theorem dL_hangs_128 : decode cL_hangs 128 = .ok (.aload_n 0, 1) := by decide +kernel
theorem dL_hangs_129 : decode cL_hangs 129 = .ok (.iload 6, 2) := by decide +kernel
theorem dL_hangs_131 : decode cL_hangs 131 = .ok (.iconst 5, 1) := by decide +kernel
theorem dL_hangs_132 : decode cL_hangs 132 = .ok (.invokevirtual 56, 3) := by decide +kernel
theorem dL_hangs_135 : decode cL_hangs 135 = .ok (.istore 8, 2) := by decide +kernel
theorem dL_hangs_137 : decode cL_hangs 137 = .ok (.aload_n 0, 1) := by decide +kernel
theorem dL_hangs_138 : decode cL_hangs 138 = .ok (.iload 6, 2) := by decide +kernel
theorem dL_hangs_140 : decode cL_hangs 140 = .ok (.iconst 4, 1) := by decide +kernel
theorem dL_hangs_141 : decode cL_hangs 141 = .ok (.invokevirtual 56, 3) := by decide +kernel
theorem dL_hangs_144 : decode cL_hangs 144 = .ok (.istore 9, 2) := by decide +kernel
theorem dL_hangs_146 : decode cL_hangs 146 = .ok (.aload_n 0, 1) := by decide +kernel
theorem dL_hangs_147 : decode cL_hangs 147 = .ok (.iload 6, 2) := by decide +kernel
theorem dL_hangs_149 : decode cL_hangs 149 = .ok (.iconst 0, 1) := by decide +kernel
theorem dL_hangs_150 : decode cL_hangs 150 = .ok (.invokevirtual 56, 3) := by decide +kernel
theorem dL_hangs_153 : decode cL_hangs 153 = .ok (.ifCond .lt 199, 3) := by decide +kernel
theorem dL_hangs_156 : decode cL_hangs 156 = .ok (.aload_n 0, 1) := by decide +kernel
theorem dL_hangs_157 : decode cL_hangs 157 = .ok (.iload 6, 2) := by decide +kernel
theorem dL_hangs_159 : decode cL_hangs 159 = .ok (.iconst 0, 1) := by decide +kernel
theorem dL_hangs_160 : decode cL_hangs 160 = .ok (.invokevirtual 56, 3) := by decide +kernel
theorem dL_hangs_163 : decode cL_hangs 163 = .ok (.iconst 3, 1) := by decide +kernel
theorem dL_hangs_164 : decode cL_hangs 164 = .ok (.if_icmp .ge 188, 3) := by decide +kernel
theorem dL_hangs_167 : decode cL_hangs 167 = .ok (.aload_n 0, 1) := by decide +kernel
theorem dL_hangs_168 : decode cL_hangs 168 = .ok (.iload 6, 2) := by decide +kernel
theorem dL_hangs_170 : decode cL_hangs 170 = .ok (.iconst 1, 1) := by decide +kernel
theorem dL_hangs_171 : decode cL_hangs 171 = .ok (.invokevirtual 56, 3) := by decide +kernel
theorem dL_hangs_174 : decode cL_hangs 174 = .ok (.ifCond .lt 178, 3) := by decide +kernel
theorem dL_hangs_177 : decode cL_hangs 177 = .ok (.aload_n 0, 1) := by decide +kernel
theorem dL_hangs_178 : decode cL_hangs 178 = .ok (.iload 6, 2) := by decide +kernel
theorem dL_hangs_180 : decode cL_hangs 180 = .ok (.iconst 2, 1) := by decide +kernel
theorem dL_hangs_181 : decode cL_hangs 181 = .ok (.invokevirtual 56, 3) := by decide +kernel
theorem dL_hangs_184 : decode cL_hangs 184 = .ok (.ifCond .lt 168, 3) := by decide +kernel
theorem dL_hangs_187 : decode cL_hangs 187 = .ok (.iload 7, 2) := by decide +kernel
theorem dL_hangs_189 : decode cL_hangs 189 = .ok (.sipush 6000, 3) := by decide +kernel
theorem dL_hangs_192 : decode cL_hangs 192 = .ok (.if_icmp .gt 160, 3) := by decide +kernel
theorem dL_hangs_195 : decode cL_hangs 195 = .ok (.aload_n 0, 1) := by decide +kernel
theorem dL_hangs_196 : decode cL_hangs 196 = .ok (.iload 6, 2) := by decide +kernel
theorem dL_hangs_198 : decode cL_hangs 198 = .ok (.iconst 3, 1) := by decide +kernel
theorem dL_hangs_199 : decode cL_hangs 199 = .ok (.invokevirtual 56, 3) := by decide +kernel
theorem dL_hangs_202 : decode cL_hangs 202 = .ok (.ifCond .lt 150, 3) := by decide +kernel
theorem dL_hangs_205 : decode cL_hangs 205 = .ok (.aload_n 0, 1) := by decide +kernel
theorem dL_hangs_206 : decode cL_hangs 206 = .ok (.iload 6, 2) := by decide +kernel
theorem dL_hangs_208 : decode cL_hangs 208 = .ok (.iconst 3, 1) := by decide +kernel
theorem dL_hangs_209 : decode cL_hangs 209 = .ok (.invokevirtual 56, 3) := by decide +kernel
theorem dL_hangs_212 : decode cL_hangs 212 = .ok (.sipush 4000, 3) := by decide +kernel
theorem dL_hangs_215 : decode cL_hangs 215 = .ok (.if_icmp .gt 137, 3) := by decide +kernel
theorem dL_hangs_218 : decode cL_hangs 218 = .ok (.iload 8, 2) := by decide +kernel
theorem dL_hangs_220 : decode cL_hangs 220 = .ok (.iload 7, 2) := by decide +kernel
theorem dL_hangs_222 : decode cL_hangs 222 = .ok (.if_icmp .gt 130, 3) := by decide +kernel
theorem dL_hangs_225 : decode cL_hangs 225 = .ok (.iload 7, 2) := by decide +kernel
theorem dL_hangs_227 : decode cL_hangs 227 = .ok (.iload 8, 2) := by decide +kernel
theorem dL_hangs_229 : decode cL_hangs 229 = .ok (.isub, 1) := by decide +kernel
theorem dL_hangs_230 : decode cL_hangs 230 = .ok (.aload_n 0, 1) := by decide +kernel
theorem dL_hangs_231 : decode cL_hangs 231 = .ok (.bipush 11, 2) := by decide +kernel
theorem dL_hangs_233 : decode cL_hangs 233 = .ok (.invokevirtual 53, 3) := by decide +kernel
theorem dL_hangs_236 : decode cL_hangs 236 = .ok (.if_icmp .ge 116, 3) := by decide +kernel
theorem dL_hangs_239 : decode cL_hangs 239 = .ok (.iload 8, 2) := by decide +kernel
theorem dL_hangs_241 : decode cL_hangs 241 = .ok (.aload_n 0, 1) := by decide +kernel
theorem dL_hangs_242 : decode cL_hangs 242 = .ok (.bipush 11, 2) := by decide +kernel
theorem dL_hangs_244 : decode cL_hangs 244 = .ok (.invokevirtual 53, 3) := by decide +kernel
theorem dL_hangs_247 : decode cL_hangs 247 = .ok (.irem, 1) := by decide +kernel
theorem dL_hangs_248 : decode cL_hangs 248 = .ok (.ifCond .ne 104, 3) := by decide +kernel
theorem dL_hangs_251 : decode cL_hangs 251 = .ok (.aload_n 0, 1) := by decide +kernel
theorem dL_hangs_252 : decode cL_hangs 252 = .ok (.iload 6, 2) := by decide +kernel
theorem dL_hangs_254 : decode cL_hangs 254 = .ok (.bipush 6, 2) := by decide +kernel
theorem dL_hangs_256 : decode cL_hangs 256 = .ok (.invokevirtual 56, 3) := by decide +kernel
theorem dL_hangs_259 : decode cL_hangs 259 = .ok (.iload 8, 2) := by decide +kernel
theorem dL_hangs_261 : decode cL_hangs 261 = .ok (.aload_n 0, 1) := by decide +kernel
theorem dL_hangs_262 : decode cL_hangs 262 = .ok (.iload 6, 2) := by decide +kernel
theorem dL_hangs_264 : decode cL_hangs 264 = .ok (.iconst 3, 1) := by decide +kernel
theorem dL_hangs_265 : decode cL_hangs 265 = .ok (.invokevirtual 56, 3) := by decide +kernel
theorem dL_hangs_268 : decode cL_hangs 268 = .ok (.iadd, 1) := by decide +kernel
theorem dL_hangs_269 : decode cL_hangs 269 = .ok (.iconst 2, 1) := by decide +kernel
theorem dL_hangs_270 : decode cL_hangs 270 = .ok (.idiv, 1) := by decide +kernel
theorem dL_hangs_271 : decode cL_hangs 271 = .ok (.if_icmp .ne 81, 3) := by decide +kernel
theorem dL_hangs_274 : decode cL_hangs 274 = .ok (.aload_n 0, 1) := by decide +kernel
theorem dL_hangs_275 : decode cL_hangs 275 = .ok (.iload 6, 2) := by decide +kernel
theorem dL_hangs_277 : decode cL_hangs 277 = .ok (.bipush 7, 2) := by decide +kernel
theorem dL_hangs_279 : decode cL_hangs 279 = .ok (.invokevirtual 56, 3) := by decide +kernel
theorem dL_hangs_282 : decode cL_hangs 282 = .ok (.aload_n 0, 1) := by decide +kernel
theorem dL_hangs_283 : decode cL_hangs 283 = .ok (.iload 6, 2) := by decide +kernel
theorem dL_hangs_285 : decode cL_hangs 285 = .ok (.bipush 6, 2) := by decide +kernel
theorem dL_hangs_287 : decode cL_hangs 287 = .ok (.invokevirtual 56, 3) := by decide +kernel
theorem dL_hangs_290 : decode cL_hangs 290 = .ok (.iload 7, 2) := by decide +kernel
theorem dL_hangs_292 : decode cL_hangs 292 = .ok (.isub, 1) := by decide +kernel
theorem dL_hangs_293 : decode cL_hangs 293 = .ok (.ldc 59, 2) := by decide +kernel
theorem dL_hangs_295 : decode cL_hangs 295 = .ok (.iadd, 1) := by decide +kernel
theorem dL_hangs_296 : decode cL_hangs 296 = .ok (.if_icmp .ne 56, 3) := by decide +kernel
theorem dL_hangs_299 : decode cL_hangs 299 = .ok (.iload 9, 2) := by decide +kernel
theorem dL_hangs_301 : decode cL_hangs 301 = .ok (.bipush (-4), 2) := by decide +kernel
theorem dL_hangs_303 : decode cL_hangs 303 = .ok (.if_icmp .eq 26, 3) := by decide +kernel
theorem dL_hangs_306 : decode cL_hangs 306 = .ok (.iload 9, 2) := by decide +kernel
theorem dL_hangs_308 : decode cL_hangs 308 = .ok (.ifCond .lt 44, 3) := by decide +kernel
theorem dL_hangs_311 : decode cL_hangs 311 = .ok (.iload 9, 2) := by decide +kernel
theorem dL_hangs_313 : decode cL_hangs 313 = .ok (.iconst 2, 1) := by decide +kernel
theorem dL_hangs_314 : decode cL_hangs 314 = .ok (.if_icmp .ge 38, 3) := by decide +kernel
theorem dL_hangs_317 : decode cL_hangs 317 = .ok (.aload_n 0, 1) := by decide +kernel
theorem dL_hangs_318 : decode cL_hangs 318 = .ok (.iload 9, 2) := by decide +kernel
theorem dL_hangs_320 : decode cL_hangs 320 = .ok (.iconst 0, 1) := by decide +kernel
theorem dL_hangs_321 : decode cL_hangs 321 = .ok (.invokevirtual 60, 3) := by decide +kernel
theorem dL_hangs_324 : decode cL_hangs 324 = .ok (.iload 6, 2) := by decide +kernel
theorem dL_hangs_326 : decode cL_hangs 326 = .ok (.if_icmp .ne 26, 3) := by decide +kernel
theorem dL_hangs_329 : decode cL_hangs 329 = .ok (.iload 9, 2) := by decide +kernel
theorem dL_hangs_331 : decode cL_hangs 331 = .ok (.bipush (-4), 2) := by decide +kernel
theorem dL_hangs_333 : decode cL_hangs 333 = .ok (.if_icmp .eq 15, 3) := by decide +kernel
theorem dL_hangs_336 : decode cL_hangs 336 = .ok (.aload_n 0, 1) := by decide +kernel
theorem dL_hangs_337 : decode cL_hangs 337 = .ok (.iload 6, 2) := by decide +kernel
theorem dL_hangs_339 : decode cL_hangs 339 = .ok (.iconst 1, 1) := by decide +kernel
theorem dL_hangs_340 : decode cL_hangs 340 = .ok (.invokevirtual 22, 3) := by decide +kernel
theorem dL_hangs_343 : decode cL_hangs 343 = .ok (.bipush (-2), 2) := by decide +kernel
theorem dL_hangs_345 : decode cL_hangs 345 = .ok (.if_icmp .ne 7, 3) := by decide +kernel
theorem dL_hangs_348 : decode cL_hangs 348 = .ok (.iconst 1, 1) := by decide +kernel
theorem dL_hangs_349 : decode cL_hangs 349 = .ok (.goto 4, 3) := by decide +kernel
theorem dL_hangs_352 : decode cL_hangs 352 = .ok (.iconst 0, 1) := by decide +kernel
theorem dL_hangs_353 : decode cL_hangs 353 = .ok (.istore 5, 2) := by decide +kernel
theorem dL_hangs_355 : decode cL_hangs 355 = .ok (.iload_n 1, 1) := by decide +kernel
theorem dL_hangs_356 : decode cL_hangs 356 = .ok (.iload 7, 2) := by decide +kernel
theorem dL_hangs_358 : decode cL_hangs 358 = .ok (.iadd, 1) := by decide +kernel
theorem dL_hangs_359 : decode cL_hangs 359 = .ok (.istore_n 1, 1) := by decide +kernel
theorem dL_hangs_360 : decode cL_hangs 360 = .ok (.iload_n 2, 1) := by decide +kernel
theorem dL_hangs_361 : decode cL_hangs 361 = .ok (.aload_n 0, 1) := by decide +kernel
theorem dL_hangs_362 : decode cL_hangs 362 = .ok (.iload 6, 2) := by decide +kernel
theorem dL_hangs_364 : decode cL_hangs 364 = .ok (.bipush 6, 2) := by decide +kernel
theorem dL_hangs_366 : decode cL_hangs 366 = .ok (.invokevirtual 56, 3) := by decide +kernel
theorem dL_hangs_369 : decode cL_hangs 369 = .ok (.iadd, 1) := by decide +kernel
theorem dL_hangs_370 : decode cL_hangs 370 = .ok (.istore_n 2, 1) := by decide +kernel
theorem dL_hangs_371 : decode cL_hangs 371 = .ok (.iload_n 3, 1) := by decide +kernel
theorem dL_hangs_372 : decode cL_hangs 372 = .ok (.aload_n 0, 1) := by decide +kernel
theorem dL_hangs_373 : decode cL_hangs 373 = .ok (.iload 6, 2) := by decide +kernel
theorem dL_hangs_375 : decode cL_hangs 375 = .ok (.bipush 7, 2) := by decide +kernel
theorem dL_hangs_377 : decode cL_hangs 377 = .ok (.invokevirtual 56, 3) := by decide +kernel
theorem dL_hangs_380 : decode cL_hangs 380 = .ok (.ldc 59, 2) := by decide +kernel
theorem dL_hangs_382 : decode cL_hangs 382 = .ok (.if_icmp .le 7, 3) := by decide +kernel
theorem dL_hangs_385 : decode cL_hangs 385 = .ok (.iconst 1, 1) := by decide +kernel
theorem dL_hangs_386 : decode cL_hangs 386 = .ok (.goto 4, 3) := by decide +kernel
theorem dL_hangs_389 : decode cL_hangs 389 = .ok (.iconst 0, 1) := by decide +kernel
theorem dL_hangs_390 : decode cL_hangs 390 = .ok (.iadd, 1) := by decide +kernel
theorem dL_hangs_391 : decode cL_hangs 391 = .ok (.istore_n 3, 1) := by decide +kernel
theorem dL_hangs_392 : decode cL_hangs 392 = .ok (.iload 4, 2) := by decide +kernel
theorem dL_hangs_394 : decode cL_hangs 394 = .ok (.iload 9, 2) := by decide +kernel
theorem dL_hangs_396 : decode cL_hangs 396 = .ok (.bipush (-4), 2) := by decide +kernel
theorem dL_hangs_398 : decode cL_hangs 398 = .ok (.if_icmp .ne 7, 3) := by decide +kernel
theorem dL_hangs_401 : decode cL_hangs 401 = .ok (.iconst 0, 1) := by decide +kernel
theorem dL_hangs_402 : decode cL_hangs 402 = .ok (.goto 4, 3) := by decide +kernel
theorem dL_hangs_405 : decode cL_hangs 405 = .ok (.iconst 1, 1) := by decide +kernel
theorem dL_hangs_406 : decode cL_hangs 406 = .ok (.iadd, 1) := by decide +kernel
theorem dL_hangs_407 : decode cL_hangs 407 = .ok (.istore 4, 2) := by decide +kernel
theorem dL_hangs_409 : decode cL_hangs 409 = .ok (.iconst 1, 1) := by decide +kernel
theorem dL_hangs_410 : decode cL_hangs 410 = .ok (.istore 10, 2) := by decide +kernel
theorem dL_hangs_412 : decode cL_hangs 412 = .ok (.iload 10, 2) := by decide +kernel
theorem dL_hangs_414 : decode cL_hangs 414 = .ok (.sipush 400, 3) := by decide +kernel
theorem dL_hangs_417 : decode cL_hangs 417 = .ok (.if_icmp .ge 218, 3) := by decide +kernel
theorem dL_hangs_420 : decode cL_hangs 420 = .ok (.iload 5, 2) := by decide +kernel
theorem dL_hangs_422 : decode cL_hangs 422 = .ok (.ifCond .eq 213, 3) := by decide +kernel
theorem dL_hangs_425 : decode cL_hangs 425 = .ok (.aload_n 0, 1) := by decide +kernel
theorem dL_hangs_426 : decode cL_hangs 426 = .ok (.iload 6, 2) := by decide +kernel
theorem dL_hangs_428 : decode cL_hangs 428 = .ok (.iload 10, 2) := by decide +kernel
theorem dL_hangs_430 : decode cL_hangs 430 = .ok (.iconst 0, 1) := by decide +kernel
theorem dL_hangs_431 : decode cL_hangs 431 = .ok (.invokevirtual 63, 3) := by decide +kernel
theorem dL_hangs_434 : decode cL_hangs 434 = .ok (.istore 11, 2) := by decide +kernel
theorem dL_hangs_436 : decode cL_hangs 436 = .ok (.aload_n 0, 1) := by decide +kernel
theorem dL_hangs_437 : decode cL_hangs 437 = .ok (.iload 6, 2) := by decide +kernel
theorem dL_hangs_439 : decode cL_hangs 439 = .ok (.iload 10, 2) := by decide +kernel
theorem dL_hangs_441 : decode cL_hangs 441 = .ok (.iconst 1, 1) := by decide +kernel
theorem dL_hangs_442 : decode cL_hangs 442 = .ok (.invokevirtual 63, 3) := by decide +kernel
theorem dL_hangs_445 : decode cL_hangs 445 = .ok (.istore 12, 2) := by decide +kernel
theorem dL_hangs_447 : decode cL_hangs 447 = .ok (.aload_n 0, 1) := by decide +kernel
theorem dL_hangs_448 : decode cL_hangs 448 = .ok (.iload 6, 2) := by decide +kernel
theorem dL_hangs_450 : decode cL_hangs 450 = .ok (.iload 10, 2) := by decide +kernel
theorem dL_hangs_452 : decode cL_hangs 452 = .ok (.bipush 20, 2) := by decide +kernel
theorem dL_hangs_454 : decode cL_hangs 454 = .ok (.invokevirtual 67, 3) := by decide +kernel
theorem dL_hangs_457 : decode cL_hangs 457 = .ok (.istore 13, 2) := by decide +kernel
theorem dL_hangs_459 : decode cL_hangs 459 = .ok (.iload 11, 2) := by decide +kernel
theorem dL_hangs_461 : decode cL_hangs 461 = .ok (.ifCond .lt 162, 3) := by decide +kernel
theorem dL_hangs_464 : decode cL_hangs 464 = .ok (.iload 12, 2) := by decide +kernel
theorem dL_hangs_466 : decode cL_hangs 466 = .ok (.iload 11, 2) := by decide +kernel
theorem dL_hangs_468 : decode cL_hangs 468 = .ok (.if_icmp .lt 155, 3) := by decide +kernel
theorem dL_hangs_471 : decode cL_hangs 471 = .ok (.iload 12, 2) := by decide +kernel
theorem dL_hangs_473 : decode cL_hangs 473 = .ok (.sipush 999, 3) := by decide +kernel
theorem dL_hangs_476 : decode cL_hangs 476 = .ok (.if_icmp .gt 147, 3) := by decide +kernel
theorem dL_hangs_479 : decode cL_hangs 479 = .ok (.aload_n 0, 1) := by decide +kernel
theorem dL_hangs_480 : decode cL_hangs 480 = .ok (.iload 6, 2) := by decide +kernel
theorem dL_hangs_482 : decode cL_hangs 482 = .ok (.iload 10, 2) := by decide +kernel
theorem dL_hangs_484 : decode cL_hangs 484 = .ok (.bipush 50, 2) := by decide +kernel
theorem dL_hangs_486 : decode cL_hangs 486 = .ok (.iconst 0, 1) := by decide +kernel
theorem dL_hangs_487 : decode cL_hangs 487 = .ok (.invokevirtual 71, 3) := by decide +kernel
theorem dL_hangs_490 : decode cL_hangs 490 = .ok (.ifCond .lt 7, 3) := by decide +kernel
theorem dL_hangs_493 : decode cL_hangs 493 = .ok (.iconst 1, 1) := by decide +kernel
theorem dL_hangs_494 : decode cL_hangs 494 = .ok (.goto 4, 3) := by decide +kernel
theorem dL_hangs_497 : decode cL_hangs 497 = .ok (.iconst 0, 1) := by decide +kernel
theorem dL_hangs_498 : decode cL_hangs 498 = .ok (.iload 11, 2) := by decide +kernel
theorem dL_hangs_500 : decode cL_hangs 500 = .ok (.bipush 50, 2) := by decide +kernel
theorem dL_hangs_502 : decode cL_hangs 502 = .ok (.if_icmp .lt 7, 3) := by decide +kernel
theorem dL_hangs_505 : decode cL_hangs 505 = .ok (.iconst 1, 1) := by decide +kernel
theorem dL_hangs_506 : decode cL_hangs 506 = .ok (.goto 4, 3) := by decide +kernel
theorem dL_hangs_509 : decode cL_hangs 509 = .ok (.iconst 0, 1) := by decide +kernel
theorem dL_hangs_510 : decode cL_hangs 510 = .ok (.if_icmp .ne 113, 3) := by decide +kernel
theorem dL_hangs_513 : decode cL_hangs 513 = .ok (.aload_n 0, 1) := by decide +kernel
theorem dL_hangs_514 : decode cL_hangs 514 = .ok (.iload 6, 2) := by decide +kernel
theorem dL_hangs_516 : decode cL_hangs 516 = .ok (.iload 10, 2) := by decide +kernel
theorem dL_hangs_518 : decode cL_hangs 518 = .ok (.bipush 7, 2) := by decide +kernel
theorem dL_hangs_520 : decode cL_hangs 520 = .ok (.iconst 0, 1) := by decide +kernel
theorem dL_hangs_521 : decode cL_hangs 521 = .ok (.invokevirtual 71, 3) := by decide +kernel
theorem dL_hangs_524 : decode cL_hangs 524 = .ok (.aload_n 0, 1) := by decide +kernel
theorem dL_hangs_525 : decode cL_hangs 525 = .ok (.iload 6, 2) := by decide +kernel
theorem dL_hangs_527 : decode cL_hangs 527 = .ok (.iload 10, 2) := by decide +kernel
theorem dL_hangs_529 : decode cL_hangs 529 = .ok (.bipush 7, 2) := by decide +kernel
theorem dL_hangs_531 : decode cL_hangs 531 = .ok (.iconst 1, 1) := by decide +kernel
theorem dL_hangs_532 : decode cL_hangs 532 = .ok (.invokevirtual 71, 3) := by decide +kernel
theorem dL_hangs_535 : decode cL_hangs 535 = .ok (.if_icmp .ne 88, 3) := by decide +kernel
theorem dL_hangs_538 : decode cL_hangs 538 = .ok (.aload_n 0, 1) := by decide +kernel
theorem dL_hangs_539 : decode cL_hangs 539 = .ok (.iload 6, 2) := by decide +kernel
theorem dL_hangs_541 : decode cL_hangs 541 = .ok (.iload 10, 2) := by decide +kernel
theorem dL_hangs_543 : decode cL_hangs 543 = .ok (.iconst 0, 1) := by decide +kernel
theorem dL_hangs_544 : decode cL_hangs 544 = .ok (.iconst 1, 1) := by decide +kernel
theorem dL_hangs_545 : decode cL_hangs 545 = .ok (.invokevirtual 71, 3) := by decide +kernel
theorem dL_hangs_548 : decode cL_hangs 548 = .ok (.aload_n 0, 1) := by decide +kernel
theorem dL_hangs_549 : decode cL_hangs 549 = .ok (.iload 6, 2) := by decide +kernel
theorem dL_hangs_551 : decode cL_hangs 551 = .ok (.iconst 1, 1) := by decide +kernel
theorem dL_hangs_552 : decode cL_hangs 552 = .ok (.invokevirtual 56, 3) := by decide +kernel
theorem dL_hangs_555 : decode cL_hangs 555 = .ok (.if_icmp .ne 68, 3) := by decide +kernel
theorem dL_hangs_558 : decode cL_hangs 558 = .ok (.iload 13, 2) := by decide +kernel
theorem dL_hangs_560 : decode cL_hangs 560 = .ok (.bipush (-4), 2) := by decide +kernel
theorem dL_hangs_562 : decode cL_hangs 562 = .ok (.if_icmp .eq 15, 3) := by decide +kernel
theorem dL_hangs_565 : decode cL_hangs 565 = .ok (.iload 13, 2) := by decide +kernel
theorem dL_hangs_567 : decode cL_hangs 567 = .ok (.ifCond .le 56, 3) := by decide +kernel
theorem dL_hangs_570 : decode cL_hangs 570 = .ok (.iload 13, 2) := by decide +kernel
theorem dL_hangs_572 : decode cL_hangs 572 = .ok (.bipush 6, 2) := by decide +kernel
theorem dL_hangs_574 : decode cL_hangs 574 = .ok (.if_icmp .ge 49, 3) := by decide +kernel
theorem dL_hangs_577 : decode cL_hangs 577 = .ok (.iload 12, 2) := by decide +kernel
theorem dL_hangs_579 : decode cL_hangs 579 = .ok (.bipush 20, 2) := by decide +kernel
theorem dL_hangs_581 : decode cL_hangs 581 = .ok (.if_icmp .lt 14, 3) := by decide +kernel
theorem dL_hangs_584 : decode cL_hangs 584 = .ok (.iload 13, 2) := by decide +kernel
theorem dL_hangs_586 : decode cL_hangs 586 = .ok (.aload_n 0, 1) := by decide +kernel
theorem dL_hangs_587 : decode cL_hangs 587 = .ok (.bipush 8, 2) := by decide +kernel
theorem dL_hangs_589 : decode cL_hangs 589 = .ok (.invokevirtual 53, 3) := by decide +kernel
theorem dL_hangs_592 : decode cL_hangs 592 = .ok (.if_icmp .lt 31, 3) := by decide +kernel
theorem dL_hangs_595 : decode cL_hangs 595 = .ok (.iload 11, 2) := by decide +kernel
theorem dL_hangs_597 : decode cL_hangs 597 = .ok (.ifCond .eq 22, 3) := by decide +kernel
theorem dL_hangs_600 : decode cL_hangs 600 = .ok (.aload_n 0, 1) := by decide +kernel
theorem dL_hangs_601 : decode cL_hangs 601 = .ok (.iload 6, 2) := by decide +kernel
theorem dL_hangs_603 : decode cL_hangs 603 = .ok (.iload 10, 2) := by decide +kernel
theorem dL_hangs_605 : decode cL_hangs 605 = .ok (.iconst 0, 1) := by decide +kernel
theorem dL_hangs_606 : decode cL_hangs 606 = .ok (.invokevirtual 75, 3) := by decide +kernel
theorem dL_hangs_609 : decode cL_hangs 609 = .ok (.aload_n 0, 1) := by decide +kernel
theorem dL_hangs_610 : decode cL_hangs 610 = .ok (.iload 6, 2) := by decide +kernel
theorem dL_hangs_612 : decode cL_hangs 612 = .ok (.iconst 1, 1) := by decide +kernel
theorem dL_hangs_613 : decode cL_hangs 613 = .ok (.invokevirtual 56, 3) := by decide +kernel
theorem dL_hangs_616 : decode cL_hangs 616 = .ok (.if_icmp .gt 7, 3) := by decide +kernel
theorem dL_hangs_619 : decode cL_hangs 619 = .ok (.iconst 1, 1) := by decide +kernel
theorem dL_hangs_620 : decode cL_hangs 620 = .ok (.goto 4, 3) := by decide +kernel
theorem dL_hangs_623 : decode cL_hangs 623 = .ok (.iconst 0, 1) := by decide +kernel
theorem dL_hangs_624 : decode cL_hangs 624 = .ok (.istore 5, 2) := by decide +kernel
theorem dL_hangs_626 : decode cL_hangs 626 = .ok (.iinc 10 133, 6) := by decide +kernel
theorem dL_hangs_632 : decode cL_hangs 632 = .ok (.goto (-220), 3) := by decide +kernel
theorem dL_hangs_635 : decode cL_hangs 635 = .ok (.iinc 6 1, 3) := by decide +kernel
theorem dL_hangs_638 : decode cL_hangs 638 = .ok (.goto (-538), 3) := by decide +kernel
theorem dL_hangs_641 : decode cL_hangs 641 = .ok (.iconst 0, 1) := by decide +kernel
theorem dL_hangs_642 : decode cL_hangs 642 = .ok (.istore 6, 2) := by decide +kernel
theorem dL_hangs_644 : decode cL_hangs 644 = .ok (.iconst 0, 1) := by decide +kernel
theorem dL_hangs_645 : decode cL_hangs 645 = .ok (.istore 7, 2) := by decide +kernel
theorem dL_hangs_647 : decode cL_hangs 647 = .ok (.iconst 0, 1) := by decide +kernel
theorem dL_hangs_648 : decode cL_hangs 648 = .ok (.istore 8, 2) := by decide +kernel
theorem dL_hangs_650 : decode cL_hangs 650 = .ok (.iload 8, 2) := by decide +kernel
theorem dL_hangs_652 : decode cL_hangs 652 = .ok (.iconst 2, 1) := by decide +kernel
theorem dL_hangs_653 : decode cL_hangs 653 = .ok (.if_icmp .ge 212, 3) := by decide +kernel
theorem dL_hangs_656 : decode cL_hangs 656 = .ok (.iload 5, 2) := by decide +kernel
theorem dL_hangs_658 : decode cL_hangs 658 = .ok (.ifCond .eq 207, 3) := by decide +kernel
theorem dL_hangs_661 : decode cL_hangs 661 = .ok (.aload_n 0, 1) := by decide +kernel
theorem dL_hangs_662 : decode cL_hangs 662 = .ok (.iload 8, 2) := by decide +kernel
theorem dL_hangs_664 : decode cL_hangs 664 = .ok (.iconst 0, 1) := by decide +kernel
theorem dL_hangs_665 : decode cL_hangs 665 = .ok (.invokevirtual 60, 3) := by decide +kernel
theorem dL_hangs_668 : decode cL_hangs 668 = .ok (.istore 9, 2) := by decide +kernel
theorem dL_hangs_670 : decode cL_hangs 670 = .ok (.iload 6, 2) := by decide +kernel
theorem dL_hangs_672 : decode cL_hangs 672 = .ok (.aload_n 0, 1) := by decide +kernel
theorem dL_hangs_673 : decode cL_hangs 673 = .ok (.iload 8, 2) := by decide +kernel
theorem dL_hangs_675 : decode cL_hangs 675 = .ok (.iconst 1, 1) := by decide +kernel
theorem dL_hangs_676 : decode cL_hangs 676 = .ok (.invokevirtual 60, 3) := by decide +kernel
theorem dL_hangs_679 : decode cL_hangs 679 = .ok (.aload_n 0, 1) := by decide +kernel
theorem dL_hangs_680 : decode cL_hangs 680 = .ok (.iload 8, 2) := by decide +kernel
theorem dL_hangs_682 : decode cL_hangs 682 = .ok (.iconst 2, 1) := by decide +kernel
theorem dL_hangs_683 : decode cL_hangs 683 = .ok (.invokevirtual 60, 3) := by decide +kernel
theorem dL_hangs_686 : decode cL_hangs 686 = .ok (.iadd, 1) := by decide +kernel
theorem dL_hangs_687 : decode cL_hangs 687 = .ok (.iadd, 1) := by decide +kernel
theorem dL_hangs_688 : decode cL_hangs 688 = .ok (.istore 6, 2) := by decide +kernel
theorem dL_hangs_690 : decode cL_hangs 690 = .ok (.iload 7, 2) := by decide +kernel
theorem dL_hangs_692 : decode cL_hangs 692 = .ok (.aload_n 0, 1) := by decide +kernel
theorem dL_hangs_693 : decode cL_hangs 693 = .ok (.iload 8, 2) := by decide +kernel
theorem dL_hangs_695 : decode cL_hangs 695 = .ok (.iconst 1, 1) := by decide +kernel
theorem dL_hangs_696 : decode cL_hangs 696 = .ok (.invokevirtual 60, 3) := by decide +kernel
theorem dL_hangs_699 : decode cL_hangs 699 = .ok (.iadd, 1) := by decide +kernel
theorem dL_hangs_700 : decode cL_hangs 700 = .ok (.istore 7, 2) := by decide +kernel
theorem dL_hangs_702 : decode cL_hangs 702 = .ok (.iload 9, 2) := by decide +kernel
theorem dL_hangs_704 : decode cL_hangs 704 = .ok (.bipush (-4), 2) := by decide +kernel
theorem dL_hangs_706 : decode cL_hangs 706 = .ok (.if_icmp .eq 26, 3) := by decide +kernel
theorem dL_hangs_709 : decode cL_hangs 709 = .ok (.iload 9, 2) := by decide +kernel
theorem dL_hangs_711 : decode cL_hangs 711 = .ok (.ifCond .lt 145, 3) := by decide +kernel
theorem dL_hangs_714 : decode cL_hangs 714 = .ok (.iload 9, 2) := by decide +kernel
theorem dL_hangs_716 : decode cL_hangs 716 = .ok (.iconst 4, 1) := by decide +kernel
theorem dL_hangs_717 : decode cL_hangs 717 = .ok (.if_icmp .ge 139, 3) := by decide +kernel
theorem dL_hangs_720 : decode cL_hangs 720 = .ok (.aload_n 0, 1) := by decide +kernel
theorem dL_hangs_721 : decode cL_hangs 721 = .ok (.iload 9, 2) := by decide +kernel
theorem dL_hangs_723 : decode cL_hangs 723 = .ok (.iconst 4, 1) := by decide +kernel
theorem dL_hangs_724 : decode cL_hangs 724 = .ok (.invokevirtual 56, 3) := by decide +kernel
theorem dL_hangs_727 : decode cL_hangs 727 = .ok (.iload 8, 2) := by decide +kernel
theorem dL_hangs_729 : decode cL_hangs 729 = .ok (.if_icmp .ne 127, 3) := by decide +kernel
theorem dL_hangs_732 : decode cL_hangs 732 = .ok (.iload 9, 2) := by decide +kernel
theorem dL_hangs_734 : decode cL_hangs 734 = .ok (.bipush (-4), 2) := by decide +kernel
theorem dL_hangs_736 : decode cL_hangs 736 = .ok (.if_icmp .ne 7, 3) := by decide +kernel
theorem dL_hangs_739 : decode cL_hangs 739 = .ok (.iconst 1, 1) := by decide +kernel
theorem dL_hangs_740 : decode cL_hangs 740 = .ok (.goto 4, 3) := by decide +kernel
theorem dL_hangs_743 : decode cL_hangs 743 = .ok (.iconst 0, 1) := by decide +kernel
theorem dL_hangs_744 : decode cL_hangs 744 = .ok (.aload_n 0, 1) := by decide +kernel
theorem dL_hangs_745 : decode cL_hangs 745 = .ok (.iload 8, 2) := by decide +kernel
theorem dL_hangs_747 : decode cL_hangs 747 = .ok (.invokevirtual 78, 3) := by decide +kernel
theorem dL_hangs_750 : decode cL_hangs 750 = .ok (.iconst 1, 1) := by decide +kernel
theorem dL_hangs_751 : decode cL_hangs 751 = .ok (.if_icmp .ne 7, 3) := by decide +kernel
theorem dL_hangs_754 : decode cL_hangs 754 = .ok (.iconst 1, 1) := by decide +kernel
theorem dL_hangs_755 : decode cL_hangs 755 = .ok (.goto 4, 3) := by decide +kernel
theorem dL_hangs_758 : decode cL_hangs 758 = .ok (.iconst 0, 1) := by decide +kernel
theorem dL_hangs_759 : decode cL_hangs 759 = .ok (.if_icmp .ne 97, 3) := by decide +kernel
theorem dL_hangs_762 : decode cL_hangs 762 = .ok (.aload_n 0, 1) := by decide +kernel
theorem dL_hangs_763 : decode cL_hangs 763 = .ok (.iload 8, 2) := by decide +kernel
theorem dL_hangs_765 : decode cL_hangs 765 = .ok (.iconst 5, 1) := by decide +kernel
theorem dL_hangs_766 : decode cL_hangs 766 = .ok (.invokevirtual 60, 3) := by decide +kernel
theorem dL_hangs_769 : decode cL_hangs 769 = .ok (.bipush (-4), 2) := by decide +kernel
theorem dL_hangs_771 : decode cL_hangs 771 = .ok (.if_icmp .ne 7, 3) := by decide +kernel
theorem dL_hangs_774 : decode cL_hangs 774 = .ok (.iconst 1, 1) := by decide +kernel
theorem dL_hangs_775 : decode cL_hangs 775 = .ok (.goto 4, 3) := by decide +kernel
theorem dL_hangs_778 : decode cL_hangs 778 = .ok (.iconst 0, 1) := by decide +kernel
theorem dL_hangs_779 : decode cL_hangs 779 = .ok (.aload_n 0, 1) := by decide +kernel
theorem dL_hangs_780 : decode cL_hangs 780 = .ok (.iload 8, 2) := by decide +kernel
theorem dL_hangs_782 : decode cL_hangs 782 = .ok (.iconst 1, 1) := by decide +kernel
theorem dL_hangs_783 : decode cL_hangs 783 = .ok (.invokevirtual 60, 3) := by decide +kernel
theorem dL_hangs_786 : decode cL_hangs 786 = .ok (.aload_n 0, 1) := by decide +kernel
theorem dL_hangs_787 : decode cL_hangs 787 = .ok (.iload 8, 2) := by decide +kernel
theorem dL_hangs_789 : decode cL_hangs 789 = .ok (.iconst 2, 1) := by decide +kernel
theorem dL_hangs_790 : decode cL_hangs 790 = .ok (.invokevirtual 60, 3) := by decide +kernel
theorem dL_hangs_793 : decode cL_hangs 793 = .ok (.iadd, 1) := by decide +kernel
theorem dL_hangs_794 : decode cL_hangs 794 = .ok (.ifCond .ne 7, 3) := by decide +kernel
theorem dL_hangs_797 : decode cL_hangs 797 = .ok (.iconst 1, 1) := by decide +kernel
theorem dL_hangs_798 : decode cL_hangs 798 = .ok (.goto 4, 3) := by decide +kernel
theorem dL_hangs_801 : decode cL_hangs 801 = .ok (.iconst 0, 1) := by decide +kernel
theorem dL_hangs_802 : decode cL_hangs 802 = .ok (.if_icmp .ne 54, 3) := by decide +kernel
theorem dL_hangs_805 : decode cL_hangs 805 = .ok (.aload_n 0, 1) := by decide +kernel
theorem dL_hangs_806 : decode cL_hangs 806 = .ok (.iload 8, 2) := by decide +kernel
theorem dL_hangs_808 : decode cL_hangs 808 = .ok (.iconst 5, 1) := by decide +kernel
theorem dL_hangs_809 : decode cL_hangs 809 = .ok (.invokevirtual 60, 3) := by decide +kernel
theorem dL_hangs_812 : decode cL_hangs 812 = .ok (.bipush 100, 2) := by decide +kernel
theorem dL_hangs_814 : decode cL_hangs 814 = .ok (.if_icmp .gt 42, 3) := by decide +kernel
theorem dL_hangs_817 : decode cL_hangs 817 = .ok (.aload_n 0, 1) := by decide +kernel
theorem dL_hangs_818 : decode cL_hangs 818 = .ok (.iload 8, 2) := by decide +kernel
theorem dL_hangs_820 : decode cL_hangs 820 = .ok (.iconst 4, 1) := by decide +kernel
theorem dL_hangs_821 : decode cL_hangs 821 = .ok (.invokevirtual 60, 3) := by decide +kernel
theorem dL_hangs_824 : decode cL_hangs 824 = .ok (.aload_n 0, 1) := by decide +kernel
theorem dL_hangs_825 : decode cL_hangs 825 = .ok (.iload 8, 2) := by decide +kernel
theorem dL_hangs_827 : decode cL_hangs 827 = .ok (.iconst 1, 1) := by decide +kernel
theorem dL_hangs_828 : decode cL_hangs 828 = .ok (.invokevirtual 60, 3) := by decide +kernel
theorem dL_hangs_831 : decode cL_hangs 831 = .ok (.aload_n 0, 1) := by decide +kernel
theorem dL_hangs_832 : decode cL_hangs 832 = .ok (.iload 8, 2) := by decide +kernel
theorem dL_hangs_834 : decode cL_hangs 834 = .ok (.iconst 2, 1) := by decide +kernel
theorem dL_hangs_835 : decode cL_hangs 835 = .ok (.invokevirtual 60, 3) := by decide +kernel
theorem dL_hangs_838 : decode cL_hangs 838 = .ok (.iadd, 1) := by decide +kernel
theorem dL_hangs_839 : decode cL_hangs 839 = .ok (.if_icmp .lt 17, 3) := by decide +kernel
theorem dL_hangs_842 : decode cL_hangs 842 = .ok (.aload_n 0, 1) := by decide +kernel
theorem dL_hangs_843 : decode cL_hangs 843 = .ok (.iload 8, 2) := by decide +kernel
theorem dL_hangs_845 : decode cL_hangs 845 = .ok (.iconst 3, 1) := by decide +kernel
theorem dL_hangs_846 : decode cL_hangs 846 = .ok (.invokevirtual 60, 3) := by decide +kernel
theorem dL_hangs_849 : decode cL_hangs 849 = .ok (.ifCond .lt 7, 3) := by decide +kernel
theorem dL_hangs_852 : decode cL_hangs 852 = .ok (.iconst 1, 1) := by decide +kernel
theorem dL_hangs_853 : decode cL_hangs 853 = .ok (.goto 4, 3) := by decide +kernel
theorem dL_hangs_856 : decode cL_hangs 856 = .ok (.iconst 0, 1) := by decide +kernel
theorem dL_hangs_857 : decode cL_hangs 857 = .ok (.istore 5, 2) := by decide +kernel
theorem dL_hangs_859 : decode cL_hangs 859 = .ok (.iinc 8 1, 3) := by decide +kernel
theorem dL_hangs_862 : decode cL_hangs 862 = .ok (.goto (-212), 3) := by decide +kernel
theorem dL_hangs_865 : decode cL_hangs 865 = .ok (.iload 5, 2) := by decide +kernel
theorem dL_hangs_867 : decode cL_hangs 867 = .ok (.ifCond .eq 13, 3) := by decide +kernel
theorem dL_hangs_870 : decode cL_hangs 870 = .ok (.aload_n 0, 1) := by decide +kernel
theorem dL_hangs_871 : decode cL_hangs 871 = .ok (.bipush 100, 2) := by decide +kernel
theorem dL_hangs_873 : decode cL_hangs 873 = .ok (.iconst 5, 1) := by decide +kernel
theorem dL_hangs_874 : decode cL_hangs 874 = .ok (.invokevirtual 81, 3) := by decide +kernel
theorem dL_hangs_877 : decode cL_hangs 877 = .ok (.goto 5, 3) := by decide +kernel
theorem dL_hangs_880 : decode cL_hangs 880 = .ok (.bipush (-4), 2) := by decide +kernel
theorem dL_hangs_882 : decode cL_hangs 882 = .ok (.istore 8, 2) := by decide +kernel
theorem dL_hangs_884 : decode cL_hangs 884 = .ok (.iload 5, 2) := by decide +kernel
theorem dL_hangs_886 : decode cL_hangs 886 = .ok (.ifCond .eq 27, 3) := by decide +kernel
theorem dL_hangs_889 : decode cL_hangs 889 = .ok (.iload 8, 2) := by decide +kernel
theorem dL_hangs_891 : decode cL_hangs 891 = .ok (.bipush (-4), 2) := by decide +kernel
theorem dL_hangs_893 : decode cL_hangs 893 = .ok (.if_icmp .eq 16, 3) := by decide +kernel
theorem dL_hangs_896 : decode cL_hangs 896 = .ok (.aload_n 0, 1) := by decide +kernel
theorem dL_hangs_897 : decode cL_hangs 897 = .ok (.iload 8, 2) := by decide +kernel
theorem dL_hangs_899 : decode cL_hangs 899 = .ok (.bipush 100, 2) := by decide +kernel
theorem dL_hangs_901 : decode cL_hangs 901 = .ok (.iconst 1, 1) := by decide +kernel
theorem dL_hangs_902 : decode cL_hangs 902 = .ok (.invokevirtual 63, 3) := by decide +kernel
theorem dL_hangs_905 : decode cL_hangs 905 = .ok (.iconst 5, 1) := by decide +kernel
theorem dL_hangs_906 : decode cL_hangs 906 = .ok (.if_icmp .lt 7, 3) := by decide +kernel
theorem dL_hangs_909 : decode cL_hangs 909 = .ok (.iconst 1, 1) := by decide +kernel
theorem dL_hangs_910 : decode cL_hangs 910 = .ok (.goto 4, 3) := by decide +kernel
theorem dL_hangs_913 : decode cL_hangs 913 = .ok (.iconst 0, 1) := by decide +kernel
theorem dL_hangs_914 : decode cL_hangs 914 = .ok (.istore 5, 2) := by decide +kernel
theorem dL_hangs_916 : decode cL_hangs 916 = .ok (.iload 5, 2) := by decide +kernel
theorem dL_hangs_918 : decode cL_hangs 918 = .ok (.ifCond .eq 124, 3) := by decide +kernel
theorem dL_hangs_921 : decode cL_hangs 921 = .ok (.iload_n 1, 1) := by decide +kernel
theorem dL_hangs_922 : decode cL_hangs 922 = .ok (.aload_n 0, 1) := by decide +kernel
theorem dL_hangs_923 : decode cL_hangs 923 = .ok (.iconst 0, 1) := by decide +kernel
theorem dL_hangs_924 : decode cL_hangs 924 = .ok (.invokevirtual 53, 3) := by decide +kernel
theorem dL_hangs_927 : decode cL_hangs 927 = .ok (.if_icmp .ne 115, 3) := by decide +kernel
theorem dL_hangs_930 : decode cL_hangs 930 = .ok (.iload_n 1, 1) := by decide +kernel
theorem dL_hangs_931 : decode cL_hangs 931 = .ok (.aload_n 0, 1) := by decide +kernel
theorem dL_hangs_932 : decode cL_hangs 932 = .ok (.iconst 1, 1) := by decide +kernel
theorem dL_hangs_933 : decode cL_hangs 933 = .ok (.invokevirtual 53, 3) := by decide +kernel
theorem dL_hangs_936 : decode cL_hangs 936 = .ok (.iadd, 1) := by decide +kernel
theorem dL_hangs_937 : decode cL_hangs 937 = .ok (.aload_n 0, 1) := by decide +kernel
theorem dL_hangs_938 : decode cL_hangs 938 = .ok (.iconst 2, 1) := by decide +kernel
theorem dL_hangs_939 : decode cL_hangs 939 = .ok (.invokevirtual 53, 3) := by decide +kernel
theorem dL_hangs_942 : decode cL_hangs 942 = .ok (.iadd, 1) := by decide +kernel
theorem dL_hangs_943 : decode cL_hangs 943 = .ok (.sipush 16000, 3) := by decide +kernel
theorem dL_hangs_946 : decode cL_hangs 946 = .ok (.aload_n 0, 1) := by decide +kernel
theorem dL_hangs_947 : decode cL_hangs 947 = .ok (.iconst 3, 1) := by decide +kernel
theorem dL_hangs_948 : decode cL_hangs 948 = .ok (.invokevirtual 53, 3) := by decide +kernel
theorem dL_hangs_951 : decode cL_hangs 951 = .ok (.iadd, 1) := by decide +kernel
theorem dL_hangs_952 : decode cL_hangs 952 = .ok (.if_icmp .ne 90, 3) := by decide +kernel
theorem dL_hangs_955 : decode cL_hangs 955 = .ok (.iload_n 2, 1) := by decide +kernel
theorem dL_hangs_956 : decode cL_hangs 956 = .ok (.aload_n 0, 1) := by decide +kernel
theorem dL_hangs_957 : decode cL_hangs 957 = .ok (.bipush 6, 2) := by decide +kernel
theorem dL_hangs_959 : decode cL_hangs 959 = .ok (.invokevirtual 53, 3) := by decide +kernel
theorem dL_hangs_962 : decode cL_hangs 962 = .ok (.if_icmp .ne 80, 3) := by decide +kernel
theorem dL_hangs_965 : decode cL_hangs 965 = .ok (.iload_n 3, 1) := by decide +kernel
theorem dL_hangs_966 : decode cL_hangs 966 = .ok (.aload_n 0, 1) := by decide +kernel
theorem dL_hangs_967 : decode cL_hangs 967 = .ok (.bipush 7, 2) := by decide +kernel
theorem dL_hangs_969 : decode cL_hangs 969 = .ok (.invokevirtual 53, 3) := by decide +kernel
theorem dL_hangs_972 : decode cL_hangs 972 = .ok (.if_icmp .ne 70, 3) := by decide +kernel
theorem dL_hangs_975 : decode cL_hangs 975 = .ok (.iload 4, 2) := by decide +kernel
theorem dL_hangs_977 : decode cL_hangs 977 = .ok (.aload_n 0, 1) := by decide +kernel
theorem dL_hangs_978 : decode cL_hangs 978 = .ok (.iconst 5, 1) := by decide +kernel
theorem dL_hangs_979 : decode cL_hangs 979 = .ok (.invokevirtual 53, 3) := by decide +kernel
theorem dL_hangs_982 : decode cL_hangs 982 = .ok (.if_icmp .ne 60, 3) := by decide +kernel
theorem dL_hangs_985 : decode cL_hangs 985 = .ok (.iload 6, 2) := by decide +kernel
theorem dL_hangs_987 : decode cL_hangs 987 = .ok (.aload_n 0, 1) := by decide +kernel
theorem dL_hangs_988 : decode cL_hangs 988 = .ok (.iconst 4, 1) := by decide +kernel
theorem dL_hangs_989 : decode cL_hangs 989 = .ok (.invokevirtual 53, 3) := by decide +kernel
theorem dL_hangs_992 : decode cL_hangs 992 = .ok (.if_icmp .ne 50, 3) := by decide +kernel
theorem dL_hangs_995 : decode cL_hangs 995 = .ok (.aload_n 0, 1) := by decide +kernel
theorem dL_hangs_996 : decode cL_hangs 996 = .ok (.invokevirtual 84, 3) := by decide +kernel
theorem dL_hangs_999 : decode cL_hangs 999 = .ok (.iload 6, 2) := by decide +kernel
theorem dL_hangs_1001 : decode cL_hangs 1001 = .ok (.ifCond .ne 7, 3) := by decide +kernel
theorem dL_hangs_1004 : decode cL_hangs 1004 = .ok (.dconst 1, 1) := by decide +kernel
theorem dL_hangs_1005 : decode cL_hangs 1005 = .ok (.goto 10, 3) := by decide +kernel
theorem dL_hangs_1008 : decode cL_hangs 1008 = .ok (.iload 7, 2) := by decide +kernel
theorem dL_hangs_1010 : decode cL_hangs 1010 = .ok (.i2d, 1) := by decide +kernel
theorem dL_hangs_1011 : decode cL_hangs 1011 = .ok (.iload 6, 2) := by decide +kernel
theorem dL_hangs_1013 : decode cL_hangs 1013 = .ok (.i2d, 1) := by decide +kernel
theorem dL_hangs_1014 : decode cL_hangs 1014 = .ok (.ddiv, 1) := by decide +kernel
theorem dL_hangs_1015 : decode cL_hangs 1015 = .ok (.dcmp .l, 1) := by decide +kernel
theorem dL_hangs_1016 : decode cL_hangs 1016 = .ok (.ifCond .ne 26, 3) := by decide +kernel
theorem dL_hangs_1019 : decode cL_hangs 1019 = .ok (.aload_n 0, 1) := by decide +kernel
theorem dL_hangs_1020 : decode cL_hangs 1020 = .ok (.bipush 13, 2) := by decide +kernel
theorem dL_hangs_1022 : decode cL_hangs 1022 = .ok (.invokevirtual 53, 3) := by decide +kernel
theorem dL_hangs_1025 : decode cL_hangs 1025 = .ok (.ifCond .lt 17, 3) := by decide +kernel
theorem dL_hangs_1028 : decode cL_hangs 1028 = .ok (.aload_n 0, 1) := by decide +kernel
theorem dL_hangs_1029 : decode cL_hangs 1029 = .ok (.bipush 13, 2) := by decide +kernel
theorem dL_hangs_1031 : decode cL_hangs 1031 = .ok (.invokevirtual 53, 3) := by decide +kernel
theorem dL_hangs_1034 : decode cL_hangs 1034 = .ok (.iconst 5, 1) := by decide +kernel
theorem dL_hangs_1035 : decode cL_hangs 1035 = .ok (.if_icmp .ge 7, 3) := by decide +kernel
theorem dL_hangs_1038 : decode cL_hangs 1038 = .ok (.iconst 1, 1) := by decide +kernel
theorem dL_hangs_1039 : decode cL_hangs 1039 = .ok (.goto 4, 3) := by decide +kernel
theorem dL_hangs_1042 : decode cL_hangs 1042 = .ok (.iconst 0, 1) := by decide +kernel
theorem dL_hangs_1043 : decode cL_hangs 1043 = .ok (.ireturn, 1) := by decide +kernel
theorem dL_same_0 : decode cL_same 0 = .ok (.iconst 1, 1) := by decide +kernel
theorem dL_same_1 : decode cL_same 1 = .ok (.istore_n 2, 1) := by decide +kernel
theorem dL_same_2 : decode cL_same 2 = .ok (.iconst 0, 1) := by decide +kernel
theorem dL_same_3 : decode cL_same 3 = .ok (.istore_n 3, 1) := by decide +kernel
theorem dL_same_4 : decode cL_same 4 = .ok (.iload_n 3, 1) := by decide +kernel
theorem dL_same_5 : decode cL_same 5 = .ok (.bipush 14, 2) := by decide +kernel
theorem dL_same_7 : decode cL_same 7 = .ok (.if_icmp .ge 38, 3) := by decide +kernel
theorem dL_same_10 : decode cL_same 10 = .ok (.iload_n 2, 1) := by decide +kernel
theorem dL_same_11 : decode cL_same 11 = .ok (.ifCond .eq 34, 3) := by decide +kernel
theorem dL_same_14 : decode cL_same 14 = .ok (.aload_n 0, 1) := by decide +kernel
theorem dL_same_15 : decode cL_same 15 = .ok (.iload_n 3, 1) := by decide +kernel
theorem dL_same_16 : decode cL_same 16 = .ok (.invokevirtual 53, 3) := by decide +kernel
theorem dL_same_19 : decode cL_same 19 = .ok (.aload_n 1, 1) := by decide +kernel
theorem dL_same_20 : decode cL_same 20 = .ok (.iload_n 3, 1) := by decide +kernel
theorem dL_same_21 : decode cL_same 21 = .ok (.invokevirtual 53, 3) := by decide +kernel
theorem dL_same_24 : decode cL_same 24 = .ok (.if_icmp .eq 9, 3) := by decide +kernel
theorem dL_same_27 : decode cL_same 27 = .ok (.iload_n 3, 1) := by decide +kernel
theorem dL_same_28 : decode cL_same 28 = .ok (.bipush 12, 2) := by decide +kernel
theorem dL_same_30 : decode cL_same 30 = .ok (.if_icmp .ne 7, 3) := by decide +kernel
theorem dL_same_33 : decode cL_same 33 = .ok (.iconst 1, 1) := by decide +kernel
theorem dL_same_34 : decode cL_same 34 = .ok (.goto 4, 3) := by decide +kernel
theorem dL_same_37 : decode cL_same 37 = .ok (.iconst 0, 1) := by decide +kernel
theorem dL_same_38 : decode cL_same 38 = .ok (.istore_n 2, 1) := by decide +kernel
theorem dL_same_39 : decode cL_same 39 = .ok (.iinc 3 1, 3) := by decide +kernel
theorem dL_same_42 : decode cL_same 42 = .ok (.goto (-38), 3) := by decide +kernel
theorem dL_same_45 : decode cL_same 45 = .ok (.iconst 0, 1) := by decide +kernel
theorem dL_same_46 : decode cL_same 46 = .ok (.istore_n 3, 1) := by decide +kernel
theorem dL_same_47 : decode cL_same 47 = .ok (.iload_n 3, 1) := by decide +kernel
theorem dL_same_48 : decode cL_same 48 = .ok (.iconst 4, 1) := by decide +kernel
theorem dL_same_49 : decode cL_same 49 = .ok (.if_icmp .ge 107, 3) := by decide +kernel
theorem dL_same_52 : decode cL_same 52 = .ok (.iload_n 2, 1) := by decide +kernel
theorem dL_same_53 : decode cL_same 53 = .ok (.ifCond .eq 103, 3) := by decide +kernel
theorem dL_same_56 : decode cL_same 56 = .ok (.aload_n 0, 1) := by decide +kernel
theorem dL_same_57 : decode cL_same 57 = .ok (.iload_n 3, 1) := by decide +kernel
theorem dL_same_58 : decode cL_same 58 = .ok (.invokevirtual 88, 3) := by decide +kernel
theorem dL_same_61 : decode cL_same 61 = .ok (.aload_n 1, 1) := by decide +kernel
theorem dL_same_62 : decode cL_same 62 = .ok (.iload_n 3, 1) := by decide +kernel
theorem dL_same_63 : decode cL_same 63 = .ok (.invokevirtual 88, 3) := by decide +kernel
theorem dL_same_66 : decode cL_same 66 = .ok (.if_icmp .ne 82, 3) := by decide +kernel
theorem dL_same_69 : decode cL_same 69 = .ok (.aload_n 0, 1) := by decide +kernel
theorem dL_same_70 : decode cL_same 70 = .ok (.iload_n 3, 1) := by decide +kernel
theorem dL_same_71 : decode cL_same 71 = .ok (.iconst 0, 1) := by decide +kernel
theorem dL_same_72 : decode cL_same 72 = .ok (.invokevirtual 56, 3) := by decide +kernel
theorem dL_same_75 : decode cL_same 75 = .ok (.aload_n 1, 1) := by decide +kernel
theorem dL_same_76 : decode cL_same 76 = .ok (.iload_n 3, 1) := by decide +kernel
theorem dL_same_77 : decode cL_same 77 = .ok (.iconst 0, 1) := by decide +kernel
theorem dL_same_78 : decode cL_same 78 = .ok (.invokevirtual 56, 3) := by decide +kernel
theorem dL_same_81 : decode cL_same 81 = .ok (.if_icmp .ne 67, 3) := by decide +kernel
theorem dL_same_84 : decode cL_same 84 = .ok (.aload_n 0, 1) := by decide +kernel
theorem dL_same_85 : decode cL_same 85 = .ok (.iload_n 3, 1) := by decide +kernel
theorem dL_same_86 : decode cL_same 86 = .ok (.iconst 1, 1) := by decide +kernel
theorem dL_same_87 : decode cL_same 87 = .ok (.invokevirtual 56, 3) := by decide +kernel
theorem dL_same_90 : decode cL_same 90 = .ok (.aload_n 1, 1) := by decide +kernel
theorem dL_same_91 : decode cL_same 91 = .ok (.iload_n 3, 1) := by decide +kernel
theorem dL_same_92 : decode cL_same 92 = .ok (.iconst 1, 1) := by decide +kernel
theorem dL_same_93 : decode cL_same 93 = .ok (.invokevirtual 56, 3) := by decide +kernel
theorem dL_same_96 : decode cL_same 96 = .ok (.if_icmp .ne 52, 3) := by decide +kernel
theorem dL_same_99 : decode cL_same 99 = .ok (.aload_n 0, 1) := by decide +kernel
theorem dL_same_100 : decode cL_same 100 = .ok (.iload_n 3, 1) := by decide +kernel
theorem dL_same_101 : decode cL_same 101 = .ok (.iconst 2, 1) := by decide +kernel
theorem dL_same_102 : decode cL_same 102 = .ok (.invokevirtual 56, 3) := by decide +kernel
theorem dL_same_105 : decode cL_same 105 = .ok (.aload_n 1, 1) := by decide +kernel
theorem dL_same_106 : decode cL_same 106 = .ok (.iload_n 3, 1) := by decide +kernel
theorem dL_same_107 : decode cL_same 107 = .ok (.iconst 2, 1) := by decide +kernel
theorem dL_same_108 : decode cL_same 108 = .ok (.invokevirtual 56, 3) := by decide +kernel
theorem dL_same_111 : decode cL_same 111 = .ok (.if_icmp .ne 37, 3) := by decide +kernel
theorem dL_same_114 : decode cL_same 114 = .ok (.aload_n 0, 1) := by decide +kernel
theorem dL_same_115 : decode cL_same 115 = .ok (.iload_n 3, 1) := by decide +kernel
theorem dL_same_116 : decode cL_same 116 = .ok (.iconst 3, 1) := by decide +kernel
theorem dL_same_117 : decode cL_same 117 = .ok (.invokevirtual 56, 3) := by decide +kernel
theorem dL_same_120 : decode cL_same 120 = .ok (.aload_n 1, 1) := by decide +kernel
theorem dL_same_121 : decode cL_same 121 = .ok (.iload_n 3, 1) := by decide +kernel
theorem dL_same_122 : decode cL_same 122 = .ok (.iconst 3, 1) := by decide +kernel
theorem dL_same_123 : decode cL_same 123 = .ok (.invokevirtual 56, 3) := by decide +kernel
theorem dL_same_126 : decode cL_same 126 = .ok (.if_icmp .ne 22, 3) := by decide +kernel
theorem dL_same_129 : decode cL_same 129 = .ok (.aload_n 0, 1) := by decide +kernel
theorem dL_same_130 : decode cL_same 130 = .ok (.iload_n 3, 1) := by decide +kernel
theorem dL_same_131 : decode cL_same 131 = .ok (.iconst 4, 1) := by decide +kernel
theorem dL_same_132 : decode cL_same 132 = .ok (.invokevirtual 56, 3) := by decide +kernel
theorem dL_same_135 : decode cL_same 135 = .ok (.aload_n 1, 1) := by decide +kernel
theorem dL_same_136 : decode cL_same 136 = .ok (.iload_n 3, 1) := by decide +kernel
theorem dL_same_137 : decode cL_same 137 = .ok (.iconst 4, 1) := by decide +kernel
theorem dL_same_138 : decode cL_same 138 = .ok (.invokevirtual 56, 3) := by decide +kernel
theorem dL_same_141 : decode cL_same 141 = .ok (.if_icmp .ne 7, 3) := by decide +kernel
theorem dL_same_144 : decode cL_same 144 = .ok (.iconst 1, 1) := by decide +kernel
theorem dL_same_145 : decode cL_same 145 = .ok (.goto 4, 3) := by decide +kernel
theorem dL_same_148 : decode cL_same 148 = .ok (.iconst 0, 1) := by decide +kernel
theorem dL_same_149 : decode cL_same 149 = .ok (.istore_n 2, 1) := by decide +kernel
theorem dL_same_150 : decode cL_same 150 = .ok (.iinc 3 1, 3) := by decide +kernel
theorem dL_same_153 : decode cL_same 153 = .ok (.goto (-106), 3) := by decide +kernel
theorem dL_same_156 : decode cL_same 156 = .ok (.iconst 0, 1) := by decide +kernel
theorem dL_same_157 : decode cL_same 157 = .ok (.istore_n 3, 1) := by decide +kernel
theorem dL_same_158 : decode cL_same 158 = .ok (.iload_n 3, 1) := by decide +kernel
theorem dL_same_159 : decode cL_same 159 = .ok (.bipush 6, 2) := by decide +kernel
theorem dL_same_161 : decode cL_same 161 = .ok (.if_icmp .ge 49, 3) := by decide +kernel
theorem dL_same_164 : decode cL_same 164 = .ok (.iload_n 2, 1) := by decide +kernel
theorem dL_same_165 : decode cL_same 165 = .ok (.ifCond .eq 45, 3) := by decide +kernel
theorem dL_same_168 : decode cL_same 168 = .ok (.aload_n 0, 1) := by decide +kernel
theorem dL_same_169 : decode cL_same 169 = .ok (.iconst 0, 1) := by decide +kernel
theorem dL_same_170 : decode cL_same 170 = .ok (.iload_n 3, 1) := by decide +kernel
theorem dL_same_171 : decode cL_same 171 = .ok (.invokevirtual 60, 3) := by decide +kernel
theorem dL_same_174 : decode cL_same 174 = .ok (.aload_n 1, 1) := by decide +kernel
theorem dL_same_175 : decode cL_same 175 = .ok (.iconst 0, 1) := by decide +kernel
theorem dL_same_176 : decode cL_same 176 = .ok (.iload_n 3, 1) := by decide +kernel
theorem dL_same_177 : decode cL_same 177 = .ok (.invokevirtual 60, 3) := by decide +kernel
theorem dL_same_180 : decode cL_same 180 = .ok (.if_icmp .ne 22, 3) := by decide +kernel
theorem dL_same_183 : decode cL_same 183 = .ok (.aload_n 0, 1) := by decide +kernel
theorem dL_same_184 : decode cL_same 184 = .ok (.iconst 1, 1) := by decide +kernel
theorem dL_same_185 : decode cL_same 185 = .ok (.iload_n 3, 1) := by decide +kernel
theorem dL_same_186 : decode cL_same 186 = .ok (.invokevirtual 60, 3) := by decide +kernel
theorem dL_same_189 : decode cL_same 189 = .ok (.aload_n 1, 1) := by decide +kernel
theorem dL_same_190 : decode cL_same 190 = .ok (.iconst 1, 1) := by decide +kernel
theorem dL_same_191 : decode cL_same 191 = .ok (.iload_n 3, 1) := by decide +kernel
theorem dL_same_192 : decode cL_same 192 = .ok (.invokevirtual 60, 3) := by decide +kernel
theorem dL_same_195 : decode cL_same 195 = .ok (.if_icmp .ne 7, 3) := by decide +kernel
theorem dL_same_198 : decode cL_same 198 = .ok (.iconst 1, 1) := by decide +kernel
theorem dL_same_199 : decode cL_same 199 = .ok (.goto 4, 3) := by decide +kernel
theorem dL_same_202 : decode cL_same 202 = .ok (.iconst 0, 1) := by decide +kernel
theorem dL_same_203 : decode cL_same 203 = .ok (.istore_n 2, 1) := by decide +kernel
theorem dL_same_204 : decode cL_same 204 = .ok (.iinc 3 1, 3) := by decide +kernel
theorem dL_same_207 : decode cL_same 207 = .ok (.goto (-49), 3) := by decide +kernel
theorem dL_same_210 : decode cL_same 210 = .ok (.iload_n 2, 1) := by decide +kernel
theorem dL_same_211 : decode cL_same 211 = .ok (.ireturn, 1) := by decide +kernel
theorem dL_refuses_0 : decode cL_refuses 0 = .ok (.iload_n 1, 1) := by decide +kernel
theorem dL_refuses_1 : decode cL_refuses 1 = .ok (.iconst 2, 1) := by decide +kernel
theorem dL_refuses_2 : decode cL_refuses 2 = .ok (.irem, 1) := by decide +kernel
theorem dL_refuses_3 : decode cL_refuses 3 = .ok (.ifCond .ne 9, 3) := by decide +kernel
theorem dL_refuses_6 : decode cL_refuses 6 = .ok (.iconst 4, 1) := by decide +kernel
theorem dL_refuses_7 : decode cL_refuses 7 = .ok (.iload_n 1, 1) := by decide +kernel
theorem dL_refuses_8 : decode cL_refuses 8 = .ok (.iadd, 1) := by decide +kernel
theorem dL_refuses_9 : decode cL_refuses 9 = .ok (.goto 6, 3) := by decide +kernel
theorem dL_refuses_12 : decode cL_refuses 12 = .ok (.iconst (-1), 1) := by decide +kernel
theorem dL_refuses_13 : decode cL_refuses 13 = .ok (.iload_n 1, 1) := by decide +kernel
theorem dL_refuses_14 : decode cL_refuses 14 = .ok (.isub, 1) := by decide +kernel
theorem dL_refuses_15 : decode cL_refuses 15 = .ok (.istore_n 2, 1) := by decide +kernel
theorem dL_refuses_16 : decode cL_refuses 16 = .ok (.aload_n 0, 1) := by decide +kernel
theorem dL_refuses_17 : decode cL_refuses 17 = .ok (.iload_n 2, 1) := by decide +kernel
theorem dL_refuses_18 : decode cL_refuses 18 = .ok (.iconst 1, 1) := by decide +kernel
theorem dL_refuses_19 : decode cL_refuses 19 = .ok (.invokevirtual 50, 3) := by decide +kernel
theorem dL_refuses_22 : decode cL_refuses 22 = .ok (.iconst (-1), 1) := by decide +kernel
theorem dL_refuses_23 : decode cL_refuses 23 = .ok (.if_icmp .ne 386, 3) := by decide +kernel
theorem dL_refuses_26 : decode cL_refuses 26 = .ok (.aload_n 0, 1) := by decide +kernel
theorem dL_refuses_27 : decode cL_refuses 27 = .ok (.iconst 0, 1) := by decide +kernel
theorem dL_refuses_28 : decode cL_refuses 28 = .ok (.iconst 0, 1) := by decide +kernel
theorem dL_refuses_29 : decode cL_refuses 29 = .ok (.invokevirtual 50, 3) := by decide +kernel
theorem dL_refuses_32 : decode cL_refuses 32 = .ok (.iconst (-1), 1) := by decide +kernel
theorem dL_refuses_33 : decode cL_refuses 33 = .ok (.if_icmp .ne 376, 3) := by decide +kernel
theorem dL_refuses_36 : decode cL_refuses 36 = .ok (.aload_n 0, 1) := by decide +kernel
theorem dL_refuses_37 : decode cL_refuses 37 = .ok (.iconst 1, 1) := by decide +kernel
theorem dL_refuses_38 : decode cL_refuses 38 = .ok (.sipush 1000, 3) := by decide +kernel
theorem dL_refuses_41 : decode cL_refuses 41 = .ok (.iload_n 1, 1) := by decide +kernel
theorem dL_refuses_42 : decode cL_refuses 42 = .ok (.iadd, 1) := by decide +kernel
theorem dL_refuses_43 : decode cL_refuses 43 = .ok (.invokevirtual 50, 3) := by decide +kernel
theorem dL_refuses_46 : decode cL_refuses 46 = .ok (.iconst (-1), 1) := by decide +kernel
theorem dL_refuses_47 : decode cL_refuses 47 = .ok (.if_icmp .ne 362, 3) := by decide +kernel
theorem dL_refuses_50 : decode cL_refuses 50 = .ok (.aload_n 0, 1) := by decide +kernel
theorem dL_refuses_51 : decode cL_refuses 51 = .ok (.iload_n 2, 1) := by decide +kernel
theorem dL_refuses_52 : decode cL_refuses 52 = .ok (.invokevirtual 9, 3) := by decide +kernel
theorem dL_refuses_55 : decode cL_refuses 55 = .ok (.iconst (-1), 1) := by decide +kernel
theorem dL_refuses_56 : decode cL_refuses 56 = .ok (.if_icmp .ne 353, 3) := by decide +kernel
theorem dL_refuses_59 : decode cL_refuses 59 = .ok (.aload_n 0, 1) := by decide +kernel
theorem dL_refuses_60 : decode cL_refuses 60 = .ok (.iload_n 2, 1) := by decide +kernel
theorem dL_refuses_61 : decode cL_refuses 61 = .ok (.iconst 0, 1) := by decide +kernel
theorem dL_refuses_62 : decode cL_refuses 62 = .ok (.invokevirtual 15, 3) := by decide +kernel
theorem dL_refuses_65 : decode cL_refuses 65 = .ok (.iconst (-1), 1) := by decide +kernel
theorem dL_refuses_66 : decode cL_refuses 66 = .ok (.if_icmp .ne 343, 3) := by decide +kernel
theorem dL_refuses_69 : decode cL_refuses 69 = .ok (.aload_n 0, 1) := by decide +kernel
theorem dL_refuses_70 : decode cL_refuses 70 = .ok (.iconst 0, 1) := by decide +kernel
theorem dL_refuses_71 : decode cL_refuses 71 = .ok (.iload_n 2, 1) := by decide +kernel
theorem dL_refuses_72 : decode cL_refuses 72 = .ok (.invokevirtual 15, 3) := by decide +kernel
theorem dL_refuses_75 : decode cL_refuses 75 = .ok (.iconst (-1), 1) := by decide +kernel
theorem dL_refuses_76 : decode cL_refuses 76 = .ok (.if_icmp .ne 333, 3) := by decide +kernel
theorem dL_refuses_79 : decode cL_refuses 79 = .ok (.aload_n 0, 1) := by decide +kernel
theorem dL_refuses_80 : decode cL_refuses 80 = .ok (.iload_n 2, 1) := by decide +kernel
theorem dL_refuses_81 : decode cL_refuses 81 = .ok (.invokevirtual 19, 3) := by decide +kernel
theorem dL_refuses_84 : decode cL_refuses 84 = .ok (.iconst (-1), 1) := by decide +kernel
theorem dL_refuses_85 : decode cL_refuses 85 = .ok (.if_icmp .ne 324, 3) := by decide +kernel
theorem dL_refuses_88 : decode cL_refuses 88 = .ok (.aload_n 0, 1) := by decide +kernel
theorem dL_refuses_89 : decode cL_refuses 89 = .ok (.iload_n 2, 1) := by decide +kernel
theorem dL_refuses_90 : decode cL_refuses 90 = .ok (.iconst 1, 1) := by decide +kernel
theorem dL_refuses_91 : decode cL_refuses 91 = .ok (.invokevirtual 22, 3) := by decide +kernel
theorem dL_refuses_94 : decode cL_refuses 94 = .ok (.iconst (-1), 1) := by decide +kernel
theorem dL_refuses_95 : decode cL_refuses 95 = .ok (.if_icmp .ne 314, 3) := by decide +kernel
theorem dL_refuses_98 : decode cL_refuses 98 = .ok (.aload_n 0, 1) := by decide +kernel
theorem dL_refuses_99 : decode cL_refuses 99 = .ok (.iconst 0, 1) := by decide +kernel
theorem dL_refuses_100 : decode cL_refuses 100 = .ok (.iconst 0, 1) := by decide +kernel
theorem dL_refuses_101 : decode cL_refuses 101 = .ok (.invokevirtual 22, 3) := by decide +kernel
theorem dL_refuses_104 : decode cL_refuses 104 = .ok (.iconst (-1), 1) := by decide +kernel
theorem dL_refuses_105 : decode cL_refuses 105 = .ok (.if_icmp .ne 304, 3) := by decide +kernel
theorem dL_refuses_108 : decode cL_refuses 108 = .ok (.aload_n 0, 1) := by decide +kernel
theorem dL_refuses_109 : decode cL_refuses 109 = .ok (.iconst 0, 1) := by decide +kernel
theorem dL_refuses_110 : decode cL_refuses 110 = .ok (.sipush 6001, 3) := by decide +kernel
theorem dL_refuses_113 : decode cL_refuses 113 = .ok (.iload_n 1, 1) := by decide +kernel
theorem dL_refuses_114 : decode cL_refuses 114 = .ok (.iadd, 1) := by decide +kernel
theorem dL_refuses_115 : decode cL_refuses 115 = .ok (.invokevirtual 22, 3) := by decide +kernel
theorem dL_refuses_118 : decode cL_refuses 118 = .ok (.iconst (-1), 1) := by decide +kernel
theorem dL_refuses_119 : decode cL_refuses 119 = .ok (.if_icmp .ne 290, 3) := by decide +kernel
theorem dL_refuses_122 : decode cL_refuses 122 = .ok (.aload_n 0, 1) := by decide +kernel
theorem dL_refuses_123 : decode cL_refuses 123 = .ok (.iload_n 2, 1) := by decide +kernel
theorem dL_refuses_124 : decode cL_refuses 124 = .ok (.iconst 1, 1) := by decide +kernel
theorem dL_refuses_125 : decode cL_refuses 125 = .ok (.invokevirtual 25, 3) := by decide +kernel
theorem dL_refuses_128 : decode cL_refuses 128 = .ok (.iconst (-1), 1) := by decide +kernel
theorem dL_refuses_129 : decode cL_refuses 129 = .ok (.if_icmp .ne 280, 3) := by decide +kernel
theorem dL_refuses_132 : decode cL_refuses 132 = .ok (.aload_n 0, 1) := by decide +kernel
theorem dL_refuses_133 : decode cL_refuses 133 = .ok (.iconst 0, 1) := by decide +kernel
theorem dL_refuses_134 : decode cL_refuses 134 = .ok (.iconst 0, 1) := by decide +kernel
theorem dL_refuses_135 : decode cL_refuses 135 = .ok (.invokevirtual 25, 3) := by decide +kernel
theorem dL_refuses_138 : decode cL_refuses 138 = .ok (.iconst (-1), 1) := by decide +kernel
theorem dL_refuses_139 : decode cL_refuses 139 = .ok (.if_icmp .ne 270, 3) := by decide +kernel
theorem dL_refuses_142 : decode cL_refuses 142 = .ok (.aload_n 0, 1) := by decide +kernel
theorem dL_refuses_143 : decode cL_refuses 143 = .ok (.iconst 1, 1) := by decide +kernel
theorem dL_refuses_144 : decode cL_refuses 144 = .ok (.bipush 51, 2) := by decide +kernel
theorem dL_refuses_146 : decode cL_refuses 146 = .ok (.iload_n 1, 1) := by decide +kernel
theorem dL_refuses_147 : decode cL_refuses 147 = .ok (.iadd, 1) := by decide +kernel
theorem dL_refuses_148 : decode cL_refuses 148 = .ok (.invokevirtual 25, 3) := by decide +kernel
theorem dL_refuses_151 : decode cL_refuses 151 = .ok (.iconst (-1), 1) := by decide +kernel
theorem dL_refuses_152 : decode cL_refuses 152 = .ok (.if_icmp .ne 257, 3) := by decide +kernel
theorem dL_refuses_155 : decode cL_refuses 155 = .ok (.aload_n 0, 1) := by decide +kernel
theorem dL_refuses_156 : decode cL_refuses 156 = .ok (.iconst 2, 1) := by decide +kernel
theorem dL_refuses_157 : decode cL_refuses 157 = .ok (.iconst (-1), 1) := by decide +kernel
theorem dL_refuses_158 : decode cL_refuses 158 = .ok (.iload_n 1, 1) := by decide +kernel
theorem dL_refuses_159 : decode cL_refuses 159 = .ok (.isub, 1) := by decide +kernel
theorem dL_refuses_160 : decode cL_refuses 160 = .ok (.invokevirtual 25, 3) := by decide +kernel
theorem dL_refuses_163 : decode cL_refuses 163 = .ok (.iconst (-1), 1) := by decide +kernel
theorem dL_refuses_164 : decode cL_refuses 164 = .ok (.if_icmp .ne 245, 3) := by decide +kernel
theorem dL_refuses_167 : decode cL_refuses 167 = .ok (.aload_n 0, 1) := by decide +kernel
theorem dL_refuses_168 : decode cL_refuses 168 = .ok (.iconst 3, 1) := by decide +kernel
theorem dL_refuses_169 : decode cL_refuses 169 = .ok (.sipush 501, 3) := by decide +kernel
theorem dL_refuses_172 : decode cL_refuses 172 = .ok (.iload_n 1, 1) := by decide +kernel
theorem dL_refuses_173 : decode cL_refuses 173 = .ok (.iadd, 1) := by decide +kernel
theorem dL_refuses_174 : decode cL_refuses 174 = .ok (.invokevirtual 25, 3) := by decide +kernel
theorem dL_refuses_177 : decode cL_refuses 177 = .ok (.iconst (-1), 1) := by decide +kernel
theorem dL_refuses_178 : decode cL_refuses 178 = .ok (.if_icmp .ne 231, 3) := by decide +kernel
theorem dL_refuses_181 : decode cL_refuses 181 = .ok (.aload_n 0, 1) := by decide +kernel
theorem dL_refuses_182 : decode cL_refuses 182 = .ok (.bipush 32, 2) := by decide +kernel
theorem dL_refuses_184 : decode cL_refuses 184 = .ok (.iload_n 1, 1) := by decide +kernel
theorem dL_refuses_185 : decode cL_refuses 185 = .ok (.isub, 1) := by decide +kernel
theorem dL_refuses_186 : decode cL_refuses 186 = .ok (.invokevirtual 41, 3) := by decide +kernel
theorem dL_refuses_189 : decode cL_refuses 189 = .ok (.iconst (-1), 1) := by decide +kernel
theorem dL_refuses_190 : decode cL_refuses 190 = .ok (.if_icmp .ne 219, 3) := by decide +kernel
theorem dL_refuses_193 : decode cL_refuses 193 = .ok (.aload_n 0, 1) := by decide +kernel
theorem dL_refuses_194 : decode cL_refuses 194 = .ok (.bipush 127, 2) := by decide +kernel
theorem dL_refuses_196 : decode cL_refuses 196 = .ok (.iload_n 1, 1) := by decide +kernel
theorem dL_refuses_197 : decode cL_refuses 197 = .ok (.iadd, 1) := by decide +kernel
theorem dL_refuses_198 : decode cL_refuses 198 = .ok (.invokevirtual 41, 3) := by decide +kernel
theorem dL_refuses_201 : decode cL_refuses 201 = .ok (.iconst (-1), 1) := by decide +kernel
theorem dL_refuses_202 : decode cL_refuses 202 = .ok (.if_icmp .ne 207, 3) := by decide +kernel
theorem dL_refuses_205 : decode cL_refuses 205 = .ok (.aload_n 0, 1) := by decide +kernel
theorem dL_refuses_206 : decode cL_refuses 206 = .ok (.iload_n 2, 1) := by decide +kernel
theorem dL_refuses_207 : decode cL_refuses 207 = .ok (.invokevirtual 88, 3) := by decide +kernel
theorem dL_refuses_210 : decode cL_refuses 210 = .ok (.iconst (-1), 1) := by decide +kernel
theorem dL_refuses_211 : decode cL_refuses 211 = .ok (.if_icmp .ne 198, 3) := by decide +kernel
theorem dL_refuses_214 : decode cL_refuses 214 = .ok (.aload_n 0, 1) := by decide +kernel
theorem dL_refuses_215 : decode cL_refuses 215 = .ok (.iload_n 2, 1) := by decide +kernel
theorem dL_refuses_216 : decode cL_refuses 216 = .ok (.iconst 0, 1) := by decide +kernel
theorem dL_refuses_217 : decode cL_refuses 217 = .ok (.invokevirtual 56, 3) := by decide +kernel
theorem dL_refuses_220 : decode cL_refuses 220 = .ok (.iconst (-1), 1) := by decide +kernel
theorem dL_refuses_221 : decode cL_refuses 221 = .ok (.if_icmp .ne 188, 3) := by decide +kernel
theorem dL_refuses_224 : decode cL_refuses 224 = .ok (.aload_n 0, 1) := by decide +kernel
theorem dL_refuses_225 : decode cL_refuses 225 = .ok (.iconst 0, 1) := by decide +kernel
theorem dL_refuses_226 : decode cL_refuses 226 = .ok (.bipush 8, 2) := by decide +kernel
theorem dL_refuses_228 : decode cL_refuses 228 = .ok (.iload_n 1, 1) := by decide +kernel
theorem dL_refuses_229 : decode cL_refuses 229 = .ok (.iadd, 1) := by decide +kernel
theorem dL_refuses_230 : decode cL_refuses 230 = .ok (.invokevirtual 56, 3) := by decide +kernel
theorem dL_refuses_233 : decode cL_refuses 233 = .ok (.iconst (-1), 1) := by decide +kernel
theorem dL_refuses_234 : decode cL_refuses 234 = .ok (.if_icmp .ne 175, 3) := by decide +kernel
theorem dL_refuses_237 : decode cL_refuses 237 = .ok (.aload_n 0, 1) := by decide +kernel
theorem dL_refuses_238 : decode cL_refuses 238 = .ok (.iload_n 2, 1) := by decide +kernel
theorem dL_refuses_239 : decode cL_refuses 239 = .ok (.iconst 0, 1) := by decide +kernel
theorem dL_refuses_240 : decode cL_refuses 240 = .ok (.invokevirtual 60, 3) := by decide +kernel
theorem dL_refuses_243 : decode cL_refuses 243 = .ok (.iconst (-1), 1) := by decide +kernel
theorem dL_refuses_244 : decode cL_refuses 244 = .ok (.if_icmp .ne 165, 3) := by decide +kernel
theorem dL_refuses_247 : decode cL_refuses 247 = .ok (.aload_n 0, 1) := by decide +kernel
theorem dL_refuses_248 : decode cL_refuses 248 = .ok (.iconst 0, 1) := by decide +kernel
theorem dL_refuses_249 : decode cL_refuses 249 = .ok (.bipush 6, 2) := by decide +kernel
theorem dL_refuses_251 : decode cL_refuses 251 = .ok (.iload_n 1, 1) := by decide +kernel
theorem dL_refuses_252 : decode cL_refuses 252 = .ok (.iadd, 1) := by decide +kernel
theorem dL_refuses_253 : decode cL_refuses 253 = .ok (.invokevirtual 60, 3) := by decide +kernel
theorem dL_refuses_256 : decode cL_refuses 256 = .ok (.iconst (-1), 1) := by decide +kernel
theorem dL_refuses_257 : decode cL_refuses 257 = .ok (.if_icmp .ne 152, 3) := by decide +kernel
theorem dL_refuses_260 : decode cL_refuses 260 = .ok (.aload_n 0, 1) := by decide +kernel
theorem dL_refuses_261 : decode cL_refuses 261 = .ok (.iload_n 2, 1) := by decide +kernel
theorem dL_refuses_262 : decode cL_refuses 262 = .ok (.iconst 1, 1) := by decide +kernel
theorem dL_refuses_263 : decode cL_refuses 263 = .ok (.iconst 0, 1) := by decide +kernel
theorem dL_refuses_264 : decode cL_refuses 264 = .ok (.invokevirtual 75, 3) := by decide +kernel
theorem dL_refuses_267 : decode cL_refuses 267 = .ok (.iconst (-1), 1) := by decide +kernel
theorem dL_refuses_268 : decode cL_refuses 268 = .ok (.if_icmp .ne 141, 3) := by decide +kernel
theorem dL_refuses_271 : decode cL_refuses 271 = .ok (.aload_n 0, 1) := by decide +kernel
theorem dL_refuses_272 : decode cL_refuses 272 = .ok (.iconst 0, 1) := by decide +kernel
theorem dL_refuses_273 : decode cL_refuses 273 = .ok (.sipush 1000, 3) := by decide +kernel
theorem dL_refuses_276 : decode cL_refuses 276 = .ok (.iload_n 1, 1) := by decide +kernel
theorem dL_refuses_277 : decode cL_refuses 277 = .ok (.iadd, 1) := by decide +kernel
theorem dL_refuses_278 : decode cL_refuses 278 = .ok (.iconst 0, 1) := by decide +kernel
theorem dL_refuses_279 : decode cL_refuses 279 = .ok (.invokevirtual 75, 3) := by decide +kernel
theorem dL_refuses_282 : decode cL_refuses 282 = .ok (.iconst (-1), 1) := by decide +kernel
theorem dL_refuses_283 : decode cL_refuses 283 = .ok (.if_icmp .ne 126, 3) := by decide +kernel
theorem dL_refuses_286 : decode cL_refuses 286 = .ok (.aload_n 0, 1) := by decide +kernel
theorem dL_refuses_287 : decode cL_refuses 287 = .ok (.iconst 0, 1) := by decide +kernel
theorem dL_refuses_288 : decode cL_refuses 288 = .ok (.iconst 1, 1) := by decide +kernel
theorem dL_refuses_289 : decode cL_refuses 289 = .ok (.iconst 2, 1) := by decide +kernel
theorem dL_refuses_290 : decode cL_refuses 290 = .ok (.iload_n 1, 1) := by decide +kernel
theorem dL_refuses_291 : decode cL_refuses 291 = .ok (.iadd, 1) := by decide +kernel
theorem dL_refuses_292 : decode cL_refuses 292 = .ok (.invokevirtual 75, 3) := by decide +kernel
theorem dL_refuses_295 : decode cL_refuses 295 = .ok (.iconst (-1), 1) := by decide +kernel
theorem dL_refuses_296 : decode cL_refuses 296 = .ok (.if_icmp .ne 113, 3) := by decide +kernel
theorem dL_refuses_299 : decode cL_refuses 299 = .ok (.aload_n 0, 1) := by decide +kernel
theorem dL_refuses_300 : decode cL_refuses 300 = .ok (.iload_n 2, 1) := by decide +kernel
theorem dL_refuses_301 : decode cL_refuses 301 = .ok (.invokevirtual 78, 3) := by decide +kernel
theorem dL_refuses_304 : decode cL_refuses 304 = .ok (.iconst (-1), 1) := by decide +kernel
theorem dL_refuses_305 : decode cL_refuses 305 = .ok (.if_icmp .ne 104, 3) := by decide +kernel
theorem dL_refuses_308 : decode cL_refuses 308 = .ok (.aload_n 0, 1) := by decide +kernel
theorem dL_refuses_309 : decode cL_refuses 309 = .ok (.bipush 14, 2) := by decide +kernel
theorem dL_refuses_311 : decode cL_refuses 311 = .ok (.iload_n 1, 1) := by decide +kernel
theorem dL_refuses_312 : decode cL_refuses 312 = .ok (.iadd, 1) := by decide +kernel
theorem dL_refuses_313 : decode cL_refuses 313 = .ok (.invokevirtual 53, 3) := by decide +kernel
theorem dL_refuses_316 : decode cL_refuses 316 = .ok (.iconst (-1), 1) := by decide +kernel
theorem dL_refuses_317 : decode cL_refuses 317 = .ok (.if_icmp .ne 92, 3) := by decide +kernel
theorem dL_refuses_320 : decode cL_refuses 320 = .ok (.aload_n 0, 1) := by decide +kernel
theorem dL_refuses_321 : decode cL_refuses 321 = .ok (.iconst (-1), 1) := by decide +kernel
theorem dL_refuses_322 : decode cL_refuses 322 = .ok (.iload_n 1, 1) := by decide +kernel
theorem dL_refuses_323 : decode cL_refuses 323 = .ok (.isub, 1) := by decide +kernel
theorem dL_refuses_324 : decode cL_refuses 324 = .ok (.invokevirtual 53, 3) := by decide +kernel
theorem dL_refuses_327 : decode cL_refuses 327 = .ok (.iconst (-1), 1) := by decide +kernel
theorem dL_refuses_328 : decode cL_refuses 328 = .ok (.if_icmp .ne 81, 3) := by decide +kernel
theorem dL_refuses_331 : decode cL_refuses 331 = .ok (.aload_n 0, 1) := by decide +kernel
theorem dL_refuses_332 : decode cL_refuses 332 = .ok (.iload_n 2, 1) := by decide +kernel
theorem dL_refuses_333 : decode cL_refuses 333 = .ok (.iconst 1, 1) := by decide +kernel
theorem dL_refuses_334 : decode cL_refuses 334 = .ok (.iconst 1, 1) := by decide +kernel
theorem dL_refuses_335 : decode cL_refuses 335 = .ok (.invokevirtual 63, 3) := by decide +kernel
theorem dL_refuses_338 : decode cL_refuses 338 = .ok (.iconst (-1), 1) := by decide +kernel
theorem dL_refuses_339 : decode cL_refuses 339 = .ok (.if_icmp .ne 70, 3) := by decide +kernel
theorem dL_refuses_342 : decode cL_refuses 342 = .ok (.aload_n 0, 1) := by decide +kernel
theorem dL_refuses_343 : decode cL_refuses 343 = .ok (.iconst 0, 1) := by decide +kernel
theorem dL_refuses_344 : decode cL_refuses 344 = .ok (.iconst 1, 1) := by decide +kernel
theorem dL_refuses_345 : decode cL_refuses 345 = .ok (.bipush 51, 2) := by decide +kernel
theorem dL_refuses_347 : decode cL_refuses 347 = .ok (.iload_n 1, 1) := by decide +kernel
theorem dL_refuses_348 : decode cL_refuses 348 = .ok (.iadd, 1) := by decide +kernel
theorem dL_refuses_349 : decode cL_refuses 349 = .ok (.iconst 0, 1) := by decide +kernel
theorem dL_refuses_350 : decode cL_refuses 350 = .ok (.invokevirtual 71, 3) := by decide +kernel
theorem dL_refuses_353 : decode cL_refuses 353 = .ok (.iconst (-1), 1) := by decide +kernel
theorem dL_refuses_354 : decode cL_refuses 354 = .ok (.if_icmp .ne 55, 3) := by decide +kernel
theorem dL_refuses_357 : decode cL_refuses 357 = .ok (.aload_n 0, 1) := by decide +kernel
theorem dL_refuses_358 : decode cL_refuses 358 = .ok (.iconst 0, 1) := by decide +kernel
theorem dL_refuses_359 : decode cL_refuses 359 = .ok (.iconst 1, 1) := by decide +kernel
theorem dL_refuses_360 : decode cL_refuses 360 = .ok (.iconst 1, 1) := by decide +kernel
theorem dL_refuses_361 : decode cL_refuses 361 = .ok (.iconst 2, 1) := by decide +kernel
theorem dL_refuses_362 : decode cL_refuses 362 = .ok (.iload_n 1, 1) := by decide +kernel
theorem dL_refuses_363 : decode cL_refuses 363 = .ok (.iadd, 1) := by decide +kernel
theorem dL_refuses_364 : decode cL_refuses 364 = .ok (.invokevirtual 71, 3) := by decide +kernel
theorem dL_refuses_367 : decode cL_refuses 367 = .ok (.iconst (-1), 1) := by decide +kernel
theorem dL_refuses_368 : decode cL_refuses 368 = .ok (.if_icmp .ne 41, 3) := by decide +kernel
theorem dL_refuses_371 : decode cL_refuses 371 = .ok (.aload_n 0, 1) := by decide +kernel
theorem dL_refuses_372 : decode cL_refuses 372 = .ok (.iconst 0, 1) := by decide +kernel
theorem dL_refuses_373 : decode cL_refuses 373 = .ok (.iconst 1, 1) := by decide +kernel
theorem dL_refuses_374 : decode cL_refuses 374 = .ok (.invokevirtual 81, 3) := by decide +kernel
theorem dL_refuses_377 : decode cL_refuses 377 = .ok (.iconst (-1), 1) := by decide +kernel
theorem dL_refuses_378 : decode cL_refuses 378 = .ok (.if_icmp .ne 31, 3) := by decide +kernel
theorem dL_refuses_381 : decode cL_refuses 381 = .ok (.aload_n 0, 1) := by decide +kernel
theorem dL_refuses_382 : decode cL_refuses 382 = .ok (.iconst 1, 1) := by decide +kernel
theorem dL_refuses_383 : decode cL_refuses 383 = .ok (.bipush 51, 2) := by decide +kernel
theorem dL_refuses_385 : decode cL_refuses 385 = .ok (.iload_n 1, 1) := by decide +kernel
theorem dL_refuses_386 : decode cL_refuses 386 = .ok (.iadd, 1) := by decide +kernel
theorem dL_refuses_387 : decode cL_refuses 387 = .ok (.invokevirtual 81, 3) := by decide +kernel
theorem dL_refuses_390 : decode cL_refuses 390 = .ok (.iconst (-1), 1) := by decide +kernel
theorem dL_refuses_391 : decode cL_refuses 391 = .ok (.if_icmp .ne 18, 3) := by decide +kernel
theorem dL_refuses_394 : decode cL_refuses 394 = .ok (.aload_n 0, 1) := by decide +kernel
theorem dL_refuses_395 : decode cL_refuses 395 = .ok (.iload_n 2, 1) := by decide +kernel
theorem dL_refuses_396 : decode cL_refuses 396 = .ok (.iconst 1, 1) := by decide +kernel
theorem dL_refuses_397 : decode cL_refuses 397 = .ok (.iconst 1, 1) := by decide +kernel
theorem dL_refuses_398 : decode cL_refuses 398 = .ok (.invokevirtual 67, 3) := by decide +kernel
theorem dL_refuses_401 : decode cL_refuses 401 = .ok (.iconst (-1), 1) := by decide +kernel
theorem dL_refuses_402 : decode cL_refuses 402 = .ok (.if_icmp .ne 7, 3) := by decide +kernel
theorem dL_refuses_405 : decode cL_refuses 405 = .ok (.iconst 1, 1) := by decide +kernel
theorem dL_refuses_406 : decode cL_refuses 406 = .ok (.goto 4, 3) := by decide +kernel
theorem dL_refuses_409 : decode cL_refuses 409 = .ok (.iconst 0, 1) := by decide +kernel
theorem dL_refuses_410 : decode cL_refuses 410 = .ok (.istore_n 3, 1) := by decide +kernel
theorem dL_refuses_411 : decode cL_refuses 411 = .ok (.aload_n 0, 1) := by decide +kernel
theorem dL_refuses_412 : decode cL_refuses 412 = .ok (.invokevirtual 38, 3) := by decide +kernel
theorem dL_refuses_415 : decode cL_refuses 415 = .ok (.istore 4, 2) := by decide +kernel
theorem dL_refuses_417 : decode cL_refuses 417 = .ok (.iload_n 3, 1) := by decide +kernel
theorem dL_refuses_418 : decode cL_refuses 418 = .ok (.ifCond .eq 70, 3) := by decide +kernel
theorem dL_refuses_421 : decode cL_refuses 421 = .ok (.iload 4, 2) := by decide +kernel
theorem dL_refuses_423 : decode cL_refuses 423 = .ok (.ifCond .lt 65, 3) := by decide +kernel
theorem dL_refuses_426 : decode cL_refuses 426 = .ok (.aload_n 0, 1) := by decide +kernel
theorem dL_refuses_427 : decode cL_refuses 427 = .ok (.invokevirtual 44, 3) := by decide +kernel
theorem dL_refuses_430 : decode cL_refuses 430 = .ok (.ifCond .ne 58, 3) := by decide +kernel
theorem dL_refuses_433 : decode cL_refuses 433 = .ok (.aload_n 0, 1) := by decide +kernel
theorem dL_refuses_434 : decode cL_refuses 434 = .ok (.invokevirtual 47, 3) := by decide +kernel
theorem dL_refuses_437 : decode cL_refuses 437 = .ok (.bipush (-2), 2) := by decide +kernel
theorem dL_refuses_439 : decode cL_refuses 439 = .ok (.if_icmp .ne 49, 3) := by decide +kernel
theorem dL_refuses_442 : decode cL_refuses 442 = .ok (.aload_n 0, 1) := by decide +kernel
theorem dL_refuses_443 : decode cL_refuses 443 = .ok (.iconst 0, 1) := by decide +kernel
theorem dL_refuses_444 : decode cL_refuses 444 = .ok (.iconst 0, 1) := by decide +kernel
theorem dL_refuses_445 : decode cL_refuses 445 = .ok (.invokevirtual 60, 3) := by decide +kernel
theorem dL_refuses_448 : decode cL_refuses 448 = .ok (.bipush (-4), 2) := by decide +kernel
theorem dL_refuses_450 : decode cL_refuses 450 = .ok (.if_icmp .ne 13, 3) := by decide +kernel
theorem dL_refuses_453 : decode cL_refuses 453 = .ok (.aload_n 0, 1) := by decide +kernel
theorem dL_refuses_454 : decode cL_refuses 454 = .ok (.iconst 0, 1) := by decide +kernel
theorem dL_refuses_455 : decode cL_refuses 455 = .ok (.invokevirtual 19, 3) := by decide +kernel
theorem dL_refuses_458 : decode cL_refuses 458 = .ok (.bipush (-2), 2) := by decide +kernel
theorem dL_refuses_460 : decode cL_refuses 460 = .ok (.if_icmp .ne 28, 3) := by decide +kernel
theorem dL_refuses_463 : decode cL_refuses 463 = .ok (.aload_n 0, 1) := by decide +kernel
theorem dL_refuses_464 : decode cL_refuses 464 = .ok (.iconst 1, 1) := by decide +kernel
theorem dL_refuses_465 : decode cL_refuses 465 = .ok (.iconst 0, 1) := by decide +kernel
theorem dL_refuses_466 : decode cL_refuses 466 = .ok (.invokevirtual 60, 3) := by decide +kernel
theorem dL_refuses_469 : decode cL_refuses 469 = .ok (.bipush (-4), 2) := by decide +kernel
theorem dL_refuses_471 : decode cL_refuses 471 = .ok (.if_icmp .ne 13, 3) := by decide +kernel
theorem dL_refuses_474 : decode cL_refuses 474 = .ok (.aload_n 0, 1) := by decide +kernel
theorem dL_refuses_475 : decode cL_refuses 475 = .ok (.iconst 1, 1) := by decide +kernel
theorem dL_refuses_476 : decode cL_refuses 476 = .ok (.invokevirtual 19, 3) := by decide +kernel
theorem dL_refuses_479 : decode cL_refuses 479 = .ok (.bipush (-2), 2) := by decide +kernel
theorem dL_refuses_481 : decode cL_refuses 481 = .ok (.if_icmp .ne 7, 3) := by decide +kernel
theorem dL_refuses_484 : decode cL_refuses 484 = .ok (.iconst 1, 1) := by decide +kernel
theorem dL_refuses_485 : decode cL_refuses 485 = .ok (.goto 4, 3) := by decide +kernel
theorem dL_refuses_488 : decode cL_refuses 488 = .ok (.iconst 0, 1) := by decide +kernel
theorem dL_refuses_489 : decode cL_refuses 489 = .ok (.ireturn, 1) := by decide +kernel
theorem dL_law_0 : decode cL_law 0 = .ok (.new 10, 3) := by decide +kernel
theorem dL_law_3 : decode cL_law 3 = .ok (.dup, 1) := by decide +kernel
theorem dL_law_4 : decode cL_law 4 = .ok (.invokespecial 91, 3) := by decide +kernel
theorem dL_law_7 : decode cL_law 7 = .ok (.astore_n 1, 1) := by decide +kernel
theorem dL_law_8 : decode cL_law 8 = .ok (.new 10, 3) := by decide +kernel
theorem dL_law_11 : decode cL_law 11 = .ok (.dup, 1) := by decide +kernel
theorem dL_law_12 : decode cL_law 12 = .ok (.invokespecial 91, 3) := by decide +kernel
theorem dL_law_15 : decode cL_law 15 = .ok (.astore_n 2, 1) := by decide +kernel
theorem dL_law_16 : decode cL_law 16 = .ok (.aload_n 1, 1) := by decide +kernel
theorem dL_law_17 : decode cL_law 17 = .ok (.invokevirtual 28, 3) := by decide +kernel
theorem dL_law_20 : decode cL_law 20 = .ok (.bipush (-2), 2) := by decide +kernel
theorem dL_law_22 : decode cL_law 22 = .ok (.if_icmp .ne 51, 3) := by decide +kernel
theorem dL_law_25 : decode cL_law 25 = .ok (.aload_n 1, 1) := by decide +kernel
theorem dL_law_26 : decode cL_law 26 = .ok (.invokevirtual 35, 3) := by decide +kernel
theorem dL_law_29 : decode cL_law 29 = .ok (.bipush (-2), 2) := by decide +kernel
theorem dL_law_31 : decode cL_law 31 = .ok (.if_icmp .ne 42, 3) := by decide +kernel
theorem dL_law_34 : decode cL_law 34 = .ok (.aload_n 1, 1) := by decide +kernel
theorem dL_law_35 : decode cL_law 35 = .ok (.invokevirtual 44, 3) := by decide +kernel
theorem dL_law_38 : decode cL_law 38 = .ok (.ifCond .ne 35, 3) := by decide +kernel
theorem dL_law_41 : decode cL_law 41 = .ok (.aload_n 1, 1) := by decide +kernel
theorem dL_law_42 : decode cL_law 42 = .ok (.iconst 0, 1) := by decide +kernel
theorem dL_law_43 : decode cL_law 43 = .ok (.invokevirtual 88, 3) := by decide +kernel
theorem dL_law_46 : decode cL_law 46 = .ok (.bipush (-4), 2) := by decide +kernel
theorem dL_law_48 : decode cL_law 48 = .ok (.if_icmp .ne 25, 3) := by decide +kernel
theorem dL_law_51 : decode cL_law 51 = .ok (.aload_n 1, 1) := by decide +kernel
theorem dL_law_52 : decode cL_law 52 = .ok (.iconst 0, 1) := by decide +kernel
theorem dL_law_53 : decode cL_law 53 = .ok (.invokevirtual 53, 3) := by decide +kernel
theorem dL_law_56 : decode cL_law 56 = .ok (.sipush 16000, 3) := by decide +kernel
theorem dL_law_59 : decode cL_law 59 = .ok (.if_icmp .ne 14, 3) := by decide +kernel
theorem dL_law_62 : decode cL_law 62 = .ok (.aload_n 1, 1) := by decide +kernel
theorem dL_law_63 : decode cL_law 63 = .ok (.invokestatic 92, 3) := by decide +kernel
theorem dL_law_66 : decode cL_law 66 = .ok (.ifCond .eq 7, 3) := by decide +kernel
theorem dL_law_69 : decode cL_law 69 = .ok (.iconst 1, 1) := by decide +kernel
theorem dL_law_70 : decode cL_law 70 = .ok (.goto 4, 3) := by decide +kernel
theorem dL_law_73 : decode cL_law 73 = .ok (.iconst 0, 1) := by decide +kernel
theorem dL_law_74 : decode cL_law 74 = .ok (.istore_n 3, 1) := by decide +kernel
theorem dL_law_75 : decode cL_law 75 = .ok (.iconst 0, 1) := by decide +kernel
theorem dL_law_76 : decode cL_law 76 = .ok (.istore 4, 2) := by decide +kernel
theorem dL_law_78 : decode cL_law 78 = .ok (.iload 4, 2) := by decide +kernel
theorem dL_law_80 : decode cL_law 80 = .ok (.bipush 32, 2) := by decide +kernel
theorem dL_law_82 : decode cL_law 82 = .ok (.if_icmp .ge 99, 3) := by decide +kernel
theorem dL_law_85 : decode cL_law 85 = .ok (.iload_n 3, 1) := by decide +kernel
theorem dL_law_86 : decode cL_law 86 = .ok (.ifCond .eq 95, 3) := by decide +kernel
theorem dL_law_89 : decode cL_law 89 = .ok (.aload_n 0, 1) := by decide +kernel
theorem dL_law_90 : decode cL_law 90 = .ok (.iload 4, 2) := by decide +kernel
theorem dL_law_92 : decode cL_law 92 = .ok (.invokestatic 98, 3) := by decide +kernel
theorem dL_law_95 : decode cL_law 95 = .ok (.istore 5, 2) := by decide +kernel
theorem dL_law_97 : decode cL_law 97 = .ok (.aload_n 1, 1) := by decide +kernel
theorem dL_law_98 : decode cL_law 98 = .ok (.iload 5, 2) := by decide +kernel
theorem dL_law_100 : decode cL_law 100 = .ok (.invokestatic 102, 3) := by decide +kernel
theorem dL_law_103 : decode cL_law 103 = .ok (.istore 6, 2) := by decide +kernel
theorem dL_law_105 : decode cL_law 105 = .ok (.iload 4, 2) := by decide +kernel
theorem dL_law_107 : decode cL_law 107 = .ok (.iconst 3, 1) := by decide +kernel
theorem dL_law_108 : decode cL_law 108 = .ok (.irem, 1) := by decide +kernel
theorem dL_law_109 : decode cL_law 109 = .ok (.ifCond .gt 15, 3) := by decide +kernel
theorem dL_law_112 : decode cL_law 112 = .ok (.aload_n 2, 1) := by decide +kernel
theorem dL_law_113 : decode cL_law 113 = .ok (.iload 5, 2) := by decide +kernel
theorem dL_law_115 : decode cL_law 115 = .ok (.ldc 59, 2) := by decide +kernel
theorem dL_law_117 : decode cL_law 117 = .ok (.irem, 1) := by decide +kernel
theorem dL_law_118 : decode cL_law 118 = .ok (.invokestatic 106, 3) := by decide +kernel
theorem dL_law_121 : decode cL_law 121 = .ok (.ifCond .eq 52, 3) := by decide +kernel
theorem dL_law_124 : decode cL_law 124 = .ok (.aload_n 2, 1) := by decide +kernel
theorem dL_law_125 : decode cL_law 125 = .ok (.iload 5, 2) := by decide +kernel
theorem dL_law_127 : decode cL_law 127 = .ok (.invokestatic 102, 3) := by decide +kernel
theorem dL_law_130 : decode cL_law 130 = .ok (.iload 6, 2) := by decide +kernel
theorem dL_law_132 : decode cL_law 132 = .ok (.if_icmp .ne 41, 3) := by decide +kernel
theorem dL_law_135 : decode cL_law 135 = .ok (.aload_n 1, 1) := by decide +kernel
theorem dL_law_136 : decode cL_law 136 = .ok (.aload_n 2, 1) := by decide +kernel
theorem dL_law_137 : decode cL_law 137 = .ok (.invokestatic 110, 3) := by decide +kernel
theorem dL_law_140 : decode cL_law 140 = .ok (.ifCond .eq 33, 3) := by decide +kernel
theorem dL_law_143 : decode cL_law 143 = .ok (.iload 4, 2) := by decide +kernel
theorem dL_law_145 : decode cL_law 145 = .ok (.iconst 4, 1) := by decide +kernel
theorem dL_law_146 : decode cL_law 146 = .ok (.irem, 1) := by decide +kernel
theorem dL_law_147 : decode cL_law 147 = .ok (.ifCond .gt 22, 3) := by decide +kernel
theorem dL_law_150 : decode cL_law 150 = .ok (.iload 4, 2) := by decide +kernel
theorem dL_law_152 : decode cL_law 152 = .ok (.bipush 8, 2) := by decide +kernel
theorem dL_law_154 : decode cL_law 154 = .ok (.irem, 1) := by decide +kernel
theorem dL_law_155 : decode cL_law 155 = .ok (.ifCond .ne 7, 3) := by decide +kernel
theorem dL_law_158 : decode cL_law 158 = .ok (.aload_n 1, 1) := by decide +kernel
theorem dL_law_159 : decode cL_law 159 = .ok (.goto 4, 3) := by decide +kernel
theorem dL_law_162 : decode cL_law 162 = .ok (.aload_n 2, 1) := by decide +kernel
theorem dL_law_163 : decode cL_law 163 = .ok (.invokestatic 92, 3) := by decide +kernel
theorem dL_law_166 : decode cL_law 166 = .ok (.ifCond .eq 7, 3) := by decide +kernel
theorem dL_law_169 : decode cL_law 169 = .ok (.iconst 1, 1) := by decide +kernel
theorem dL_law_170 : decode cL_law 170 = .ok (.goto 4, 3) := by decide +kernel
theorem dL_law_173 : decode cL_law 173 = .ok (.iconst 0, 1) := by decide +kernel
theorem dL_law_174 : decode cL_law 174 = .ok (.istore_n 3, 1) := by decide +kernel
theorem dL_law_175 : decode cL_law 175 = .ok (.iinc 4 1, 3) := by decide +kernel
theorem dL_law_178 : decode cL_law 178 = .ok (.goto (-100), 3) := by decide +kernel
theorem dL_law_181 : decode cL_law 181 = .ok (.aload_n 1, 1) := by decide +kernel
theorem dL_law_182 : decode cL_law 182 = .ok (.invokevirtual 38, 3) := by decide +kernel
theorem dL_law_185 : decode cL_law 185 = .ok (.istore 4, 2) := by decide +kernel
theorem dL_law_187 : decode cL_law 187 = .ok (.iconst 1, 1) := by decide +kernel
theorem dL_law_188 : decode cL_law 188 = .ok (.aload_n 0, 1) := by decide +kernel
theorem dL_law_189 : decode cL_law 189 = .ok (.bipush 32, 2) := by decide +kernel
theorem dL_law_191 : decode cL_law 191 = .ok (.invokestatic 98, 3) := by decide +kernel
theorem dL_law_194 : decode cL_law 194 = .ok (.bipush 9, 2) := by decide +kernel
theorem dL_law_196 : decode cL_law 196 = .ok (.irem, 1) := by decide +kernel
theorem dL_law_197 : decode cL_law 197 = .ok (.iadd, 1) := by decide +kernel
theorem dL_law_198 : decode cL_law 198 = .ok (.istore 5, 2) := by decide +kernel
theorem dL_law_200 : decode cL_law 200 = .ok (.aload_n 1, 1) := by decide +kernel
theorem dL_law_201 : decode cL_law 201 = .ok (.bipush 112, 2) := by decide +kernel
theorem dL_law_203 : decode cL_law 203 = .ok (.invokevirtual 41, 3) := by decide +kernel
theorem dL_law_206 : decode cL_law 206 = .ok (.istore 4, 2) := by decide +kernel
theorem dL_law_208 : decode cL_law 208 = .ok (.aload_n 1, 1) := by decide +kernel
theorem dL_law_209 : decode cL_law 209 = .ok (.bipush 49, 2) := by decide +kernel
theorem dL_law_211 : decode cL_law 211 = .ok (.invokevirtual 41, 3) := by decide +kernel
theorem dL_law_214 : decode cL_law 214 = .ok (.istore 4, 2) := by decide +kernel
theorem dL_law_216 : decode cL_law 216 = .ok (.aload_n 1, 1) := by decide +kernel
theorem dL_law_217 : decode cL_law 217 = .ok (.bipush 58, 2) := by decide +kernel
theorem dL_law_219 : decode cL_law 219 = .ok (.invokevirtual 41, 3) := by decide +kernel
theorem dL_law_222 : decode cL_law 222 = .ok (.istore 4, 2) := by decide +kernel
theorem dL_law_224 : decode cL_law 224 = .ok (.aload_n 1, 1) := by decide +kernel
theorem dL_law_225 : decode cL_law 225 = .ok (.bipush 48, 2) := by decide +kernel
theorem dL_law_227 : decode cL_law 227 = .ok (.iload 5, 2) := by decide +kernel
theorem dL_law_229 : decode cL_law 229 = .ok (.iadd, 1) := by decide +kernel
theorem dL_law_230 : decode cL_law 230 = .ok (.invokevirtual 41, 3) := by decide +kernel
theorem dL_law_233 : decode cL_law 233 = .ok (.istore 4, 2) := by decide +kernel
theorem dL_law_235 : decode cL_law 235 = .ok (.aload_n 1, 1) := by decide +kernel
theorem dL_law_236 : decode cL_law 236 = .ok (.bipush 48, 2) := by decide +kernel
theorem dL_law_238 : decode cL_law 238 = .ok (.invokevirtual 41, 3) := by decide +kernel
theorem dL_law_241 : decode cL_law 241 = .ok (.istore 4, 2) := by decide +kernel
theorem dL_law_243 : decode cL_law 243 = .ok (.aload_n 1, 1) := by decide +kernel
theorem dL_law_244 : decode cL_law 244 = .ok (.bipush 120, 2) := by decide +kernel
theorem dL_law_246 : decode cL_law 246 = .ok (.invokevirtual 41, 3) := by decide +kernel
theorem dL_law_249 : decode cL_law 249 = .ok (.istore 4, 2) := by decide +kernel
theorem dL_law_251 : decode cL_law 251 = .ok (.aload_n 1, 1) := by decide +kernel
theorem dL_law_252 : decode cL_law 252 = .ok (.bipush 55, 2) := by decide +kernel
theorem dL_law_254 : decode cL_law 254 = .ok (.invokevirtual 41, 3) := by decide +kernel
theorem dL_law_257 : decode cL_law 257 = .ok (.istore 4, 2) := by decide +kernel
theorem dL_law_259 : decode cL_law 259 = .ok (.iconst 0, 1) := by decide +kernel
theorem dL_law_260 : decode cL_law 260 = .ok (.istore 6, 2) := by decide +kernel
theorem dL_law_262 : decode cL_law 262 = .ok (.bipush 10, 2) := by decide +kernel
theorem dL_law_264 : decode cL_law 264 = .ok (.istore 7, 2) := by decide +kernel
theorem dL_law_266 : decode cL_law 266 = .ok (.iconst 0, 1) := by decide +kernel
theorem dL_law_267 : decode cL_law 267 = .ok (.istore 8, 2) := by decide +kernel
theorem dL_law_269 : decode cL_law 269 = .ok (.iload 8, 2) := by decide +kernel
theorem dL_law_271 : decode cL_law 271 = .ok (.bipush 7, 2) := by decide +kernel
theorem dL_law_273 : decode cL_law 273 = .ok (.if_icmp .ge 45, 3) := by decide +kernel
theorem dL_law_276 : decode cL_law 276 = .ok (.iload 7, 2) := by decide +kernel
theorem dL_law_278 : decode cL_law 278 = .ok (.bipush 10, 2) := by decide +kernel
theorem dL_law_280 : decode cL_law 280 = .ok (.if_icmp .lt 38, 3) := by decide +kernel
theorem dL_law_283 : decode cL_law 283 = .ok (.aload_n 2, 1) := by decide +kernel
theorem dL_law_284 : decode cL_law 284 = .ok (.iconst 1, 1) := by decide +kernel
theorem dL_law_285 : decode cL_law 285 = .ok (.bipush 10, 2) := by decide +kernel
theorem dL_law_287 : decode cL_law 287 = .ok (.iload 5, 2) := by decide +kernel
theorem dL_law_289 : decode cL_law 289 = .ok (.imul, 1) := by decide +kernel
theorem dL_law_290 : decode cL_law 290 = .ok (.invokevirtual 50, 3) := by decide +kernel
theorem dL_law_293 : decode cL_law 293 = .ok (.istore 7, 2) := by decide +kernel
theorem dL_law_295 : decode cL_law 295 = .ok (.iload 6, 2) := by decide +kernel
theorem dL_law_297 : decode cL_law 297 = .ok (.iload 7, 2) := by decide +kernel
theorem dL_law_299 : decode cL_law 299 = .ok (.bipush 10, 2) := by decide +kernel
theorem dL_law_301 : decode cL_law 301 = .ok (.if_icmp .lt 7, 3) := by decide +kernel
theorem dL_law_304 : decode cL_law 304 = .ok (.iconst 1, 1) := by decide +kernel
theorem dL_law_305 : decode cL_law 305 = .ok (.goto 4, 3) := by decide +kernel
theorem dL_law_308 : decode cL_law 308 = .ok (.iconst 0, 1) := by decide +kernel
theorem dL_law_309 : decode cL_law 309 = .ok (.iadd, 1) := by decide +kernel
theorem dL_law_310 : decode cL_law 310 = .ok (.istore 6, 2) := by decide +kernel
theorem dL_law_312 : decode cL_law 312 = .ok (.iinc 8 1, 3) := by decide +kernel
theorem dL_law_315 : decode cL_law 315 = .ok (.goto (-46), 3) := by decide +kernel
theorem dL_law_318 : decode cL_law 318 = .ok (.iload_n 3, 1) := by decide +kernel
theorem dL_law_319 : decode cL_law 319 = .ok (.ifCond .eq 67, 3) := by decide +kernel
theorem dL_law_322 : decode cL_law 322 = .ok (.iload 4, 2) := by decide +kernel
theorem dL_law_324 : decode cL_law 324 = .ok (.bipush 7, 2) := by decide +kernel
theorem dL_law_326 : decode cL_law 326 = .ok (.if_icmp .ne 60, 3) := by decide +kernel
theorem dL_law_329 : decode cL_law 329 = .ok (.aload_n 1, 1) := by decide +kernel
theorem dL_law_330 : decode cL_law 330 = .ok (.invokevirtual 47, 3) := by decide +kernel
theorem dL_law_333 : decode cL_law 333 = .ok (.iload 6, 2) := by decide +kernel
theorem dL_law_335 : decode cL_law 335 = .ok (.if_icmp .ne 51, 3) := by decide +kernel
theorem dL_law_338 : decode cL_law 338 = .ok (.aload_n 1, 1) := by decide +kernel
theorem dL_law_339 : decode cL_law 339 = .ok (.iconst 0, 1) := by decide +kernel
theorem dL_law_340 : decode cL_law 340 = .ok (.invokevirtual 88, 3) := by decide +kernel
theorem dL_law_343 : decode cL_law 343 = .ok (.iload 7, 2) := by decide +kernel
theorem dL_law_345 : decode cL_law 345 = .ok (.bipush 10, 2) := by decide +kernel
theorem dL_law_347 : decode cL_law 347 = .ok (.if_icmp .ge 8, 3) := by decide +kernel
theorem dL_law_350 : decode cL_law 350 = .ok (.iload 7, 2) := by decide +kernel
theorem dL_law_352 : decode cL_law 352 = .ok (.goto 5, 3) := by decide +kernel
theorem dL_law_355 : decode cL_law 355 = .ok (.bipush (-4), 2) := by decide +kernel
theorem dL_law_357 : decode cL_law 357 = .ok (.if_icmp .ne 29, 3) := by decide +kernel
theorem dL_law_360 : decode cL_law 360 = .ok (.aload_n 1, 1) := by decide +kernel
theorem dL_law_361 : decode cL_law 361 = .ok (.iconst 3, 1) := by decide +kernel
theorem dL_law_362 : decode cL_law 362 = .ok (.invokevirtual 88, 3) := by decide +kernel
theorem dL_law_365 : decode cL_law 365 = .ok (.iload 7, 2) := by decide +kernel
theorem dL_law_367 : decode cL_law 367 = .ok (.bipush 10, 2) := by decide +kernel
theorem dL_law_369 : decode cL_law 369 = .ok (.if_icmp .ge 8, 3) := by decide +kernel
theorem dL_law_372 : decode cL_law 372 = .ok (.iload 6, 2) := by decide +kernel
theorem dL_law_374 : decode cL_law 374 = .ok (.goto 5, 3) := by decide +kernel
theorem dL_law_377 : decode cL_law 377 = .ok (.bipush (-4), 2) := by decide +kernel
theorem dL_law_379 : decode cL_law 379 = .ok (.if_icmp .ne 7, 3) := by decide +kernel
theorem dL_law_382 : decode cL_law 382 = .ok (.iconst 1, 1) := by decide +kernel
theorem dL_law_383 : decode cL_law 383 = .ok (.goto 4, 3) := by decide +kernel
theorem dL_law_386 : decode cL_law 386 = .ok (.iconst 0, 1) := by decide +kernel
theorem dL_law_387 : decode cL_law 387 = .ok (.istore_n 3, 1) := by decide +kernel
theorem dL_law_388 : decode cL_law 388 = .ok (.iconst 0, 1) := by decide +kernel
theorem dL_law_389 : decode cL_law 389 = .ok (.istore 8, 2) := by decide +kernel
theorem dL_law_391 : decode cL_law 391 = .ok (.iload 8, 2) := by decide +kernel
theorem dL_law_393 : decode cL_law 393 = .ok (.bipush 6, 2) := by decide +kernel
theorem dL_law_395 : decode cL_law 395 = .ok (.if_icmp .ge 99, 3) := by decide +kernel
theorem dL_law_398 : decode cL_law 398 = .ok (.iload_n 3, 1) := by decide +kernel
theorem dL_law_399 : decode cL_law 399 = .ok (.ifCond .eq 95, 3) := by decide +kernel
theorem dL_law_402 : decode cL_law 402 = .ok (.aload_n 1, 1) := by decide +kernel
theorem dL_law_403 : decode cL_law 403 = .ok (.iconst 1, 1) := by decide +kernel
theorem dL_law_404 : decode cL_law 404 = .ok (.iload 8, 2) := by decide +kernel
theorem dL_law_406 : decode cL_law 406 = .ok (.invokevirtual 60, 3) := by decide +kernel
theorem dL_law_409 : decode cL_law 409 = .ok (.aload_n 2, 1) := by decide +kernel
theorem dL_law_410 : decode cL_law 410 = .ok (.iconst 1, 1) := by decide +kernel
theorem dL_law_411 : decode cL_law 411 = .ok (.iload 8, 2) := by decide +kernel
theorem dL_law_413 : decode cL_law 413 = .ok (.invokevirtual 60, 3) := by decide +kernel
theorem dL_law_416 : decode cL_law 416 = .ok (.if_icmp .ne 70, 3) := by decide +kernel
theorem dL_law_419 : decode cL_law 419 = .ok (.aload_n 1, 1) := by decide +kernel
theorem dL_law_420 : decode cL_law 420 = .ok (.iload 8, 2) := by decide +kernel
theorem dL_law_422 : decode cL_law 422 = .ok (.iconst 4, 1) := by decide +kernel
theorem dL_law_423 : decode cL_law 423 = .ok (.irem, 1) := by decide +kernel
theorem dL_law_424 : decode cL_law 424 = .ok (.iconst 1, 1) := by decide +kernel
theorem dL_law_425 : decode cL_law 425 = .ok (.invokevirtual 56, 3) := by decide +kernel
theorem dL_law_428 : decode cL_law 428 = .ok (.aload_n 2, 1) := by decide +kernel
theorem dL_law_429 : decode cL_law 429 = .ok (.iload 8, 2) := by decide +kernel
theorem dL_law_431 : decode cL_law 431 = .ok (.iconst 4, 1) := by decide +kernel
theorem dL_law_432 : decode cL_law 432 = .ok (.irem, 1) := by decide +kernel
theorem dL_law_433 : decode cL_law 433 = .ok (.iconst 1, 1) := by decide +kernel
theorem dL_law_434 : decode cL_law 434 = .ok (.invokevirtual 56, 3) := by decide +kernel
theorem dL_law_437 : decode cL_law 437 = .ok (.if_icmp .ne 49, 3) := by decide +kernel
theorem dL_law_440 : decode cL_law 440 = .ok (.aload_n 1, 1) := by decide +kernel
theorem dL_law_441 : decode cL_law 441 = .ok (.iload 8, 2) := by decide +kernel
theorem dL_law_443 : decode cL_law 443 = .ok (.iconst 4, 1) := by decide +kernel
theorem dL_law_444 : decode cL_law 444 = .ok (.irem, 1) := by decide +kernel
theorem dL_law_445 : decode cL_law 445 = .ok (.iconst 2, 1) := by decide +kernel
theorem dL_law_446 : decode cL_law 446 = .ok (.invokevirtual 56, 3) := by decide +kernel
theorem dL_law_449 : decode cL_law 449 = .ok (.aload_n 2, 1) := by decide +kernel
theorem dL_law_450 : decode cL_law 450 = .ok (.iload 8, 2) := by decide +kernel
theorem dL_law_452 : decode cL_law 452 = .ok (.iconst 4, 1) := by decide +kernel
theorem dL_law_453 : decode cL_law 453 = .ok (.irem, 1) := by decide +kernel
theorem dL_law_454 : decode cL_law 454 = .ok (.iconst 2, 1) := by decide +kernel
theorem dL_law_455 : decode cL_law 455 = .ok (.invokevirtual 56, 3) := by decide +kernel
theorem dL_law_458 : decode cL_law 458 = .ok (.if_icmp .ne 28, 3) := by decide +kernel
theorem dL_law_461 : decode cL_law 461 = .ok (.aload_n 1, 1) := by decide +kernel
theorem dL_law_462 : decode cL_law 462 = .ok (.iload 8, 2) := by decide +kernel
theorem dL_law_464 : decode cL_law 464 = .ok (.iconst 4, 1) := by decide +kernel
theorem dL_law_465 : decode cL_law 465 = .ok (.irem, 1) := by decide +kernel
theorem dL_law_466 : decode cL_law 466 = .ok (.iconst 3, 1) := by decide +kernel
theorem dL_law_467 : decode cL_law 467 = .ok (.invokevirtual 56, 3) := by decide +kernel
theorem dL_law_470 : decode cL_law 470 = .ok (.aload_n 2, 1) := by decide +kernel
theorem dL_law_471 : decode cL_law 471 = .ok (.iload 8, 2) := by decide +kernel
theorem dL_law_473 : decode cL_law 473 = .ok (.iconst 4, 1) := by decide +kernel
theorem dL_law_474 : decode cL_law 474 = .ok (.irem, 1) := by decide +kernel
theorem dL_law_475 : decode cL_law 475 = .ok (.iconst 3, 1) := by decide +kernel
theorem dL_law_476 : decode cL_law 476 = .ok (.invokevirtual 56, 3) := by decide +kernel
theorem dL_law_479 : decode cL_law 479 = .ok (.if_icmp .ne 7, 3) := by decide +kernel
theorem dL_law_482 : decode cL_law 482 = .ok (.iconst 1, 1) := by decide +kernel
theorem dL_law_483 : decode cL_law 483 = .ok (.goto 4, 3) := by decide +kernel
theorem dL_law_486 : decode cL_law 486 = .ok (.iconst 0, 1) := by decide +kernel
theorem dL_law_487 : decode cL_law 487 = .ok (.istore_n 3, 1) := by decide +kernel
theorem dL_law_488 : decode cL_law 488 = .ok (.iinc 8 1, 3) := by decide +kernel
theorem dL_law_491 : decode cL_law 491 = .ok (.goto (-100), 3) := by decide +kernel
theorem dL_law_494 : decode cL_law 494 = .ok (.iload_n 3, 1) := by decide +kernel
theorem dL_law_495 : decode cL_law 495 = .ok (.ifCond .eq 14, 3) := by decide +kernel
theorem dL_law_498 : decode cL_law 498 = .ok (.aload_n 1, 1) := by decide +kernel
theorem dL_law_499 : decode cL_law 499 = .ok (.invokestatic 92, 3) := by decide +kernel
theorem dL_law_502 : decode cL_law 502 = .ok (.ifCond .eq 7, 3) := by decide +kernel
theorem dL_law_505 : decode cL_law 505 = .ok (.iconst 1, 1) := by decide +kernel
theorem dL_law_506 : decode cL_law 506 = .ok (.goto 4, 3) := by decide +kernel
theorem dL_law_509 : decode cL_law 509 = .ok (.iconst 0, 1) := by decide +kernel
theorem dL_law_510 : decode cL_law 510 = .ok (.ireturn, 1) := by decide +kernel
end
section
/-- all the words that our contracts stand on: those of the tables that a call keeps -/
def lwA : List Cond := lw_tbl.filter goodWord
theorem lwA_mem {w : Cond} (h : w ∈ lw_tbl) (hg : goodWord w = true) : w ∈ lwA := List.mem_filter.mpr ⟨h, hg⟩
theorem lwA_tbl : ∀ w ∈ lwA, w ∈ lw_tbl := fun _ h => (List.mem_filter.mp h).1
theorem lwA_good : ∀ w ∈ lwA, goodWord w = true := fun _ h => (List.mem_filter.mp h).2
theorem gA_cons {w0 w : Cond} (h : w ∈ lwA) : GoodIn (w0 :: lwA) (w :: lwA) := fun x hx => ⟨by rcases List.mem_cons.mp hx with rfl | h1 <;> exact List.mem_cons_of_mem _ (by assumption), good_of_word (by rcases List.mem_cons.mp hx with rfl | h1 <;> exact lwA_good _ (by assumption))⟩
theorem gA {w : Cond} (h : w ∈ lwA) : GoodIn lwA (w :: lwA) := fun x hx => ⟨by rcases List.mem_cons.mp hx with rfl | h1 <;> assumption, good_of_word (by rcases List.mem_cons.mp hx with rfl | h1 <;> exact lwA_good _ (by assumption))⟩
theorem wd_sel_yX1_useToner : (.selects RX1 yX1_useToner yX1_useToner : Cond) ∈ lwA := lwA_mem (List.mem_of_getElem? (i := 0) (by decide +kernel)) (by decide +kernel)
theorem wd_sel_yX1_settleToner : (.selects RX1 yX1_settleToner yX1_settleToner : Cond) ∈ lwA := lwA_mem (List.mem_of_getElem? (i := 1) (by decide +kernel)) (by decide +kernel)
theorem wd_sel_yX2_readDeed : (.selects RX2 yX2_readDeed yX2_readDeed : Cond) ∈ lwA := lwA_mem (List.mem_of_getElem? (i := 2) (by decide +kernel)) (by decide +kernel)
theorem wd_sel_yX2_read : (.selects RX2 yX2_read yX2_read : Cond) ∈ lwA := lwA_mem (List.mem_of_getElem? (i := 3) (by decide +kernel)) (by decide +kernel)
theorem wd_sel_yX2_readPrinting : (.selects RX2 yX2_readPrinting yX2_readPrinting : Cond) ∈ lwA := lwA_mem (List.mem_of_getElem? (i := 4) (by decide +kernel)) (by decide +kernel)
theorem wd_sel_yX2_readBelow : (.selects RX2 yX2_readBelow yX2_readBelow : Cond) ∈ lwA := lwA_mem (List.mem_of_getElem? (i := 5) (by decide +kernel)) (by decide +kernel)
theorem wd_sel_yX2_readNumber : (.selects RX2 yX2_readNumber yX2_readNumber : Cond) ∈ lwA := lwA_mem (List.mem_of_getElem? (i := 6) (by decide +kernel)) (by decide +kernel)
theorem wd_sel_yX2_readShaking : (.selects RX2 yX2_readShaking yX2_readShaking : Cond) ∈ lwA := lwA_mem (List.mem_of_getElem? (i := 7) (by decide +kernel)) (by decide +kernel)
theorem wd_sel_yX2_readMoving : (.selects RX2 yX2_readMoving yX2_readMoving : Cond) ∈ lwA := lwA_mem (List.mem_of_getElem? (i := 8) (by decide +kernel)) (by decide +kernel)
theorem wd_sel_yX4_doDeed : (.selects RX4 yX4_doDeed yX4_doDeed : Cond) ∈ lwA := lwA_mem (List.mem_of_getElem? (i := 9) (by decide +kernel)) (by decide +kernel)
theorem wd_sel_yX4_printPagesOf : (.selects RX4 yX4_printPagesOf yX4_printPagesOf : Cond) ∈ lwA := lwA_mem (List.mem_of_getElem? (i := 10) (by decide +kernel)) (by decide +kernel)
theorem wd_ini_RL : (.initialized RL : Cond) ∈ lwA := lwA_mem (List.mem_of_getElem? (i := 11) (by decide +kernel)) (by decide +kernel)
theorem wd_ini_RX4 : (.initialized RX4 : Cond) ∈ lwA := lwA_mem (List.mem_of_getElem? (i := 12) (by decide +kernel)) (by decide +kernel)
theorem wd_ini_RX1 : (.initialized RX1 : Cond) ∈ lwA := lwA_mem (List.mem_of_getElem? (i := 13) (by decide +kernel)) (by decide +kernel)
theorem wd_ini_RX0 : (.initialized RX0 : Cond) ∈ lwA := lwA_mem (List.mem_of_getElem? (i := 14) (by decide +kernel)) (by decide +kernel)
theorem wd_ini_RX2 : (.initialized RX2 : Cond) ∈ lwA := lwA_mem (List.mem_of_getElem? (i := 15) (by decide +kernel)) (by decide +kernel)
theorem wd_ini_RX3 : (.initialized RX3 : Cond) ∈ lwA := lwA_mem (List.mem_of_getElem? (i := 16) (by decide +kernel)) (by decide +kernel)
theorem wd_ini_RJ10 : (.initialized RJ10 : Cond) ∈ lwA := lwA_mem (List.mem_of_getElem? (i := 17) (by decide +kernel)) (by decide +kernel)
theorem wd_cl_RL_10 : (.classLink RL 10 RX4 : Cond) ∈ lwA := lwA_mem (List.mem_of_getElem? (i := 18) (by decide +kernel)) (by decide +kernel)
theorem wd_inst_RX4 : (.instantiable RX4 6 : Cond) ∈ lwA := lwA_mem (List.mem_of_getElem? (i := 19) (by decide +kernel)) (by decide +kernel)
theorem wd_ml_RL_91 : (.methodLink RL 91 yX4_init : Cond) ∈ lwA := lwA_mem (List.mem_of_getElem? (i := 20) (by decide +kernel)) (by decide +kernel)
theorem wd_im_yX4_init : (.instanceMethod yX4_init : Cond) ∈ lwA := lwA_mem (List.mem_of_getElem? (i := 21) (by decide +kernel)) (by decide +kernel)
theorem wd_code_yX4_init : (.code yX4_init cX4_init 1 none : Cond) ∈ lwA := lwA_mem (List.mem_of_getElem? (i := 22) (by decide +kernel)) (by decide +kernel)
theorem wd_ml_RX4_1 : (.methodLink RX4 1 objectInit : Cond) ∈ lwA := lwA_mem (List.mem_of_getElem? (i := 23) (by decide +kernel)) (by decide +kernel)
theorem wd_im_objectInit : (.instanceMethod objectInit : Cond) ∈ lwA := lwA_mem (List.mem_of_getElem? (i := 24) (by decide +kernel)) (by decide +kernel)
theorem wd_code_objectInit : (.code objectInit ⟨#[0xb1]⟩ 1 none : Cond) ∈ lwA := lwA_mem (List.mem_of_getElem? (i := 25) (by decide +kernel)) (by decide +kernel)
theorem wd_cl_RX4_7 : (.classLink RX4 7 RX1 : Cond) ∈ lwA := lwA_mem (List.mem_of_getElem? (i := 26) (by decide +kernel)) (by decide +kernel)
theorem wd_inst_RX1 : (.instantiable RX1 14 : Cond) ∈ lwA := lwA_mem (List.mem_of_getElem? (i := 27) (by decide +kernel)) (by decide +kernel)
theorem wd_im_yX1_init : (.instanceMethod yX1_init : Cond) ∈ lwA := lwA_mem (List.mem_of_getElem? (i := 29) (by decide +kernel)) (by decide +kernel)
theorem wd_code_yX1_init : (.code yX1_init cX1_init 1 none : Cond) ∈ lwA := lwA_mem (List.mem_of_getElem? (i := 30) (by decide +kernel)) (by decide +kernel)
theorem wd_ml_RX1_3 : (.methodLink RX1 3 objectInit : Cond) ∈ lwA := lwA_mem (List.mem_of_getElem? (i := 31) (by decide +kernel)) (by decide +kernel)
theorem wd_fl_RX1_9 : (.fieldLink RX1 9 "DotToner$Machine" "settings" "[I" : Cond) ∈ lwA := lwA_mem (List.mem_of_getElem? (i := 32) (by decide +kernel)) (by decide +kernel)
theorem wd_fl_RX4_92 : (.fieldLink RX4 92 "DotToner$Machine" "settings" "[I" : Cond) ∈ lwA := lwA_mem (List.mem_of_getElem? (i := 33) (by decide +kernel)) (by decide +kernel)
theorem wd_fl_RX1_15 : (.fieldLink RX1 15 "DotToner$Machine" "kinds" "[I" : Cond) ∈ lwA := lwA_mem (List.mem_of_getElem? (i := 34) (by decide +kernel)) (by decide +kernel)
theorem wd_fl_RX4_138 : (.fieldLink RX4 138 "DotToner$Machine" "kinds" "[I" : Cond) ∈ lwA := lwA_mem (List.mem_of_getElem? (i := 35) (by decide +kernel)) (by decide +kernel)
theorem wd_fl_RX1_18 : (.fieldLink RX1 18 "DotToner$Machine" "hand" "[I" : Cond) ∈ lwA := lwA_mem (List.mem_of_getElem? (i := 36) (by decide +kernel)) (by decide +kernel)
theorem wd_fl_RX4_141 : (.fieldLink RX4 141 "DotToner$Machine" "hand" "[I" : Cond) ∈ lwA := lwA_mem (List.mem_of_getElem? (i := 37) (by decide +kernel)) (by decide +kernel)
theorem wd_fl_RX1_21 : (.fieldLink RX1 21 "DotToner$Machine" "settled" "[I" : Cond) ∈ lwA := lwA_mem (List.mem_of_getElem? (i := 38) (by decide +kernel)) (by decide +kernel)
theorem wd_fl_RX4_144 : (.fieldLink RX4 144 "DotToner$Machine" "settled" "[I" : Cond) ∈ lwA := lwA_mem (List.mem_of_getElem? (i := 39) (by decide +kernel)) (by decide +kernel)
theorem wd_fl_RX1_24 : (.fieldLink RX1 24 "DotToner$Machine" "chips" "[I" : Cond) ∈ lwA := lwA_mem (List.mem_of_getElem? (i := 40) (by decide +kernel)) (by decide +kernel)
theorem wd_fl_RX4_147 : (.fieldLink RX4 147 "DotToner$Machine" "chips" "[I" : Cond) ∈ lwA := lwA_mem (List.mem_of_getElem? (i := 41) (by decide +kernel)) (by decide +kernel)
theorem wd_fl_RX1_27 : (.fieldLink RX1 27 "DotToner$Machine" "cupIn" "[I" : Cond) ∈ lwA := lwA_mem (List.mem_of_getElem? (i := 42) (by decide +kernel)) (by decide +kernel)
theorem wd_fl_RX4_69 : (.fieldLink RX4 69 "DotToner$Machine" "cupIn" "[I" : Cond) ∈ lwA := lwA_mem (List.mem_of_getElem? (i := 43) (by decide +kernel)) (by decide +kernel)
theorem wd_fl_RX1_30 : (.fieldLink RX1 30 "DotToner$Machine" "darkPages" "[I" : Cond) ∈ lwA := lwA_mem (List.mem_of_getElem? (i := 44) (by decide +kernel)) (by decide +kernel)
theorem wd_fl_RX4_157 : (.fieldLink RX4 157 "DotToner$Machine" "darkPages" "[I" : Cond) ∈ lwA := lwA_mem (List.mem_of_getElem? (i := 45) (by decide +kernel)) (by decide +kernel)
theorem wd_fl_RX1_33 : (.fieldLink RX1 33 "DotToner$Machine" "lightPages" "[I" : Cond) ∈ lwA := lwA_mem (List.mem_of_getElem? (i := 46) (by decide +kernel)) (by decide +kernel)
theorem wd_fl_RX4_160 : (.fieldLink RX4 160 "DotToner$Machine" "lightPages" "[I" : Cond) ∈ lwA := lwA_mem (List.mem_of_getElem? (i := 47) (by decide +kernel)) (by decide +kernel)
theorem wd_fl_RX1_36 : (.fieldLink RX1 36 "DotToner$Machine" "refusedPages" "[I" : Cond) ∈ lwA := lwA_mem (List.mem_of_getElem? (i := 48) (by decide +kernel)) (by decide +kernel)
theorem wd_fl_RX4_163 : (.fieldLink RX4 163 "DotToner$Machine" "refusedPages" "[I" : Cond) ∈ lwA := lwA_mem (List.mem_of_getElem? (i := 49) (by decide +kernel)) (by decide +kernel)
theorem wd_fl_RX1_39 : (.fieldLink RX1 39 "DotToner$Machine" "dotsPrinted" "[I" : Cond) ∈ lwA := lwA_mem (List.mem_of_getElem? (i := 50) (by decide +kernel)) (by decide +kernel)
theorem wd_fl_RX4_166 : (.fieldLink RX4 166 "DotToner$Machine" "dotsPrinted" "[I" : Cond) ∈ lwA := lwA_mem (List.mem_of_getElem? (i := 51) (by decide +kernel)) (by decide +kernel)
theorem wd_fl_RX1_42 : (.fieldLink RX1 42 "DotToner$Machine" "latest" "[I" : Cond) ∈ lwA := lwA_mem (List.mem_of_getElem? (i := 52) (by decide +kernel)) (by decide +kernel)
theorem wd_fl_RX4_169 : (.fieldLink RX4 169 "DotToner$Machine" "latest" "[I" : Cond) ∈ lwA := lwA_mem (List.mem_of_getElem? (i := 53) (by decide +kernel)) (by decide +kernel)
theorem wd_fl_RX1_45 : (.fieldLink RX1 45 "DotToner$Machine" "used" "I" : Cond) ∈ lwA := lwA_mem (List.mem_of_getElem? (i := 54) (by decide +kernel)) (by decide +kernel)
theorem wd_fl_RX4_185 : (.fieldLink RX4 185 "DotToner$Machine" "used" "I" : Cond) ∈ lwA := lwA_mem (List.mem_of_getElem? (i := 55) (by decide +kernel)) (by decide +kernel)
theorem wd_fl_RX1_49 : (.fieldLink RX1 49 "DotToner$Machine" "spilt" "I" : Cond) ∈ lwA := lwA_mem (List.mem_of_getElem? (i := 56) (by decide +kernel)) (by decide +kernel)
theorem wd_fl_RX4_188 : (.fieldLink RX4 188 "DotToner$Machine" "spilt" "I" : Cond) ∈ lwA := lwA_mem (List.mem_of_getElem? (i := 57) (by decide +kernel)) (by decide +kernel)
theorem wd_fl_RX1_52 : (.fieldLink RX1 52 "DotToner$Machine" "refilled" "I" : Cond) ∈ lwA := lwA_mem (List.mem_of_getElem? (i := 58) (by decide +kernel)) (by decide +kernel)
theorem wd_fl_RX4_191 : (.fieldLink RX4 191 "DotToner$Machine" "refilled" "I" : Cond) ∈ lwA := lwA_mem (List.mem_of_getElem? (i := 59) (by decide +kernel)) (by decide +kernel)
theorem wd_ac_int : (.arrayClass .int : Cond) ∈ lwA := lwA_mem (List.mem_of_getElem? (i := 89) (by decide +kernel)) (by decide +kernel)
theorem wd_cl_RX4_23 : (.classLink RX4 23 RX0 : Cond) ∈ lwA := lwA_mem (List.mem_of_getElem? (i := 90) (by decide +kernel)) (by decide +kernel)
theorem wd_inst_RX0 : (.instantiable RX0 3 : Cond) ∈ lwA := lwA_mem (List.mem_of_getElem? (i := 91) (by decide +kernel)) (by decide +kernel)
theorem wd_im_yX0_init : (.instanceMethod yX0_init : Cond) ∈ lwA := lwA_mem (List.mem_of_getElem? (i := 93) (by decide +kernel)) (by decide +kernel)
theorem wd_code_yX0_init : (.code yX0_init cX0_init 1 none : Cond) ∈ lwA := lwA_mem (List.mem_of_getElem? (i := 94) (by decide +kernel)) (by decide +kernel)
theorem wd_ml_RX0_1 : (.methodLink RX0 1 objectInit : Cond) ∈ lwA := lwA_mem (List.mem_of_getElem? (i := 95) (by decide +kernel)) (by decide +kernel)
theorem wd_cl_RX0_7 : (.classLink RX0 7 RX1 : Cond) ∈ lwA := lwA_mem (List.mem_of_getElem? (i := 96) (by decide +kernel)) (by decide +kernel)
theorem wd_fl_RX0_10 : (.fieldLink RX0 10 "DotToner$History" "states" "[LDotToner$Machine;" : Cond) ∈ lwA := lwA_mem (List.mem_of_getElem? (i := 99) (by decide +kernel)) (by decide +kernel)
theorem wd_fl_RX0_16 : (.fieldLink RX0 16 "DotToner$History" "oldest" "I" : Cond) ∈ lwA := lwA_mem (List.mem_of_getElem? (i := 100) (by decide +kernel)) (by decide +kernel)
theorem wd_fl_RX0_20 : (.fieldLink RX0 20 "DotToner$History" "size" "I" : Cond) ∈ lwA := lwA_mem (List.mem_of_getElem? (i := 101) (by decide +kernel)) (by decide +kernel)
theorem wd_fl_RX4_209 : (.fieldLink RX4 209 "DotToner$History" "size" "I" : Cond) ∈ lwA := lwA_mem (List.mem_of_getElem? (i := 102) (by decide +kernel)) (by decide +kernel)
theorem wd_cl_RX4_30 : (.classLink RX4 30 RX2 : Cond) ∈ lwA := lwA_mem (List.mem_of_getElem? (i := 110) (by decide +kernel)) (by decide +kernel)
theorem wd_inst_RX2 : (.instantiable RX2 9 : Cond) ∈ lwA := lwA_mem (List.mem_of_getElem? (i := 111) (by decide +kernel)) (by decide +kernel)
theorem wd_im_yX2_init : (.instanceMethod yX2_init : Cond) ∈ lwA := lwA_mem (List.mem_of_getElem? (i := 113) (by decide +kernel)) (by decide +kernel)
theorem wd_code_yX2_init : (.code yX2_init cX2_init 1 none : Cond) ∈ lwA := lwA_mem (List.mem_of_getElem? (i := 114) (by decide +kernel)) (by decide +kernel)
theorem wd_ml_RX2_3 : (.methodLink RX2 3 objectInit : Cond) ∈ lwA := lwA_mem (List.mem_of_getElem? (i := 115) (by decide +kernel)) (by decide +kernel)
theorem wd_fl_RX2_11 : (.fieldLink RX2 11 "DotToner$Pad" "signs" "[C" : Cond) ∈ lwA := lwA_mem (List.mem_of_getElem? (i := 116) (by decide +kernel)) (by decide +kernel)
theorem wd_fl_RX2_15 : (.fieldLink RX2 15 "DotToner$Pad" "length" "I" : Cond) ∈ lwA := lwA_mem (List.mem_of_getElem? (i := 117) (by decide +kernel)) (by decide +kernel)
theorem wd_fl_RX4_103 : (.fieldLink RX4 103 "DotToner$Pad" "length" "I" : Cond) ∈ lwA := lwA_mem (List.mem_of_getElem? (i := 118) (by decide +kernel)) (by decide +kernel)
theorem wd_fl_RX2_19 : (.fieldLink RX2 19 "DotToner$Pad" "at" "I" : Cond) ∈ lwA := lwA_mem (List.mem_of_getElem? (i := 119) (by decide +kernel)) (by decide +kernel)
theorem wd_fl_RX2_22 : (.fieldLink RX2 22 "DotToner$Pad" "deeds" "I" : Cond) ∈ lwA := lwA_mem (List.mem_of_getElem? (i := 120) (by decide +kernel)) (by decide +kernel)
theorem wd_fl_RX4_117 : (.fieldLink RX4 117 "DotToner$Pad" "deeds" "I" : Cond) ∈ lwA := lwA_mem (List.mem_of_getElem? (i := 121) (by decide +kernel)) (by decide +kernel)
theorem wd_fl_RX2_25 : (.fieldLink RX2 25 "DotToner$Pad" "letters" "[C" : Cond) ∈ lwA := lwA_mem (List.mem_of_getElem? (i := 122) (by decide +kernel)) (by decide +kernel)
theorem wd_fl_RX4_235 : (.fieldLink RX4 235 "DotToner$Pad" "letters" "[C" : Cond) ∈ lwA := lwA_mem (List.mem_of_getElem? (i := 123) (by decide +kernel)) (by decide +kernel)
theorem wd_fl_RX2_28 : (.fieldLink RX2 28 "DotToner$Pad" "places" "[I" : Cond) ∈ lwA := lwA_mem (List.mem_of_getElem? (i := 124) (by decide +kernel)) (by decide +kernel)
theorem wd_fl_RX4_251 : (.fieldLink RX4 251 "DotToner$Pad" "places" "[I" : Cond) ∈ lwA := lwA_mem (List.mem_of_getElem? (i := 125) (by decide +kernel)) (by decide +kernel)
theorem wd_fl_RX2_32 : (.fieldLink RX2 32 "DotToner$Pad" "firsts" "[I" : Cond) ∈ lwA := lwA_mem (List.mem_of_getElem? (i := 126) (by decide +kernel)) (by decide +kernel)
theorem wd_fl_RX4_242 : (.fieldLink RX4 242 "DotToner$Pad" "firsts" "[I" : Cond) ∈ lwA := lwA_mem (List.mem_of_getElem? (i := 127) (by decide +kernel)) (by decide +kernel)
theorem wd_fl_RX2_35 : (.fieldLink RX2 35 "DotToner$Pad" "seconds" "[I" : Cond) ∈ lwA := lwA_mem (List.mem_of_getElem? (i := 128) (by decide +kernel)) (by decide +kernel)
theorem wd_fl_RX4_245 : (.fieldLink RX4 245 "DotToner$Pad" "seconds" "[I" : Cond) ∈ lwA := lwA_mem (List.mem_of_getElem? (i := 129) (by decide +kernel)) (by decide +kernel)
theorem wd_fl_RX2_38 : (.fieldLink RX2 38 "DotToner$Pad" "times" "[I" : Cond) ∈ lwA := lwA_mem (List.mem_of_getElem? (i := 130) (by decide +kernel)) (by decide +kernel)
theorem wd_fl_RX4_248 : (.fieldLink RX4 248 "DotToner$Pad" "times" "[I" : Cond) ∈ lwA := lwA_mem (List.mem_of_getElem? (i := 131) (by decide +kernel)) (by decide +kernel)
theorem wd_ac_char : (.arrayClass .char : Cond) ∈ lwA := lwA_mem (List.mem_of_getElem? (i := 151) (by decide +kernel)) (by decide +kernel)
theorem wd_cl_RX4_37 : (.classLink RX4 37 RX3 : Cond) ∈ lwA := lwA_mem (List.mem_of_getElem? (i := 152) (by decide +kernel)) (by decide +kernel)
theorem wd_inst_RX3 : (.instantiable RX3 4 : Cond) ∈ lwA := lwA_mem (List.mem_of_getElem? (i := 153) (by decide +kernel)) (by decide +kernel)
theorem wd_im_yX3_init : (.instanceMethod yX3_init : Cond) ∈ lwA := lwA_mem (List.mem_of_getElem? (i := 155) (by decide +kernel)) (by decide +kernel)
theorem wd_code_yX3_init : (.code yX3_init cX3_init 1 none : Cond) ∈ lwA := lwA_mem (List.mem_of_getElem? (i := 156) (by decide +kernel)) (by decide +kernel)
theorem wd_ml_RX3_3 : (.methodLink RX3 3 objectInit : Cond) ∈ lwA := lwA_mem (List.mem_of_getElem? (i := 157) (by decide +kernel)) (by decide +kernel)
theorem wd_fl_RX3_9 : (.fieldLink RX3 9 "DotToner$Stop" "reason" "I" : Cond) ∈ lwA := lwA_mem (List.mem_of_getElem? (i := 158) (by decide +kernel)) (by decide +kernel)
theorem wd_fl_RX4_126 : (.fieldLink RX4 126 "DotToner$Stop" "reason" "I" : Cond) ∈ lwA := lwA_mem (List.mem_of_getElem? (i := 159) (by decide +kernel)) (by decide +kernel)
theorem wd_fl_RX3_15 : (.fieldLink RX3 15 "DotToner$Stop" "deed" "I" : Cond) ∈ lwA := lwA_mem (List.mem_of_getElem? (i := 160) (by decide +kernel)) (by decide +kernel)
theorem wd_fl_RX4_129 : (.fieldLink RX4 129 "DotToner$Stop" "deed" "I" : Cond) ∈ lwA := lwA_mem (List.mem_of_getElem? (i := 161) (by decide +kernel)) (by decide +kernel)
theorem wd_fl_RX3_18 : (.fieldLink RX3 18 "DotToner$Stop" "place" "I" : Cond) ∈ lwA := lwA_mem (List.mem_of_getElem? (i := 162) (by decide +kernel)) (by decide +kernel)
theorem wd_fl_RX4_132 : (.fieldLink RX4 132 "DotToner$Stop" "place" "I" : Cond) ∈ lwA := lwA_mem (List.mem_of_getElem? (i := 163) (by decide +kernel)) (by decide +kernel)
theorem wd_fl_RX3_21 : (.fieldLink RX3 21 "DotToner$Stop" "pages" "I" : Cond) ∈ lwA := lwA_mem (List.mem_of_getElem? (i := 164) (by decide +kernel)) (by decide +kernel)
theorem wd_fl_RX4_135 : (.fieldLink RX4 135 "DotToner$Stop" "pages" "I" : Cond) ∈ lwA := lwA_mem (List.mem_of_getElem? (i := 165) (by decide +kernel)) (by decide +kernel)
theorem wd_fl_RX4_10 : (.fieldLink RX4 10 "DotToner" "now" "LDotToner$Machine;" : Cond) ∈ lwA := lwA_mem (List.mem_of_getElem? (i := 175) (by decide +kernel)) (by decide +kernel)
theorem wd_fl_RX4_16 : (.fieldLink RX4 16 "DotToner" "snapshot" "LDotToner$Machine;" : Cond) ∈ lwA := lwA_mem (List.mem_of_getElem? (i := 176) (by decide +kernel)) (by decide +kernel)
theorem wd_fl_RX4_19 : (.fieldLink RX4 19 "DotToner" "snapshotTaken" "Z" : Cond) ∈ lwA := lwA_mem (List.mem_of_getElem? (i := 177) (by decide +kernel)) (by decide +kernel)
theorem wd_fl_RX4_26 : (.fieldLink RX4 26 "DotToner" "history" "LDotToner$History;" : Cond) ∈ lwA := lwA_mem (List.mem_of_getElem? (i := 178) (by decide +kernel)) (by decide +kernel)
theorem wd_fl_RX4_33 : (.fieldLink RX4 33 "DotToner" "pad" "LDotToner$Pad;" : Cond) ∈ lwA := lwA_mem (List.mem_of_getElem? (i := 179) (by decide +kernel)) (by decide +kernel)
theorem wd_fl_RX4_40 : (.fieldLink RX4 40 "DotToner" "stop" "LDotToner$Stop;" : Cond) ∈ lwA := lwA_mem (List.mem_of_getElem? (i := 180) (by decide +kernel)) (by decide +kernel)
theorem wd_ml_RL_50 : (.methodLink RL 50 yX4_print : Cond) ∈ lwA := lwA_mem (List.mem_of_getElem? (i := 194) (by decide +kernel)) (by decide +kernel)
theorem wd_im_yX4_print : (.instanceMethod yX4_print : Cond) ∈ lwA := lwA_mem (List.mem_of_getElem? (i := 195) (by decide +kernel)) (by decide +kernel)
theorem wd_sel_yX4_print : (.selects RX4 yX4_print yX4_print : Cond) ∈ lwA := lwA_mem (List.mem_of_getElem? (i := 196) (by decide +kernel)) (by decide +kernel)
theorem wd_code_yX4_print : (.code yX4_print cX4_print 3 (some .int) : Cond) ∈ lwA := lwA_mem (List.mem_of_getElem? (i := 197) (by decide +kernel)) (by decide +kernel)
theorem wd_ml_RX4_44 : (.methodLink RX4 44 yX4_isPrinter : Cond) ∈ lwA := lwA_mem (List.mem_of_getElem? (i := 198) (by decide +kernel)) (by decide +kernel)
theorem wd_st_yX4_isPrinter : (.static yX4_isPrinter : Cond) ∈ lwA := lwA_mem (List.mem_of_getElem? (i := 199) (by decide +kernel)) (by decide +kernel)
theorem wd_code_yX4_isPrinter : (.code yX4_isPrinter cX4_isPrinter 1 (some .boolean) : Cond) ∈ lwA := lwA_mem (List.mem_of_getElem? (i := 200) (by decide +kernel)) (by decide +kernel)
theorem wd_ml_RX4_48 : (.methodLink RX4 48 yX4_isDots : Cond) ∈ lwA := lwA_mem (List.mem_of_getElem? (i := 201) (by decide +kernel)) (by decide +kernel)
theorem wd_st_yX4_isDots : (.static yX4_isDots : Cond) ∈ lwA := lwA_mem (List.mem_of_getElem? (i := 202) (by decide +kernel)) (by decide +kernel)
theorem wd_code_yX4_isDots : (.code yX4_isDots cX4_isDots 1 (some .boolean) : Cond) ∈ lwA := lwA_mem (List.mem_of_getElem? (i := 203) (by decide +kernel)) (by decide +kernel)
theorem wd_ml_RX4_51 : (.methodLink RX4 51 yX0_keep : Cond) ∈ lwA := lwA_mem (List.mem_of_getElem? (i := 204) (by decide +kernel)) (by decide +kernel)
theorem wd_im_yX0_keep : (.instanceMethod yX0_keep : Cond) ∈ lwA := lwA_mem (List.mem_of_getElem? (i := 205) (by decide +kernel)) (by decide +kernel)
theorem wd_sel_yX0_keep : (.selects RX0 yX0_keep yX0_keep : Cond) ∈ lwA := lwA_mem (List.mem_of_getElem? (i := 206) (by decide +kernel)) (by decide +kernel)
theorem wd_code_yX0_keep : (.code yX0_keep cX0_keep 2 none : Cond) ∈ lwA := lwA_mem (List.mem_of_getElem? (i := 207) (by decide +kernel)) (by decide +kernel)
theorem wd_ml_RX0_23 : (.methodLink RX0 23 yX1_becomeLike : Cond) ∈ lwA := lwA_mem (List.mem_of_getElem? (i := 208) (by decide +kernel)) (by decide +kernel)
theorem wd_im_yX1_becomeLike : (.instanceMethod yX1_becomeLike : Cond) ∈ lwA := lwA_mem (List.mem_of_getElem? (i := 209) (by decide +kernel)) (by decide +kernel)
theorem wd_sel_yX1_becomeLike : (.selects RX1 yX1_becomeLike yX1_becomeLike : Cond) ∈ lwA := lwA_mem (List.mem_of_getElem? (i := 210) (by decide +kernel)) (by decide +kernel)
theorem wd_code_yX1_becomeLike : (.code yX1_becomeLike cX1_becomeLike 2 none : Cond) ∈ lwA := lwA_mem (List.mem_of_getElem? (i := 211) (by decide +kernel)) (by decide +kernel)
theorem wd_ml_RX1_55 : (.methodLink RX1 55 arraycopyName : Cond) ∈ lwA := lwA_mem (List.mem_of_getElem? (i := 212) (by decide +kernel)) (by decide +kernel)
theorem wd_st_arraycopyName : (.static arraycopyName : Cond) ∈ lwA := lwA_mem (List.mem_of_getElem? (i := 213) (by decide +kernel)) (by decide +kernel)
theorem wd_nat_arraycopyName : (.native arraycopyName : Cond) ∈ lwA := lwA_mem (List.mem_of_getElem? (i := 214) (by decide +kernel)) (by decide +kernel)
theorem wd_ml_RX4_55 : (.methodLink RX4 55 yX1_printPage : Cond) ∈ lwA := lwA_mem (List.mem_of_getElem? (i := 215) (by decide +kernel)) (by decide +kernel)
theorem wd_im_yX1_printPage : (.instanceMethod yX1_printPage : Cond) ∈ lwA := lwA_mem (List.mem_of_getElem? (i := 216) (by decide +kernel)) (by decide +kernel)
theorem wd_sel_yX1_printPage : (.selects RX1 yX1_printPage yX1_printPage : Cond) ∈ lwA := lwA_mem (List.mem_of_getElem? (i := 217) (by decide +kernel)) (by decide +kernel)
theorem wd_code_yX1_printPage : (.code yX1_printPage cX1_printPage 7 (some .int) : Cond) ∈ lwA := lwA_mem (List.mem_of_getElem? (i := 218) (by decide +kernel)) (by decide +kernel)
theorem wd_ml_RX1_69 : (.methodLink RX1 69 yX1_refusal : Cond) ∈ lwA := lwA_mem (List.mem_of_getElem? (i := 219) (by decide +kernel)) (by decide +kernel)
theorem wd_im_yX1_refusal : (.instanceMethod yX1_refusal : Cond) ∈ lwA := lwA_mem (List.mem_of_getElem? (i := 220) (by decide +kernel)) (by decide +kernel)
theorem wd_sel_yX1_refusal : (.selects RX1 yX1_refusal yX1_refusal : Cond) ∈ lwA := lwA_mem (List.mem_of_getElem? (i := 221) (by decide +kernel)) (by decide +kernel)
theorem wd_code_yX1_refusal : (.code yX1_refusal cX1_refusal 2 (some .int) : Cond) ∈ lwA := lwA_mem (List.mem_of_getElem? (i := 222) (by decide +kernel)) (by decide +kernel)
theorem wd_st_yX4_isCup : (.static yX4_isCup : Cond) ∈ lwA := lwA_mem (List.mem_of_getElem? (i := 224) (by decide +kernel)) (by decide +kernel)
theorem wd_code_yX4_isCup : (.code yX4_isCup cX4_isCup 1 (some .boolean) : Cond) ∈ lwA := lwA_mem (List.mem_of_getElem? (i := 225) (by decide +kernel)) (by decide +kernel)
theorem wd_ml_RX1_61 : (.methodLink RX1 61 yX1_tonerFor : Cond) ∈ lwA := lwA_mem (List.mem_of_getElem? (i := 226) (by decide +kernel)) (by decide +kernel)
theorem wd_im_yX1_tonerFor : (.instanceMethod yX1_tonerFor : Cond) ∈ lwA := lwA_mem (List.mem_of_getElem? (i := 227) (by decide +kernel)) (by decide +kernel)
theorem wd_sel_yX1_tonerFor : (.selects RX1 yX1_tonerFor yX1_tonerFor : Cond) ∈ lwA := lwA_mem (List.mem_of_getElem? (i := 228) (by decide +kernel)) (by decide +kernel)
theorem wd_code_yX1_tonerFor : (.code yX1_tonerFor cX1_tonerFor 5 (some .int) : Cond) ∈ lwA := lwA_mem (List.mem_of_getElem? (i := 229) (by decide +kernel)) (by decide +kernel)
theorem wd_ml_RX1_73 : (.methodLink RX1 73 yX1_useToner : Cond) ∈ lwA := lwA_mem (List.mem_of_getElem? (i := 230) (by decide +kernel)) (by decide +kernel)
theorem wd_im_yX1_useToner : (.instanceMethod yX1_useToner : Cond) ∈ lwA := lwA_mem (List.mem_of_getElem? (i := 232) (by decide +kernel)) (by decide +kernel)
theorem wd_code_yX1_useToner : (.code yX1_useToner cX1_useToner 4 (some .int) : Cond) ∈ lwA := lwA_mem (List.mem_of_getElem? (i := 233) (by decide +kernel)) (by decide +kernel)
theorem wd_st_yX4_share : (.static yX4_share : Cond) ∈ lwA := lwA_mem (List.mem_of_getElem? (i := 235) (by decide +kernel)) (by decide +kernel)
theorem wd_code_yX4_share : (.code yX4_share cX4_share 2 (some .int) : Cond) ∈ lwA := lwA_mem (List.mem_of_getElem? (i := 236) (by decide +kernel)) (by decide +kernel)
theorem wd_ml_RX1_77 : (.methodLink RX1 77 yX1_chipFor : Cond) ∈ lwA := lwA_mem (List.mem_of_getElem? (i := 237) (by decide +kernel)) (by decide +kernel)
theorem wd_im_yX1_chipFor : (.instanceMethod yX1_chipFor : Cond) ∈ lwA := lwA_mem (List.mem_of_getElem? (i := 238) (by decide +kernel)) (by decide +kernel)
theorem wd_sel_yX1_chipFor : (.selects RX1 yX1_chipFor yX1_chipFor : Cond) ∈ lwA := lwA_mem (List.mem_of_getElem? (i := 239) (by decide +kernel)) (by decide +kernel)
theorem wd_code_yX1_chipFor : (.code yX1_chipFor cX1_chipFor 4 (some .int) : Cond) ∈ lwA := lwA_mem (List.mem_of_getElem? (i := 240) (by decide +kernel)) (by decide +kernel)
theorem wd_ml_RX1_80 : (.methodLink RX1 80 yX1_settleToner : Cond) ∈ lwA := lwA_mem (List.mem_of_getElem? (i := 241) (by decide +kernel)) (by decide +kernel)
theorem wd_im_yX1_settleToner : (.instanceMethod yX1_settleToner : Cond) ∈ lwA := lwA_mem (List.mem_of_getElem? (i := 243) (by decide +kernel)) (by decide +kernel)
theorem wd_code_yX1_settleToner : (.code yX1_settleToner cX1_settleToner 3 none : Cond) ∈ lwA := lwA_mem (List.mem_of_getElem? (i := 244) (by decide +kernel)) (by decide +kernel)
theorem wd_ml_RL_41 : (.methodLink RL 41 yX4_append : Cond) ∈ lwA := lwA_mem (List.mem_of_getElem? (i := 245) (by decide +kernel)) (by decide +kernel)
theorem wd_im_yX4_append : (.instanceMethod yX4_append : Cond) ∈ lwA := lwA_mem (List.mem_of_getElem? (i := 246) (by decide +kernel)) (by decide +kernel)
theorem wd_sel_yX4_append : (.selects RX4 yX4_append yX4_append : Cond) ∈ lwA := lwA_mem (List.mem_of_getElem? (i := 247) (by decide +kernel)) (by decide +kernel)
theorem wd_code_yX4_append : (.code yX4_append cX4_append 2 (some .int) : Cond) ∈ lwA := lwA_mem (List.mem_of_getElem? (i := 248) (by decide +kernel)) (by decide +kernel)
theorem wd_ml_RX4_95 : (.methodLink RX4 95 yX2_hasRoom : Cond) ∈ lwA := lwA_mem (List.mem_of_getElem? (i := 249) (by decide +kernel)) (by decide +kernel)
theorem wd_im_yX2_hasRoom : (.instanceMethod yX2_hasRoom : Cond) ∈ lwA := lwA_mem (List.mem_of_getElem? (i := 250) (by decide +kernel)) (by decide +kernel)
theorem wd_sel_yX2_hasRoom : (.selects RX2 yX2_hasRoom yX2_hasRoom : Cond) ∈ lwA := lwA_mem (List.mem_of_getElem? (i := 251) (by decide +kernel)) (by decide +kernel)
theorem wd_code_yX2_hasRoom : (.code yX2_hasRoom cX2_hasRoom 1 (some .boolean) : Cond) ∈ lwA := lwA_mem (List.mem_of_getElem? (i := 252) (by decide +kernel)) (by decide +kernel)
theorem wd_ml_RX4_99 : (.methodLink RX4 99 yX2_add : Cond) ∈ lwA := lwA_mem (List.mem_of_getElem? (i := 253) (by decide +kernel)) (by decide +kernel)
theorem wd_im_yX2_add : (.instanceMethod yX2_add : Cond) ∈ lwA := lwA_mem (List.mem_of_getElem? (i := 254) (by decide +kernel)) (by decide +kernel)
theorem wd_sel_yX2_add : (.selects RX2 yX2_add yX2_add : Cond) ∈ lwA := lwA_mem (List.mem_of_getElem? (i := 255) (by decide +kernel)) (by decide +kernel)
theorem wd_code_yX2_add : (.code yX2_add cX2_add 2 none : Cond) ∈ lwA := lwA_mem (List.mem_of_getElem? (i := 256) (by decide +kernel)) (by decide +kernel)
theorem wd_ml_RX2_41 : (.methodLink RX2 41 yX2_hasRoom : Cond) ∈ lwA := lwA_mem (List.mem_of_getElem? (i := 257) (by decide +kernel)) (by decide +kernel)
theorem wd_ml_RL_38 : (.methodLink RL 38 yX4_clear : Cond) ∈ lwA := lwA_mem (List.mem_of_getElem? (i := 258) (by decide +kernel)) (by decide +kernel)
theorem wd_im_yX4_clear : (.instanceMethod yX4_clear : Cond) ∈ lwA := lwA_mem (List.mem_of_getElem? (i := 259) (by decide +kernel)) (by decide +kernel)
theorem wd_sel_yX4_clear : (.selects RX4 yX4_clear yX4_clear : Cond) ∈ lwA := lwA_mem (List.mem_of_getElem? (i := 260) (by decide +kernel)) (by decide +kernel)
theorem wd_code_yX4_clear : (.code yX4_clear cX4_clear 2 (some .int) : Cond) ∈ lwA := lwA_mem (List.mem_of_getElem? (i := 261) (by decide +kernel)) (by decide +kernel)
theorem wd_ml_RX4_107 : (.methodLink RX4 107 yX2_wipe : Cond) ∈ lwA := lwA_mem (List.mem_of_getElem? (i := 262) (by decide +kernel)) (by decide +kernel)
theorem wd_im_yX2_wipe : (.instanceMethod yX2_wipe : Cond) ∈ lwA := lwA_mem (List.mem_of_getElem? (i := 263) (by decide +kernel)) (by decide +kernel)
theorem wd_sel_yX2_wipe : (.selects RX2 yX2_wipe yX2_wipe : Cond) ∈ lwA := lwA_mem (List.mem_of_getElem? (i := 264) (by decide +kernel)) (by decide +kernel)
theorem wd_code_yX2_wipe : (.code yX2_wipe cX2_wipe 1 none : Cond) ∈ lwA := lwA_mem (List.mem_of_getElem? (i := 265) (by decide +kernel)) (by decide +kernel)
theorem wd_ml_RL_44 : (.methodLink RL 44 yX4_fault : Cond) ∈ lwA := lwA_mem (List.mem_of_getElem? (i := 266) (by decide +kernel)) (by decide +kernel)
theorem wd_im_yX4_fault : (.instanceMethod yX4_fault : Cond) ∈ lwA := lwA_mem (List.mem_of_getElem? (i := 267) (by decide +kernel)) (by decide +kernel)
theorem wd_sel_yX4_fault : (.selects RX4 yX4_fault yX4_fault : Cond) ∈ lwA := lwA_mem (List.mem_of_getElem? (i := 268) (by decide +kernel)) (by decide +kernel)
theorem wd_code_yX4_fault : (.code yX4_fault cX4_fault 1 (some .int) : Cond) ∈ lwA := lwA_mem (List.mem_of_getElem? (i := 269) (by decide +kernel)) (by decide +kernel)
theorem wd_ml_RX4_110 : (.methodLink RX4 110 yX2_findFault : Cond) ∈ lwA := lwA_mem (List.mem_of_getElem? (i := 270) (by decide +kernel)) (by decide +kernel)
theorem wd_im_yX2_findFault : (.instanceMethod yX2_findFault : Cond) ∈ lwA := lwA_mem (List.mem_of_getElem? (i := 271) (by decide +kernel)) (by decide +kernel)
theorem wd_sel_yX2_findFault : (.selects RX2 yX2_findFault yX2_findFault : Cond) ∈ lwA := lwA_mem (List.mem_of_getElem? (i := 272) (by decide +kernel)) (by decide +kernel)
theorem wd_code_yX2_findFault : (.code yX2_findFault cX2_findFault 3 (some .int) : Cond) ∈ lwA := lwA_mem (List.mem_of_getElem? (i := 273) (by decide +kernel)) (by decide +kernel)
theorem wd_ml_RX2_45 : (.methodLink RX2 45 yX2_readDeed : Cond) ∈ lwA := lwA_mem (List.mem_of_getElem? (i := 274) (by decide +kernel)) (by decide +kernel)
theorem wd_im_yX2_readDeed : (.instanceMethod yX2_readDeed : Cond) ∈ lwA := lwA_mem (List.mem_of_getElem? (i := 276) (by decide +kernel)) (by decide +kernel)
theorem wd_code_yX2_readDeed : (.code yX2_readDeed cX2_readDeed 2 (some .boolean) : Cond) ∈ lwA := lwA_mem (List.mem_of_getElem? (i := 277) (by decide +kernel)) (by decide +kernel)
theorem wd_ml_RX2_48 : (.methodLink RX2 48 yX2_read : Cond) ∈ lwA := lwA_mem (List.mem_of_getElem? (i := 278) (by decide +kernel)) (by decide +kernel)
theorem wd_im_yX2_read : (.instanceMethod yX2_read : Cond) ∈ lwA := lwA_mem (List.mem_of_getElem? (i := 280) (by decide +kernel)) (by decide +kernel)
theorem wd_code_yX2_read : (.code yX2_read cX2_read 2 (some .boolean) : Cond) ∈ lwA := lwA_mem (List.mem_of_getElem? (i := 281) (by decide +kernel)) (by decide +kernel)
theorem wd_ml_RX2_52 : (.methodLink RX2 52 yX2_readPrinting : Cond) ∈ lwA := lwA_mem (List.mem_of_getElem? (i := 282) (by decide +kernel)) (by decide +kernel)
theorem wd_im_yX2_readPrinting : (.instanceMethod yX2_readPrinting : Cond) ∈ lwA := lwA_mem (List.mem_of_getElem? (i := 284) (by decide +kernel)) (by decide +kernel)
theorem wd_code_yX2_readPrinting : (.code yX2_readPrinting cX2_readPrinting 4 (some .boolean) : Cond) ∈ lwA := lwA_mem (List.mem_of_getElem? (i := 285) (by decide +kernel)) (by decide +kernel)
theorem wd_ml_RX2_61 : (.methodLink RX2 61 yX2_readBelow : Cond) ∈ lwA := lwA_mem (List.mem_of_getElem? (i := 286) (by decide +kernel)) (by decide +kernel)
theorem wd_im_yX2_readBelow : (.instanceMethod yX2_readBelow : Cond) ∈ lwA := lwA_mem (List.mem_of_getElem? (i := 288) (by decide +kernel)) (by decide +kernel)
theorem wd_code_yX2_readBelow : (.code yX2_readBelow cX2_readBelow 3 (some .int) : Cond) ∈ lwA := lwA_mem (List.mem_of_getElem? (i := 289) (by decide +kernel)) (by decide +kernel)
theorem wd_ml_RX2_65 : (.methodLink RX2 65 yX2_readNumber : Cond) ∈ lwA := lwA_mem (List.mem_of_getElem? (i := 290) (by decide +kernel)) (by decide +kernel)
theorem wd_im_yX2_readNumber : (.instanceMethod yX2_readNumber : Cond) ∈ lwA := lwA_mem (List.mem_of_getElem? (i := 292) (by decide +kernel)) (by decide +kernel)
theorem wd_code_yX2_readNumber : (.code yX2_readNumber cX2_readNumber 7 (some .int) : Cond) ∈ lwA := lwA_mem (List.mem_of_getElem? (i := 293) (by decide +kernel)) (by decide +kernel)
theorem wd_ml_RX2_55 : (.methodLink RX2 55 yX2_readShaking : Cond) ∈ lwA := lwA_mem (List.mem_of_getElem? (i := 294) (by decide +kernel)) (by decide +kernel)
theorem wd_im_yX2_readShaking : (.instanceMethod yX2_readShaking : Cond) ∈ lwA := lwA_mem (List.mem_of_getElem? (i := 296) (by decide +kernel)) (by decide +kernel)
theorem wd_code_yX2_readShaking : (.code yX2_readShaking cX2_readShaking 2 (some .boolean) : Cond) ∈ lwA := lwA_mem (List.mem_of_getElem? (i := 297) (by decide +kernel)) (by decide +kernel)
theorem wd_ml_RX2_58 : (.methodLink RX2 58 yX2_readMoving : Cond) ∈ lwA := lwA_mem (List.mem_of_getElem? (i := 298) (by decide +kernel)) (by decide +kernel)
theorem wd_im_yX2_readMoving : (.instanceMethod yX2_readMoving : Cond) ∈ lwA := lwA_mem (List.mem_of_getElem? (i := 300) (by decide +kernel)) (by decide +kernel)
theorem wd_code_yX2_readMoving : (.code yX2_readMoving cX2_readMoving 3 (some .boolean) : Cond) ∈ lwA := lwA_mem (List.mem_of_getElem? (i := 301) (by decide +kernel)) (by decide +kernel)
theorem wd_ml_RL_47 : (.methodLink RL 47 yX4_run : Cond) ∈ lwA := lwA_mem (List.mem_of_getElem? (i := 302) (by decide +kernel)) (by decide +kernel)
theorem wd_im_yX4_run : (.instanceMethod yX4_run : Cond) ∈ lwA := lwA_mem (List.mem_of_getElem? (i := 303) (by decide +kernel)) (by decide +kernel)
theorem wd_sel_yX4_run : (.selects RX4 yX4_run yX4_run : Cond) ∈ lwA := lwA_mem (List.mem_of_getElem? (i := 304) (by decide +kernel)) (by decide +kernel)
theorem wd_code_yX4_run : (.code yX4_run cX4_run 3 (some .int) : Cond) ∈ lwA := lwA_mem (List.mem_of_getElem? (i := 305) (by decide +kernel)) (by decide +kernel)
theorem wd_ml_RX4_114 : (.methodLink RX4 114 yX3_forget : Cond) ∈ lwA := lwA_mem (List.mem_of_getElem? (i := 306) (by decide +kernel)) (by decide +kernel)
theorem wd_im_yX3_forget : (.instanceMethod yX3_forget : Cond) ∈ lwA := lwA_mem (List.mem_of_getElem? (i := 307) (by decide +kernel)) (by decide +kernel)
theorem wd_sel_yX3_forget : (.selects RX3 yX3_forget yX3_forget : Cond) ∈ lwA := lwA_mem (List.mem_of_getElem? (i := 308) (by decide +kernel)) (by decide +kernel)
theorem wd_code_yX3_forget : (.code yX3_forget cX3_forget 1 none : Cond) ∈ lwA := lwA_mem (List.mem_of_getElem? (i := 309) (by decide +kernel)) (by decide +kernel)
theorem wd_ml_RX3_24 : (.methodLink RX3 24 yX3_note : Cond) ∈ lwA := lwA_mem (List.mem_of_getElem? (i := 310) (by decide +kernel)) (by decide +kernel)
theorem wd_im_yX3_note : (.instanceMethod yX3_note : Cond) ∈ lwA := lwA_mem (List.mem_of_getElem? (i := 311) (by decide +kernel)) (by decide +kernel)
theorem wd_sel_yX3_note : (.selects RX3 yX3_note yX3_note : Cond) ∈ lwA := lwA_mem (List.mem_of_getElem? (i := 312) (by decide +kernel)) (by decide +kernel)
theorem wd_code_yX3_note : (.code yX3_note cX3_note 5 none : Cond) ∈ lwA := lwA_mem (List.mem_of_getElem? (i := 313) (by decide +kernel)) (by decide +kernel)
theorem wd_ml_RX4_120 : (.methodLink RX4 120 yX3_known : Cond) ∈ lwA := lwA_mem (List.mem_of_getElem? (i := 314) (by decide +kernel)) (by decide +kernel)
theorem wd_im_yX3_known : (.instanceMethod yX3_known : Cond) ∈ lwA := lwA_mem (List.mem_of_getElem? (i := 315) (by decide +kernel)) (by decide +kernel)
theorem wd_sel_yX3_known : (.selects RX3 yX3_known yX3_known : Cond) ∈ lwA := lwA_mem (List.mem_of_getElem? (i := 316) (by decide +kernel)) (by decide +kernel)
theorem wd_code_yX3_known : (.code yX3_known cX3_known 1 (some .boolean) : Cond) ∈ lwA := lwA_mem (List.mem_of_getElem? (i := 317) (by decide +kernel)) (by decide +kernel)
theorem wd_ml_RX4_123 : (.methodLink RX4 123 yX4_doDeed : Cond) ∈ lwA := lwA_mem (List.mem_of_getElem? (i := 318) (by decide +kernel)) (by decide +kernel)
theorem wd_im_yX4_doDeed : (.instanceMethod yX4_doDeed : Cond) ∈ lwA := lwA_mem (List.mem_of_getElem? (i := 320) (by decide +kernel)) (by decide +kernel)
theorem wd_code_yX4_doDeed : (.code yX4_doDeed cX4_doDeed 3 (some .int) : Cond) ∈ lwA := lwA_mem (List.mem_of_getElem? (i := 321) (by decide +kernel)) (by decide +kernel)
theorem wd_ml_RX4_239 : (.methodLink RX4 239 yX4_printPagesOf : Cond) ∈ lwA := lwA_mem (List.mem_of_getElem? (i := 322) (by decide +kernel)) (by decide +kernel)
theorem wd_im_yX4_printPagesOf : (.instanceMethod yX4_printPagesOf : Cond) ∈ lwA := lwA_mem (List.mem_of_getElem? (i := 324) (by decide +kernel)) (by decide +kernel)
theorem wd_code_yX4_printPagesOf : (.code yX4_printPagesOf cX4_printPagesOf 5 (some .int) : Cond) ∈ lwA := lwA_mem (List.mem_of_getElem? (i := 325) (by decide +kernel)) (by decide +kernel)
theorem wd_ml_RX4_254 : (.methodLink RX4 254 yX3_note : Cond) ∈ lwA := lwA_mem (List.mem_of_getElem? (i := 326) (by decide +kernel)) (by decide +kernel)
theorem wd_ml_RX4_62 : (.methodLink RX4 62 yX1_shakeCup : Cond) ∈ lwA := lwA_mem (List.mem_of_getElem? (i := 327) (by decide +kernel)) (by decide +kernel)
theorem wd_im_yX1_shakeCup : (.instanceMethod yX1_shakeCup : Cond) ∈ lwA := lwA_mem (List.mem_of_getElem? (i := 328) (by decide +kernel)) (by decide +kernel)
theorem wd_sel_yX1_shakeCup : (.selects RX1 yX1_shakeCup yX1_shakeCup : Cond) ∈ lwA := lwA_mem (List.mem_of_getElem? (i := 329) (by decide +kernel)) (by decide +kernel)
theorem wd_code_yX1_shakeCup : (.code yX1_shakeCup cX1_shakeCup 3 (some .int) : Cond) ∈ lwA := lwA_mem (List.mem_of_getElem? (i := 330) (by decide +kernel)) (by decide +kernel)
theorem wd_ml_RX4_66 : (.methodLink RX4 66 yX1_moveCup : Cond) ∈ lwA := lwA_mem (List.mem_of_getElem? (i := 331) (by decide +kernel)) (by decide +kernel)
theorem wd_im_yX1_moveCup : (.instanceMethod yX1_moveCup : Cond) ∈ lwA := lwA_mem (List.mem_of_getElem? (i := 332) (by decide +kernel)) (by decide +kernel)
theorem wd_sel_yX1_moveCup : (.selects RX1 yX1_moveCup yX1_moveCup : Cond) ∈ lwA := lwA_mem (List.mem_of_getElem? (i := 333) (by decide +kernel)) (by decide +kernel)
theorem wd_code_yX1_moveCup : (.code yX1_moveCup cX1_moveCup 5 (some .int) : Cond) ∈ lwA := lwA_mem (List.mem_of_getElem? (i := 334) (by decide +kernel)) (by decide +kernel)
theorem wd_ml_RX1_87 : (.methodLink RX1 87 yX1_printerOf : Cond) ∈ lwA := lwA_mem (List.mem_of_getElem? (i := 335) (by decide +kernel)) (by decide +kernel)
theorem wd_im_yX1_printerOf : (.instanceMethod yX1_printerOf : Cond) ∈ lwA := lwA_mem (List.mem_of_getElem? (i := 336) (by decide +kernel)) (by decide +kernel)
theorem wd_sel_yX1_printerOf : (.selects RX1 yX1_printerOf yX1_printerOf : Cond) ∈ lwA := lwA_mem (List.mem_of_getElem? (i := 337) (by decide +kernel)) (by decide +kernel)
theorem wd_code_yX1_printerOf : (.code yX1_printerOf cX1_printerOf 3 (some .int) : Cond) ∈ lwA := lwA_mem (List.mem_of_getElem? (i := 338) (by decide +kernel)) (by decide +kernel)
theorem wd_ml_RX1_93 : (.methodLink RX1 93 yX1_empty : Cond) ∈ lwA := lwA_mem (List.mem_of_getElem? (i := 340) (by decide +kernel)) (by decide +kernel)
theorem wd_im_yX1_empty : (.instanceMethod yX1_empty : Cond) ∈ lwA := lwA_mem (List.mem_of_getElem? (i := 341) (by decide +kernel)) (by decide +kernel)
theorem wd_sel_yX1_empty : (.selects RX1 yX1_empty yX1_empty : Cond) ∈ lwA := lwA_mem (List.mem_of_getElem? (i := 342) (by decide +kernel)) (by decide +kernel)
theorem wd_code_yX1_empty : (.code yX1_empty cX1_empty 4 none : Cond) ∈ lwA := lwA_mem (List.mem_of_getElem? (i := 343) (by decide +kernel)) (by decide +kernel)
theorem wd_ml_RL_88 : (.methodLink RL 88 yX4_why : Cond) ∈ lwA := lwA_mem (List.mem_of_getElem? (i := 344) (by decide +kernel)) (by decide +kernel)
theorem wd_im_yX4_why : (.instanceMethod yX4_why : Cond) ∈ lwA := lwA_mem (List.mem_of_getElem? (i := 345) (by decide +kernel)) (by decide +kernel)
theorem wd_sel_yX4_why : (.selects RX4 yX4_why yX4_why : Cond) ∈ lwA := lwA_mem (List.mem_of_getElem? (i := 346) (by decide +kernel)) (by decide +kernel)
theorem wd_code_yX4_why : (.code yX4_why cX4_why 2 (some .int) : Cond) ∈ lwA := lwA_mem (List.mem_of_getElem? (i := 347) (by decide +kernel)) (by decide +kernel)
theorem wd_ml_RL_56 : (.methodLink RL 56 yX4_cup : Cond) ∈ lwA := lwA_mem (List.mem_of_getElem? (i := 348) (by decide +kernel)) (by decide +kernel)
theorem wd_im_yX4_cup : (.instanceMethod yX4_cup : Cond) ∈ lwA := lwA_mem (List.mem_of_getElem? (i := 349) (by decide +kernel)) (by decide +kernel)
theorem wd_sel_yX4_cup : (.selects RX4 yX4_cup yX4_cup : Cond) ∈ lwA := lwA_mem (List.mem_of_getElem? (i := 350) (by decide +kernel)) (by decide +kernel)
theorem wd_code_yX4_cup : (.code yX4_cup cX4_cup 3 (some .int) : Cond) ∈ lwA := lwA_mem (List.mem_of_getElem? (i := 351) (by decide +kernel)) (by decide +kernel)
theorem wd_ml_RX4_59 : (.methodLink RX4 59 yX4_isCup : Cond) ∈ lwA := lwA_mem (List.mem_of_getElem? (i := 352) (by decide +kernel)) (by decide +kernel)
theorem wd_ml_RX4_77 : (.methodLink RX4 77 yX1_printerOf : Cond) ∈ lwA := lwA_mem (List.mem_of_getElem? (i := 353) (by decide +kernel)) (by decide +kernel)
theorem wd_ml_RX4_150 : (.methodLink RX4 150 yX1_scaleTells : Cond) ∈ lwA := lwA_mem (List.mem_of_getElem? (i := 354) (by decide +kernel)) (by decide +kernel)
theorem wd_im_yX1_scaleTells : (.instanceMethod yX1_scaleTells : Cond) ∈ lwA := lwA_mem (List.mem_of_getElem? (i := 355) (by decide +kernel)) (by decide +kernel)
theorem wd_sel_yX1_scaleTells : (.selects RX1 yX1_scaleTells yX1_scaleTells : Cond) ∈ lwA := lwA_mem (List.mem_of_getElem? (i := 356) (by decide +kernel)) (by decide +kernel)
theorem wd_code_yX1_scaleTells : (.code yX1_scaleTells cX1_scaleTells 2 (some .int) : Cond) ∈ lwA := lwA_mem (List.mem_of_getElem? (i := 357) (by decide +kernel)) (by decide +kernel)
theorem wd_ml_RX1_96 : (.methodLink RX1 96 yX1_toner : Cond) ∈ lwA := lwA_mem (List.mem_of_getElem? (i := 358) (by decide +kernel)) (by decide +kernel)
theorem wd_im_yX1_toner : (.instanceMethod yX1_toner : Cond) ∈ lwA := lwA_mem (List.mem_of_getElem? (i := 359) (by decide +kernel)) (by decide +kernel)
theorem wd_sel_yX1_toner : (.selects RX1 yX1_toner yX1_toner : Cond) ∈ lwA := lwA_mem (List.mem_of_getElem? (i := 360) (by decide +kernel)) (by decide +kernel)
theorem wd_code_yX1_toner : (.code yX1_toner cX1_toner 2 (some .int) : Cond) ∈ lwA := lwA_mem (List.mem_of_getElem? (i := 361) (by decide +kernel)) (by decide +kernel)
theorem wd_ml_RX4_153 : (.methodLink RX4 153 yX1_toldLeft : Cond) ∈ lwA := lwA_mem (List.mem_of_getElem? (i := 362) (by decide +kernel)) (by decide +kernel)
theorem wd_im_yX1_toldLeft : (.instanceMethod yX1_toldLeft : Cond) ∈ lwA := lwA_mem (List.mem_of_getElem? (i := 363) (by decide +kernel)) (by decide +kernel)
theorem wd_sel_yX1_toldLeft : (.selects RX1 yX1_toldLeft yX1_toldLeft : Cond) ∈ lwA := lwA_mem (List.mem_of_getElem? (i := 364) (by decide +kernel)) (by decide +kernel)
theorem wd_code_yX1_toldLeft : (.code yX1_toldLeft cX1_toldLeft 2 (some .int) : Cond) ∈ lwA := lwA_mem (List.mem_of_getElem? (i := 365) (by decide +kernel)) (by decide +kernel)
theorem wd_ml_RX1_99 : (.methodLink RX1 99 yX1_scaleTells : Cond) ∈ lwA := lwA_mem (List.mem_of_getElem? (i := 366) (by decide +kernel)) (by decide +kernel)
theorem wd_ml_RX4_80 : (.methodLink RX4 80 yX1_toner : Cond) ∈ lwA := lwA_mem (List.mem_of_getElem? (i := 367) (by decide +kernel)) (by decide +kernel)
theorem wd_con_RX4_156 : (.constant RX4 156 100000 : Cond) ∈ lwA := lwA_mem (List.mem_of_getElem? (i := 368) (by decide +kernel)) (by decide +kernel)
theorem wd_ml_RL_60 : (.methodLink RL 60 yX4_printer : Cond) ∈ lwA := lwA_mem (List.mem_of_getElem? (i := 369) (by decide +kernel)) (by decide +kernel)
theorem wd_im_yX4_printer : (.instanceMethod yX4_printer : Cond) ∈ lwA := lwA_mem (List.mem_of_getElem? (i := 370) (by decide +kernel)) (by decide +kernel)
theorem wd_sel_yX4_printer : (.selects RX4 yX4_printer yX4_printer : Cond) ∈ lwA := lwA_mem (List.mem_of_getElem? (i := 371) (by decide +kernel)) (by decide +kernel)
theorem wd_code_yX4_printer : (.code yX4_printer cX4_printer 3 (some .int) : Cond) ∈ lwA := lwA_mem (List.mem_of_getElem? (i := 372) (by decide +kernel)) (by decide +kernel)
theorem wd_ml_RL_53 : (.methodLink RL 53 yX4_count : Cond) ∈ lwA := lwA_mem (List.mem_of_getElem? (i := 373) (by decide +kernel)) (by decide +kernel)
theorem wd_im_yX4_count : (.instanceMethod yX4_count : Cond) ∈ lwA := lwA_mem (List.mem_of_getElem? (i := 374) (by decide +kernel)) (by decide +kernel)
theorem wd_sel_yX4_count : (.selects RX4 yX4_count yX4_count : Cond) ∈ lwA := lwA_mem (List.mem_of_getElem? (i := 375) (by decide +kernel)) (by decide +kernel)
theorem wd_code_yX4_count : (.code yX4_count cX4_count 2 (some .int) : Cond) ∈ lwA := lwA_mem (List.mem_of_getElem? (i := 376) (by decide +kernel)) (by decide +kernel)
theorem wd_ml_RX4_182 : (.methodLink RX4 182 yX1_allToner : Cond) ∈ lwA := lwA_mem (List.mem_of_getElem? (i := 377) (by decide +kernel)) (by decide +kernel)
theorem wd_im_yX1_allToner : (.instanceMethod yX1_allToner : Cond) ∈ lwA := lwA_mem (List.mem_of_getElem? (i := 378) (by decide +kernel)) (by decide +kernel)
theorem wd_sel_yX1_allToner : (.selects RX1 yX1_allToner yX1_allToner : Cond) ∈ lwA := lwA_mem (List.mem_of_getElem? (i := 379) (by decide +kernel)) (by decide +kernel)
theorem wd_code_yX1_allToner : (.code yX1_allToner cX1_allToner 3 (some .int) : Cond) ∈ lwA := lwA_mem (List.mem_of_getElem? (i := 380) (by decide +kernel)) (by decide +kernel)
theorem wd_ml_RX4_194 : (.methodLink RX4 194 yX1_darkOfAll : Cond) ∈ lwA := lwA_mem (List.mem_of_getElem? (i := 381) (by decide +kernel)) (by decide +kernel)
theorem wd_im_yX1_darkOfAll : (.instanceMethod yX1_darkOfAll : Cond) ∈ lwA := lwA_mem (List.mem_of_getElem? (i := 382) (by decide +kernel)) (by decide +kernel)
theorem wd_sel_yX1_darkOfAll : (.selects RX1 yX1_darkOfAll yX1_darkOfAll : Cond) ∈ lwA := lwA_mem (List.mem_of_getElem? (i := 383) (by decide +kernel)) (by decide +kernel)
theorem wd_code_yX1_darkOfAll : (.code yX1_darkOfAll cX1_darkOfAll 1 (some .int) : Cond) ∈ lwA := lwA_mem (List.mem_of_getElem? (i := 384) (by decide +kernel)) (by decide +kernel)
theorem wd_ml_RX4_197 : (.methodLink RX4 197 yX1_lightOfAll : Cond) ∈ lwA := lwA_mem (List.mem_of_getElem? (i := 385) (by decide +kernel)) (by decide +kernel)
theorem wd_im_yX1_lightOfAll : (.instanceMethod yX1_lightOfAll : Cond) ∈ lwA := lwA_mem (List.mem_of_getElem? (i := 386) (by decide +kernel)) (by decide +kernel)
theorem wd_sel_yX1_lightOfAll : (.selects RX1 yX1_lightOfAll yX1_lightOfAll : Cond) ∈ lwA := lwA_mem (List.mem_of_getElem? (i := 387) (by decide +kernel)) (by decide +kernel)
theorem wd_code_yX1_lightOfAll : (.code yX1_lightOfAll cX1_lightOfAll 1 (some .int) : Cond) ∈ lwA := lwA_mem (List.mem_of_getElem? (i := 388) (by decide +kernel)) (by decide +kernel)
theorem wd_ml_RX4_200 : (.methodLink RX4 200 yX1_cupsInside : Cond) ∈ lwA := lwA_mem (List.mem_of_getElem? (i := 389) (by decide +kernel)) (by decide +kernel)
theorem wd_im_yX1_cupsInside : (.instanceMethod yX1_cupsInside : Cond) ∈ lwA := lwA_mem (List.mem_of_getElem? (i := 390) (by decide +kernel)) (by decide +kernel)
theorem wd_sel_yX1_cupsInside : (.selects RX1 yX1_cupsInside yX1_cupsInside : Cond) ∈ lwA := lwA_mem (List.mem_of_getElem? (i := 391) (by decide +kernel)) (by decide +kernel)
theorem wd_code_yX1_cupsInside : (.code yX1_cupsInside cX1_cupsInside 3 (some .int) : Cond) ∈ lwA := lwA_mem (List.mem_of_getElem? (i := 392) (by decide +kernel)) (by decide +kernel)
theorem wd_ml_RX4_203 : (.methodLink RX4 203 yX1_allToldLeft : Cond) ∈ lwA := lwA_mem (List.mem_of_getElem? (i := 393) (by decide +kernel)) (by decide +kernel)
theorem wd_im_yX1_allToldLeft : (.instanceMethod yX1_allToldLeft : Cond) ∈ lwA := lwA_mem (List.mem_of_getElem? (i := 394) (by decide +kernel)) (by decide +kernel)
theorem wd_sel_yX1_allToldLeft : (.selects RX1 yX1_allToldLeft yX1_allToldLeft : Cond) ∈ lwA := lwA_mem (List.mem_of_getElem? (i := 395) (by decide +kernel)) (by decide +kernel)
theorem wd_code_yX1_allToldLeft : (.code yX1_allToldLeft cX1_allToldLeft 3 (some .int) : Cond) ∈ lwA := lwA_mem (List.mem_of_getElem? (i := 396) (by decide +kernel)) (by decide +kernel)
theorem wd_ml_RX1_102 : (.methodLink RX1 102 yX1_toldLeft : Cond) ∈ lwA := lwA_mem (List.mem_of_getElem? (i := 397) (by decide +kernel)) (by decide +kernel)
theorem wd_ml_RX4_206 : (.methodLink RX4 206 yX1_cupsOvertold : Cond) ∈ lwA := lwA_mem (List.mem_of_getElem? (i := 398) (by decide +kernel)) (by decide +kernel)
theorem wd_im_yX1_cupsOvertold : (.instanceMethod yX1_cupsOvertold : Cond) ∈ lwA := lwA_mem (List.mem_of_getElem? (i := 399) (by decide +kernel)) (by decide +kernel)
theorem wd_sel_yX1_cupsOvertold : (.selects RX1 yX1_cupsOvertold yX1_cupsOvertold : Cond) ∈ lwA := lwA_mem (List.mem_of_getElem? (i := 400) (by decide +kernel)) (by decide +kernel)
theorem wd_code_yX1_cupsOvertold : (.code yX1_cupsOvertold cX1_cupsOvertold 3 (some .int) : Cond) ∈ lwA := lwA_mem (List.mem_of_getElem? (i := 401) (by decide +kernel)) (by decide +kernel)
theorem wd_ml_RL_28 : (.methodLink RL 28 yX4_undo : Cond) ∈ lwA := lwA_mem (List.mem_of_getElem? (i := 402) (by decide +kernel)) (by decide +kernel)
theorem wd_im_yX4_undo : (.instanceMethod yX4_undo : Cond) ∈ lwA := lwA_mem (List.mem_of_getElem? (i := 403) (by decide +kernel)) (by decide +kernel)
theorem wd_sel_yX4_undo : (.selects RX4 yX4_undo yX4_undo : Cond) ∈ lwA := lwA_mem (List.mem_of_getElem? (i := 404) (by decide +kernel)) (by decide +kernel)
theorem wd_code_yX4_undo : (.code yX4_undo cX4_undo 1 (some .int) : Cond) ∈ lwA := lwA_mem (List.mem_of_getElem? (i := 405) (by decide +kernel)) (by decide +kernel)
theorem wd_ml_RX4_229 : (.methodLink RX4 229 yX0_takeBack : Cond) ∈ lwA := lwA_mem (List.mem_of_getElem? (i := 406) (by decide +kernel)) (by decide +kernel)
theorem wd_im_yX0_takeBack : (.instanceMethod yX0_takeBack : Cond) ∈ lwA := lwA_mem (List.mem_of_getElem? (i := 407) (by decide +kernel)) (by decide +kernel)
theorem wd_sel_yX0_takeBack : (.selects RX0 yX0_takeBack yX0_takeBack : Cond) ∈ lwA := lwA_mem (List.mem_of_getElem? (i := 408) (by decide +kernel)) (by decide +kernel)
theorem wd_code_yX0_takeBack : (.code yX0_takeBack cX0_takeBack 2 none : Cond) ∈ lwA := lwA_mem (List.mem_of_getElem? (i := 409) (by decide +kernel)) (by decide +kernel)
theorem wd_ml_RL_35 : (.methodLink RL 35 yX4_restore : Cond) ∈ lwA := lwA_mem (List.mem_of_getElem? (i := 410) (by decide +kernel)) (by decide +kernel)
theorem wd_im_yX4_restore : (.instanceMethod yX4_restore : Cond) ∈ lwA := lwA_mem (List.mem_of_getElem? (i := 411) (by decide +kernel)) (by decide +kernel)
theorem wd_sel_yX4_restore : (.selects RX4 yX4_restore yX4_restore : Cond) ∈ lwA := lwA_mem (List.mem_of_getElem? (i := 412) (by decide +kernel)) (by decide +kernel)
theorem wd_code_yX4_restore : (.code yX4_restore cX4_restore 1 (some .int) : Cond) ∈ lwA := lwA_mem (List.mem_of_getElem? (i := 413) (by decide +kernel)) (by decide +kernel)
theorem wd_ml_RX4_232 : (.methodLink RX4 232 yX1_becomeLike : Cond) ∈ lwA := lwA_mem (List.mem_of_getElem? (i := 414) (by decide +kernel)) (by decide +kernel)
theorem wd_ml_RL_98 : (.methodLink RL 98 yL_cell : Cond) ∈ lwA := lwA_mem (List.mem_of_getElem? (i := 415) (by decide +kernel)) (by decide +kernel)
theorem wd_st_yL_cell : (.static yL_cell : Cond) ∈ lwA := lwA_mem (List.mem_of_getElem? (i := 416) (by decide +kernel)) (by decide +kernel)
theorem wd_code_yL_cell : (.code yL_cell cL_cell 2 (some .int) : Cond) ∈ lwA := lwA_mem (List.mem_of_getElem? (i := 417) (by decide +kernel)) (by decide +kernel)
theorem wd_con_RL_7 : (.constant RL 7 41941 : Cond) ∈ lwA := lwA_mem (List.mem_of_getElem? (i := 418) (by decide +kernel)) (by decide +kernel)
theorem wd_con_RL_8 : (.constant RL 8 2147483647 : Cond) ∈ lwA := lwA_mem (List.mem_of_getElem? (i := 419) (by decide +kernel)) (by decide +kernel)
theorem wd_ml_RL_102 : (.methodLink RL 102 yL_acts : Cond) ∈ lwA := lwA_mem (List.mem_of_getElem? (i := 420) (by decide +kernel)) (by decide +kernel)
theorem wd_st_yL_acts : (.static yL_acts : Cond) ∈ lwA := lwA_mem (List.mem_of_getElem? (i := 421) (by decide +kernel)) (by decide +kernel)
theorem wd_code_yL_acts : (.code yL_acts cL_acts 6 (some .int) : Cond) ∈ lwA := lwA_mem (List.mem_of_getElem? (i := 422) (by decide +kernel)) (by decide +kernel)
theorem wd_ml_RL_9 : (.methodLink RL 9 yX4_shake : Cond) ∈ lwA := lwA_mem (List.mem_of_getElem? (i := 423) (by decide +kernel)) (by decide +kernel)
theorem wd_im_yX4_shake : (.instanceMethod yX4_shake : Cond) ∈ lwA := lwA_mem (List.mem_of_getElem? (i := 424) (by decide +kernel)) (by decide +kernel)
theorem wd_sel_yX4_shake : (.selects RX4 yX4_shake yX4_shake : Cond) ∈ lwA := lwA_mem (List.mem_of_getElem? (i := 425) (by decide +kernel)) (by decide +kernel)
theorem wd_code_yX4_shake : (.code yX4_shake cX4_shake 2 (some .int) : Cond) ∈ lwA := lwA_mem (List.mem_of_getElem? (i := 426) (by decide +kernel)) (by decide +kernel)
theorem wd_ml_RL_15 : (.methodLink RL 15 yX4_move : Cond) ∈ lwA := lwA_mem (List.mem_of_getElem? (i := 427) (by decide +kernel)) (by decide +kernel)
theorem wd_im_yX4_move : (.instanceMethod yX4_move : Cond) ∈ lwA := lwA_mem (List.mem_of_getElem? (i := 428) (by decide +kernel)) (by decide +kernel)
theorem wd_sel_yX4_move : (.selects RX4 yX4_move yX4_move : Cond) ∈ lwA := lwA_mem (List.mem_of_getElem? (i := 429) (by decide +kernel)) (by decide +kernel)
theorem wd_code_yX4_move : (.code yX4_move cX4_move 3 (some .int) : Cond) ∈ lwA := lwA_mem (List.mem_of_getElem? (i := 430) (by decide +kernel)) (by decide +kernel)
theorem wd_ml_RL_19 : (.methodLink RL 19 yX4_takeOut : Cond) ∈ lwA := lwA_mem (List.mem_of_getElem? (i := 431) (by decide +kernel)) (by decide +kernel)
theorem wd_im_yX4_takeOut : (.instanceMethod yX4_takeOut : Cond) ∈ lwA := lwA_mem (List.mem_of_getElem? (i := 432) (by decide +kernel)) (by decide +kernel)
theorem wd_sel_yX4_takeOut : (.selects RX4 yX4_takeOut yX4_takeOut : Cond) ∈ lwA := lwA_mem (List.mem_of_getElem? (i := 433) (by decide +kernel)) (by decide +kernel)
theorem wd_code_yX4_takeOut : (.code yX4_takeOut cX4_takeOut 3 (some .int) : Cond) ∈ lwA := lwA_mem (List.mem_of_getElem? (i := 434) (by decide +kernel)) (by decide +kernel)
theorem wd_ml_RX4_73 : (.methodLink RX4 73 yX1_empty : Cond) ∈ lwA := lwA_mem (List.mem_of_getElem? (i := 435) (by decide +kernel)) (by decide +kernel)
theorem wd_ml_RL_22 : (.methodLink RL 22 yX4_refill : Cond) ∈ lwA := lwA_mem (List.mem_of_getElem? (i := 436) (by decide +kernel)) (by decide +kernel)
theorem wd_im_yX4_refill : (.instanceMethod yX4_refill : Cond) ∈ lwA := lwA_mem (List.mem_of_getElem? (i := 437) (by decide +kernel)) (by decide +kernel)
theorem wd_sel_yX4_refill : (.selects RX4 yX4_refill yX4_refill : Cond) ∈ lwA := lwA_mem (List.mem_of_getElem? (i := 438) (by decide +kernel)) (by decide +kernel)
theorem wd_code_yX4_refill : (.code yX4_refill cX4_refill 3 (some .int) : Cond) ∈ lwA := lwA_mem (List.mem_of_getElem? (i := 439) (by decide +kernel)) (by decide +kernel)
theorem wd_ml_RX4_83 : (.methodLink RX4 83 yX1_fillCup : Cond) ∈ lwA := lwA_mem (List.mem_of_getElem? (i := 440) (by decide +kernel)) (by decide +kernel)
theorem wd_im_yX1_fillCup : (.instanceMethod yX1_fillCup : Cond) ∈ lwA := lwA_mem (List.mem_of_getElem? (i := 441) (by decide +kernel)) (by decide +kernel)
theorem wd_sel_yX1_fillCup : (.selects RX1 yX1_fillCup yX1_fillCup : Cond) ∈ lwA := lwA_mem (List.mem_of_getElem? (i := 442) (by decide +kernel)) (by decide +kernel)
theorem wd_code_yX1_fillCup : (.code yX1_fillCup cX1_fillCup 5 (some .int) : Cond) ∈ lwA := lwA_mem (List.mem_of_getElem? (i := 443) (by decide +kernel)) (by decide +kernel)
theorem wd_ml_RL_25 : (.methodLink RL 25 yX4_set : Cond) ∈ lwA := lwA_mem (List.mem_of_getElem? (i := 444) (by decide +kernel)) (by decide +kernel)
theorem wd_im_yX4_set : (.instanceMethod yX4_set : Cond) ∈ lwA := lwA_mem (List.mem_of_getElem? (i := 445) (by decide +kernel)) (by decide +kernel)
theorem wd_sel_yX4_set : (.selects RX4 yX4_set yX4_set : Cond) ∈ lwA := lwA_mem (List.mem_of_getElem? (i := 446) (by decide +kernel)) (by decide +kernel)
theorem wd_code_yX4_set : (.code yX4_set cX4_set 4 (some .int) : Cond) ∈ lwA := lwA_mem (List.mem_of_getElem? (i := 447) (by decide +kernel)) (by decide +kernel)
theorem wd_fl_RX4_86 : (.fieldLink RX4 86 "DotToner" "LOWEST" "[I" : Cond) ∈ lwA := lwA_mem (List.mem_of_getElem? (i := 448) (by decide +kernel)) (by decide +kernel)
theorem wd_fl_RX4_89 : (.fieldLink RX4 89 "DotToner" "HIGHEST" "[I" : Cond) ∈ lwA := lwA_mem (List.mem_of_getElem? (i := 450) (by decide +kernel)) (by decide +kernel)
theorem wd_ml_RL_32 : (.methodLink RL 32 yX4_save : Cond) ∈ lwA := lwA_mem (List.mem_of_getElem? (i := 452) (by decide +kernel)) (by decide +kernel)
theorem wd_im_yX4_save : (.instanceMethod yX4_save : Cond) ∈ lwA := lwA_mem (List.mem_of_getElem? (i := 453) (by decide +kernel)) (by decide +kernel)
theorem wd_sel_yX4_save : (.selects RX4 yX4_save yX4_save : Cond) ∈ lwA := lwA_mem (List.mem_of_getElem? (i := 454) (by decide +kernel)) (by decide +kernel)
theorem wd_code_yX4_save : (.code yX4_save cX4_save 1 (some .int) : Cond) ∈ lwA := lwA_mem (List.mem_of_getElem? (i := 455) (by decide +kernel)) (by decide +kernel)
theorem wd_ml_RL_92 : (.methodLink RL 92 yL_hangs : Cond) ∈ lwA := lwA_mem (List.mem_of_getElem? (i := 456) (by decide +kernel)) (by decide +kernel)
theorem wd_st_yL_hangs : (.static yL_hangs : Cond) ∈ lwA := lwA_mem (List.mem_of_getElem? (i := 457) (by decide +kernel)) (by decide +kernel)
theorem wd_code_yL_hangs : (.code yL_hangs cL_hangs 14 (some .boolean) : Cond) ∈ lwA := lwA_mem (List.mem_of_getElem? (i := 458) rfl) (by decide +kernel)
theorem wd_con_RL_59 : (.constant RL 59 100000 : Cond) ∈ lwA := lwA_mem (List.mem_of_getElem? (i := 459) (by decide +kernel)) (by decide +kernel)
theorem wd_ml_RL_63 : (.methodLink RL 63 yX4_lasts : Cond) ∈ lwA := lwA_mem (List.mem_of_getElem? (i := 460) (by decide +kernel)) (by decide +kernel)
theorem wd_im_yX4_lasts : (.instanceMethod yX4_lasts : Cond) ∈ lwA := lwA_mem (List.mem_of_getElem? (i := 461) (by decide +kernel)) (by decide +kernel)
theorem wd_sel_yX4_lasts : (.selects RX4 yX4_lasts yX4_lasts : Cond) ∈ lwA := lwA_mem (List.mem_of_getElem? (i := 462) (by decide +kernel)) (by decide +kernel)
theorem wd_code_yX4_lasts : (.code yX4_lasts cX4_lasts 5 (some .int) : Cond) ∈ lwA := lwA_mem (List.mem_of_getElem? (i := 463) (by decide +kernel)) (by decide +kernel)
theorem wd_ml_RX4_172 : (.methodLink RX4 172 yX1_tonerFor : Cond) ∈ lwA := lwA_mem (List.mem_of_getElem? (i := 464) (by decide +kernel)) (by decide +kernel)
theorem wd_ml_RX4_212 : (.methodLink RX4 212 yX1_pagesLasting : Cond) ∈ lwA := lwA_mem (List.mem_of_getElem? (i := 465) (by decide +kernel)) (by decide +kernel)
theorem wd_im_yX1_pagesLasting : (.instanceMethod yX1_pagesLasting : Cond) ∈ lwA := lwA_mem (List.mem_of_getElem? (i := 466) (by decide +kernel)) (by decide +kernel)
theorem wd_sel_yX1_pagesLasting : (.selects RX1 yX1_pagesLasting yX1_pagesLasting : Cond) ∈ lwA := lwA_mem (List.mem_of_getElem? (i := 467) (by decide +kernel)) (by decide +kernel)
theorem wd_code_yX1_pagesLasting : (.code yX1_pagesLasting cX1_pagesLasting 9 (some .int) : Cond) ∈ lwA := lwA_mem (List.mem_of_getElem? (i := 468) (by decide +kernel)) (by decide +kernel)
theorem wd_ml_RX1_105 : (.methodLink RX1 105 yX1_wouldBeDark : Cond) ∈ lwA := lwA_mem (List.mem_of_getElem? (i := 469) (by decide +kernel)) (by decide +kernel)
theorem wd_st_yX1_wouldBeDark : (.static yX1_wouldBeDark : Cond) ∈ lwA := lwA_mem (List.mem_of_getElem? (i := 470) (by decide +kernel)) (by decide +kernel)
theorem wd_code_yX1_wouldBeDark : (.code yX1_wouldBeDark cX1_wouldBeDark 2 (some .boolean) : Cond) ∈ lwA := lwA_mem (List.mem_of_getElem? (i := 471) (by decide +kernel)) (by decide +kernel)
theorem wd_ml_RL_67 : (.methodLink RL 67 yX4_darkest : Cond) ∈ lwA := lwA_mem (List.mem_of_getElem? (i := 472) (by decide +kernel)) (by decide +kernel)
theorem wd_im_yX4_darkest : (.instanceMethod yX4_darkest : Cond) ∈ lwA := lwA_mem (List.mem_of_getElem? (i := 473) (by decide +kernel)) (by decide +kernel)
theorem wd_sel_yX4_darkest : (.selects RX4 yX4_darkest yX4_darkest : Cond) ∈ lwA := lwA_mem (List.mem_of_getElem? (i := 474) (by decide +kernel)) (by decide +kernel)
theorem wd_code_yX4_darkest : (.code yX4_darkest cX4_darkest 5 (some .int) : Cond) ∈ lwA := lwA_mem (List.mem_of_getElem? (i := 475) (by decide +kernel)) (by decide +kernel)
theorem wd_ml_RX4_222 : (.methodLink RX4 222 yX4_isJobLength : Cond) ∈ lwA := lwA_mem (List.mem_of_getElem? (i := 476) (by decide +kernel)) (by decide +kernel)
theorem wd_st_yX4_isJobLength : (.static yX4_isJobLength : Cond) ∈ lwA := lwA_mem (List.mem_of_getElem? (i := 477) (by decide +kernel)) (by decide +kernel)
theorem wd_code_yX4_isJobLength : (.code yX4_isJobLength cX4_isJobLength 1 (some .boolean) : Cond) ∈ lwA := lwA_mem (List.mem_of_getElem? (i := 478) (by decide +kernel)) (by decide +kernel)
theorem wd_ml_RX4_225 : (.methodLink RX4 225 yX1_lastsShaken : Cond) ∈ lwA := lwA_mem (List.mem_of_getElem? (i := 479) (by decide +kernel)) (by decide +kernel)
theorem wd_im_yX1_lastsShaken : (.instanceMethod yX1_lastsShaken : Cond) ∈ lwA := lwA_mem (List.mem_of_getElem? (i := 480) (by decide +kernel)) (by decide +kernel)
theorem wd_sel_yX1_lastsShaken : (.selects RX1 yX1_lastsShaken yX1_lastsShaken : Cond) ∈ lwA := lwA_mem (List.mem_of_getElem? (i := 481) (by decide +kernel)) (by decide +kernel)
theorem wd_code_yX1_lastsShaken : (.code yX1_lastsShaken cX1_lastsShaken 5 (some .boolean) : Cond) ∈ lwA := lwA_mem (List.mem_of_getElem? (i := 482) (by decide +kernel)) (by decide +kernel)
theorem wd_ml_RX1_109 : (.methodLink RX1 109 yX1_pagesLasting : Cond) ∈ lwA := lwA_mem (List.mem_of_getElem? (i := 483) (by decide +kernel)) (by decide +kernel)
theorem wd_ml_RL_71 : (.methodLink RL 71 yX4_atHand : Cond) ∈ lwA := lwA_mem (List.mem_of_getElem? (i := 484) (by decide +kernel)) (by decide +kernel)
theorem wd_im_yX4_atHand : (.instanceMethod yX4_atHand : Cond) ∈ lwA := lwA_mem (List.mem_of_getElem? (i := 485) (by decide +kernel)) (by decide +kernel)
theorem wd_sel_yX4_atHand : (.selects RX4 yX4_atHand yX4_atHand : Cond) ∈ lwA := lwA_mem (List.mem_of_getElem? (i := 486) (by decide +kernel)) (by decide +kernel)
theorem wd_code_yX4_atHand : (.code yX4_atHand cX4_atHand 6 (some .int) : Cond) ∈ lwA := lwA_mem (List.mem_of_getElem? (i := 487) (by decide +kernel)) (by decide +kernel)
theorem wd_ml_RX4_216 : (.methodLink RX4 216 yX1_handPageByPage : Cond) ∈ lwA := lwA_mem (List.mem_of_getElem? (i := 488) (by decide +kernel)) (by decide +kernel)
theorem wd_im_yX1_handPageByPage : (.instanceMethod yX1_handPageByPage : Cond) ∈ lwA := lwA_mem (List.mem_of_getElem? (i := 489) (by decide +kernel)) (by decide +kernel)
theorem wd_sel_yX1_handPageByPage : (.selects RX1 yX1_handPageByPage yX1_handPageByPage : Cond) ∈ lwA := lwA_mem (List.mem_of_getElem? (i := 490) (by decide +kernel)) (by decide +kernel)
theorem wd_code_yX1_handPageByPage : (.code yX1_handPageByPage cX1_handPageByPage 6 (some .int) : Cond) ∈ lwA := lwA_mem (List.mem_of_getElem? (i := 491) (by decide +kernel)) (by decide +kernel)
theorem wd_ml_RX4_219 : (.methodLink RX4 219 yX1_handAddedUp : Cond) ∈ lwA := lwA_mem (List.mem_of_getElem? (i := 492) (by decide +kernel)) (by decide +kernel)
theorem wd_im_yX1_handAddedUp : (.instanceMethod yX1_handAddedUp : Cond) ∈ lwA := lwA_mem (List.mem_of_getElem? (i := 493) (by decide +kernel)) (by decide +kernel)
theorem wd_sel_yX1_handAddedUp : (.selects RX1 yX1_handAddedUp yX1_handAddedUp : Cond) ∈ lwA := lwA_mem (List.mem_of_getElem? (i := 494) (by decide +kernel)) (by decide +kernel)
theorem wd_code_yX1_handAddedUp : (.code yX1_handAddedUp cX1_handAddedUp 8 (some .int) : Cond) ∈ lwA := lwA_mem (List.mem_of_getElem? (i := 495) (by decide +kernel)) (by decide +kernel)
theorem wd_ml_RL_75 : (.methodLink RL 75 yX4_needs : Cond) ∈ lwA := lwA_mem (List.mem_of_getElem? (i := 496) (by decide +kernel)) (by decide +kernel)
theorem wd_im_yX4_needs : (.instanceMethod yX4_needs : Cond) ∈ lwA := lwA_mem (List.mem_of_getElem? (i := 497) (by decide +kernel)) (by decide +kernel)
theorem wd_sel_yX4_needs : (.selects RX4 yX4_needs yX4_needs : Cond) ∈ lwA := lwA_mem (List.mem_of_getElem? (i := 498) (by decide +kernel)) (by decide +kernel)
theorem wd_code_yX4_needs : (.code yX4_needs cX4_needs 4 (some .int) : Cond) ∈ lwA := lwA_mem (List.mem_of_getElem? (i := 499) (by decide +kernel)) (by decide +kernel)
theorem wd_ml_RX4_176 : (.methodLink RX4 176 yX1_chipFor : Cond) ∈ lwA := lwA_mem (List.mem_of_getElem? (i := 500) (by decide +kernel)) (by decide +kernel)
theorem wd_ml_RL_78 : (.methodLink RL 78 yX4_whyNot : Cond) ∈ lwA := lwA_mem (List.mem_of_getElem? (i := 501) (by decide +kernel)) (by decide +kernel)
theorem wd_im_yX4_whyNot : (.instanceMethod yX4_whyNot : Cond) ∈ lwA := lwA_mem (List.mem_of_getElem? (i := 502) (by decide +kernel)) (by decide +kernel)
theorem wd_sel_yX4_whyNot : (.selects RX4 yX4_whyNot yX4_whyNot : Cond) ∈ lwA := lwA_mem (List.mem_of_getElem? (i := 503) (by decide +kernel)) (by decide +kernel)
theorem wd_code_yX4_whyNot : (.code yX4_whyNot cX4_whyNot 2 (some .int) : Cond) ∈ lwA := lwA_mem (List.mem_of_getElem? (i := 504) (by decide +kernel)) (by decide +kernel)
theorem wd_ml_RX4_179 : (.methodLink RX4 179 yX1_refusal : Cond) ∈ lwA := lwA_mem (List.mem_of_getElem? (i := 505) (by decide +kernel)) (by decide +kernel)
theorem wd_ml_RL_81 : (.methodLink RL 81 yX4_bestFor : Cond) ∈ lwA := lwA_mem (List.mem_of_getElem? (i := 506) (by decide +kernel)) (by decide +kernel)
theorem wd_im_yX4_bestFor : (.instanceMethod yX4_bestFor : Cond) ∈ lwA := lwA_mem (List.mem_of_getElem? (i := 507) (by decide +kernel)) (by decide +kernel)
theorem wd_sel_yX4_bestFor : (.selects RX4 yX4_bestFor yX4_bestFor : Cond) ∈ lwA := lwA_mem (List.mem_of_getElem? (i := 508) (by decide +kernel)) (by decide +kernel)
theorem wd_code_yX4_bestFor : (.code yX4_bestFor cX4_bestFor 7 (some .int) : Cond) ∈ lwA := lwA_mem (List.mem_of_getElem? (i := 509) (by decide +kernel)) (by decide +kernel)
theorem wd_ml_RL_84 : (.methodLink RL 84 yX4_darkness : Cond) ∈ lwA := lwA_mem (List.mem_of_getElem? (i := 510) (by decide +kernel)) (by decide +kernel)
theorem wd_im_yX4_darkness : (.instanceMethod yX4_darkness : Cond) ∈ lwA := lwA_mem (List.mem_of_getElem? (i := 511) (by decide +kernel)) (by decide +kernel)
theorem wd_sel_yX4_darkness : (.selects RX4 yX4_darkness yX4_darkness : Cond) ∈ lwA := lwA_mem (List.mem_of_getElem? (i := 512) (by decide +kernel)) (by decide +kernel)
theorem wd_code_yX4_darkness : (.code yX4_darkness cX4_darkness 3 (some .double) : Cond) ∈ lwA := lwA_mem (List.mem_of_getElem? (i := 513) (by decide +kernel)) (by decide +kernel)
theorem wd_ml_RL_110 : (.methodLink RL 110 yL_same : Cond) ∈ lwA := lwA_mem (List.mem_of_getElem? (i := 514) (by decide +kernel)) (by decide +kernel)
theorem wd_st_yL_same : (.static yL_same : Cond) ∈ lwA := lwA_mem (List.mem_of_getElem? (i := 515) (by decide +kernel)) (by decide +kernel)
theorem wd_code_yL_same : (.code yL_same cL_same 4 (some .boolean) : Cond) ∈ lwA := lwA_mem (List.mem_of_getElem? (i := 516) (by decide +kernel)) (by decide +kernel)
theorem wd_ml_RL_106 : (.methodLink RL 106 yL_refuses : Cond) ∈ lwA := lwA_mem (List.mem_of_getElem? (i := 517) (by decide +kernel)) (by decide +kernel)
theorem wd_st_yL_refuses : (.static yL_refuses : Cond) ∈ lwA := lwA_mem (List.mem_of_getElem? (i := 518) (by decide +kernel)) (by decide +kernel)
theorem wd_code_yL_refuses : (.code yL_refuses cL_refuses 5 (some .boolean) : Cond) ∈ lwA := lwA_mem (List.mem_of_getElem? (i := 519) (by decide +kernel)) (by decide +kernel)
theorem inA0 : ∀ w ∈ u_ws RX0 TX0 3, w ∈ lwA := fun w h => lwA_mem ((by decide +kernel : ∀ w ∈ u_ws RX0 TX0 3, w ∈ lw_tbl) w h) (List.all_eq_true.mp (by decide +kernel : (u_ws RX0 TX0 3).all goodWord = true) w h)
theorem inA1 : ∀ w ∈ u_ws RX1 TX1 14, w ∈ lwA := fun w h => lwA_mem ((by decide +kernel : ∀ w ∈ u_ws RX1 TX1 14, w ∈ lw_tbl) w h) (List.all_eq_true.mp (by decide +kernel : (u_ws RX1 TX1 14).all goodWord = true) w h)
theorem inA2 : ∀ w ∈ u_ws RX2 TX2 9, w ∈ lwA := fun w h => lwA_mem ((by decide +kernel : ∀ w ∈ u_ws RX2 TX2 9, w ∈ lw_tbl) w h) (List.all_eq_true.mp (by decide +kernel : (u_ws RX2 TX2 9).all goodWord = true) w h)
theorem inA3 : ∀ w ∈ u_ws RX3 TX3 4, w ∈ lwA := fun w h => lwA_mem ((by decide +kernel : ∀ w ∈ u_ws RX3 TX3 4, w ∈ lw_tbl) w h) (List.all_eq_true.mp (by decide +kernel : (u_ws RX3 TX3 4).all goodWord = true) w h)
theorem inA4 : ∀ w ∈ u_ws RX4 TX4 6, w ∈ lwA := fun w h => lwA_mem ((by decide +kernel : ∀ w ∈ u_ws RX4 TX4 6, w ∈ lw_tbl) w h) (List.all_eq_true.mp (by decide +kernel : (u_ws RX4 TX4 6).all goodWord = true) w h)
/-- links to private members of nest mates, and the array class over Machine: they stand apart -/
def lwN : List Cond := [.methodLinkNest RX4 9 yX1_init RX4, .methodLinkNest RX4 25 yX0_init RX4, .methodLinkNest RX0 9 yX1_init RX4, .methodLinkNest RX4 32 yX2_init RX4, .methodLinkNest RX4 39 yX3_init RX4, .methodLinkNest RX1 65 yX4_isCup RX4, .methodLinkNest RX1 84 yX4_share RX4, .methodLinkNest RX1 90 yX4_isPrinter RX4]
theorem wn_nl_RX4_9 : (.methodLinkNest RX4 9 yX1_init RX4 : Cond) ∈ lwN := List.mem_of_getElem? (i := 0) rfl
theorem wt_nl_RX4_9 : (.methodLinkNest RX4 9 yX1_init RX4 : Cond) ∈ lw_tbl := List.mem_of_getElem? (i := 28) (by decide +kernel)
theorem wn_nl_RX4_25 : (.methodLinkNest RX4 25 yX0_init RX4 : Cond) ∈ lwN := List.mem_of_getElem? (i := 1) rfl
theorem wt_nl_RX4_25 : (.methodLinkNest RX4 25 yX0_init RX4 : Cond) ∈ lw_tbl := List.mem_of_getElem? (i := 92) (by decide +kernel)
theorem wn_nl_RX0_9 : (.methodLinkNest RX0 9 yX1_init RX4 : Cond) ∈ lwN := List.mem_of_getElem? (i := 2) rfl
theorem wt_nl_RX0_9 : (.methodLinkNest RX0 9 yX1_init RX4 : Cond) ∈ lw_tbl := List.mem_of_getElem? (i := 98) (by decide +kernel)
theorem wn_nl_RX4_32 : (.methodLinkNest RX4 32 yX2_init RX4 : Cond) ∈ lwN := List.mem_of_getElem? (i := 3) rfl
theorem wt_nl_RX4_32 : (.methodLinkNest RX4 32 yX2_init RX4 : Cond) ∈ lw_tbl := List.mem_of_getElem? (i := 112) (by decide +kernel)
theorem wn_nl_RX4_39 : (.methodLinkNest RX4 39 yX3_init RX4 : Cond) ∈ lwN := List.mem_of_getElem? (i := 4) rfl
theorem wt_nl_RX4_39 : (.methodLinkNest RX4 39 yX3_init RX4 : Cond) ∈ lw_tbl := List.mem_of_getElem? (i := 154) (by decide +kernel)
theorem wn_nl_RX1_65 : (.methodLinkNest RX1 65 yX4_isCup RX4 : Cond) ∈ lwN := List.mem_of_getElem? (i := 5) rfl
theorem wt_nl_RX1_65 : (.methodLinkNest RX1 65 yX4_isCup RX4 : Cond) ∈ lw_tbl := List.mem_of_getElem? (i := 223) (by decide +kernel)
theorem wn_nl_RX1_84 : (.methodLinkNest RX1 84 yX4_share RX4 : Cond) ∈ lwN := List.mem_of_getElem? (i := 6) rfl
theorem wt_nl_RX1_84 : (.methodLinkNest RX1 84 yX4_share RX4 : Cond) ∈ lw_tbl := List.mem_of_getElem? (i := 234) (by decide +kernel)
theorem wn_nl_RX1_90 : (.methodLinkNest RX1 90 yX4_isPrinter RX4 : Cond) ∈ lwN := List.mem_of_getElem? (i := 7) rfl
theorem wt_nl_RX1_90 : (.methodLinkNest RX1 90 yX4_isPrinter RX4 : Cond) ∈ lw_tbl := List.mem_of_getElem? (i := 339) (by decide +kernel)
end
