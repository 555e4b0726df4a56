section
-- ===== PART A: goes FIRST, ahead of the names: the tables' words, and 'selects' of the private methods out of them =====
/-- a private method of a class that the tables say can be made, by its rows of tables_1 -/
def lw_okq (q : MethodName × Nat) : Prop := (q.1.cls ≠ "java/lang/invoke/MethodHandle" ∧ q.1.cls ≠ "java/lang/invoke/VarHandle") ∧ Cond.instantiable q.1.cls q.2 ∈ tables_1 ∧ Cond.privateMethod q.1 ∈ tables_1 ∧ Cond.instanceMethod q.1 ∈ tables_1
theorem lw_p0 : lw_okq (⟨"DotToner$Machine", "useToner", "(II)I"⟩, 14) := ⟨⟨by decide +kernel, by decide +kernel⟩, List.mem_of_getElem? (i := 17) (by decide +kernel), List.mem_of_getElem? (i := 221) (by decide +kernel), List.mem_of_getElem? (i := 222) (by decide +kernel)⟩
theorem lw_p1 : lw_okq (⟨"DotToner$Machine", "settleToner", "(I)V"⟩, 14) := ⟨⟨by decide +kernel, by decide +kernel⟩, List.mem_of_getElem? (i := 17) (by decide +kernel), List.mem_of_getElem? (i := 232) (by decide +kernel), List.mem_of_getElem? (i := 233) (by decide +kernel)⟩
theorem lw_p2 : lw_okq (⟨"DotToner$Pad", "readDeed", "()Z"⟩, 9) := ⟨⟨by decide +kernel, by decide +kernel⟩, List.mem_of_getElem? (i := 101) (by decide +kernel), List.mem_of_getElem? (i := 318) (by decide +kernel), List.mem_of_getElem? (i := 319) (by decide +kernel)⟩
theorem lw_p3 : lw_okq (⟨"DotToner$Pad", "read", "(C)Z"⟩, 9) := ⟨⟨by decide +kernel, by decide +kernel⟩, List.mem_of_getElem? (i := 101) (by decide +kernel), List.mem_of_getElem? (i := 322) (by decide +kernel), List.mem_of_getElem? (i := 323) (by decide +kernel)⟩
theorem lw_p4 : lw_okq (⟨"DotToner$Pad", "readPrinting", "()Z"⟩, 9) := ⟨⟨by decide +kernel, by decide +kernel⟩, List.mem_of_getElem? (i := 101) (by decide +kernel), List.mem_of_getElem? (i := 326) (by decide +kernel), List.mem_of_getElem? (i := 327) (by decide +kernel)⟩
theorem lw_p5 : lw_okq (⟨"DotToner$Pad", "readBelow", "(I)I"⟩, 9) := ⟨⟨by decide +kernel, by decide +kernel⟩, List.mem_of_getElem? (i := 101) (by decide +kernel), List.mem_of_getElem? (i := 330) (by decide +kernel), List.mem_of_getElem? (i := 331) (by decide +kernel)⟩
theorem lw_p6 : lw_okq (⟨"DotToner$Pad", "readNumber", "(II)I"⟩, 9) := ⟨⟨by decide +kernel, by decide +kernel⟩, List.mem_of_getElem? (i := 101) (by decide +kernel), List.mem_of_getElem? (i := 334) (by decide +kernel), List.mem_of_getElem? (i := 335) (by decide +kernel)⟩
theorem lw_p7 : lw_okq (⟨"DotToner$Pad", "readShaking", "()Z"⟩, 9) := ⟨⟨by decide +kernel, by decide +kernel⟩, List.mem_of_getElem? (i := 101) (by decide +kernel), List.mem_of_getElem? (i := 338) (by decide +kernel), List.mem_of_getElem? (i := 339) (by decide +kernel)⟩
theorem lw_p8 : lw_okq (⟨"DotToner$Pad", "readMoving", "()Z"⟩, 9) := ⟨⟨by decide +kernel, by decide +kernel⟩, List.mem_of_getElem? (i := 101) (by decide +kernel), List.mem_of_getElem? (i := 342) (by decide +kernel), List.mem_of_getElem? (i := 343) (by decide +kernel)⟩
theorem lw_p9 : lw_okq (⟨"DotToner", "doDeed", "(I)I"⟩, 6) := ⟨⟨by decide +kernel, by decide +kernel⟩, List.mem_of_getElem? (i := 9) (by decide +kernel), List.mem_of_getElem? (i := 362) (by decide +kernel), List.mem_of_getElem? (i := 363) (by decide +kernel)⟩
theorem lw_p10 : lw_okq (⟨"DotToner", "printPagesOf", "(I)I"⟩, 6) := ⟨⟨by decide +kernel, by decide +kernel⟩, List.mem_of_getElem? (i := 9) (by decide +kernel), List.mem_of_getElem? (i := 366) (by decide +kernel), List.mem_of_getElem? (i := 367) (by decide +kernel)⟩
theorem lw_p11 : lw_okq (⟨"DotTonerModel", "records", "()V"⟩, 16) := ⟨⟨by decide +kernel, by decide +kernel⟩, List.mem_of_getElem? (i := 493) (by decide +kernel), List.mem_of_getElem? (i := 561) (by decide +kernel), List.mem_of_getElem? (i := 562) (by decide +kernel)⟩
theorem lw_p12 : lw_okq (⟨"DotTonerModel", "prints", "(II)I"⟩, 16) := ⟨⟨by decide +kernel, by decide +kernel⟩, List.mem_of_getElem? (i := 493) (by decide +kernel), List.mem_of_getElem? (i := 565) (by decide +kernel), List.mem_of_getElem? (i := 566) (by decide +kernel)⟩
theorem lw_p13 : lw_okq (⟨"DotTonerModel", "reason", "(I)I"⟩, 16) := ⟨⟨by decide +kernel, by decide +kernel⟩, List.mem_of_getElem? (i := 493) (by decide +kernel), List.mem_of_getElem? (i := 569) (by decide +kernel), List.mem_of_getElem? (i := 570) (by decide +kernel)⟩
theorem lw_p14 : lw_okq (⟨"DotTonerModel", "need", "(III)I"⟩, 16) := ⟨⟨by decide +kernel, by decide +kernel⟩, List.mem_of_getElem? (i := 493) (by decide +kernel), List.mem_of_getElem? (i := 573) (by decide +kernel), List.mem_of_getElem? (i := 574) (by decide +kernel)⟩
theorem lw_p15 : lw_okq (⟨"DotTonerModel", "counted", "(II)I"⟩, 16) := ⟨⟨by decide +kernel, by decide +kernel⟩, List.mem_of_getElem? (i := 493) (by decide +kernel), List.mem_of_getElem? (i := 577) (by decide +kernel), List.mem_of_getElem? (i := 578) (by decide +kernel)⟩
def lw_privs_1 : List (MethodName × Nat) := [(⟨"DotToner$Machine", "useToner", "(II)I"⟩, 14), (⟨"DotToner$Machine", "settleToner", "(I)V"⟩, 14), (⟨"DotToner$Pad", "readDeed", "()Z"⟩, 9), (⟨"DotToner$Pad", "read", "(C)Z"⟩, 9), (⟨"DotToner$Pad", "readPrinting", "()Z"⟩, 9), (⟨"DotToner$Pad", "readBelow", "(I)I"⟩, 9), (⟨"DotToner$Pad", "readNumber", "(II)I"⟩, 9), (⟨"DotToner$Pad", "readShaking", "()Z"⟩, 9), (⟨"DotToner$Pad", "readMoving", "()Z"⟩, 9), (⟨"DotToner", "doDeed", "(I)I"⟩, 6), (⟨"DotToner", "printPagesOf", "(I)I"⟩, 6), (⟨"DotTonerModel", "records", "()V"⟩, 16), (⟨"DotTonerModel", "prints", "(II)I"⟩, 16), (⟨"DotTonerModel", "reason", "(I)I"⟩, 16), (⟨"DotTonerModel", "need", "(III)I"⟩, 16), (⟨"DotTonerModel", "counted", "(II)I"⟩, 16)]
theorem lw_r1 : ∀ q ∈ lw_privs_1, lw_okq q := List.forall_mem_cons.mpr ⟨lw_p0, List.forall_mem_cons.mpr ⟨lw_p1, List.forall_mem_cons.mpr ⟨lw_p2, List.forall_mem_cons.mpr ⟨lw_p3, List.forall_mem_cons.mpr ⟨lw_p4, List.forall_mem_cons.mpr ⟨lw_p5, List.forall_mem_cons.mpr ⟨lw_p6, List.forall_mem_cons.mpr ⟨lw_p7, List.forall_mem_cons.mpr ⟨lw_p8, List.forall_mem_cons.mpr ⟨lw_p9, List.forall_mem_cons.mpr ⟨lw_p10, List.forall_mem_cons.mpr ⟨lw_p11, List.forall_mem_cons.mpr ⟨lw_p12, List.forall_mem_cons.mpr ⟨lw_p13, List.forall_mem_cons.mpr ⟨lw_p14, List.forall_mem_cons.mpr ⟨lw_p15, fun _ h => absurd h List.not_mem_nil⟩⟩⟩⟩⟩⟩⟩⟩⟩⟩⟩⟩⟩⟩⟩⟩
theorem lw_p16 : lw_okq (⟨"DotTonerModel", "shakes", "(I)I"⟩, 16) := ⟨⟨by decide +kernel, by decide +kernel⟩, List.mem_of_getElem? (i := 493) (by decide +kernel), List.mem_of_getElem? (i := 588) (by decide +kernel), List.mem_of_getElem? (i := 589) (by decide +kernel)⟩
theorem lw_p17 : lw_okq (⟨"DotTonerModel", "moves", "(II)I"⟩, 16) := ⟨⟨by decide +kernel, by decide +kernel⟩, List.mem_of_getElem? (i := 493) (by decide +kernel), List.mem_of_getElem? (i := 596) (by decide +kernel), List.mem_of_getElem? (i := 597) (by decide +kernel)⟩
theorem lw_p18 : lw_okq (⟨"DotTonerModel", "where", "(I)I"⟩, 16) := ⟨⟨by decide +kernel, by decide +kernel⟩, List.mem_of_getElem? (i := 493) (by decide +kernel), List.mem_of_getElem? (i := 600) (by decide +kernel), List.mem_of_getElem? (i := 601) (by decide +kernel)⟩
theorem lw_p19 : lw_okq (⟨"DotTonerModel", "takes", "(I)I"⟩, 16) := ⟨⟨by decide +kernel, by decide +kernel⟩, List.mem_of_getElem? (i := 493) (by decide +kernel), List.mem_of_getElem? (i := 604) (by decide +kernel), List.mem_of_getElem? (i := 605) (by decide +kernel)⟩
theorem lw_p20 : lw_okq (⟨"DotTonerModel", "tonerOf", "(I)I"⟩, 16) := ⟨⟨by decide +kernel, by decide +kernel⟩, List.mem_of_getElem? (i := 493) (by decide +kernel), List.mem_of_getElem? (i := 616) (by decide +kernel), List.mem_of_getElem? (i := 617) (by decide +kernel)⟩
theorem lw_p21 : lw_okq (⟨"DotTonerModel", "isJob", "()Z"⟩, 16) := ⟨⟨by decide +kernel, by decide +kernel⟩, List.mem_of_getElem? (i := 493) (by decide +kernel), List.mem_of_getElem? (i := 642) (by decide +kernel), List.mem_of_getElem? (i := 643) (by decide +kernel)⟩
theorem lw_p22 : lw_okq (⟨"DotTonerModel", "deed", "()V"⟩, 16) := ⟨⟨by decide +kernel, by decide +kernel⟩, List.mem_of_getElem? (i := 493) (by decide +kernel), List.mem_of_getElem? (i := 646) (by decide +kernel), List.mem_of_getElem? (i := 647) (by decide +kernel)⟩
theorem lw_p23 : lw_okq (⟨"DotTonerModel", "next", "()I"⟩, 16) := ⟨⟨by decide +kernel, by decide +kernel⟩, List.mem_of_getElem? (i := 493) (by decide +kernel), List.mem_of_getElem? (i := 650) (by decide +kernel), List.mem_of_getElem? (i := 651) (by decide +kernel)⟩
theorem lw_p24 : lw_okq (⟨"DotTonerModel", "digit", "(II)I"⟩, 16) := ⟨⟨by decide +kernel, by decide +kernel⟩, List.mem_of_getElem? (i := 493) (by decide +kernel), List.mem_of_getElem? (i := 654) (by decide +kernel), List.mem_of_getElem? (i := 655) (by decide +kernel)⟩
theorem lw_p25 : lw_okq (⟨"DotTonerModel", "sign", "(I)V"⟩, 16) := ⟨⟨by decide +kernel, by decide +kernel⟩, List.mem_of_getElem? (i := 493) (by decide +kernel), List.mem_of_getElem? (i := 658) (by decide +kernel), List.mem_of_getElem? (i := 659) (by decide +kernel)⟩
theorem lw_p26 : lw_okq (⟨"DotTonerModel", "number", "(II)I"⟩, 16) := ⟨⟨by decide +kernel, by decide +kernel⟩, List.mem_of_getElem? (i := 493) (by decide +kernel), List.mem_of_getElem? (i := 662) (by decide +kernel), List.mem_of_getElem? (i := 663) (by decide +kernel)⟩
theorem lw_p27 : lw_okq (⟨"DotTonerModel", "pages", "()I"⟩, 16) := ⟨⟨by decide +kernel, by decide +kernel⟩, List.mem_of_getElem? (i := 493) (by decide +kernel), List.mem_of_getElem? (i := 670) (by decide +kernel), List.mem_of_getElem? (i := 671) (by decide +kernel)⟩
theorem lw_p28 : lw_okq (⟨"DotTonerModel", "scale", "(I)I"⟩, 16) := ⟨⟨by decide +kernel, by decide +kernel⟩, List.mem_of_getElem? (i := 493) (by decide +kernel), List.mem_of_getElem? (i := 682) (by decide +kernel), List.mem_of_getElem? (i := 683) (by decide +kernel)⟩
theorem lw_p29 : lw_okq (⟨"DotTonerModel", "left", "(I)I"⟩, 16) := ⟨⟨by decide +kernel, by decide +kernel⟩, List.mem_of_getElem? (i := 493) (by decide +kernel), List.mem_of_getElem? (i := 686) (by decide +kernel), List.mem_of_getElem? (i := 687) (by decide +kernel)⟩
theorem lw_p30 : lw_okq (⟨"DotTonerModel", "toner", "()I"⟩, 16) := ⟨⟨by decide +kernel, by decide +kernel⟩, List.mem_of_getElem? (i := 493) (by decide +kernel), List.mem_of_getElem? (i := 707) (by decide +kernel), List.mem_of_getElem? (i := 708) (by decide +kernel)⟩
theorem lw_p31 : lw_okq (⟨"DotTonerModel", "allPages", "()I"⟩, 16) := ⟨⟨by decide +kernel, by decide +kernel⟩, List.mem_of_getElem? (i := 493) (by decide +kernel), List.mem_of_getElem? (i := 711) (by decide +kernel), List.mem_of_getElem? (i := 712) (by decide +kernel)⟩
def lw_privs_2 : List (MethodName × Nat) := [(⟨"DotTonerModel", "shakes", "(I)I"⟩, 16), (⟨"DotTonerModel", "moves", "(II)I"⟩, 16), (⟨"DotTonerModel", "where", "(I)I"⟩, 16), (⟨"DotTonerModel", "takes", "(I)I"⟩, 16), (⟨"DotTonerModel", "tonerOf", "(I)I"⟩, 16), (⟨"DotTonerModel", "isJob", "()Z"⟩, 16), (⟨"DotTonerModel", "deed", "()V"⟩, 16), (⟨"DotTonerModel", "next", "()I"⟩, 16), (⟨"DotTonerModel", "digit", "(II)I"⟩, 16), (⟨"DotTonerModel", "sign", "(I)V"⟩, 16), (⟨"DotTonerModel", "number", "(II)I"⟩, 16), (⟨"DotTonerModel", "pages", "()I"⟩, 16), (⟨"DotTonerModel", "scale", "(I)I"⟩, 16), (⟨"DotTonerModel", "left", "(I)I"⟩, 16), (⟨"DotTonerModel", "toner", "()I"⟩, 16), (⟨"DotTonerModel", "allPages", "()I"⟩, 16)]
theorem lw_r2 : ∀ q ∈ lw_privs_2, lw_okq q := List.forall_mem_cons.mpr ⟨lw_p16, List.forall_mem_cons.mpr ⟨lw_p17, List.forall_mem_cons.mpr ⟨lw_p18, List.forall_mem_cons.mpr ⟨lw_p19, List.forall_mem_cons.mpr ⟨lw_p20, List.forall_mem_cons.mpr ⟨lw_p21, List.forall_mem_cons.mpr ⟨lw_p22, List.forall_mem_cons.mpr ⟨lw_p23, List.forall_mem_cons.mpr ⟨lw_p24, List.forall_mem_cons.mpr ⟨lw_p25, List.forall_mem_cons.mpr ⟨lw_p26, List.forall_mem_cons.mpr ⟨lw_p27, List.forall_mem_cons.mpr ⟨lw_p28, List.forall_mem_cons.mpr ⟨lw_p29, List.forall_mem_cons.mpr ⟨lw_p30, List.forall_mem_cons.mpr ⟨lw_p31, fun _ h => absurd h List.not_mem_nil⟩⟩⟩⟩⟩⟩⟩⟩⟩⟩⟩⟩⟩⟩⟩⟩
theorem lw_p32 : lw_okq (⟨"DotTonerModel", "darkPages", "()I"⟩, 16) := ⟨⟨by decide +kernel, by decide +kernel⟩, List.mem_of_getElem? (i := 493) (by decide +kernel), List.mem_of_getElem? (i := 715) (by decide +kernel), List.mem_of_getElem? (i := 716) (by decide +kernel)⟩
theorem lw_p33 : lw_okq (⟨"DotTonerModel", "allLeft", "()I"⟩, 16) := ⟨⟨by decide +kernel, by decide +kernel⟩, List.mem_of_getElem? (i := 493) (by decide +kernel), List.mem_of_getElem? (i := 719) (by decide +kernel), List.mem_of_getElem? (i := 720) (by decide +kernel)⟩
theorem lw_p34 : lw_okq (⟨"DotTonerModel", "boasts", "()I"⟩, 16) := ⟨⟨by decide +kernel, by decide +kernel⟩, List.mem_of_getElem? (i := 493) (by decide +kernel), List.mem_of_getElem? (i := 723) (by decide +kernel), List.mem_of_getElem? (i := 724) (by decide +kernel)⟩
theorem lw_p35 : lw_okq (⟨"DotTonerModel", "lastsFor", "(IIIZI)I"⟩, 16) := ⟨⟨by decide +kernel, by decide +kernel⟩, List.mem_of_getElem? (i := 493) (by decide +kernel), List.mem_of_getElem? (i := 735) (by decide +kernel), List.mem_of_getElem? (i := 736) (by decide +kernel)⟩
theorem lw_p36 : lw_okq (⟨"DotTonerModel", "isDark", "(I)Z"⟩, 16) := ⟨⟨by decide +kernel, by decide +kernel⟩, List.mem_of_getElem? (i := 493) (by decide +kernel), List.mem_of_getElem? (i := 739) (by decide +kernel), List.mem_of_getElem? (i := 740) (by decide +kernel)⟩
def lw_privs_3 : List (MethodName × Nat) := [(⟨"DotTonerModel", "darkPages", "()I"⟩, 16), (⟨"DotTonerModel", "allLeft", "()I"⟩, 16), (⟨"DotTonerModel", "boasts", "()I"⟩, 16), (⟨"DotTonerModel", "lastsFor", "(IIIZI)I"⟩, 16), (⟨"DotTonerModel", "isDark", "(I)Z"⟩, 16)]
theorem lw_r3 : ∀ q ∈ lw_privs_3, lw_okq q := List.forall_mem_cons.mpr ⟨lw_p32, List.forall_mem_cons.mpr ⟨lw_p33, List.forall_mem_cons.mpr ⟨lw_p34, List.forall_mem_cons.mpr ⟨lw_p35, List.forall_mem_cons.mpr ⟨lw_p36, fun _ h => absurd h List.not_mem_nil⟩⟩⟩⟩⟩
def lw_privs : List (MethodName × Nat) := lw_privs_1 ++ (lw_privs_2 ++ (lw_privs_3))
def lw_tbl : List Cond := k2_sels lw_privs ++ tables_1
theorem lw_privs_ok : ∀ q ∈ lw_privs, lw_okq q := by
  show ∀ q ∈ lw_privs_1 ++ (lw_privs_2 ++ (lw_privs_3)), lw_okq q
  exact List.forall_mem_append.mpr ⟨lw_r1, List.forall_mem_append.mpr ⟨lw_r2, lw_r3⟩⟩
/-- the streams that the claim lets the run draw from -/
abbrev lw_cs : List Choice := [Jvm.Choice.named "NaN.bits"]
theorem lw_bits : nanBits ∈ lw_cs := by first | decide | exact List.mem_cons_self | simp [lw_cs, nanBits]
end
section
def RX0 : String := "DotToner$History"
def TX0 : u_T := fun k => match k with
  | 0 => ("DotToner$History", "states", "[LDotToner$Machine;", true)
  | 1 => ("DotToner$History", "oldest", "I", false)
  | _ => ("DotToner$History", "size", "I", false)
def tyX0 : Nat → FieldType := fun k => match k with
  | 0 => .array (.object "DotToner$Machine")
  | 1 => .int
  | _ => .int
abbrev wsX00 : List Cond := u_ws RX0 TX0 3
theorem nmX0 : ∀ a, a < 3 → ∀ b, b < 3 → a ≠ b → (TX0 a).2.1 ≠ (TX0 b).2.1 := by decide +kernel
theorem tyX0_ok : ∀ k, k < 3 → parseFieldDescriptor (TX0 k).2.2.1 = some (tyX0 k) := by decide +kernel
abbrev cX0_init : ByteArray := prog_2_method_1_code
def yX0_init : MethodName := ⟨RX0, "<init>", "()V"⟩
abbrev cX0_keep : ByteArray := prog_2_method_2_code
def yX0_keep : MethodName := ⟨RX0, "keep", "(LDotToner$Machine;)V"⟩
abbrev cX0_takeBack : ByteArray := prog_2_method_3_code
def yX0_takeBack : MethodName := ⟨RX0, "takeBack", "(LDotToner$Machine;)V"⟩
def RX1 : String := "DotToner$Machine"
def TX1 : u_T := fun k => match k with
  | 0 => ("DotToner$Machine", "settings", "[I", true)
  | 1 => ("DotToner$Machine", "kinds", "[I", true)
  | 2 => ("DotToner$Machine", "hand", "[I", true)
  | 3 => ("DotToner$Machine", "settled", "[I", true)
  | 4 => ("DotToner$Machine", "chips", "[I", true)
  | 5 => ("DotToner$Machine", "cupIn", "[I", true)
  | 6 => ("DotToner$Machine", "darkPages", "[I", true)
  | 7 => ("DotToner$Machine", "lightPages", "[I", true)
  | 8 => ("DotToner$Machine", "refusedPages", "[I", true)
  | 9 => ("DotToner$Machine", "dotsPrinted", "[I", true)
  | 10 => ("DotToner$Machine", "latest", "[I", true)
  | 11 => ("DotToner$Machine", "used", "I", false)
  | 12 => ("DotToner$Machine", "spilt", "I", false)
  | _ => ("DotToner$Machine", "refilled", "I", false)
def tyX1 : Nat → FieldType := fun k => match k with
  | 0 => .array .int
  | 1 => .array .int
  | 2 => .array .int
  | 3 => .array .int
  | 4 => .array .int
  | 5 => .array .int
  | 6 => .array .int
  | 7 => .array .int
  | 8 => .array .int
  | 9 => .array .int
  | 10 => .array .int
  | 11 => .int
  | 12 => .int
  | _ => .int
abbrev wsX10 : List Cond := u_ws RX1 TX1 14
theorem nmX1 : ∀ a, a < 14 → ∀ b, b < 14 → a ≠ b → (TX1 a).2.1 ≠ (TX1 b).2.1 := by decide +kernel
theorem tyX1_ok : ∀ k, k < 14 → parseFieldDescriptor (TX1 k).2.2.1 = some (tyX1 k) := by decide +kernel
abbrev cX1_init : ByteArray := prog_3_method_1_code
def yX1_init : MethodName := ⟨RX1, "<init>", "()V"⟩
abbrev cX1_becomeLike : ByteArray := prog_3_method_2_code
def yX1_becomeLike : MethodName := ⟨RX1, "becomeLike", "(LDotToner$Machine;)V"⟩
abbrev cX1_tonerFor : ByteArray := prog_3_method_3_code
def yX1_tonerFor : MethodName := ⟨RX1, "tonerFor", "(III)I"⟩
abbrev cX1_chipFor : ByteArray := prog_3_method_4_code
def yX1_chipFor : MethodName := ⟨RX1, "chipFor", "(III)I"⟩
abbrev cX1_refusal : ByteArray := prog_3_method_5_code
def yX1_refusal : MethodName := ⟨RX1, "refusal", "(I)I"⟩
abbrev cX1_printPage : ByteArray := prog_3_method_6_code
def yX1_printPage : MethodName := ⟨RX1, "printPage", "(II)I"⟩
abbrev cX1_useToner : ByteArray := prog_3_method_7_code
def yX1_useToner : MethodName := ⟨RX1, "useToner", "(II)I"⟩
abbrev cX1_settleToner : ByteArray := prog_3_method_8_code
def yX1_settleToner : MethodName := ⟨RX1, "settleToner", "(I)V"⟩
abbrev cX1_shakeCup : ByteArray := prog_3_method_9_code
def yX1_shakeCup : MethodName := ⟨RX1, "shakeCup", "(I)I"⟩
abbrev cX1_moveCup : ByteArray := prog_3_method_10_code
def yX1_moveCup : MethodName := ⟨RX1, "moveCup", "(II)I"⟩
abbrev cX1_empty : ByteArray := prog_3_method_11_code
def yX1_empty : MethodName := ⟨RX1, "empty", "(I)V"⟩
abbrev cX1_fillCup : ByteArray := prog_3_method_12_code
def yX1_fillCup : MethodName := ⟨RX1, "fillCup", "(II)I"⟩
abbrev cX1_printerOf : ByteArray := prog_3_method_13_code
def yX1_printerOf : MethodName := ⟨RX1, "printerOf", "(I)I"⟩
abbrev cX1_toner : ByteArray := prog_3_method_14_code
def yX1_toner : MethodName := ⟨RX1, "toner", "(I)I"⟩
abbrev cX1_scaleTells : ByteArray := prog_3_method_15_code
def yX1_scaleTells : MethodName := ⟨RX1, "scaleTells", "(I)I"⟩
abbrev cX1_toldLeft : ByteArray := prog_3_method_16_code
def yX1_toldLeft : MethodName := ⟨RX1, "toldLeft", "(I)I"⟩
abbrev cX1_allToner : ByteArray := prog_3_method_17_code
def yX1_allToner : MethodName := ⟨RX1, "allToner", "()I"⟩
abbrev cX1_allToldLeft : ByteArray := prog_3_method_18_code
def yX1_allToldLeft : MethodName := ⟨RX1, "allToldLeft", "()I"⟩
abbrev cX1_cupsOvertold : ByteArray := prog_3_method_19_code
def yX1_cupsOvertold : MethodName := ⟨RX1, "cupsOvertold", "()I"⟩
abbrev cX1_cupsInside : ByteArray := prog_3_method_20_code
def yX1_cupsInside : MethodName := ⟨RX1, "cupsInside", "()I"⟩
abbrev cX1_darkOfAll : ByteArray := prog_3_method_21_code
def yX1_darkOfAll : MethodName := ⟨RX1, "darkOfAll", "()I"⟩
abbrev cX1_lightOfAll : ByteArray := prog_3_method_22_code
def yX1_lightOfAll : MethodName := ⟨RX1, "lightOfAll", "()I"⟩
abbrev cX1_pagesLasting : ByteArray := prog_3_method_23_code
def yX1_pagesLasting : MethodName := ⟨RX1, "pagesLasting", "(IIZI)I"⟩
abbrev cX1_lastsShaken : ByteArray := prog_3_method_24_code
def yX1_lastsShaken : MethodName := ⟨RX1, "lastsShaken", "(IIII)Z"⟩
abbrev cX1_wouldBeDark : ByteArray := prog_3_method_25_code
def yX1_wouldBeDark : MethodName := ⟨RX1, "wouldBeDark", "(II)Z"⟩
abbrev cX1_handPageByPage : ByteArray := prog_3_method_26_code
def yX1_handPageByPage : MethodName := ⟨RX1, "handPageByPage", "(III)I"⟩
abbrev cX1_handAddedUp : ByteArray := prog_3_method_27_code
def yX1_handAddedUp : MethodName := ⟨RX1, "handAddedUp", "(III)I"⟩
def RX2 : String := "DotToner$Pad"
def TX2 : u_T := fun k => match k with
  | 0 => ("DotToner$Pad", "signs", "[C", true)
  | 1 => ("DotToner$Pad", "length", "I", false)
  | 2 => ("DotToner$Pad", "at", "I", false)
  | 3 => ("DotToner$Pad", "deeds", "I", false)
  | 4 => ("DotToner$Pad", "letters", "[C", true)
  | 5 => ("DotToner$Pad", "places", "[I", true)
  | 6 => ("DotToner$Pad", "firsts", "[I", true)
  | 7 => ("DotToner$Pad", "seconds", "[I", true)
  | _ => ("DotToner$Pad", "times", "[I", true)
def tyX2 : Nat → FieldType := fun k => match k with
  | 0 => .array .char
  | 1 => .int
  | 2 => .int
  | 3 => .int
  | 4 => .array .char
  | 5 => .array .int
  | 6 => .array .int
  | 7 => .array .int
  | _ => .array .int
abbrev wsX20 : List Cond := u_ws RX2 TX2 9
theorem nmX2 : ∀ a, a < 9 → ∀ b, b < 9 → a ≠ b → (TX2 a).2.1 ≠ (TX2 b).2.1 := by decide +kernel
theorem tyX2_ok : ∀ k, k < 9 → parseFieldDescriptor (TX2 k).2.2.1 = some (tyX2 k) := by decide +kernel
abbrev cX2_init : ByteArray := prog_4_method_1_code
def yX2_init : MethodName := ⟨RX2, "<init>", "()V"⟩
abbrev cX2_hasRoom : ByteArray := prog_4_method_2_code
def yX2_hasRoom : MethodName := ⟨RX2, "hasRoom", "()Z"⟩
abbrev cX2_add : ByteArray := prog_4_method_3_code
def yX2_add : MethodName := ⟨RX2, "add", "(C)V"⟩
abbrev cX2_wipe : ByteArray := prog_4_method_4_code
def yX2_wipe : MethodName := ⟨RX2, "wipe", "()V"⟩
abbrev cX2_findFault : ByteArray := prog_4_method_5_code
def yX2_findFault : MethodName := ⟨RX2, "findFault", "()I"⟩
abbrev cX2_readDeed : ByteArray := prog_4_method_6_code
def yX2_readDeed : MethodName := ⟨RX2, "readDeed", "()Z"⟩
abbrev cX2_readPrinting : ByteArray := prog_4_method_7_code
def yX2_readPrinting : MethodName := ⟨RX2, "readPrinting", "()Z"⟩
abbrev cX2_readShaking : ByteArray := prog_4_method_8_code
def yX2_readShaking : MethodName := ⟨RX2, "readShaking", "()Z"⟩
abbrev cX2_readMoving : ByteArray := prog_4_method_9_code
def yX2_readMoving : MethodName := ⟨RX2, "readMoving", "()Z"⟩
abbrev cX2_read : ByteArray := prog_4_method_10_code
def yX2_read : MethodName := ⟨RX2, "read", "(C)Z"⟩
abbrev cX2_readBelow : ByteArray := prog_4_method_11_code
def yX2_readBelow : MethodName := ⟨RX2, "readBelow", "(I)I"⟩
abbrev cX2_readNumber : ByteArray := prog_4_method_12_code
def yX2_readNumber : MethodName := ⟨RX2, "readNumber", "(II)I"⟩
def RX3 : String := "DotToner$Stop"
def TX3 : u_T := fun k => match k with
  | 0 => ("DotToner$Stop", "reason", "I", false)
  | 1 => ("DotToner$Stop", "deed", "I", false)
  | 2 => ("DotToner$Stop", "place", "I", false)
  | _ => ("DotToner$Stop", "pages", "I", false)
def tyX3 : Nat → FieldType := fun k => match k with
  | 0 => .int
  | 1 => .int
  | 2 => .int
  | _ => .int
abbrev wsX30 : List Cond := u_ws RX3 TX3 4
theorem nmX3 : ∀ a, a < 4 → ∀ b, b < 4 → a ≠ b → (TX3 a).2.1 ≠ (TX3 b).2.1 := by decide +kernel
theorem tyX3_ok : ∀ k, k < 4 → parseFieldDescriptor (TX3 k).2.2.1 = some (tyX3 k) := by decide +kernel
abbrev cX3_init : ByteArray := prog_5_method_1_code
def yX3_init : MethodName := ⟨RX3, "<init>", "()V"⟩
abbrev cX3_forget : ByteArray := prog_5_method_2_code
def yX3_forget : MethodName := ⟨RX3, "forget", "()V"⟩
abbrev cX3_note : ByteArray := prog_5_method_3_code
def yX3_note : MethodName := ⟨RX3, "note", "(IIII)V"⟩
abbrev cX3_known : ByteArray := prog_5_method_4_code
def yX3_known : MethodName := ⟨RX3, "known", "()Z"⟩
def RX4 : String := "DotToner"
def TX4 : u_T := fun k => match k with
  | 0 => ("DotToner", "now", "LDotToner$Machine;", true)
  | 1 => ("DotToner", "snapshot", "LDotToner$Machine;", true)
  | 2 => ("DotToner", "snapshotTaken", "Z", false)
  | 3 => ("DotToner", "history", "LDotToner$History;", true)
  | 4 => ("DotToner", "pad", "LDotToner$Pad;", true)
  | _ => ("DotToner", "stop", "LDotToner$Stop;", true)
def tyX4 : Nat → FieldType := fun k => match k with
  | 0 => .object "DotToner$Machine"
  | 1 => .object "DotToner$Machine"
  | 2 => .boolean
  | 3 => .object "DotToner$History"
  | 4 => .object "DotToner$Pad"
  | _ => .object "DotToner$Stop"
abbrev wsX40 : List Cond := u_ws RX4 TX4 6
theorem nmX4 : ∀ a, a < 6 → ∀ b, b < 6 → a ≠ b → (TX4 a).2.1 ≠ (TX4 b).2.1 := by decide +kernel
theorem tyX4_ok : ∀ k, k < 6 → parseFieldDescriptor (TX4 k).2.2.1 = some (tyX4 k) := by decide +kernel
abbrev cX4_init : ByteArray := prog_1_method_1_code
def yX4_init : MethodName := ⟨RX4, "<init>", "()V"⟩
abbrev cX4_print : ByteArray := prog_1_method_2_code
def yX4_print : MethodName := ⟨RX4, "print", "(II)I"⟩
abbrev cX4_shake : ByteArray := prog_1_method_3_code
def yX4_shake : MethodName := ⟨RX4, "shake", "(I)I"⟩
abbrev cX4_move : ByteArray := prog_1_method_4_code
def yX4_move : MethodName := ⟨RX4, "move", "(II)I"⟩
abbrev cX4_takeOut : ByteArray := prog_1_method_5_code
def yX4_takeOut : MethodName := ⟨RX4, "takeOut", "(I)I"⟩
abbrev cX4_refill : ByteArray := prog_1_method_6_code
def yX4_refill : MethodName := ⟨RX4, "refill", "(II)I"⟩
abbrev cX4_set : ByteArray := prog_1_method_7_code
def yX4_set : MethodName := ⟨RX4, "set", "(II)I"⟩
abbrev cX4_append : ByteArray := prog_1_method_8_code
def yX4_append : MethodName := ⟨RX4, "append", "(I)I"⟩
abbrev cX4_clear : ByteArray := prog_1_method_9_code
def yX4_clear : MethodName := ⟨RX4, "clear", "()I"⟩
abbrev cX4_fault : ByteArray := prog_1_method_10_code
def yX4_fault : MethodName := ⟨RX4, "fault", "()I"⟩
abbrev cX4_run : ByteArray := prog_1_method_11_code
def yX4_run : MethodName := ⟨RX4, "run", "()I"⟩
abbrev cX4_why : ByteArray := prog_1_method_12_code
def yX4_why : MethodName := ⟨RX4, "why", "(I)I"⟩
abbrev cX4_cup : ByteArray := prog_1_method_13_code
def yX4_cup : MethodName := ⟨RX4, "cup", "(II)I"⟩
abbrev cX4_printer : ByteArray := prog_1_method_14_code
def yX4_printer : MethodName := ⟨RX4, "printer", "(II)I"⟩
abbrev cX4_needs : ByteArray := prog_1_method_15_code
def yX4_needs : MethodName := ⟨RX4, "needs", "(III)I"⟩
abbrev cX4_whyNot : ByteArray := prog_1_method_16_code
def yX4_whyNot : MethodName := ⟨RX4, "whyNot", "(I)I"⟩
abbrev cX4_count : ByteArray := prog_1_method_17_code
def yX4_count : MethodName := ⟨RX4, "count", "(I)I"⟩
abbrev cX4_darkness : ByteArray := prog_1_method_18_code
def yX4_darkness : MethodName := ⟨RX4, "darkness", "()D"⟩
abbrev cX4_lasts : ByteArray := prog_1_method_19_code
def yX4_lasts : MethodName := ⟨RX4, "lasts", "(IIZ)I"⟩
abbrev cX4_atHand : ByteArray := prog_1_method_20_code
def yX4_atHand : MethodName := ⟨RX4, "atHand", "(IIII)I"⟩
abbrev cX4_bestFor : ByteArray := prog_1_method_21_code
def yX4_bestFor : MethodName := ⟨RX4, "bestFor", "(II)I"⟩
abbrev cX4_darkest : ByteArray := prog_1_method_22_code
def yX4_darkest : MethodName := ⟨RX4, "darkest", "(III)I"⟩
abbrev cX4_undo : ByteArray := prog_1_method_23_code
def yX4_undo : MethodName := ⟨RX4, "undo", "()I"⟩
abbrev cX4_save : ByteArray := prog_1_method_24_code
def yX4_save : MethodName := ⟨RX4, "save", "()I"⟩
abbrev cX4_restore : ByteArray := prog_1_method_25_code
def yX4_restore : MethodName := ⟨RX4, "restore", "()I"⟩
abbrev cX4_doDeed : ByteArray := prog_1_method_26_code
def yX4_doDeed : MethodName := ⟨RX4, "doDeed", "(I)I"⟩
abbrev cX4_printPagesOf : ByteArray := prog_1_method_27_code
def yX4_printPagesOf : MethodName := ⟨RX4, "printPagesOf", "(I)I"⟩
abbrev cX4_isCup : ByteArray := prog_1_method_28_code
def yX4_isCup : MethodName := ⟨RX4, "isCup", "(I)Z"⟩
abbrev cX4_isPrinter : ByteArray := prog_1_method_29_code
def yX4_isPrinter : MethodName := ⟨RX4, "isPrinter", "(I)Z"⟩
abbrev cX4_isDots : ByteArray := prog_1_method_30_code
def yX4_isDots : MethodName := ⟨RX4, "isDots", "(I)Z"⟩
abbrev cX4_isJobLength : ByteArray := prog_1_method_31_code
def yX4_isJobLength : MethodName := ⟨RX4, "isJobLength", "(I)Z"⟩
abbrev cX4_share : ByteArray := prog_1_method_32_code
def yX4_share : MethodName := ⟨RX4, "share", "(II)I"⟩
def RX5 : String := "DotTonerModel"
def TX5 : u_T := fun k => match k with
  | 0 => ("DotTonerModel", "s", "[I", true)
  | 1 => ("DotTonerModel", "past", "[I", true)
  | 2 => ("DotTonerModel", "pasts", "I", false)
  | 3 => ("DotTonerModel", "snapshot", "[I", true)
  | 4 => ("DotTonerModel", "isKept", "Z", false)
  | 5 => ("DotTonerModel", "pad", "[I", true)
  | 6 => ("DotTonerModel", "length", "I", false)
  | 7 => ("DotTonerModel", "stop", "[I", true)
  | 8 => ("DotTonerModel", "spot", "I", false)
  | 9 => ("DotTonerModel", "isWrong", "Z", false)
  | 10 => ("DotTonerModel", "letter", "I", false)
  | 11 => ("DotTonerModel", "first", "I", false)
  | 12 => ("DotTonerModel", "second", "I", false)
  | 13 => ("DotTonerModel", "times", "I", false)
  | 14 => ("DotTonerModel", "hand", "I", false)
  | _ => ("DotTonerModel", "settled", "I", false)
def tyX5 : Nat → FieldType := fun k => match k with
  | 0 => .array .int
  | 1 => .array .int
  | 2 => .int
  | 3 => .array .int
  | 4 => .boolean
  | 5 => .array .int
  | 6 => .int
  | 7 => .array .int
  | 8 => .int
  | 9 => .boolean
  | 10 => .int
  | 11 => .int
  | 12 => .int
  | 13 => .int
  | 14 => .int
  | _ => .int
abbrev wsX50 : List Cond := u_ws RX5 TX5 16
theorem nmX5 : ∀ a, a < 16 → ∀ b, b < 16 → a ≠ b → (TX5 a).2.1 ≠ (TX5 b).2.1 := by decide +kernel
theorem tyX5_ok : ∀ k, k < 16 → parseFieldDescriptor (TX5 k).2.2.1 = some (tyX5 k) := by decide +kernel
abbrev cX5_init : ByteArray := prog_7_method_1_code
def yX5_init : MethodName := ⟨RX5, "<init>", "()V"⟩
abbrev cX5_in : ByteArray := prog_7_method_3_code
def yX5_in : MethodName := ⟨RX5, "in", "(III)Z"⟩
abbrev cX5_isCup : ByteArray := prog_7_method_4_code
def yX5_isCup : MethodName := ⟨RX5, "isCup", "(I)Z"⟩
abbrev cX5_isPrinter : ByteArray := prog_7_method_5_code
def yX5_isPrinter : MethodName := ⟨RX5, "isPrinter", "(I)Z"⟩
abbrev cX5_areDots : ByteArray := prog_7_method_6_code
def yX5_areDots : MethodName := ⟨RX5, "areDots", "(I)Z"⟩
abbrev cX5_records : ByteArray := prog_7_method_7_code
def yX5_records : MethodName := ⟨RX5, "records", "()V"⟩
abbrev cX5_need : ByteArray := prog_7_method_8_code
def yX5_need : MethodName := ⟨RX5, "need", "(III)I"⟩
abbrev cX5_counted : ByteArray := prog_7_method_9_code
def yX5_counted : MethodName := ⟨RX5, "counted", "(II)I"⟩
abbrev cX5_where : ByteArray := prog_7_method_10_code
def yX5_where : MethodName := ⟨RX5, "where", "(I)I"⟩
abbrev cX5_tonerOf : ByteArray := prog_7_method_11_code
def yX5_tonerOf : MethodName := ⟨RX5, "tonerOf", "(I)I"⟩
abbrev cX5_toner : ByteArray := prog_7_method_12_code
def yX5_toner : MethodName := ⟨RX5, "toner", "()I"⟩
abbrev cX5_reason : ByteArray := prog_7_method_13_code
def yX5_reason : MethodName := ⟨RX5, "reason", "(I)I"⟩
abbrev cX5_prints : ByteArray := prog_7_method_14_code
def yX5_prints : MethodName := ⟨RX5, "prints", "(II)I"⟩
abbrev cX5_print : ByteArray := prog_7_method_15_code
def yX5_print : MethodName := ⟨RX5, "print", "(II)I"⟩
abbrev cX5_shakes : ByteArray := prog_7_method_16_code
def yX5_shakes : MethodName := ⟨RX5, "shakes", "(I)I"⟩
abbrev cX5_shake : ByteArray := prog_7_method_17_code
def yX5_shake : MethodName := ⟨RX5, "shake", "(I)I"⟩
abbrev cX5_takes : ByteArray := prog_7_method_18_code
def yX5_takes : MethodName := ⟨RX5, "takes", "(I)I"⟩
abbrev cX5_moves : ByteArray := prog_7_method_19_code
def yX5_moves : MethodName := ⟨RX5, "moves", "(II)I"⟩
abbrev cX5_move : ByteArray := prog_7_method_20_code
def yX5_move : MethodName := ⟨RX5, "move", "(II)I"⟩
abbrev cX5_takeOut : ByteArray := prog_7_method_21_code
def yX5_takeOut : MethodName := ⟨RX5, "takeOut", "(I)I"⟩
abbrev cX5_refill : ByteArray := prog_7_method_22_code
def yX5_refill : MethodName := ⟨RX5, "refill", "(II)I"⟩
abbrev cX5_lowest : ByteArray := prog_7_method_23_code
def yX5_lowest : MethodName := ⟨RX5, "lowest", "(I)I"⟩
abbrev cX5_highest : ByteArray := prog_7_method_24_code
def yX5_highest : MethodName := ⟨RX5, "highest", "(I)I"⟩
abbrev cX5_set : ByteArray := prog_7_method_25_code
def yX5_set : MethodName := ⟨RX5, "set", "(II)I"⟩
abbrev cX5_append : ByteArray := prog_7_method_26_code
def yX5_append : MethodName := ⟨RX5, "append", "(I)I"⟩
abbrev cX5_clear : ByteArray := prog_7_method_27_code
def yX5_clear : MethodName := ⟨RX5, "clear", "()I"⟩
abbrev cX5_next : ByteArray := prog_7_method_28_code
def yX5_next : MethodName := ⟨RX5, "next", "()I"⟩
abbrev cX5_sign : ByteArray := prog_7_method_29_code
def yX5_sign : MethodName := ⟨RX5, "sign", "(I)V"⟩
abbrev cX5_digit : ByteArray := prog_7_method_30_code
def yX5_digit : MethodName := ⟨RX5, "digit", "(II)I"⟩
abbrev cX5_number : ByteArray := prog_7_method_31_code
def yX5_number : MethodName := ⟨RX5, "number", "(II)I"⟩
abbrev cX5_deed : ByteArray := prog_7_method_32_code
def yX5_deed : MethodName := ⟨RX5, "deed", "()V"⟩
abbrev cX5_isJob : ByteArray := prog_7_method_33_code
def yX5_isJob : MethodName := ⟨RX5, "isJob", "()Z"⟩
abbrev cX5_fault : ByteArray := prog_7_method_34_code
def yX5_fault : MethodName := ⟨RX5, "fault", "()I"⟩
abbrev cX5_pages : ByteArray := prog_7_method_35_code
def yX5_pages : MethodName := ⟨RX5, "pages", "()I"⟩
abbrev cX5_run : ByteArray := prog_7_method_36_code
def yX5_run : MethodName := ⟨RX5, "run", "()I"⟩
abbrev cX5_why : ByteArray := prog_7_method_37_code
def yX5_why : MethodName := ⟨RX5, "why", "(I)I"⟩
abbrev cX5_scale : ByteArray := prog_7_method_38_code
def yX5_scale : MethodName := ⟨RX5, "scale", "(I)I"⟩
abbrev cX5_left : ByteArray := prog_7_method_39_code
def yX5_left : MethodName := ⟨RX5, "left", "(I)I"⟩
abbrev cX5_cup : ByteArray := prog_7_method_40_code
def yX5_cup : MethodName := ⟨RX5, "cup", "(II)I"⟩
abbrev cX5_printer : ByteArray := prog_7_method_41_code
def yX5_printer : MethodName := ⟨RX5, "printer", "(II)I"⟩
abbrev cX5_needs : ByteArray := prog_7_method_42_code
def yX5_needs : MethodName := ⟨RX5, "needs", "(III)I"⟩
abbrev cX5_whyNot : ByteArray := prog_7_method_43_code
def yX5_whyNot : MethodName := ⟨RX5, "whyNot", "(I)I"⟩
abbrev cX5_darkPages : ByteArray := prog_7_method_44_code
def yX5_darkPages : MethodName := ⟨RX5, "darkPages", "()I"⟩
abbrev cX5_allPages : ByteArray := prog_7_method_45_code
def yX5_allPages : MethodName := ⟨RX5, "allPages", "()I"⟩
abbrev cX5_allLeft : ByteArray := prog_7_method_46_code
def yX5_allLeft : MethodName := ⟨RX5, "allLeft", "()I"⟩
abbrev cX5_boasts : ByteArray := prog_7_method_47_code
def yX5_boasts : MethodName := ⟨RX5, "boasts", "()I"⟩
abbrev cX5_count : ByteArray := prog_7_method_48_code
def yX5_count : MethodName := ⟨RX5, "count", "(I)I"⟩
abbrev cX5_darkness : ByteArray := prog_7_method_49_code
def yX5_darkness : MethodName := ⟨RX5, "darkness", "()D"⟩
abbrev cX5_isDark : ByteArray := prog_7_method_50_code
def yX5_isDark : MethodName := ⟨RX5, "isDark", "(I)Z"⟩
abbrev cX5_lastsFor : ByteArray := prog_7_method_51_code
def yX5_lastsFor : MethodName := ⟨RX5, "lastsFor", "(IIIZI)I"⟩
abbrev cX5_lasts : ByteArray := prog_7_method_52_code
def yX5_lasts : MethodName := ⟨RX5, "lasts", "(IIZ)I"⟩
abbrev cX5_atHand : ByteArray := prog_7_method_53_code
def yX5_atHand : MethodName := ⟨RX5, "atHand", "(IIII)I"⟩
abbrev cX5_bestFor : ByteArray := prog_7_method_54_code
def yX5_bestFor : MethodName := ⟨RX5, "bestFor", "(II)I"⟩
abbrev cX5_darkest : ByteArray := prog_7_method_55_code
def yX5_darkest : MethodName := ⟨RX5, "darkest", "(III)I"⟩
abbrev cX5_undo : ByteArray := prog_7_method_56_code
def yX5_undo : MethodName := ⟨RX5, "undo", "()I"⟩
abbrev cX5_save : ByteArray := prog_7_method_57_code
def yX5_save : MethodName := ⟨RX5, "save", "()I"⟩
abbrev cX5_restore : ByteArray := prog_7_method_58_code
def yX5_restore : MethodName := ⟨RX5, "restore", "()I"⟩
def RJ10 : String := "java/lang/System"
def TJ10 : u_T := fun k => match k with
  | _ => ("", "", "", false)
def tyJ10 : Nat → FieldType := fun k => match k with
  | _ => .int
abbrev wsJ100 : List Cond := u_ws RJ10 TJ10 0
theorem nmJ10 : ∀ a, a < 0 → ∀ b, b < 0 → a ≠ b → (TJ10 a).2.1 ≠ (TJ10 b).2.1 := by decide +kernel
theorem tyJ10_ok : ∀ k, k < 0 → parseFieldDescriptor (TJ10 k).2.2.1 = some (tyJ10 k) := by decide +kernel
def RL : String := "DotTonerLaw"
abbrev cL_law : ByteArray := code
def yL_law : MethodName := ⟨RL, "law", "([I)Z"⟩
abbrev vwCl : List vw_C := [(RX0, TX0, 3), (RX1, TX1, 14), (RX2, TX2, 9), (RX3, TX3, 4), (RX4, TX4, 6), (RX5, TX5, 16)]
end
section
theorem dX0_init_0 : decode cX0_init 0 = .ok (.aload_n 0, 1) := by decide +kernel
theorem dX0_init_1 : decode cX0_init 1 = .ok (.invokespecial 1, 3) := by decide +kernel
theorem dX0_init_4 : decode cX0_init 4 = .ok (.aload_n 0, 1) := by decide +kernel
theorem dX0_init_5 : decode cX0_init 5 = .ok (.iconst 4, 1) := by decide +kernel
theorem dX0_init_6 : decode cX0_init 6 = .ok (.anewarray 7, 3) := by decide +kernel
theorem dX0_init_9 : decode cX0_init 9 = .ok (.dup, 1) := by decide +kernel
theorem dX0_init_10 : decode cX0_init 10 = .ok (.iconst 0, 1) := by decide +kernel
theorem dX0_init_11 : decode cX0_init 11 = .ok (.new 7, 3) := by decide +kernel
theorem dX0_init_14 : decode cX0_init 14 = .ok (.dup, 1) := by decide +kernel
theorem dX0_init_15 : decode cX0_init 15 = .ok (.invokespecial 9, 3) := by decide +kernel
theorem dX0_init_18 : decode cX0_init 18 = .ok (.aastore, 1) := by decide +kernel
theorem dX0_init_19 : decode cX0_init 19 = .ok (.dup, 1) := by decide +kernel
theorem dX0_init_20 : decode cX0_init 20 = .ok (.iconst 1, 1) := by decide +kernel
theorem dX0_init_21 : decode cX0_init 21 = .ok (.new 7, 3) := by decide +kernel
theorem dX0_init_24 : decode cX0_init 24 = .ok (.dup, 1) := by decide +kernel
theorem dX0_init_25 : decode cX0_init 25 = .ok (.invokespecial 9, 3) := by decide +kernel
theorem dX0_init_28 : decode cX0_init 28 = .ok (.aastore, 1) := by decide +kernel
theorem dX0_init_29 : decode cX0_init 29 = .ok (.dup, 1) := by decide +kernel
theorem dX0_init_30 : decode cX0_init 30 = .ok (.iconst 2, 1) := by decide +kernel
theorem dX0_init_31 : decode cX0_init 31 = .ok (.new 7, 3) := by decide +kernel
theorem dX0_init_34 : decode cX0_init 34 = .ok (.dup, 1) := by decide +kernel
theorem dX0_init_35 : decode cX0_init 35 = .ok (.invokespecial 9, 3) := by decide +kernel
theorem dX0_init_38 : decode cX0_init 38 = .ok (.aastore, 1) := by decide +kernel
theorem dX0_init_39 : decode cX0_init 39 = .ok (.dup, 1) := by decide +kernel
theorem dX0_init_40 : decode cX0_init 40 = .ok (.iconst 3, 1) := by decide +kernel
theorem dX0_init_41 : decode cX0_init 41 = .ok (.new 7, 3) := by decide +kernel
theorem dX0_init_44 : decode cX0_init 44 = .ok (.dup, 1) := by decide +kernel
theorem dX0_init_45 : decode cX0_init 45 = .ok (.invokespecial 9, 3) := by decide +kernel
theorem dX0_init_48 : decode cX0_init 48 = .ok (.aastore, 1) := by decide +kernel
theorem dX0_init_49 : decode cX0_init 49 = .ok (.putfield 10, 3) := by decide +kernel
theorem dX0_init_52 : decode cX0_init 52 = .ok (.aload_n 0, 1) := by decide +kernel
theorem dX0_init_53 : decode cX0_init 53 = .ok (.iconst 0, 1) := by decide +kernel
theorem dX0_init_54 : decode cX0_init 54 = .ok (.putfield 16, 3) := by decide +kernel
theorem dX0_init_57 : decode cX0_init 57 = .ok (.aload_n 0, 1) := by decide +kernel
theorem dX0_init_58 : decode cX0_init 58 = .ok (.iconst 0, 1) := by decide +kernel
theorem dX0_init_59 : decode cX0_init 59 = .ok (.putfield 20, 3) := by decide +kernel
theorem dX0_init_62 : decode cX0_init 62 = .ok (.return_, 1) := by decide +kernel
theorem dX0_keep_0 : decode cX0_keep 0 = .ok (.aload_n 0, 1) := by decide +kernel
theorem dX0_keep_1 : decode cX0_keep 1 = .ok (.getfield 10, 3) := by decide +kernel
theorem dX0_keep_4 : decode cX0_keep 4 = .ok (.aload_n 0, 1) := by decide +kernel
theorem dX0_keep_5 : decode cX0_keep 5 = .ok (.getfield 16, 3) := by decide +kernel
theorem dX0_keep_8 : decode cX0_keep 8 = .ok (.aload_n 0, 1) := by decide +kernel
theorem dX0_keep_9 : decode cX0_keep 9 = .ok (.getfield 20, 3) := by decide +kernel
theorem dX0_keep_12 : decode cX0_keep 12 = .ok (.iadd, 1) := by decide +kernel
theorem dX0_keep_13 : decode cX0_keep 13 = .ok (.iconst 4, 1) := by decide +kernel
theorem dX0_keep_14 : decode cX0_keep 14 = .ok (.irem, 1) := by decide +kernel
theorem dX0_keep_15 : decode cX0_keep 15 = .ok (.aaload, 1) := by decide +kernel
theorem dX0_keep_16 : decode cX0_keep 16 = .ok (.aload_n 1, 1) := by decide +kernel
theorem dX0_keep_17 : decode cX0_keep 17 = .ok (.invokevirtual 23, 3) := by decide +kernel
theorem dX0_keep_20 : decode cX0_keep 20 = .ok (.aload_n 0, 1) := by decide +kernel
theorem dX0_keep_21 : decode cX0_keep 21 = .ok (.getfield 20, 3) := by decide +kernel
theorem dX0_keep_24 : decode cX0_keep 24 = .ok (.iconst 4, 1) := by decide +kernel
theorem dX0_keep_25 : decode cX0_keep 25 = .ok (.if_icmp .ge 16, 3) := by decide +kernel
theorem dX0_keep_28 : decode cX0_keep 28 = .ok (.aload_n 0, 1) := by decide +kernel
theorem dX0_keep_29 : decode cX0_keep 29 = .ok (.dup, 1) := by decide +kernel
theorem dX0_keep_30 : decode cX0_keep 30 = .ok (.getfield 20, 3) := by decide +kernel
theorem dX0_keep_33 : decode cX0_keep 33 = .ok (.iconst 1, 1) := by decide +kernel
theorem dX0_keep_34 : decode cX0_keep 34 = .ok (.iadd, 1) := by decide +kernel
theorem dX0_keep_35 : decode cX0_keep 35 = .ok (.putfield 20, 3) := by decide +kernel
theorem dX0_keep_38 : decode cX0_keep 38 = .ok (.goto 15, 3) := by decide +kernel
theorem dX0_keep_41 : decode cX0_keep 41 = .ok (.aload_n 0, 1) := by decide +kernel
theorem dX0_keep_42 : decode cX0_keep 42 = .ok (.aload_n 0, 1) := by decide +kernel
theorem dX0_keep_43 : decode cX0_keep 43 = .ok (.getfield 16, 3) := by decide +kernel
theorem dX0_keep_46 : decode cX0_keep 46 = .ok (.iconst 1, 1) := by decide +kernel
theorem dX0_keep_47 : decode cX0_keep 47 = .ok (.iadd, 1) := by decide +kernel
theorem dX0_keep_48 : decode cX0_keep 48 = .ok (.iconst 4, 1) := by decide +kernel
theorem dX0_keep_49 : decode cX0_keep 49 = .ok (.irem, 1) := by decide +kernel
theorem dX0_keep_50 : decode cX0_keep 50 = .ok (.putfield 16, 3) := by decide +kernel
theorem dX0_keep_53 : decode cX0_keep 53 = .ok (.return_, 1) := by decide +kernel
theorem dX0_takeBack_0 : decode cX0_takeBack 0 = .ok (.aload_n 0, 1) := by decide +kernel
theorem dX0_takeBack_1 : decode cX0_takeBack 1 = .ok (.getfield 20, 3) := by decide +kernel
theorem dX0_takeBack_4 : decode cX0_takeBack 4 = .ok (.ifCond .le 33, 3) := by decide +kernel
theorem dX0_takeBack_7 : decode cX0_takeBack 7 = .ok (.aload_n 0, 1) := by decide +kernel
theorem dX0_takeBack_8 : decode cX0_takeBack 8 = .ok (.dup, 1) := by decide +kernel
theorem dX0_takeBack_9 : decode cX0_takeBack 9 = .ok (.getfield 20, 3) := by decide +kernel
theorem dX0_takeBack_12 : decode cX0_takeBack 12 = .ok (.iconst 1, 1) := by decide +kernel
theorem dX0_takeBack_13 : decode cX0_takeBack 13 = .ok (.isub, 1) := by decide +kernel
theorem dX0_takeBack_14 : decode cX0_takeBack 14 = .ok (.putfield 20, 3) := by decide +kernel
theorem dX0_takeBack_17 : decode cX0_takeBack 17 = .ok (.aload_n 1, 1) := by decide +kernel
theorem dX0_takeBack_18 : decode cX0_takeBack 18 = .ok (.aload_n 0, 1) := by decide +kernel
theorem dX0_takeBack_19 : decode cX0_takeBack 19 = .ok (.getfield 10, 3) := by decide +kernel
theorem dX0_takeBack_22 : decode cX0_takeBack 22 = .ok (.aload_n 0, 1) := by decide +kernel
theorem dX0_takeBack_23 : decode cX0_takeBack 23 = .ok (.getfield 16, 3) := by decide +kernel
theorem dX0_takeBack_26 : decode cX0_takeBack 26 = .ok (.aload_n 0, 1) := by decide +kernel
theorem dX0_takeBack_27 : decode cX0_takeBack 27 = .ok (.getfield 20, 3) := by decide +kernel
theorem dX0_takeBack_30 : decode cX0_takeBack 30 = .ok (.iadd, 1) := by decide +kernel
theorem dX0_takeBack_31 : decode cX0_takeBack 31 = .ok (.iconst 4, 1) := by decide +kernel
theorem dX0_takeBack_32 : decode cX0_takeBack 32 = .ok (.irem, 1) := by decide +kernel
theorem dX0_takeBack_33 : decode cX0_takeBack 33 = .ok (.aaload, 1) := by decide +kernel
theorem dX0_takeBack_34 : decode cX0_takeBack 34 = .ok (.invokevirtual 23, 3) := by decide +kernel
theorem dX0_takeBack_37 : decode cX0_takeBack 37 = .ok (.return_, 1) := by decide +kernel
theorem dX1_init_0 : decode cX1_init 0 = .ok (.aload_n 0, 1) := by decide +kernel
theorem dX1_init_1 : decode cX1_init 1 = .ok (.invokespecial 3, 3) := by decide +kernel
theorem dX1_init_4 : decode cX1_init 4 = .ok (.aload_n 0, 1) := by decide +kernel
theorem dX1_init_5 : decode cX1_init 5 = .ok (.iconst 4, 1) := by decide +kernel
theorem dX1_init_6 : decode cX1_init 6 = .ok (.newarray .int, 2) := by decide +kernel
theorem dX1_init_8 : decode cX1_init 8 = .ok (.dup, 1) := by decide +kernel
theorem dX1_init_9 : decode cX1_init 9 = .ok (.iconst 0, 1) := by decide +kernel
theorem dX1_init_10 : decode cX1_init 10 = .ok (.iconst 2, 1) := by decide +kernel
theorem dX1_init_11 : decode cX1_init 11 = .ok (.iastore, 1) := by decide +kernel
theorem dX1_init_12 : decode cX1_init 12 = .ok (.dup, 1) := by decide +kernel
theorem dX1_init_13 : decode cX1_init 13 = .ok (.iconst 1, 1) := by decide +kernel
theorem dX1_init_14 : decode cX1_init 14 = .ok (.bipush 10, 2) := by decide +kernel
theorem dX1_init_16 : decode cX1_init 16 = .ok (.iastore, 1) := by decide +kernel
theorem dX1_init_17 : decode cX1_init 17 = .ok (.dup, 1) := by decide +kernel
theorem dX1_init_18 : decode cX1_init 18 = .ok (.iconst 2, 1) := by decide +kernel
theorem dX1_init_19 : decode cX1_init 19 = .ok (.iconst 0, 1) := by decide +kernel
theorem dX1_init_20 : decode cX1_init 20 = .ok (.iastore, 1) := by decide +kernel
theorem dX1_init_21 : decode cX1_init 21 = .ok (.dup, 1) := by decide +kernel
theorem dX1_init_22 : decode cX1_init 22 = .ok (.iconst 3, 1) := by decide +kernel
theorem dX1_init_23 : decode cX1_init 23 = .ok (.bipush 50, 2) := by decide +kernel
theorem dX1_init_25 : decode cX1_init 25 = .ok (.iastore, 1) := by decide +kernel
theorem dX1_init_26 : decode cX1_init 26 = .ok (.putfield 9, 3) := by decide +kernel
theorem dX1_init_29 : decode cX1_init 29 = .ok (.aload_n 0, 1) := by decide +kernel
theorem dX1_init_30 : decode cX1_init 30 = .ok (.iconst 4, 1) := by decide +kernel
theorem dX1_init_31 : decode cX1_init 31 = .ok (.newarray .int, 2) := by decide +kernel
theorem dX1_init_33 : decode cX1_init 33 = .ok (.dup, 1) := by decide +kernel
theorem dX1_init_34 : decode cX1_init 34 = .ok (.iconst 0, 1) := by decide +kernel
theorem dX1_init_35 : decode cX1_init 35 = .ok (.iconst 0, 1) := by decide +kernel
theorem dX1_init_36 : decode cX1_init 36 = .ok (.iastore, 1) := by decide +kernel
theorem dX1_init_37 : decode cX1_init 37 = .ok (.dup, 1) := by decide +kernel
theorem dX1_init_38 : decode cX1_init 38 = .ok (.iconst 1, 1) := by decide +kernel
theorem dX1_init_39 : decode cX1_init 39 = .ok (.iconst 1, 1) := by decide +kernel
theorem dX1_init_40 : decode cX1_init 40 = .ok (.iastore, 1) := by decide +kernel
theorem dX1_init_41 : decode cX1_init 41 = .ok (.dup, 1) := by decide +kernel
theorem dX1_init_42 : decode cX1_init 42 = .ok (.iconst 2, 1) := by decide +kernel
theorem dX1_init_43 : decode cX1_init 43 = .ok (.iconst 2, 1) := by decide +kernel
theorem dX1_init_44 : decode cX1_init 44 = .ok (.iastore, 1) := by decide +kernel
theorem dX1_init_45 : decode cX1_init 45 = .ok (.dup, 1) := by decide +kernel
theorem dX1_init_46 : decode cX1_init 46 = .ok (.iconst 3, 1) := by decide +kernel
theorem dX1_init_47 : decode cX1_init 47 = .ok (.iconst 0, 1) := by decide +kernel
theorem dX1_init_48 : decode cX1_init 48 = .ok (.iastore, 1) := by decide +kernel
theorem dX1_init_49 : decode cX1_init 49 = .ok (.putfield 15, 3) := by decide +kernel
theorem dX1_init_52 : decode cX1_init 52 = .ok (.aload_n 0, 1) := by decide +kernel
theorem dX1_init_53 : decode cX1_init 53 = .ok (.iconst 4, 1) := by decide +kernel
theorem dX1_init_54 : decode cX1_init 54 = .ok (.newarray .int, 2) := by decide +kernel
theorem dX1_init_56 : decode cX1_init 56 = .ok (.dup, 1) := by decide +kernel
theorem dX1_init_57 : decode cX1_init 57 = .ok (.iconst 0, 1) := by decide +kernel
theorem dX1_init_58 : decode cX1_init 58 = .ok (.sipush 2000, 3) := by decide +kernel
theorem dX1_init_61 : decode cX1_init 61 = .ok (.iastore, 1) := by decide +kernel
theorem dX1_init_62 : decode cX1_init 62 = .ok (.dup, 1) := by decide +kernel
theorem dX1_init_63 : decode cX1_init 63 = .ok (.iconst 1, 1) := by decide +kernel
theorem dX1_init_64 : decode cX1_init 64 = .ok (.sipush 2000, 3) := by decide +kernel
theorem dX1_init_67 : decode cX1_init 67 = .ok (.iastore, 1) := by decide +kernel
theorem dX1_init_68 : decode cX1_init 68 = .ok (.dup, 1) := by decide +kernel
theorem dX1_init_69 : decode cX1_init 69 = .ok (.iconst 2, 1) := by decide +kernel
theorem dX1_init_70 : decode cX1_init 70 = .ok (.sipush 2000, 3) := by decide +kernel
theorem dX1_init_73 : decode cX1_init 73 = .ok (.iastore, 1) := by decide +kernel
theorem dX1_init_74 : decode cX1_init 74 = .ok (.dup, 1) := by decide +kernel
theorem dX1_init_75 : decode cX1_init 75 = .ok (.iconst 3, 1) := by decide +kernel
theorem dX1_init_76 : decode cX1_init 76 = .ok (.sipush 2000, 3) := by decide +kernel
theorem dX1_init_79 : decode cX1_init 79 = .ok (.iastore, 1) := by decide +kernel
theorem dX1_init_80 : decode cX1_init 80 = .ok (.putfield 18, 3) := by decide +kernel
theorem dX1_init_83 : decode cX1_init 83 = .ok (.aload_n 0, 1) := by decide +kernel
theorem dX1_init_84 : decode cX1_init 84 = .ok (.iconst 4, 1) := by decide +kernel
theorem dX1_init_85 : decode cX1_init 85 = .ok (.newarray .int, 2) := by decide +kernel
theorem dX1_init_87 : decode cX1_init 87 = .ok (.dup, 1) := by decide +kernel
theorem dX1_init_88 : decode cX1_init 88 = .ok (.iconst 0, 1) := by decide +kernel
theorem dX1_init_89 : decode cX1_init 89 = .ok (.sipush 2000, 3) := by decide +kernel
theorem dX1_init_92 : decode cX1_init 92 = .ok (.iastore, 1) := by decide +kernel
theorem dX1_init_93 : decode cX1_init 93 = .ok (.dup, 1) := by decide +kernel
theorem dX1_init_94 : decode cX1_init 94 = .ok (.iconst 1, 1) := by decide +kernel
theorem dX1_init_95 : decode cX1_init 95 = .ok (.sipush 2000, 3) := by decide +kernel
theorem dX1_init_98 : decode cX1_init 98 = .ok (.iastore, 1) := by decide +kernel
theorem dX1_init_99 : decode cX1_init 99 = .ok (.dup, 1) := by decide +kernel
theorem dX1_init_100 : decode cX1_init 100 = .ok (.iconst 2, 1) := by decide +kernel
theorem dX1_init_101 : decode cX1_init 101 = .ok (.sipush 2000, 3) := by decide +kernel
theorem dX1_init_104 : decode cX1_init 104 = .ok (.iastore, 1) := by decide +kernel
theorem dX1_init_105 : decode cX1_init 105 = .ok (.dup, 1) := by decide +kernel
theorem dX1_init_106 : decode cX1_init 106 = .ok (.iconst 3, 1) := by decide +kernel
theorem dX1_init_107 : decode cX1_init 107 = .ok (.sipush 2000, 3) := by decide +kernel
theorem dX1_init_110 : decode cX1_init 110 = .ok (.iastore, 1) := by decide +kernel
theorem dX1_init_111 : decode cX1_init 111 = .ok (.putfield 21, 3) := by decide +kernel
theorem dX1_init_114 : decode cX1_init 114 = .ok (.aload_n 0, 1) := by decide +kernel
theorem dX1_init_115 : decode cX1_init 115 = .ok (.iconst 4, 1) := by decide +kernel
theorem dX1_init_116 : decode cX1_init 116 = .ok (.newarray .int, 2) := by decide +kernel
theorem dX1_init_118 : decode cX1_init 118 = .ok (.dup, 1) := by decide +kernel
theorem dX1_init_119 : decode cX1_init 119 = .ok (.iconst 0, 1) := by decide +kernel
theorem dX1_init_120 : decode cX1_init 120 = .ok (.sipush 4000, 3) := by decide +kernel
theorem dX1_init_123 : decode cX1_init 123 = .ok (.iastore, 1) := by decide +kernel
theorem dX1_init_124 : decode cX1_init 124 = .ok (.dup, 1) := by decide +kernel
theorem dX1_init_125 : decode cX1_init 125 = .ok (.iconst 1, 1) := by decide +kernel
theorem dX1_init_126 : decode cX1_init 126 = .ok (.sipush 4000, 3) := by decide +kernel
theorem dX1_init_129 : decode cX1_init 129 = .ok (.iastore, 1) := by decide +kernel
theorem dX1_init_130 : decode cX1_init 130 = .ok (.dup, 1) := by decide +kernel
theorem dX1_init_131 : decode cX1_init 131 = .ok (.iconst 2, 1) := by decide +kernel
theorem dX1_init_132 : decode cX1_init 132 = .ok (.sipush 4000, 3) := by decide +kernel
theorem dX1_init_135 : decode cX1_init 135 = .ok (.iastore, 1) := by decide +kernel
theorem dX1_init_136 : decode cX1_init 136 = .ok (.dup, 1) := by decide +kernel
theorem dX1_init_137 : decode cX1_init 137 = .ok (.iconst 3, 1) := by decide +kernel
theorem dX1_init_138 : decode cX1_init 138 = .ok (.sipush 4000, 3) := by decide +kernel
theorem dX1_init_141 : decode cX1_init 141 = .ok (.iastore, 1) := by decide +kernel
theorem dX1_init_142 : decode cX1_init 142 = .ok (.putfield 24, 3) := by decide +kernel
theorem dX1_init_145 : decode cX1_init 145 = .ok (.aload_n 0, 1) := by decide +kernel
theorem dX1_init_146 : decode cX1_init 146 = .ok (.iconst 2, 1) := by decide +kernel
theorem dX1_init_147 : decode cX1_init 147 = .ok (.newarray .int, 2) := by decide +kernel
theorem dX1_init_149 : decode cX1_init 149 = .ok (.dup, 1) := by decide +kernel
theorem dX1_init_150 : decode cX1_init 150 = .ok (.iconst 0, 1) := by decide +kernel
theorem dX1_init_151 : decode cX1_init 151 = .ok (.iconst 0, 1) := by decide +kernel
theorem dX1_init_152 : decode cX1_init 152 = .ok (.iastore, 1) := by decide +kernel
theorem dX1_init_153 : decode cX1_init 153 = .ok (.dup, 1) := by decide +kernel
theorem dX1_init_154 : decode cX1_init 154 = .ok (.iconst 1, 1) := by decide +kernel
theorem dX1_init_155 : decode cX1_init 155 = .ok (.iconst 1, 1) := by decide +kernel
theorem dX1_init_156 : decode cX1_init 156 = .ok (.iastore, 1) := by decide +kernel
theorem dX1_init_157 : decode cX1_init 157 = .ok (.putfield 27, 3) := by decide +kernel
theorem dX1_init_160 : decode cX1_init 160 = .ok (.aload_n 0, 1) := by decide +kernel
theorem dX1_init_161 : decode cX1_init 161 = .ok (.iconst 2, 1) := by decide +kernel
theorem dX1_init_162 : decode cX1_init 162 = .ok (.newarray .int, 2) := by decide +kernel
theorem dX1_init_164 : decode cX1_init 164 = .ok (.dup, 1) := by decide +kernel
theorem dX1_init_165 : decode cX1_init 165 = .ok (.iconst 0, 1) := by decide +kernel
theorem dX1_init_166 : decode cX1_init 166 = .ok (.iconst 0, 1) := by decide +kernel
theorem dX1_init_167 : decode cX1_init 167 = .ok (.iastore, 1) := by decide +kernel
theorem dX1_init_168 : decode cX1_init 168 = .ok (.dup, 1) := by decide +kernel
theorem dX1_init_169 : decode cX1_init 169 = .ok (.iconst 1, 1) := by decide +kernel
theorem dX1_init_170 : decode cX1_init 170 = .ok (.iconst 0, 1) := by decide +kernel
theorem dX1_init_171 : decode cX1_init 171 = .ok (.iastore, 1) := by decide +kernel
theorem dX1_init_172 : decode cX1_init 172 = .ok (.putfield 30, 3) := by decide +kernel
theorem dX1_init_175 : decode cX1_init 175 = .ok (.aload_n 0, 1) := by decide +kernel
theorem dX1_init_176 : decode cX1_init 176 = .ok (.iconst 2, 1) := by decide +kernel
theorem dX1_init_177 : decode cX1_init 177 = .ok (.newarray .int, 2) := by decide +kernel
theorem dX1_init_179 : decode cX1_init 179 = .ok (.dup, 1) := by decide +kernel
theorem dX1_init_180 : decode cX1_init 180 = .ok (.iconst 0, 1) := by decide +kernel
theorem dX1_init_181 : decode cX1_init 181 = .ok (.iconst 0, 1) := by decide +kernel
theorem dX1_init_182 : decode cX1_init 182 = .ok (.iastore, 1) := by decide +kernel
theorem dX1_init_183 : decode cX1_init 183 = .ok (.dup, 1) := by decide +kernel
theorem dX1_init_184 : decode cX1_init 184 = .ok (.iconst 1, 1) := by decide +kernel
theorem dX1_init_185 : decode cX1_init 185 = .ok (.iconst 0, 1) := by decide +kernel
theorem dX1_init_186 : decode cX1_init 186 = .ok (.iastore, 1) := by decide +kernel
theorem dX1_init_187 : decode cX1_init 187 = .ok (.putfield 33, 3) := by decide +kernel
theorem dX1_init_190 : decode cX1_init 190 = .ok (.aload_n 0, 1) := by decide +kernel
theorem dX1_init_191 : decode cX1_init 191 = .ok (.iconst 2, 1) := by decide +kernel
theorem dX1_init_192 : decode cX1_init 192 = .ok (.newarray .int, 2) := by decide +kernel
theorem dX1_init_194 : decode cX1_init 194 = .ok (.dup, 1) := by decide +kernel
theorem dX1_init_195 : decode cX1_init 195 = .ok (.iconst 0, 1) := by decide +kernel
theorem dX1_init_196 : decode cX1_init 196 = .ok (.iconst 0, 1) := by decide +kernel
theorem dX1_init_197 : decode cX1_init 197 = .ok (.iastore, 1) := by decide +kernel
theorem dX1_init_198 : decode cX1_init 198 = .ok (.dup, 1) := by decide +kernel
theorem dX1_init_199 : decode cX1_init 199 = .ok (.iconst 1, 1) := by decide +kernel
theorem dX1_init_200 : decode cX1_init 200 = .ok (.iconst 0, 1) := by decide +kernel
theorem dX1_init_201 : decode cX1_init 201 = .ok (.iastore, 1) := by decide +kernel
theorem dX1_init_202 : decode cX1_init 202 = .ok (.putfield 36, 3) := by decide +kernel
theorem dX1_init_205 : decode cX1_init 205 = .ok (.aload_n 0, 1) := by decide +kernel
theorem dX1_init_206 : decode cX1_init 206 = .ok (.iconst 2, 1) := by decide +kernel
theorem dX1_init_207 : decode cX1_init 207 = .ok (.newarray .int, 2) := by decide +kernel
theorem dX1_init_209 : decode cX1_init 209 = .ok (.dup, 1) := by decide +kernel
theorem dX1_init_210 : decode cX1_init 210 = .ok (.iconst 0, 1) := by decide +kernel
theorem dX1_init_211 : decode cX1_init 211 = .ok (.iconst 0, 1) := by decide +kernel
theorem dX1_init_212 : decode cX1_init 212 = .ok (.iastore, 1) := by decide +kernel
theorem dX1_init_213 : decode cX1_init 213 = .ok (.dup, 1) := by decide +kernel
theorem dX1_init_214 : decode cX1_init 214 = .ok (.iconst 1, 1) := by decide +kernel
theorem dX1_init_215 : decode cX1_init 215 = .ok (.iconst 0, 1) := by decide +kernel
theorem dX1_init_216 : decode cX1_init 216 = .ok (.iastore, 1) := by decide +kernel
theorem dX1_init_217 : decode cX1_init 217 = .ok (.putfield 39, 3) := by decide +kernel
theorem dX1_init_220 : decode cX1_init 220 = .ok (.aload_n 0, 1) := by decide +kernel
theorem dX1_init_221 : decode cX1_init 221 = .ok (.iconst 2, 1) := by decide +kernel
theorem dX1_init_222 : decode cX1_init 222 = .ok (.newarray .int, 2) := by decide +kernel
theorem dX1_init_224 : decode cX1_init 224 = .ok (.dup, 1) := by decide +kernel
theorem dX1_init_225 : decode cX1_init 225 = .ok (.iconst 0, 1) := by decide +kernel
theorem dX1_init_226 : decode cX1_init 226 = .ok (.bipush (-4), 2) := by decide +kernel
theorem dX1_init_228 : decode cX1_init 228 = .ok (.iastore, 1) := by decide +kernel
theorem dX1_init_229 : decode cX1_init 229 = .ok (.dup, 1) := by decide +kernel
theorem dX1_init_230 : decode cX1_init 230 = .ok (.iconst 1, 1) := by decide +kernel
theorem dX1_init_231 : decode cX1_init 231 = .ok (.bipush (-4), 2) := by decide +kernel
theorem dX1_init_233 : decode cX1_init 233 = .ok (.iastore, 1) := by decide +kernel
theorem dX1_init_234 : decode cX1_init 234 = .ok (.putfield 42, 3) := by decide +kernel
theorem dX1_init_237 : decode cX1_init 237 = .ok (.aload_n 0, 1) := by decide +kernel
theorem dX1_init_238 : decode cX1_init 238 = .ok (.iconst 0, 1) := by decide +kernel
theorem dX1_init_239 : decode cX1_init 239 = .ok (.putfield 45, 3) := by decide +kernel
theorem dX1_init_242 : decode cX1_init 242 = .ok (.aload_n 0, 1) := by decide +kernel
theorem dX1_init_243 : decode cX1_init 243 = .ok (.iconst 0, 1) := by decide +kernel
theorem dX1_init_244 : decode cX1_init 244 = .ok (.putfield 49, 3) := by decide +kernel
theorem dX1_init_247 : decode cX1_init 247 = .ok (.aload_n 0, 1) := by decide +kernel
theorem dX1_init_248 : decode cX1_init 248 = .ok (.iconst 0, 1) := by decide +kernel
theorem dX1_init_249 : decode cX1_init 249 = .ok (.putfield 52, 3) := by decide +kernel
theorem dX1_init_252 : decode cX1_init 252 = .ok (.return_, 1) := by decide +kernel
theorem dX1_becomeLike_0 : decode cX1_becomeLike 0 = .ok (.aload_n 1, 1) := by decide +kernel
theorem dX1_becomeLike_1 : decode cX1_becomeLike 1 = .ok (.getfield 9, 3) := by decide +kernel
theorem dX1_becomeLike_4 : decode cX1_becomeLike 4 = .ok (.iconst 0, 1) := by decide +kernel
theorem dX1_becomeLike_5 : decode cX1_becomeLike 5 = .ok (.aload_n 0, 1) := by decide +kernel
theorem dX1_becomeLike_6 : decode cX1_becomeLike 6 = .ok (.getfield 9, 3) := by decide +kernel
theorem dX1_becomeLike_9 : decode cX1_becomeLike 9 = .ok (.iconst 0, 1) := by decide +kernel
theorem dX1_becomeLike_10 : decode cX1_becomeLike 10 = .ok (.iconst 4, 1) := by decide +kernel
theorem dX1_becomeLike_11 : decode cX1_becomeLike 11 = .ok (.invokestatic 55, 3) := by decide +kernel
theorem dX1_becomeLike_14 : decode cX1_becomeLike 14 = .ok (.aload_n 1, 1) := by decide +kernel
theorem dX1_becomeLike_15 : decode cX1_becomeLike 15 = .ok (.getfield 15, 3) := by decide +kernel
theorem dX1_becomeLike_18 : decode cX1_becomeLike 18 = .ok (.iconst 0, 1) := by decide +kernel
theorem dX1_becomeLike_19 : decode cX1_becomeLike 19 = .ok (.aload_n 0, 1) := by decide +kernel
theorem dX1_becomeLike_20 : decode cX1_becomeLike 20 = .ok (.getfield 15, 3) := by decide +kernel
theorem dX1_becomeLike_23 : decode cX1_becomeLike 23 = .ok (.iconst 0, 1) := by decide +kernel
theorem dX1_becomeLike_24 : decode cX1_becomeLike 24 = .ok (.iconst 4, 1) := by decide +kernel
theorem dX1_becomeLike_25 : decode cX1_becomeLike 25 = .ok (.invokestatic 55, 3) := by decide +kernel
theorem dX1_becomeLike_28 : decode cX1_becomeLike 28 = .ok (.aload_n 1, 1) := by decide +kernel
theorem dX1_becomeLike_29 : decode cX1_becomeLike 29 = .ok (.getfield 18, 3) := by decide +kernel
theorem dX1_becomeLike_32 : decode cX1_becomeLike 32 = .ok (.iconst 0, 1) := by decide +kernel
theorem dX1_becomeLike_33 : decode cX1_becomeLike 33 = .ok (.aload_n 0, 1) := by decide +kernel
theorem dX1_becomeLike_34 : decode cX1_becomeLike 34 = .ok (.getfield 18, 3) := by decide +kernel
theorem dX1_becomeLike_37 : decode cX1_becomeLike 37 = .ok (.iconst 0, 1) := by decide +kernel
theorem dX1_becomeLike_38 : decode cX1_becomeLike 38 = .ok (.iconst 4, 1) := by decide +kernel
theorem dX1_becomeLike_39 : decode cX1_becomeLike 39 = .ok (.invokestatic 55, 3) := by decide +kernel
theorem dX1_becomeLike_42 : decode cX1_becomeLike 42 = .ok (.aload_n 1, 1) := by decide +kernel
theorem dX1_becomeLike_43 : decode cX1_becomeLike 43 = .ok (.getfield 21, 3) := by decide +kernel
theorem dX1_becomeLike_46 : decode cX1_becomeLike 46 = .ok (.iconst 0, 1) := by decide +kernel
theorem dX1_becomeLike_47 : decode cX1_becomeLike 47 = .ok (.aload_n 0, 1) := by decide +kernel
theorem dX1_becomeLike_48 : decode cX1_becomeLike 48 = .ok (.getfield 21, 3) := by decide +kernel
theorem dX1_becomeLike_51 : decode cX1_becomeLike 51 = .ok (.iconst 0, 1) := by decide +kernel
theorem dX1_becomeLike_52 : decode cX1_becomeLike 52 = .ok (.iconst 4, 1) := by decide +kernel
theorem dX1_becomeLike_53 : decode cX1_becomeLike 53 = .ok (.invokestatic 55, 3) := by decide +kernel
theorem dX1_becomeLike_56 : decode cX1_becomeLike 56 = .ok (.aload_n 1, 1) := by decide +kernel
theorem dX1_becomeLike_57 : decode cX1_becomeLike 57 = .ok (.getfield 24, 3) := by decide +kernel
theorem dX1_becomeLike_60 : decode cX1_becomeLike 60 = .ok (.iconst 0, 1) := by decide +kernel
theorem dX1_becomeLike_61 : decode cX1_becomeLike 61 = .ok (.aload_n 0, 1) := by decide +kernel
theorem dX1_becomeLike_62 : decode cX1_becomeLike 62 = .ok (.getfield 24, 3) := by decide +kernel
theorem dX1_becomeLike_65 : decode cX1_becomeLike 65 = .ok (.iconst 0, 1) := by decide +kernel
theorem dX1_becomeLike_66 : decode cX1_becomeLike 66 = .ok (.iconst 4, 1) := by decide +kernel
theorem dX1_becomeLike_67 : decode cX1_becomeLike 67 = .ok (.invokestatic 55, 3) := by decide +kernel
theorem dX1_becomeLike_70 : decode cX1_becomeLike 70 = .ok (.aload_n 1, 1) := by decide +kernel
theorem dX1_becomeLike_71 : decode cX1_becomeLike 71 = .ok (.getfield 27, 3) := by decide +kernel
theorem dX1_becomeLike_74 : decode cX1_becomeLike 74 = .ok (.iconst 0, 1) := by decide +kernel
theorem dX1_becomeLike_75 : decode cX1_becomeLike 75 = .ok (.aload_n 0, 1) := by decide +kernel
theorem dX1_becomeLike_76 : decode cX1_becomeLike 76 = .ok (.getfield 27, 3) := by decide +kernel
theorem dX1_becomeLike_79 : decode cX1_becomeLike 79 = .ok (.iconst 0, 1) := by decide +kernel
theorem dX1_becomeLike_80 : decode cX1_becomeLike 80 = .ok (.iconst 2, 1) := by decide +kernel
theorem dX1_becomeLike_81 : decode cX1_becomeLike 81 = .ok (.invokestatic 55, 3) := by decide +kernel
theorem dX1_becomeLike_84 : decode cX1_becomeLike 84 = .ok (.aload_n 1, 1) := by decide +kernel
theorem dX1_becomeLike_85 : decode cX1_becomeLike 85 = .ok (.getfield 30, 3) := by decide +kernel
theorem dX1_becomeLike_88 : decode cX1_becomeLike 88 = .ok (.iconst 0, 1) := by decide +kernel
theorem dX1_becomeLike_89 : decode cX1_becomeLike 89 = .ok (.aload_n 0, 1) := by decide +kernel
theorem dX1_becomeLike_90 : decode cX1_becomeLike 90 = .ok (.getfield 30, 3) := by decide +kernel
theorem dX1_becomeLike_93 : decode cX1_becomeLike 93 = .ok (.iconst 0, 1) := by decide +kernel
theorem dX1_becomeLike_94 : decode cX1_becomeLike 94 = .ok (.iconst 2, 1) := by decide +kernel
theorem dX1_becomeLike_95 : decode cX1_becomeLike 95 = .ok (.invokestatic 55, 3) := by decide +kernel
theorem dX1_becomeLike_98 : decode cX1_becomeLike 98 = .ok (.aload_n 1, 1) := by decide +kernel
theorem dX1_becomeLike_99 : decode cX1_becomeLike 99 = .ok (.getfield 33, 3) := by decide +kernel
theorem dX1_becomeLike_102 : decode cX1_becomeLike 102 = .ok (.iconst 0, 1) := by decide +kernel
theorem dX1_becomeLike_103 : decode cX1_becomeLike 103 = .ok (.aload_n 0, 1) := by decide +kernel
theorem dX1_becomeLike_104 : decode cX1_becomeLike 104 = .ok (.getfield 33, 3) := by decide +kernel
theorem dX1_becomeLike_107 : decode cX1_becomeLike 107 = .ok (.iconst 0, 1) := by decide +kernel
theorem dX1_becomeLike_108 : decode cX1_becomeLike 108 = .ok (.iconst 2, 1) := by decide +kernel
theorem dX1_becomeLike_109 : decode cX1_becomeLike 109 = .ok (.invokestatic 55, 3) := by decide +kernel
theorem dX1_becomeLike_112 : decode cX1_becomeLike 112 = .ok (.aload_n 1, 1) := by decide +kernel
theorem dX1_becomeLike_113 : decode cX1_becomeLike 113 = .ok (.getfield 36, 3) := by decide +kernel
theorem dX1_becomeLike_116 : decode cX1_becomeLike 116 = .ok (.iconst 0, 1) := by decide +kernel
theorem dX1_becomeLike_117 : decode cX1_becomeLike 117 = .ok (.aload_n 0, 1) := by decide +kernel
theorem dX1_becomeLike_118 : decode cX1_becomeLike 118 = .ok (.getfield 36, 3) := by decide +kernel
theorem dX1_becomeLike_121 : decode cX1_becomeLike 121 = .ok (.iconst 0, 1) := by decide +kernel
theorem dX1_becomeLike_122 : decode cX1_becomeLike 122 = .ok (.iconst 2, 1) := by decide +kernel
theorem dX1_becomeLike_123 : decode cX1_becomeLike 123 = .ok (.invokestatic 55, 3) := by decide +kernel
theorem dX1_becomeLike_126 : decode cX1_becomeLike 126 = .ok (.aload_n 1, 1) := by decide +kernel
theorem dX1_becomeLike_127 : decode cX1_becomeLike 127 = .ok (.getfield 39, 3) := by decide +kernel
theorem dX1_becomeLike_130 : decode cX1_becomeLike 130 = .ok (.iconst 0, 1) := by decide +kernel
theorem dX1_becomeLike_131 : decode cX1_becomeLike 131 = .ok (.aload_n 0, 1) := by decide +kernel
theorem dX1_becomeLike_132 : decode cX1_becomeLike 132 = .ok (.getfield 39, 3) := by decide +kernel
theorem dX1_becomeLike_135 : decode cX1_becomeLike 135 = .ok (.iconst 0, 1) := by decide +kernel
theorem dX1_becomeLike_136 : decode cX1_becomeLike 136 = .ok (.iconst 2, 1) := by decide +kernel
theorem dX1_becomeLike_137 : decode cX1_becomeLike 137 = .ok (.invokestatic 55, 3) := by decide +kernel
theorem dX1_becomeLike_140 : decode cX1_becomeLike 140 = .ok (.aload_n 1, 1) := by decide +kernel
theorem dX1_becomeLike_141 : decode cX1_becomeLike 141 = .ok (.getfield 42, 3) := by decide +kernel
theorem dX1_becomeLike_144 : decode cX1_becomeLike 144 = .ok (.iconst 0, 1) := by decide +kernel
theorem dX1_becomeLike_145 : decode cX1_becomeLike 145 = .ok (.aload_n 0, 1) := by decide +kernel
theorem dX1_becomeLike_146 : decode cX1_becomeLike 146 = .ok (.getfield 42, 3) := by decide +kernel
theorem dX1_becomeLike_149 : decode cX1_becomeLike 149 = .ok (.iconst 0, 1) := by decide +kernel
theorem dX1_becomeLike_150 : decode cX1_becomeLike 150 = .ok (.iconst 2, 1) := by decide +kernel
theorem dX1_becomeLike_151 : decode cX1_becomeLike 151 = .ok (.invokestatic 55, 3) := by decide +kernel
theorem dX1_becomeLike_154 : decode cX1_becomeLike 154 = .ok (.aload_n 0, 1) := by decide +kernel
theorem dX1_becomeLike_155 : decode cX1_becomeLike 155 = .ok (.aload_n 1, 1) := by decide +kernel
theorem dX1_becomeLike_156 : decode cX1_becomeLike 156 = .ok (.getfield 45, 3) := by decide +kernel
theorem dX1_becomeLike_159 : decode cX1_becomeLike 159 = .ok (.putfield 45, 3) := by decide +kernel
theorem dX1_becomeLike_162 : decode cX1_becomeLike 162 = .ok (.aload_n 0, 1) := by decide +kernel
theorem dX1_becomeLike_163 : decode cX1_becomeLike 163 = .ok (.aload_n 1, 1) := by decide +kernel
theorem dX1_becomeLike_164 : decode cX1_becomeLike 164 = .ok (.getfield 49, 3) := by decide +kernel
theorem dX1_becomeLike_167 : decode cX1_becomeLike 167 = .ok (.putfield 49, 3) := by decide +kernel
theorem dX1_becomeLike_170 : decode cX1_becomeLike 170 = .ok (.aload_n 0, 1) := by decide +kernel
theorem dX1_becomeLike_171 : decode cX1_becomeLike 171 = .ok (.aload_n 1, 1) := by decide +kernel
theorem dX1_becomeLike_172 : decode cX1_becomeLike 172 = .ok (.getfield 52, 3) := by decide +kernel
theorem dX1_becomeLike_175 : decode cX1_becomeLike 175 = .ok (.putfield 52, 3) := by decide +kernel
theorem dX1_becomeLike_178 : decode cX1_becomeLike 178 = .ok (.return_, 1) := by decide +kernel
theorem dX1_tonerFor_0 : decode cX1_tonerFor 0 = .ok (.iload_n 2, 1) := by decide +kernel
theorem dX1_tonerFor_1 : decode cX1_tonerFor 1 = .ok (.iload_n 3, 1) := by decide +kernel
theorem dX1_tonerFor_2 : decode cX1_tonerFor 2 = .ok (.imul, 1) := by decide +kernel
theorem dX1_tonerFor_3 : decode cX1_tonerFor 3 = .ok (.istore 4, 2) := by decide +kernel
theorem dX1_tonerFor_5 : decode cX1_tonerFor 5 = .ok (.aload_n 0, 1) := by decide +kernel
theorem dX1_tonerFor_6 : decode cX1_tonerFor 6 = .ok (.getfield 15, 3) := by decide +kernel
theorem dX1_tonerFor_9 : decode cX1_tonerFor 9 = .ok (.iload_n 1, 1) := by decide +kernel
theorem dX1_tonerFor_10 : decode cX1_tonerFor 10 = .ok (.iaload, 1) := by decide +kernel
theorem dX1_tonerFor_11 : decode cX1_tonerFor 11 = .ok (.lookupswitch 41 #[(1, 25), (2, 32)], 25) := by decide +kernel
theorem dX1_tonerFor_36 : decode cX1_tonerFor 36 = .ok (.iload 4, 2) := by decide +kernel
theorem dX1_tonerFor_38 : decode cX1_tonerFor 38 = .ok (.iconst 3, 1) := by decide +kernel
theorem dX1_tonerFor_39 : decode cX1_tonerFor 39 = .ok (.imul, 1) := by decide +kernel
theorem dX1_tonerFor_40 : decode cX1_tonerFor 40 = .ok (.iconst 4, 1) := by decide +kernel
theorem dX1_tonerFor_41 : decode cX1_tonerFor 41 = .ok (.idiv, 1) := by decide +kernel
theorem dX1_tonerFor_42 : decode cX1_tonerFor 42 = .ok (.ireturn, 1) := by decide +kernel
theorem dX1_tonerFor_43 : decode cX1_tonerFor 43 = .ok (.iload 4, 2) := by decide +kernel
theorem dX1_tonerFor_45 : decode cX1_tonerFor 45 = .ok (.bipush 9, 2) := by decide +kernel
theorem dX1_tonerFor_47 : decode cX1_tonerFor 47 = .ok (.imul, 1) := by decide +kernel
theorem dX1_tonerFor_48 : decode cX1_tonerFor 48 = .ok (.bipush 8, 2) := by decide +kernel
theorem dX1_tonerFor_50 : decode cX1_tonerFor 50 = .ok (.idiv, 1) := by decide +kernel
theorem dX1_tonerFor_51 : decode cX1_tonerFor 51 = .ok (.ireturn, 1) := by decide +kernel
theorem dX1_tonerFor_52 : decode cX1_tonerFor 52 = .ok (.iload 4, 2) := by decide +kernel
theorem dX1_tonerFor_54 : decode cX1_tonerFor 54 = .ok (.ireturn, 1) := by decide +kernel
theorem dX1_chipFor_0 : decode cX1_chipFor 0 = .ok (.aload_n 0, 1) := by decide +kernel
theorem dX1_chipFor_1 : decode cX1_chipFor 1 = .ok (.getfield 15, 3) := by decide +kernel
theorem dX1_chipFor_4 : decode cX1_chipFor 4 = .ok (.iload_n 1, 1) := by decide +kernel
theorem dX1_chipFor_5 : decode cX1_chipFor 5 = .ok (.iaload, 1) := by decide +kernel
theorem dX1_chipFor_6 : decode cX1_chipFor 6 = .ok (.iconst 2, 1) := by decide +kernel
theorem dX1_chipFor_7 : decode cX1_chipFor 7 = .ok (.if_icmp .ne 9, 3) := by decide +kernel
theorem dX1_chipFor_10 : decode cX1_chipFor 10 = .ok (.iload_n 2, 1) := by decide +kernel
theorem dX1_chipFor_11 : decode cX1_chipFor 11 = .ok (.iload_n 3, 1) := by decide +kernel
theorem dX1_chipFor_12 : decode cX1_chipFor 12 = .ok (.imul, 1) := by decide +kernel
theorem dX1_chipFor_13 : decode cX1_chipFor 13 = .ok (.goto 10, 3) := by decide +kernel
theorem dX1_chipFor_16 : decode cX1_chipFor 16 = .ok (.aload_n 0, 1) := by decide +kernel
theorem dX1_chipFor_17 : decode cX1_chipFor 17 = .ok (.iload_n 1, 1) := by decide +kernel
theorem dX1_chipFor_18 : decode cX1_chipFor 18 = .ok (.iload_n 2, 1) := by decide +kernel
theorem dX1_chipFor_19 : decode cX1_chipFor 19 = .ok (.iload_n 3, 1) := by decide +kernel
theorem dX1_chipFor_20 : decode cX1_chipFor 20 = .ok (.invokevirtual 61, 3) := by decide +kernel
theorem dX1_chipFor_23 : decode cX1_chipFor 23 = .ok (.ireturn, 1) := by decide +kernel
theorem dX1_refusal_0 : decode cX1_refusal 0 = .ok (.iload_n 1, 1) := by decide +kernel
theorem dX1_refusal_1 : decode cX1_refusal 1 = .ok (.invokestatic 65, 3) := by decide +kernel
theorem dX1_refusal_4 : decode cX1_refusal 4 = .ok (.ifCond .ne 5, 3) := by decide +kernel
theorem dX1_refusal_7 : decode cX1_refusal 7 = .ok (.iconst 1, 1) := by decide +kernel
theorem dX1_refusal_8 : decode cX1_refusal 8 = .ok (.ireturn, 1) := by decide +kernel
theorem dX1_refusal_9 : decode cX1_refusal 9 = .ok (.aload_n 0, 1) := by decide +kernel
theorem dX1_refusal_10 : decode cX1_refusal 10 = .ok (.getfield 24, 3) := by decide +kernel
theorem dX1_refusal_13 : decode cX1_refusal 13 = .ok (.iload_n 1, 1) := by decide +kernel
theorem dX1_refusal_14 : decode cX1_refusal 14 = .ok (.iaload, 1) := by decide +kernel
theorem dX1_refusal_15 : decode cX1_refusal 15 = .ok (.ifCond .ne 15, 3) := by decide +kernel
theorem dX1_refusal_18 : decode cX1_refusal 18 = .ok (.aload_n 0, 1) := by decide +kernel
theorem dX1_refusal_19 : decode cX1_refusal 19 = .ok (.getfield 9, 3) := by decide +kernel
theorem dX1_refusal_22 : decode cX1_refusal 22 = .ok (.iconst 2, 1) := by decide +kernel
theorem dX1_refusal_23 : decode cX1_refusal 23 = .ok (.iaload, 1) := by decide +kernel
theorem dX1_refusal_24 : decode cX1_refusal 24 = .ok (.iconst 1, 1) := by decide +kernel
theorem dX1_refusal_25 : decode cX1_refusal 25 = .ok (.if_icmp .ne 5, 3) := by decide +kernel
theorem dX1_refusal_28 : decode cX1_refusal 28 = .ok (.iconst 2, 1) := by decide +kernel
theorem dX1_refusal_29 : decode cX1_refusal 29 = .ok (.ireturn, 1) := by decide +kernel
theorem dX1_refusal_30 : decode cX1_refusal 30 = .ok (.aload_n 0, 1) := by decide +kernel
theorem dX1_refusal_31 : decode cX1_refusal 31 = .ok (.getfield 18, 3) := by decide +kernel
theorem dX1_refusal_34 : decode cX1_refusal 34 = .ok (.iload_n 1, 1) := by decide +kernel
theorem dX1_refusal_35 : decode cX1_refusal 35 = .ok (.iaload, 1) := by decide +kernel
theorem dX1_refusal_36 : decode cX1_refusal 36 = .ok (.ifCond .ne 7, 3) := by decide +kernel
theorem dX1_refusal_39 : decode cX1_refusal 39 = .ok (.iconst 3, 1) := by decide +kernel
theorem dX1_refusal_40 : decode cX1_refusal 40 = .ok (.goto 4, 3) := by decide +kernel
theorem dX1_refusal_43 : decode cX1_refusal 43 = .ok (.iconst 0, 1) := by decide +kernel
theorem dX1_refusal_44 : decode cX1_refusal 44 = .ok (.ireturn, 1) := by decide +kernel
theorem dX1_printPage_0 : decode cX1_printPage 0 = .ok (.aload_n 0, 1) := by decide +kernel
theorem dX1_printPage_1 : decode cX1_printPage 1 = .ok (.getfield 27, 3) := by decide +kernel
theorem dX1_printPage_4 : decode cX1_printPage 4 = .ok (.iload_n 1, 1) := by decide +kernel
theorem dX1_printPage_5 : decode cX1_printPage 5 = .ok (.iaload, 1) := by decide +kernel
theorem dX1_printPage_6 : decode cX1_printPage 6 = .ok (.istore_n 3, 1) := by decide +kernel
theorem dX1_printPage_7 : decode cX1_printPage 7 = .ok (.aload_n 0, 1) := by decide +kernel
theorem dX1_printPage_8 : decode cX1_printPage 8 = .ok (.iload_n 3, 1) := by decide +kernel
theorem dX1_printPage_9 : decode cX1_printPage 9 = .ok (.invokevirtual 69, 3) := by decide +kernel
theorem dX1_printPage_12 : decode cX1_printPage 12 = .ok (.istore 4, 2) := by decide +kernel
theorem dX1_printPage_14 : decode cX1_printPage 14 = .ok (.iload 4, 2) := by decide +kernel
theorem dX1_printPage_16 : decode cX1_printPage 16 = .ok (.ifCond .eq 16, 3) := by decide +kernel
theorem dX1_printPage_19 : decode cX1_printPage 19 = .ok (.aload_n 0, 1) := by decide +kernel
theorem dX1_printPage_20 : decode cX1_printPage 20 = .ok (.getfield 36, 3) := by decide +kernel
theorem dX1_printPage_23 : decode cX1_printPage 23 = .ok (.iload_n 1, 1) := by decide +kernel
theorem dX1_printPage_24 : decode cX1_printPage 24 = .ok (.dup2, 1) := by decide +kernel
theorem dX1_printPage_25 : decode cX1_printPage 25 = .ok (.iaload, 1) := by decide +kernel
theorem dX1_printPage_26 : decode cX1_printPage 26 = .ok (.iconst 1, 1) := by decide +kernel
theorem dX1_printPage_27 : decode cX1_printPage 27 = .ok (.iadd, 1) := by decide +kernel
theorem dX1_printPage_28 : decode cX1_printPage 28 = .ok (.iastore, 1) := by decide +kernel
theorem dX1_printPage_29 : decode cX1_printPage 29 = .ok (.iload 4, 2) := by decide +kernel
theorem dX1_printPage_31 : decode cX1_printPage 31 = .ok (.ireturn, 1) := by decide +kernel
theorem dX1_printPage_32 : decode cX1_printPage 32 = .ok (.aload_n 0, 1) := by decide +kernel
theorem dX1_printPage_33 : decode cX1_printPage 33 = .ok (.iload_n 3, 1) := by decide +kernel
theorem dX1_printPage_34 : decode cX1_printPage 34 = .ok (.aload_n 0, 1) := by decide +kernel
theorem dX1_printPage_35 : decode cX1_printPage 35 = .ok (.iload_n 3, 1) := by decide +kernel
theorem dX1_printPage_36 : decode cX1_printPage 36 = .ok (.iload_n 2, 1) := by decide +kernel
theorem dX1_printPage_37 : decode cX1_printPage 37 = .ok (.aload_n 0, 1) := by decide +kernel
theorem dX1_printPage_38 : decode cX1_printPage 38 = .ok (.getfield 9, 3) := by decide +kernel
theorem dX1_printPage_41 : decode cX1_printPage 41 = .ok (.iconst 0, 1) := by decide +kernel
theorem dX1_printPage_42 : decode cX1_printPage 42 = .ok (.iaload, 1) := by decide +kernel
theorem dX1_printPage_43 : decode cX1_printPage 43 = .ok (.invokevirtual 61, 3) := by decide +kernel
theorem dX1_printPage_46 : decode cX1_printPage 46 = .ok (.invokevirtual 73, 3) := by decide +kernel
theorem dX1_printPage_49 : decode cX1_printPage 49 = .ok (.istore 5, 2) := by decide +kernel
theorem dX1_printPage_51 : decode cX1_printPage 51 = .ok (.aload_n 0, 1) := by decide +kernel
theorem dX1_printPage_52 : decode cX1_printPage 52 = .ok (.getfield 24, 3) := by decide +kernel
theorem dX1_printPage_55 : decode cX1_printPage 55 = .ok (.iload_n 3, 1) := by decide +kernel
theorem dX1_printPage_56 : decode cX1_printPage 56 = .ok (.iaload, 1) := by decide +kernel
theorem dX1_printPage_57 : decode cX1_printPage 57 = .ok (.aload_n 0, 1) := by decide +kernel
theorem dX1_printPage_58 : decode cX1_printPage 58 = .ok (.iload_n 3, 1) := by decide +kernel
theorem dX1_printPage_59 : decode cX1_printPage 59 = .ok (.iload_n 2, 1) := by decide +kernel
theorem dX1_printPage_60 : decode cX1_printPage 60 = .ok (.aload_n 0, 1) := by decide +kernel
theorem dX1_printPage_61 : decode cX1_printPage 61 = .ok (.getfield 9, 3) := by decide +kernel
theorem dX1_printPage_64 : decode cX1_printPage 64 = .ok (.iconst 0, 1) := by decide +kernel
theorem dX1_printPage_65 : decode cX1_printPage 65 = .ok (.iaload, 1) := by decide +kernel
theorem dX1_printPage_66 : decode cX1_printPage 66 = .ok (.invokevirtual 77, 3) := by decide +kernel
theorem dX1_printPage_69 : decode cX1_printPage 69 = .ok (.isub, 1) := by decide +kernel
theorem dX1_printPage_70 : decode cX1_printPage 70 = .ok (.istore 6, 2) := by decide +kernel
theorem dX1_printPage_72 : decode cX1_printPage 72 = .ok (.aload_n 0, 1) := by decide +kernel
theorem dX1_printPage_73 : decode cX1_printPage 73 = .ok (.getfield 24, 3) := by decide +kernel
theorem dX1_printPage_76 : decode cX1_printPage 76 = .ok (.iload_n 3, 1) := by decide +kernel
theorem dX1_printPage_77 : decode cX1_printPage 77 = .ok (.iload 6, 2) := by decide +kernel
theorem dX1_printPage_79 : decode cX1_printPage 79 = .ok (.ifCond .le 8, 3) := by decide +kernel
theorem dX1_printPage_82 : decode cX1_printPage 82 = .ok (.iload 6, 2) := by decide +kernel
theorem dX1_printPage_84 : decode cX1_printPage 84 = .ok (.goto 4, 3) := by decide +kernel
theorem dX1_printPage_87 : decode cX1_printPage 87 = .ok (.iconst 0, 1) := by decide +kernel
theorem dX1_printPage_88 : decode cX1_printPage 88 = .ok (.iastore, 1) := by decide +kernel
theorem dX1_printPage_89 : decode cX1_printPage 89 = .ok (.aload_n 0, 1) := by decide +kernel
theorem dX1_printPage_90 : decode cX1_printPage 90 = .ok (.iload_n 3, 1) := by decide +kernel
theorem dX1_printPage_91 : decode cX1_printPage 91 = .ok (.invokevirtual 80, 3) := by decide +kernel
theorem dX1_printPage_94 : decode cX1_printPage 94 = .ok (.iload 5, 2) := by decide +kernel
theorem dX1_printPage_96 : decode cX1_printPage 96 = .ok (.bipush 100, 2) := by decide +kernel
theorem dX1_printPage_98 : decode cX1_printPage 98 = .ok (.if_icmp .ne 16, 3) := by decide +kernel
theorem dX1_printPage_101 : decode cX1_printPage 101 = .ok (.aload_n 0, 1) := by decide +kernel
theorem dX1_printPage_102 : decode cX1_printPage 102 = .ok (.getfield 30, 3) := by decide +kernel
theorem dX1_printPage_105 : decode cX1_printPage 105 = .ok (.iload_n 1, 1) := by decide +kernel
theorem dX1_printPage_106 : decode cX1_printPage 106 = .ok (.dup2, 1) := by decide +kernel
theorem dX1_printPage_107 : decode cX1_printPage 107 = .ok (.iaload, 1) := by decide +kernel
theorem dX1_printPage_108 : decode cX1_printPage 108 = .ok (.iconst 1, 1) := by decide +kernel
theorem dX1_printPage_109 : decode cX1_printPage 109 = .ok (.iadd, 1) := by decide +kernel
theorem dX1_printPage_110 : decode cX1_printPage 110 = .ok (.iastore, 1) := by decide +kernel
theorem dX1_printPage_111 : decode cX1_printPage 111 = .ok (.goto 13, 3) := by decide +kernel
theorem dX1_printPage_114 : decode cX1_printPage 114 = .ok (.aload_n 0, 1) := by decide +kernel
theorem dX1_printPage_115 : decode cX1_printPage 115 = .ok (.getfield 33, 3) := by decide +kernel
theorem dX1_printPage_118 : decode cX1_printPage 118 = .ok (.iload_n 1, 1) := by decide +kernel
theorem dX1_printPage_119 : decode cX1_printPage 119 = .ok (.dup2, 1) := by decide +kernel
theorem dX1_printPage_120 : decode cX1_printPage 120 = .ok (.iaload, 1) := by decide +kernel
theorem dX1_printPage_121 : decode cX1_printPage 121 = .ok (.iconst 1, 1) := by decide +kernel
theorem dX1_printPage_122 : decode cX1_printPage 122 = .ok (.iadd, 1) := by decide +kernel
theorem dX1_printPage_123 : decode cX1_printPage 123 = .ok (.iastore, 1) := by decide +kernel
theorem dX1_printPage_124 : decode cX1_printPage 124 = .ok (.aload_n 0, 1) := by decide +kernel
theorem dX1_printPage_125 : decode cX1_printPage 125 = .ok (.getfield 39, 3) := by decide +kernel
theorem dX1_printPage_128 : decode cX1_printPage 128 = .ok (.iload_n 1, 1) := by decide +kernel
theorem dX1_printPage_129 : decode cX1_printPage 129 = .ok (.dup2, 1) := by decide +kernel
theorem dX1_printPage_130 : decode cX1_printPage 130 = .ok (.iaload, 1) := by decide +kernel
theorem dX1_printPage_131 : decode cX1_printPage 131 = .ok (.iload_n 2, 1) := by decide +kernel
theorem dX1_printPage_132 : decode cX1_printPage 132 = .ok (.iadd, 1) := by decide +kernel
theorem dX1_printPage_133 : decode cX1_printPage 133 = .ok (.iastore, 1) := by decide +kernel
theorem dX1_printPage_134 : decode cX1_printPage 134 = .ok (.aload_n 0, 1) := by decide +kernel
theorem dX1_printPage_135 : decode cX1_printPage 135 = .ok (.getfield 42, 3) := by decide +kernel
theorem dX1_printPage_138 : decode cX1_printPage 138 = .ok (.iload_n 1, 1) := by decide +kernel
theorem dX1_printPage_139 : decode cX1_printPage 139 = .ok (.iload 5, 2) := by decide +kernel
theorem dX1_printPage_141 : decode cX1_printPage 141 = .ok (.iastore, 1) := by decide +kernel
theorem dX1_printPage_142 : decode cX1_printPage 142 = .ok (.bipush 10, 2) := by decide +kernel
theorem dX1_printPage_144 : decode cX1_printPage 144 = .ok (.iload 5, 2) := by decide +kernel
theorem dX1_printPage_146 : decode cX1_printPage 146 = .ok (.iadd, 1) := by decide +kernel
theorem dX1_printPage_147 : decode cX1_printPage 147 = .ok (.ireturn, 1) := by decide +kernel
theorem dX1_useToner_0 : decode cX1_useToner 0 = .ok (.aload_n 0, 1) := by decide +kernel
theorem dX1_useToner_1 : decode cX1_useToner 1 = .ok (.getfield 18, 3) := by decide +kernel
theorem dX1_useToner_4 : decode cX1_useToner 4 = .ok (.iload_n 1, 1) := by decide +kernel
theorem dX1_useToner_5 : decode cX1_useToner 5 = .ok (.iaload, 1) := by decide +kernel
theorem dX1_useToner_6 : decode cX1_useToner 6 = .ok (.iload_n 2, 1) := by decide +kernel
theorem dX1_useToner_7 : decode cX1_useToner 7 = .ok (.if_icmp .ge 12, 3) := by decide +kernel
theorem dX1_useToner_10 : decode cX1_useToner 10 = .ok (.aload_n 0, 1) := by decide +kernel
theorem dX1_useToner_11 : decode cX1_useToner 11 = .ok (.getfield 18, 3) := by decide +kernel
theorem dX1_useToner_14 : decode cX1_useToner 14 = .ok (.iload_n 1, 1) := by decide +kernel
theorem dX1_useToner_15 : decode cX1_useToner 15 = .ok (.iaload, 1) := by decide +kernel
theorem dX1_useToner_16 : decode cX1_useToner 16 = .ok (.goto 4, 3) := by decide +kernel
theorem dX1_useToner_19 : decode cX1_useToner 19 = .ok (.iload_n 2, 1) := by decide +kernel
theorem dX1_useToner_20 : decode cX1_useToner 20 = .ok (.istore_n 3, 1) := by decide +kernel
theorem dX1_useToner_21 : decode cX1_useToner 21 = .ok (.aload_n 0, 1) := by decide +kernel
theorem dX1_useToner_22 : decode cX1_useToner 22 = .ok (.getfield 18, 3) := by decide +kernel
theorem dX1_useToner_25 : decode cX1_useToner 25 = .ok (.iload_n 1, 1) := by decide +kernel
theorem dX1_useToner_26 : decode cX1_useToner 26 = .ok (.dup2, 1) := by decide +kernel
theorem dX1_useToner_27 : decode cX1_useToner 27 = .ok (.iaload, 1) := by decide +kernel
theorem dX1_useToner_28 : decode cX1_useToner 28 = .ok (.iload_n 3, 1) := by decide +kernel
theorem dX1_useToner_29 : decode cX1_useToner 29 = .ok (.isub, 1) := by decide +kernel
theorem dX1_useToner_30 : decode cX1_useToner 30 = .ok (.iastore, 1) := by decide +kernel
theorem dX1_useToner_31 : decode cX1_useToner 31 = .ok (.aload_n 0, 1) := by decide +kernel
theorem dX1_useToner_32 : decode cX1_useToner 32 = .ok (.dup, 1) := by decide +kernel
theorem dX1_useToner_33 : decode cX1_useToner 33 = .ok (.getfield 45, 3) := by decide +kernel
theorem dX1_useToner_36 : decode cX1_useToner 36 = .ok (.iload_n 3, 1) := by decide +kernel
theorem dX1_useToner_37 : decode cX1_useToner 37 = .ok (.iadd, 1) := by decide +kernel
theorem dX1_useToner_38 : decode cX1_useToner 38 = .ok (.putfield 45, 3) := by decide +kernel
theorem dX1_useToner_41 : decode cX1_useToner 41 = .ok (.iload_n 3, 1) := by decide +kernel
theorem dX1_useToner_42 : decode cX1_useToner 42 = .ok (.iload_n 2, 1) := by decide +kernel
theorem dX1_useToner_43 : decode cX1_useToner 43 = .ok (.if_icmp .ne 8, 3) := by decide +kernel
theorem dX1_useToner_46 : decode cX1_useToner 46 = .ok (.bipush 100, 2) := by decide +kernel
theorem dX1_useToner_48 : decode cX1_useToner 48 = .ok (.goto 11, 3) := by decide +kernel
theorem dX1_useToner_51 : decode cX1_useToner 51 = .ok (.iload_n 3, 1) := by decide +kernel
theorem dX1_useToner_52 : decode cX1_useToner 52 = .ok (.bipush 100, 2) := by decide +kernel
theorem dX1_useToner_54 : decode cX1_useToner 54 = .ok (.imul, 1) := by decide +kernel
theorem dX1_useToner_55 : decode cX1_useToner 55 = .ok (.iload_n 2, 1) := by decide +kernel
theorem dX1_useToner_56 : decode cX1_useToner 56 = .ok (.invokestatic 84, 3) := by decide +kernel
theorem dX1_useToner_59 : decode cX1_useToner 59 = .ok (.ireturn, 1) := by decide +kernel
theorem dX1_settleToner_0 : decode cX1_settleToner 0 = .ok (.aload_n 0, 1) := by decide +kernel
theorem dX1_settleToner_1 : decode cX1_settleToner 1 = .ok (.getfield 18, 3) := by decide +kernel
theorem dX1_settleToner_4 : decode cX1_settleToner 4 = .ok (.iload_n 1, 1) := by decide +kernel
theorem dX1_settleToner_5 : decode cX1_settleToner 5 = .ok (.iaload, 1) := by decide +kernel
theorem dX1_settleToner_6 : decode cX1_settleToner 6 = .ok (.aload_n 0, 1) := by decide +kernel
theorem dX1_settleToner_7 : decode cX1_settleToner 7 = .ok (.getfield 9, 3) := by decide +kernel
theorem dX1_settleToner_10 : decode cX1_settleToner 10 = .ok (.iconst 1, 1) := by decide +kernel
theorem dX1_settleToner_11 : decode cX1_settleToner 11 = .ok (.iaload, 1) := by decide +kernel
theorem dX1_settleToner_12 : decode cX1_settleToner 12 = .ok (.invokestatic 84, 3) := by decide +kernel
theorem dX1_settleToner_15 : decode cX1_settleToner 15 = .ok (.istore_n 2, 1) := by decide +kernel
theorem dX1_settleToner_16 : decode cX1_settleToner 16 = .ok (.aload_n 0, 1) := by decide +kernel
theorem dX1_settleToner_17 : decode cX1_settleToner 17 = .ok (.getfield 18, 3) := by decide +kernel
theorem dX1_settleToner_20 : decode cX1_settleToner 20 = .ok (.iload_n 1, 1) := by decide +kernel
theorem dX1_settleToner_21 : decode cX1_settleToner 21 = .ok (.dup2, 1) := by decide +kernel
theorem dX1_settleToner_22 : decode cX1_settleToner 22 = .ok (.iaload, 1) := by decide +kernel
theorem dX1_settleToner_23 : decode cX1_settleToner 23 = .ok (.iload_n 2, 1) := by decide +kernel
theorem dX1_settleToner_24 : decode cX1_settleToner 24 = .ok (.isub, 1) := by decide +kernel
theorem dX1_settleToner_25 : decode cX1_settleToner 25 = .ok (.iastore, 1) := by decide +kernel
theorem dX1_settleToner_26 : decode cX1_settleToner 26 = .ok (.aload_n 0, 1) := by decide +kernel
theorem dX1_settleToner_27 : decode cX1_settleToner 27 = .ok (.getfield 21, 3) := by decide +kernel
theorem dX1_settleToner_30 : decode cX1_settleToner 30 = .ok (.iload_n 1, 1) := by decide +kernel
theorem dX1_settleToner_31 : decode cX1_settleToner 31 = .ok (.dup2, 1) := by decide +kernel
theorem dX1_settleToner_32 : decode cX1_settleToner 32 = .ok (.iaload, 1) := by decide +kernel
theorem dX1_settleToner_33 : decode cX1_settleToner 33 = .ok (.iload_n 2, 1) := by decide +kernel
theorem dX1_settleToner_34 : decode cX1_settleToner 34 = .ok (.iadd, 1) := by decide +kernel
theorem dX1_settleToner_35 : decode cX1_settleToner 35 = .ok (.iastore, 1) := by decide +kernel
theorem dX1_settleToner_36 : decode cX1_settleToner 36 = .ok (.return_, 1) := by decide +kernel
theorem dX1_shakeCup_0 : decode cX1_shakeCup 0 = .ok (.aload_n 0, 1) := by decide +kernel
theorem dX1_shakeCup_1 : decode cX1_shakeCup 1 = .ok (.getfield 21, 3) := by decide +kernel
theorem dX1_shakeCup_4 : decode cX1_shakeCup 4 = .ok (.iload_n 1, 1) := by decide +kernel
theorem dX1_shakeCup_5 : decode cX1_shakeCup 5 = .ok (.iaload, 1) := by decide +kernel
theorem dX1_shakeCup_6 : decode cX1_shakeCup 6 = .ok (.iconst 2, 1) := by decide +kernel
theorem dX1_shakeCup_7 : decode cX1_shakeCup 7 = .ok (.idiv, 1) := by decide +kernel
theorem dX1_shakeCup_8 : decode cX1_shakeCup 8 = .ok (.istore_n 2, 1) := by decide +kernel
theorem dX1_shakeCup_9 : decode cX1_shakeCup 9 = .ok (.aload_n 0, 1) := by decide +kernel
theorem dX1_shakeCup_10 : decode cX1_shakeCup 10 = .ok (.getfield 21, 3) := by decide +kernel
theorem dX1_shakeCup_13 : decode cX1_shakeCup 13 = .ok (.iload_n 1, 1) := by decide +kernel
theorem dX1_shakeCup_14 : decode cX1_shakeCup 14 = .ok (.dup2, 1) := by decide +kernel
theorem dX1_shakeCup_15 : decode cX1_shakeCup 15 = .ok (.iaload, 1) := by decide +kernel
theorem dX1_shakeCup_16 : decode cX1_shakeCup 16 = .ok (.iload_n 2, 1) := by decide +kernel
theorem dX1_shakeCup_17 : decode cX1_shakeCup 17 = .ok (.isub, 1) := by decide +kernel
theorem dX1_shakeCup_18 : decode cX1_shakeCup 18 = .ok (.iastore, 1) := by decide +kernel
theorem dX1_shakeCup_19 : decode cX1_shakeCup 19 = .ok (.aload_n 0, 1) := by decide +kernel
theorem dX1_shakeCup_20 : decode cX1_shakeCup 20 = .ok (.getfield 18, 3) := by decide +kernel
theorem dX1_shakeCup_23 : decode cX1_shakeCup 23 = .ok (.iload_n 1, 1) := by decide +kernel
theorem dX1_shakeCup_24 : decode cX1_shakeCup 24 = .ok (.dup2, 1) := by decide +kernel
theorem dX1_shakeCup_25 : decode cX1_shakeCup 25 = .ok (.iaload, 1) := by decide +kernel
theorem dX1_shakeCup_26 : decode cX1_shakeCup 26 = .ok (.iload_n 2, 1) := by decide +kernel
theorem dX1_shakeCup_27 : decode cX1_shakeCup 27 = .ok (.iadd, 1) := by decide +kernel
theorem dX1_shakeCup_28 : decode cX1_shakeCup 28 = .ok (.iastore, 1) := by decide +kernel
theorem dX1_shakeCup_29 : decode cX1_shakeCup 29 = .ok (.iload_n 2, 1) := by decide +kernel
theorem dX1_shakeCup_30 : decode cX1_shakeCup 30 = .ok (.ireturn, 1) := by decide +kernel
theorem dX1_moveCup_0 : decode cX1_moveCup 0 = .ok (.aload_n 0, 1) := by decide +kernel
theorem dX1_moveCup_1 : decode cX1_moveCup 1 = .ok (.getfield 27, 3) := by decide +kernel
theorem dX1_moveCup_4 : decode cX1_moveCup 4 = .ok (.iload_n 2, 1) := by decide +kernel
theorem dX1_moveCup_5 : decode cX1_moveCup 5 = .ok (.iaload, 1) := by decide +kernel
theorem dX1_moveCup_6 : decode cX1_moveCup 6 = .ok (.iload_n 1, 1) := by decide +kernel
theorem dX1_moveCup_7 : decode cX1_moveCup 7 = .ok (.if_icmp .ne 5, 3) := by decide +kernel
theorem dX1_moveCup_10 : decode cX1_moveCup 10 = .ok (.iconst 0, 1) := by decide +kernel
theorem dX1_moveCup_11 : decode cX1_moveCup 11 = .ok (.ireturn, 1) := by decide +kernel
theorem dX1_moveCup_12 : decode cX1_moveCup 12 = .ok (.aload_n 0, 1) := by decide +kernel
theorem dX1_moveCup_13 : decode cX1_moveCup 13 = .ok (.getfield 49, 3) := by decide +kernel
theorem dX1_moveCup_16 : decode cX1_moveCup 16 = .ok (.istore_n 3, 1) := by decide +kernel
theorem dX1_moveCup_17 : decode cX1_moveCup 17 = .ok (.aload_n 0, 1) := by decide +kernel
theorem dX1_moveCup_18 : decode cX1_moveCup 18 = .ok (.iload_n 1, 1) := by decide +kernel
theorem dX1_moveCup_19 : decode cX1_moveCup 19 = .ok (.invokevirtual 87, 3) := by decide +kernel
theorem dX1_moveCup_22 : decode cX1_moveCup 22 = .ok (.istore 4, 2) := by decide +kernel
theorem dX1_moveCup_24 : decode cX1_moveCup 24 = .ok (.iload 4, 2) := by decide +kernel
theorem dX1_moveCup_26 : decode cX1_moveCup 26 = .ok (.invokestatic 90, 3) := by decide +kernel
theorem dX1_moveCup_29 : decode cX1_moveCup 29 = .ok (.ifCond .eq 9, 3) := by decide +kernel
theorem dX1_moveCup_32 : decode cX1_moveCup 32 = .ok (.aload_n 0, 1) := by decide +kernel
theorem dX1_moveCup_33 : decode cX1_moveCup 33 = .ok (.iload 4, 2) := by decide +kernel
theorem dX1_moveCup_35 : decode cX1_moveCup 35 = .ok (.invokevirtual 93, 3) := by decide +kernel
theorem dX1_moveCup_38 : decode cX1_moveCup 38 = .ok (.aload_n 0, 1) := by decide +kernel
theorem dX1_moveCup_39 : decode cX1_moveCup 39 = .ok (.iload_n 2, 1) := by decide +kernel
theorem dX1_moveCup_40 : decode cX1_moveCup 40 = .ok (.invokevirtual 93, 3) := by decide +kernel
theorem dX1_moveCup_43 : decode cX1_moveCup 43 = .ok (.aload_n 0, 1) := by decide +kernel
theorem dX1_moveCup_44 : decode cX1_moveCup 44 = .ok (.getfield 27, 3) := by decide +kernel
theorem dX1_moveCup_47 : decode cX1_moveCup 47 = .ok (.iload_n 2, 1) := by decide +kernel
theorem dX1_moveCup_48 : decode cX1_moveCup 48 = .ok (.iload_n 1, 1) := by decide +kernel
theorem dX1_moveCup_49 : decode cX1_moveCup 49 = .ok (.iastore, 1) := by decide +kernel
theorem dX1_moveCup_50 : decode cX1_moveCup 50 = .ok (.aload_n 0, 1) := by decide +kernel
theorem dX1_moveCup_51 : decode cX1_moveCup 51 = .ok (.getfield 49, 3) := by decide +kernel
theorem dX1_moveCup_54 : decode cX1_moveCup 54 = .ok (.iload_n 3, 1) := by decide +kernel
theorem dX1_moveCup_55 : decode cX1_moveCup 55 = .ok (.isub, 1) := by decide +kernel
theorem dX1_moveCup_56 : decode cX1_moveCup 56 = .ok (.ireturn, 1) := by decide +kernel
theorem dX1_empty_0 : decode cX1_empty 0 = .ok (.aload_n 0, 1) := by decide +kernel
theorem dX1_empty_1 : decode cX1_empty 1 = .ok (.getfield 27, 3) := by decide +kernel
theorem dX1_empty_4 : decode cX1_empty 4 = .ok (.iload_n 1, 1) := by decide +kernel
theorem dX1_empty_5 : decode cX1_empty 5 = .ok (.iaload, 1) := by decide +kernel
theorem dX1_empty_6 : decode cX1_empty 6 = .ok (.istore_n 2, 1) := by decide +kernel
theorem dX1_empty_7 : decode cX1_empty 7 = .ok (.iload_n 2, 1) := by decide +kernel
theorem dX1_empty_8 : decode cX1_empty 8 = .ok (.invokestatic 65, 3) := by decide +kernel
theorem dX1_empty_11 : decode cX1_empty 11 = .ok (.ifCond .ne 4, 3) := by decide +kernel
theorem dX1_empty_14 : decode cX1_empty 14 = .ok (.return_, 1) := by decide +kernel
theorem dX1_empty_15 : decode cX1_empty 15 = .ok (.aload_n 0, 1) := by decide +kernel
theorem dX1_empty_16 : decode cX1_empty 16 = .ok (.getfield 18, 3) := by decide +kernel
theorem dX1_empty_19 : decode cX1_empty 19 = .ok (.iload_n 2, 1) := by decide +kernel
theorem dX1_empty_20 : decode cX1_empty 20 = .ok (.iaload, 1) := by decide +kernel
theorem dX1_empty_21 : decode cX1_empty 21 = .ok (.bipush 50, 2) := by decide +kernel
theorem dX1_empty_23 : decode cX1_empty 23 = .ok (.idiv, 1) := by decide +kernel
theorem dX1_empty_24 : decode cX1_empty 24 = .ok (.istore_n 3, 1) := by decide +kernel
theorem dX1_empty_25 : decode cX1_empty 25 = .ok (.aload_n 0, 1) := by decide +kernel
theorem dX1_empty_26 : decode cX1_empty 26 = .ok (.getfield 18, 3) := by decide +kernel
theorem dX1_empty_29 : decode cX1_empty 29 = .ok (.iload_n 2, 1) := by decide +kernel
theorem dX1_empty_30 : decode cX1_empty 30 = .ok (.dup2, 1) := by decide +kernel
theorem dX1_empty_31 : decode cX1_empty 31 = .ok (.iaload, 1) := by decide +kernel
theorem dX1_empty_32 : decode cX1_empty 32 = .ok (.iload_n 3, 1) := by decide +kernel
theorem dX1_empty_33 : decode cX1_empty 33 = .ok (.isub, 1) := by decide +kernel
theorem dX1_empty_34 : decode cX1_empty 34 = .ok (.iastore, 1) := by decide +kernel
theorem dX1_empty_35 : decode cX1_empty 35 = .ok (.aload_n 0, 1) := by decide +kernel
theorem dX1_empty_36 : decode cX1_empty 36 = .ok (.dup, 1) := by decide +kernel
theorem dX1_empty_37 : decode cX1_empty 37 = .ok (.getfield 49, 3) := by decide +kernel
theorem dX1_empty_40 : decode cX1_empty 40 = .ok (.iload_n 3, 1) := by decide +kernel
theorem dX1_empty_41 : decode cX1_empty 41 = .ok (.iadd, 1) := by decide +kernel
theorem dX1_empty_42 : decode cX1_empty 42 = .ok (.putfield 49, 3) := by decide +kernel
theorem dX1_empty_45 : decode cX1_empty 45 = .ok (.aload_n 0, 1) := by decide +kernel
theorem dX1_empty_46 : decode cX1_empty 46 = .ok (.getfield 27, 3) := by decide +kernel
theorem dX1_empty_49 : decode cX1_empty 49 = .ok (.iload_n 1, 1) := by decide +kernel
theorem dX1_empty_50 : decode cX1_empty 50 = .ok (.bipush (-4), 2) := by decide +kernel
theorem dX1_empty_52 : decode cX1_empty 52 = .ok (.iastore, 1) := by decide +kernel
theorem dX1_empty_53 : decode cX1_empty 53 = .ok (.return_, 1) := by decide +kernel
theorem dX1_fillCup_0 : decode cX1_fillCup 0 = .ok (.sipush 6000, 3) := by decide +kernel
theorem dX1_fillCup_3 : decode cX1_fillCup 3 = .ok (.aload_n 0, 1) := by decide +kernel
theorem dX1_fillCup_4 : decode cX1_fillCup 4 = .ok (.iload_n 1, 1) := by decide +kernel
theorem dX1_fillCup_5 : decode cX1_fillCup 5 = .ok (.invokevirtual 96, 3) := by decide +kernel
theorem dX1_fillCup_8 : decode cX1_fillCup 8 = .ok (.isub, 1) := by decide +kernel
theorem dX1_fillCup_9 : decode cX1_fillCup 9 = .ok (.istore_n 3, 1) := by decide +kernel
theorem dX1_fillCup_10 : decode cX1_fillCup 10 = .ok (.iload_n 2, 1) := by decide +kernel
theorem dX1_fillCup_11 : decode cX1_fillCup 11 = .ok (.iload_n 3, 1) := by decide +kernel
theorem dX1_fillCup_12 : decode cX1_fillCup 12 = .ok (.if_icmp .ge 7, 3) := by decide +kernel
theorem dX1_fillCup_15 : decode cX1_fillCup 15 = .ok (.iload_n 2, 1) := by decide +kernel
theorem dX1_fillCup_16 : decode cX1_fillCup 16 = .ok (.goto 4, 3) := by decide +kernel
theorem dX1_fillCup_19 : decode cX1_fillCup 19 = .ok (.iload_n 3, 1) := by decide +kernel
theorem dX1_fillCup_20 : decode cX1_fillCup 20 = .ok (.istore 4, 2) := by decide +kernel
theorem dX1_fillCup_22 : decode cX1_fillCup 22 = .ok (.aload_n 0, 1) := by decide +kernel
theorem dX1_fillCup_23 : decode cX1_fillCup 23 = .ok (.getfield 21, 3) := by decide +kernel
theorem dX1_fillCup_26 : decode cX1_fillCup 26 = .ok (.iload_n 1, 1) := by decide +kernel
theorem dX1_fillCup_27 : decode cX1_fillCup 27 = .ok (.dup2, 1) := by decide +kernel
theorem dX1_fillCup_28 : decode cX1_fillCup 28 = .ok (.iaload, 1) := by decide +kernel
theorem dX1_fillCup_29 : decode cX1_fillCup 29 = .ok (.iload 4, 2) := by decide +kernel
theorem dX1_fillCup_31 : decode cX1_fillCup 31 = .ok (.iadd, 1) := by decide +kernel
theorem dX1_fillCup_32 : decode cX1_fillCup 32 = .ok (.iastore, 1) := by decide +kernel
theorem dX1_fillCup_33 : decode cX1_fillCup 33 = .ok (.aload_n 0, 1) := by decide +kernel
theorem dX1_fillCup_34 : decode cX1_fillCup 34 = .ok (.dup, 1) := by decide +kernel
theorem dX1_fillCup_35 : decode cX1_fillCup 35 = .ok (.getfield 52, 3) := by decide +kernel
theorem dX1_fillCup_38 : decode cX1_fillCup 38 = .ok (.iload 4, 2) := by decide +kernel
theorem dX1_fillCup_40 : decode cX1_fillCup 40 = .ok (.iadd, 1) := by decide +kernel
theorem dX1_fillCup_41 : decode cX1_fillCup 41 = .ok (.putfield 52, 3) := by decide +kernel
theorem dX1_fillCup_44 : decode cX1_fillCup 44 = .ok (.aload_n 0, 1) := by decide +kernel
theorem dX1_fillCup_45 : decode cX1_fillCup 45 = .ok (.getfield 15, 3) := by decide +kernel
theorem dX1_fillCup_48 : decode cX1_fillCup 48 = .ok (.iload_n 1, 1) := by decide +kernel
theorem dX1_fillCup_49 : decode cX1_fillCup 49 = .ok (.iconst 2, 1) := by decide +kernel
theorem dX1_fillCup_50 : decode cX1_fillCup 50 = .ok (.iastore, 1) := by decide +kernel
theorem dX1_fillCup_51 : decode cX1_fillCup 51 = .ok (.iload 4, 2) := by decide +kernel
theorem dX1_fillCup_53 : decode cX1_fillCup 53 = .ok (.ireturn, 1) := by decide +kernel
theorem dX1_printerOf_0 : decode cX1_printerOf 0 = .ok (.iconst 0, 1) := by decide +kernel
theorem dX1_printerOf_1 : decode cX1_printerOf 1 = .ok (.istore_n 2, 1) := by decide +kernel
theorem dX1_printerOf_2 : decode cX1_printerOf 2 = .ok (.iload_n 2, 1) := by decide +kernel
theorem dX1_printerOf_3 : decode cX1_printerOf 3 = .ok (.iconst 2, 1) := by decide +kernel
theorem dX1_printerOf_4 : decode cX1_printerOf 4 = .ok (.if_icmp .ge 21, 3) := by decide +kernel
theorem dX1_printerOf_7 : decode cX1_printerOf 7 = .ok (.aload_n 0, 1) := by decide +kernel
theorem dX1_printerOf_8 : decode cX1_printerOf 8 = .ok (.getfield 27, 3) := by decide +kernel
theorem dX1_printerOf_11 : decode cX1_printerOf 11 = .ok (.iload_n 2, 1) := by decide +kernel
theorem dX1_printerOf_12 : decode cX1_printerOf 12 = .ok (.iaload, 1) := by decide +kernel
theorem dX1_printerOf_13 : decode cX1_printerOf 13 = .ok (.iload_n 1, 1) := by decide +kernel
theorem dX1_printerOf_14 : decode cX1_printerOf 14 = .ok (.if_icmp .ne 5, 3) := by decide +kernel
theorem dX1_printerOf_17 : decode cX1_printerOf 17 = .ok (.iload_n 2, 1) := by decide +kernel
theorem dX1_printerOf_18 : decode cX1_printerOf 18 = .ok (.ireturn, 1) := by decide +kernel
theorem dX1_printerOf_19 : decode cX1_printerOf 19 = .ok (.iinc 2 1, 3) := by decide +kernel
theorem dX1_printerOf_22 : decode cX1_printerOf 22 = .ok (.goto (-20), 3) := by decide +kernel
theorem dX1_printerOf_25 : decode cX1_printerOf 25 = .ok (.bipush (-4), 2) := by decide +kernel
theorem dX1_printerOf_27 : decode cX1_printerOf 27 = .ok (.ireturn, 1) := by decide +kernel
theorem dX1_toner_0 : decode cX1_toner 0 = .ok (.aload_n 0, 1) := by decide +kernel
theorem dX1_toner_1 : decode cX1_toner 1 = .ok (.getfield 18, 3) := by decide +kernel
theorem dX1_toner_4 : decode cX1_toner 4 = .ok (.iload_n 1, 1) := by decide +kernel
theorem dX1_toner_5 : decode cX1_toner 5 = .ok (.iaload, 1) := by decide +kernel
theorem dX1_toner_6 : decode cX1_toner 6 = .ok (.aload_n 0, 1) := by decide +kernel
theorem dX1_toner_7 : decode cX1_toner 7 = .ok (.getfield 21, 3) := by decide +kernel
theorem dX1_toner_10 : decode cX1_toner 10 = .ok (.iload_n 1, 1) := by decide +kernel
theorem dX1_toner_11 : decode cX1_toner 11 = .ok (.iaload, 1) := by decide +kernel
theorem dX1_toner_12 : decode cX1_toner 12 = .ok (.iadd, 1) := by decide +kernel
theorem dX1_toner_13 : decode cX1_toner 13 = .ok (.ireturn, 1) := by decide +kernel
theorem dX1_scaleTells_0 : decode cX1_scaleTells 0 = .ok (.aload_n 0, 1) := by decide +kernel
theorem dX1_scaleTells_1 : decode cX1_scaleTells 1 = .ok (.iload_n 1, 1) := by decide +kernel
theorem dX1_scaleTells_2 : decode cX1_scaleTells 2 = .ok (.invokevirtual 96, 3) := by decide +kernel
theorem dX1_scaleTells_5 : decode cX1_scaleTells 5 = .ok (.aload_n 0, 1) := by decide +kernel
theorem dX1_scaleTells_6 : decode cX1_scaleTells 6 = .ok (.getfield 9, 3) := by decide +kernel
theorem dX1_scaleTells_9 : decode cX1_scaleTells 9 = .ok (.iconst 3, 1) := by decide +kernel
theorem dX1_scaleTells_10 : decode cX1_scaleTells 10 = .ok (.iaload, 1) := by decide +kernel
theorem dX1_scaleTells_11 : decode cX1_scaleTells 11 = .ok (.invokestatic 84, 3) := by decide +kernel
theorem dX1_scaleTells_14 : decode cX1_scaleTells 14 = .ok (.aload_n 0, 1) := by decide +kernel
theorem dX1_scaleTells_15 : decode cX1_scaleTells 15 = .ok (.getfield 9, 3) := by decide +kernel
theorem dX1_scaleTells_18 : decode cX1_scaleTells 18 = .ok (.iconst 3, 1) := by decide +kernel
theorem dX1_scaleTells_19 : decode cX1_scaleTells 19 = .ok (.iaload, 1) := by decide +kernel
theorem dX1_scaleTells_20 : decode cX1_scaleTells 20 = .ok (.imul, 1) := by decide +kernel
theorem dX1_scaleTells_21 : decode cX1_scaleTells 21 = .ok (.ireturn, 1) := by decide +kernel
theorem dX1_toldLeft_0 : decode cX1_toldLeft 0 = .ok (.aload_n 0, 1) := by decide +kernel
theorem dX1_toldLeft_1 : decode cX1_toldLeft 1 = .ok (.iload_n 1, 1) := by decide +kernel
theorem dX1_toldLeft_2 : decode cX1_toldLeft 2 = .ok (.invokevirtual 99, 3) := by decide +kernel
theorem dX1_toldLeft_5 : decode cX1_toldLeft 5 = .ok (.aload_n 0, 1) := by decide +kernel
theorem dX1_toldLeft_6 : decode cX1_toldLeft 6 = .ok (.getfield 24, 3) := by decide +kernel
theorem dX1_toldLeft_9 : decode cX1_toldLeft 9 = .ok (.iload_n 1, 1) := by decide +kernel
theorem dX1_toldLeft_10 : decode cX1_toldLeft 10 = .ok (.iaload, 1) := by decide +kernel
theorem dX1_toldLeft_11 : decode cX1_toldLeft 11 = .ok (.iadd, 1) := by decide +kernel
theorem dX1_toldLeft_12 : decode cX1_toldLeft 12 = .ok (.iconst 2, 1) := by decide +kernel
theorem dX1_toldLeft_13 : decode cX1_toldLeft 13 = .ok (.idiv, 1) := by decide +kernel
theorem dX1_toldLeft_14 : decode cX1_toldLeft 14 = .ok (.ireturn, 1) := by decide +kernel
theorem dX1_allToner_0 : decode cX1_allToner 0 = .ok (.iconst 0, 1) := by decide +kernel
theorem dX1_allToner_1 : decode cX1_allToner 1 = .ok (.istore_n 1, 1) := by decide +kernel
theorem dX1_allToner_2 : decode cX1_allToner 2 = .ok (.iconst 0, 1) := by decide +kernel
theorem dX1_allToner_3 : decode cX1_allToner 3 = .ok (.istore_n 2, 1) := by decide +kernel
theorem dX1_allToner_4 : decode cX1_allToner 4 = .ok (.iload_n 2, 1) := by decide +kernel
theorem dX1_allToner_5 : decode cX1_allToner 5 = .ok (.iconst 4, 1) := by decide +kernel
theorem dX1_allToner_6 : decode cX1_allToner 6 = .ok (.if_icmp .ge 17, 3) := by decide +kernel
theorem dX1_allToner_9 : decode cX1_allToner 9 = .ok (.iload_n 1, 1) := by decide +kernel
theorem dX1_allToner_10 : decode cX1_allToner 10 = .ok (.aload_n 0, 1) := by decide +kernel
theorem dX1_allToner_11 : decode cX1_allToner 11 = .ok (.iload_n 2, 1) := by decide +kernel
theorem dX1_allToner_12 : decode cX1_allToner 12 = .ok (.invokevirtual 96, 3) := by decide +kernel
theorem dX1_allToner_15 : decode cX1_allToner 15 = .ok (.iadd, 1) := by decide +kernel
theorem dX1_allToner_16 : decode cX1_allToner 16 = .ok (.istore_n 1, 1) := by decide +kernel
theorem dX1_allToner_17 : decode cX1_allToner 17 = .ok (.iinc 2 1, 3) := by decide +kernel
theorem dX1_allToner_20 : decode cX1_allToner 20 = .ok (.goto (-16), 3) := by decide +kernel
theorem dX1_allToner_23 : decode cX1_allToner 23 = .ok (.iload_n 1, 1) := by decide +kernel
theorem dX1_allToner_24 : decode cX1_allToner 24 = .ok (.ireturn, 1) := by decide +kernel
theorem dX1_allToldLeft_0 : decode cX1_allToldLeft 0 = .ok (.iconst 0, 1) := by decide +kernel
theorem dX1_allToldLeft_1 : decode cX1_allToldLeft 1 = .ok (.istore_n 1, 1) := by decide +kernel
theorem dX1_allToldLeft_2 : decode cX1_allToldLeft 2 = .ok (.iconst 0, 1) := by decide +kernel
theorem dX1_allToldLeft_3 : decode cX1_allToldLeft 3 = .ok (.istore_n 2, 1) := by decide +kernel
theorem dX1_allToldLeft_4 : decode cX1_allToldLeft 4 = .ok (.iload_n 2, 1) := by decide +kernel
theorem dX1_allToldLeft_5 : decode cX1_allToldLeft 5 = .ok (.iconst 4, 1) := by decide +kernel
theorem dX1_allToldLeft_6 : decode cX1_allToldLeft 6 = .ok (.if_icmp .ge 17, 3) := by decide +kernel
theorem dX1_allToldLeft_9 : decode cX1_allToldLeft 9 = .ok (.iload_n 1, 1) := by decide +kernel
theorem dX1_allToldLeft_10 : decode cX1_allToldLeft 10 = .ok (.aload_n 0, 1) := by decide +kernel
theorem dX1_allToldLeft_11 : decode cX1_allToldLeft 11 = .ok (.iload_n 2, 1) := by decide +kernel
theorem dX1_allToldLeft_12 : decode cX1_allToldLeft 12 = .ok (.invokevirtual 102, 3) := by decide +kernel
theorem dX1_allToldLeft_15 : decode cX1_allToldLeft 15 = .ok (.iadd, 1) := by decide +kernel
theorem dX1_allToldLeft_16 : decode cX1_allToldLeft 16 = .ok (.istore_n 1, 1) := by decide +kernel
theorem dX1_allToldLeft_17 : decode cX1_allToldLeft 17 = .ok (.iinc 2 1, 3) := by decide +kernel
theorem dX1_allToldLeft_20 : decode cX1_allToldLeft 20 = .ok (.goto (-16), 3) := by decide +kernel
theorem dX1_allToldLeft_23 : decode cX1_allToldLeft 23 = .ok (.iload_n 1, 1) := by decide +kernel
theorem dX1_allToldLeft_24 : decode cX1_allToldLeft 24 = .ok (.ireturn, 1) := by decide +kernel
theorem dX1_cupsOvertold_0 : decode cX1_cupsOvertold 0 = .ok (.iconst 0, 1) := by decide +kernel
theorem dX1_cupsOvertold_1 : decode cX1_cupsOvertold 1 = .ok (.istore_n 1, 1) := by decide +kernel
theorem dX1_cupsOvertold_2 : decode cX1_cupsOvertold 2 = .ok (.iconst 0, 1) := by decide +kernel
theorem dX1_cupsOvertold_3 : decode cX1_cupsOvertold 3 = .ok (.istore_n 2, 1) := by decide +kernel
theorem dX1_cupsOvertold_4 : decode cX1_cupsOvertold 4 = .ok (.iload_n 2, 1) := by decide +kernel
theorem dX1_cupsOvertold_5 : decode cX1_cupsOvertold 5 = .ok (.iconst 4, 1) := by decide +kernel
theorem dX1_cupsOvertold_6 : decode cX1_cupsOvertold 6 = .ok (.if_icmp .ge 25, 3) := by decide +kernel
theorem dX1_cupsOvertold_9 : decode cX1_cupsOvertold 9 = .ok (.aload_n 0, 1) := by decide +kernel
theorem dX1_cupsOvertold_10 : decode cX1_cupsOvertold 10 = .ok (.iload_n 2, 1) := by decide +kernel
theorem dX1_cupsOvertold_11 : decode cX1_cupsOvertold 11 = .ok (.invokevirtual 102, 3) := by decide +kernel
theorem dX1_cupsOvertold_14 : decode cX1_cupsOvertold 14 = .ok (.aload_n 0, 1) := by decide +kernel
theorem dX1_cupsOvertold_15 : decode cX1_cupsOvertold 15 = .ok (.iload_n 2, 1) := by decide +kernel
theorem dX1_cupsOvertold_16 : decode cX1_cupsOvertold 16 = .ok (.invokevirtual 96, 3) := by decide +kernel
theorem dX1_cupsOvertold_19 : decode cX1_cupsOvertold 19 = .ok (.if_icmp .le 6, 3) := by decide +kernel
theorem dX1_cupsOvertold_22 : decode cX1_cupsOvertold 22 = .ok (.iinc 1 1, 3) := by decide +kernel
theorem dX1_cupsOvertold_25 : decode cX1_cupsOvertold 25 = .ok (.iinc 2 1, 3) := by decide +kernel
theorem dX1_cupsOvertold_28 : decode cX1_cupsOvertold 28 = .ok (.goto (-24), 3) := by decide +kernel
theorem dX1_cupsOvertold_31 : decode cX1_cupsOvertold 31 = .ok (.iload_n 1, 1) := by decide +kernel
theorem dX1_cupsOvertold_32 : decode cX1_cupsOvertold 32 = .ok (.ireturn, 1) := by decide +kernel
theorem dX1_cupsInside_0 : decode cX1_cupsInside 0 = .ok (.iconst 0, 1) := by decide +kernel
theorem dX1_cupsInside_1 : decode cX1_cupsInside 1 = .ok (.istore_n 1, 1) := by decide +kernel
theorem dX1_cupsInside_2 : decode cX1_cupsInside 2 = .ok (.iconst 0, 1) := by decide +kernel
theorem dX1_cupsInside_3 : decode cX1_cupsInside 3 = .ok (.istore_n 2, 1) := by decide +kernel
theorem dX1_cupsInside_4 : decode cX1_cupsInside 4 = .ok (.iload_n 2, 1) := by decide +kernel
theorem dX1_cupsInside_5 : decode cX1_cupsInside 5 = .ok (.iconst 2, 1) := by decide +kernel
theorem dX1_cupsInside_6 : decode cX1_cupsInside 6 = .ok (.if_icmp .ge 24, 3) := by decide +kernel
theorem dX1_cupsInside_9 : decode cX1_cupsInside 9 = .ok (.aload_n 0, 1) := by decide +kernel
theorem dX1_cupsInside_10 : decode cX1_cupsInside 10 = .ok (.getfield 27, 3) := by decide +kernel
theorem dX1_cupsInside_13 : decode cX1_cupsInside 13 = .ok (.iload_n 2, 1) := by decide +kernel
theorem dX1_cupsInside_14 : decode cX1_cupsInside 14 = .ok (.iaload, 1) := by decide +kernel
theorem dX1_cupsInside_15 : decode cX1_cupsInside 15 = .ok (.invokestatic 65, 3) := by decide +kernel
theorem dX1_cupsInside_18 : decode cX1_cupsInside 18 = .ok (.ifCond .eq 6, 3) := by decide +kernel
theorem dX1_cupsInside_21 : decode cX1_cupsInside 21 = .ok (.iinc 1 1, 3) := by decide +kernel
theorem dX1_cupsInside_24 : decode cX1_cupsInside 24 = .ok (.iinc 2 1, 3) := by decide +kernel
theorem dX1_cupsInside_27 : decode cX1_cupsInside 27 = .ok (.goto (-23), 3) := by decide +kernel
theorem dX1_cupsInside_30 : decode cX1_cupsInside 30 = .ok (.iload_n 1, 1) := by decide +kernel
theorem dX1_cupsInside_31 : decode cX1_cupsInside 31 = .ok (.ireturn, 1) := by decide +kernel
theorem dX1_darkOfAll_0 : decode cX1_darkOfAll 0 = .ok (.aload_n 0, 1) := by decide +kernel
theorem dX1_darkOfAll_1 : decode cX1_darkOfAll 1 = .ok (.getfield 30, 3) := by decide +kernel
theorem dX1_darkOfAll_4 : decode cX1_darkOfAll 4 = .ok (.iconst 0, 1) := by decide +kernel
theorem dX1_darkOfAll_5 : decode cX1_darkOfAll 5 = .ok (.iaload, 1) := by decide +kernel
theorem dX1_darkOfAll_6 : decode cX1_darkOfAll 6 = .ok (.aload_n 0, 1) := by decide +kernel
theorem dX1_darkOfAll_7 : decode cX1_darkOfAll 7 = .ok (.getfield 30, 3) := by decide +kernel
theorem dX1_darkOfAll_10 : decode cX1_darkOfAll 10 = .ok (.iconst 1, 1) := by decide +kernel
theorem dX1_darkOfAll_11 : decode cX1_darkOfAll 11 = .ok (.iaload, 1) := by decide +kernel
theorem dX1_darkOfAll_12 : decode cX1_darkOfAll 12 = .ok (.iadd, 1) := by decide +kernel
theorem dX1_darkOfAll_13 : decode cX1_darkOfAll 13 = .ok (.ireturn, 1) := by decide +kernel
theorem dX1_lightOfAll_0 : decode cX1_lightOfAll 0 = .ok (.aload_n 0, 1) := by decide +kernel
theorem dX1_lightOfAll_1 : decode cX1_lightOfAll 1 = .ok (.getfield 33, 3) := by decide +kernel
theorem dX1_lightOfAll_4 : decode cX1_lightOfAll 4 = .ok (.iconst 0, 1) := by decide +kernel
theorem dX1_lightOfAll_5 : decode cX1_lightOfAll 5 = .ok (.iaload, 1) := by decide +kernel
theorem dX1_lightOfAll_6 : decode cX1_lightOfAll 6 = .ok (.aload_n 0, 1) := by decide +kernel
theorem dX1_lightOfAll_7 : decode cX1_lightOfAll 7 = .ok (.getfield 33, 3) := by decide +kernel
theorem dX1_lightOfAll_10 : decode cX1_lightOfAll 10 = .ok (.iconst 1, 1) := by decide +kernel
theorem dX1_lightOfAll_11 : decode cX1_lightOfAll 11 = .ok (.iaload, 1) := by decide +kernel
theorem dX1_lightOfAll_12 : decode cX1_lightOfAll 12 = .ok (.iadd, 1) := by decide +kernel
theorem dX1_lightOfAll_13 : decode cX1_lightOfAll 13 = .ok (.ireturn, 1) := by decide +kernel
theorem dX1_pagesLasting_0 : decode cX1_pagesLasting 0 = .ok (.aload_n 0, 1) := by decide +kernel
theorem dX1_pagesLasting_1 : decode cX1_pagesLasting 1 = .ok (.getfield 18, 3) := by decide +kernel
theorem dX1_pagesLasting_4 : decode cX1_pagesLasting 4 = .ok (.iload_n 1, 1) := by decide +kernel
theorem dX1_pagesLasting_5 : decode cX1_pagesLasting 5 = .ok (.iaload, 1) := by decide +kernel
theorem dX1_pagesLasting_6 : decode cX1_pagesLasting 6 = .ok (.istore 5, 2) := by decide +kernel
theorem dX1_pagesLasting_8 : decode cX1_pagesLasting 8 = .ok (.aload_n 0, 1) := by decide +kernel
theorem dX1_pagesLasting_9 : decode cX1_pagesLasting 9 = .ok (.getfield 21, 3) := by decide +kernel
theorem dX1_pagesLasting_12 : decode cX1_pagesLasting 12 = .ok (.iload_n 1, 1) := by decide +kernel
theorem dX1_pagesLasting_13 : decode cX1_pagesLasting 13 = .ok (.iaload, 1) := by decide +kernel
theorem dX1_pagesLasting_14 : decode cX1_pagesLasting 14 = .ok (.istore 6, 2) := by decide +kernel
theorem dX1_pagesLasting_16 : decode cX1_pagesLasting 16 = .ok (.iconst 0, 1) := by decide +kernel
theorem dX1_pagesLasting_17 : decode cX1_pagesLasting 17 = .ok (.istore 7, 2) := by decide +kernel
theorem dX1_pagesLasting_19 : decode cX1_pagesLasting 19 = .ok (.iload 7, 2) := by decide +kernel
theorem dX1_pagesLasting_21 : decode cX1_pagesLasting 21 = .ok (.iload 4, 2) := by decide +kernel
theorem dX1_pagesLasting_23 : decode cX1_pagesLasting 23 = .ok (.if_icmp .ge 99, 3) := by decide +kernel
theorem dX1_pagesLasting_26 : decode cX1_pagesLasting 26 = .ok (.iload_n 3, 1) := by decide +kernel
theorem dX1_pagesLasting_27 : decode cX1_pagesLasting 27 = .ok (.ifCond .eq 44, 3) := by decide +kernel
theorem dX1_pagesLasting_30 : decode cX1_pagesLasting 30 = .ok (.iload 5, 2) := by decide +kernel
theorem dX1_pagesLasting_32 : decode cX1_pagesLasting 32 = .ok (.iload_n 2, 1) := by decide +kernel
theorem dX1_pagesLasting_33 : decode cX1_pagesLasting 33 = .ok (.invokestatic 105, 3) := by decide +kernel
theorem dX1_pagesLasting_36 : decode cX1_pagesLasting 36 = .ok (.ifCond .ne 35, 3) := by decide +kernel
theorem dX1_pagesLasting_39 : decode cX1_pagesLasting 39 = .ok (.iload 5, 2) := by decide +kernel
theorem dX1_pagesLasting_41 : decode cX1_pagesLasting 41 = .ok (.iload 6, 2) := by decide +kernel
theorem dX1_pagesLasting_43 : decode cX1_pagesLasting 43 = .ok (.iconst 2, 1) := by decide +kernel
theorem dX1_pagesLasting_44 : decode cX1_pagesLasting 44 = .ok (.idiv, 1) := by decide +kernel
theorem dX1_pagesLasting_45 : decode cX1_pagesLasting 45 = .ok (.iadd, 1) := by decide +kernel
theorem dX1_pagesLasting_46 : decode cX1_pagesLasting 46 = .ok (.iload_n 2, 1) := by decide +kernel
theorem dX1_pagesLasting_47 : decode cX1_pagesLasting 47 = .ok (.invokestatic 105, 3) := by decide +kernel
theorem dX1_pagesLasting_50 : decode cX1_pagesLasting 50 = .ok (.ifCond .eq 21, 3) := by decide +kernel
theorem dX1_pagesLasting_53 : decode cX1_pagesLasting 53 = .ok (.iload 5, 2) := by decide +kernel
theorem dX1_pagesLasting_55 : decode cX1_pagesLasting 55 = .ok (.iload 6, 2) := by decide +kernel
theorem dX1_pagesLasting_57 : decode cX1_pagesLasting 57 = .ok (.iconst 2, 1) := by decide +kernel
theorem dX1_pagesLasting_58 : decode cX1_pagesLasting 58 = .ok (.idiv, 1) := by decide +kernel
theorem dX1_pagesLasting_59 : decode cX1_pagesLasting 59 = .ok (.iadd, 1) := by decide +kernel
theorem dX1_pagesLasting_60 : decode cX1_pagesLasting 60 = .ok (.istore 5, 2) := by decide +kernel
theorem dX1_pagesLasting_62 : decode cX1_pagesLasting 62 = .ok (.iload 6, 2) := by decide +kernel
theorem dX1_pagesLasting_64 : decode cX1_pagesLasting 64 = .ok (.iload 6, 2) := by decide +kernel
theorem dX1_pagesLasting_66 : decode cX1_pagesLasting 66 = .ok (.iconst 2, 1) := by decide +kernel
theorem dX1_pagesLasting_67 : decode cX1_pagesLasting 67 = .ok (.idiv, 1) := by decide +kernel
theorem dX1_pagesLasting_68 : decode cX1_pagesLasting 68 = .ok (.isub, 1) := by decide +kernel
theorem dX1_pagesLasting_69 : decode cX1_pagesLasting 69 = .ok (.istore 6, 2) := by decide +kernel
theorem dX1_pagesLasting_71 : decode cX1_pagesLasting 71 = .ok (.iload 5, 2) := by decide +kernel
theorem dX1_pagesLasting_73 : decode cX1_pagesLasting 73 = .ok (.iload_n 2, 1) := by decide +kernel
theorem dX1_pagesLasting_74 : decode cX1_pagesLasting 74 = .ok (.invokestatic 105, 3) := by decide +kernel
theorem dX1_pagesLasting_77 : decode cX1_pagesLasting 77 = .ok (.ifCond .ne 6, 3) := by decide +kernel
theorem dX1_pagesLasting_80 : decode cX1_pagesLasting 80 = .ok (.iload 7, 2) := by decide +kernel
theorem dX1_pagesLasting_82 : decode cX1_pagesLasting 82 = .ok (.ireturn, 1) := by decide +kernel
theorem dX1_pagesLasting_83 : decode cX1_pagesLasting 83 = .ok (.iload 5, 2) := by decide +kernel
theorem dX1_pagesLasting_85 : decode cX1_pagesLasting 85 = .ok (.iload_n 2, 1) := by decide +kernel
theorem dX1_pagesLasting_86 : decode cX1_pagesLasting 86 = .ok (.isub, 1) := by decide +kernel
theorem dX1_pagesLasting_87 : decode cX1_pagesLasting 87 = .ok (.istore 5, 2) := by decide +kernel
theorem dX1_pagesLasting_89 : decode cX1_pagesLasting 89 = .ok (.iload 5, 2) := by decide +kernel
theorem dX1_pagesLasting_91 : decode cX1_pagesLasting 91 = .ok (.aload_n 0, 1) := by decide +kernel
theorem dX1_pagesLasting_92 : decode cX1_pagesLasting 92 = .ok (.getfield 9, 3) := by decide +kernel
theorem dX1_pagesLasting_95 : decode cX1_pagesLasting 95 = .ok (.iconst 1, 1) := by decide +kernel
theorem dX1_pagesLasting_96 : decode cX1_pagesLasting 96 = .ok (.iaload, 1) := by decide +kernel
theorem dX1_pagesLasting_97 : decode cX1_pagesLasting 97 = .ok (.invokestatic 84, 3) := by decide +kernel
theorem dX1_pagesLasting_100 : decode cX1_pagesLasting 100 = .ok (.istore 8, 2) := by decide +kernel
theorem dX1_pagesLasting_102 : decode cX1_pagesLasting 102 = .ok (.iload 5, 2) := by decide +kernel
theorem dX1_pagesLasting_104 : decode cX1_pagesLasting 104 = .ok (.iload 8, 2) := by decide +kernel
theorem dX1_pagesLasting_106 : decode cX1_pagesLasting 106 = .ok (.isub, 1) := by decide +kernel
theorem dX1_pagesLasting_107 : decode cX1_pagesLasting 107 = .ok (.istore 5, 2) := by decide +kernel
theorem dX1_pagesLasting_109 : decode cX1_pagesLasting 109 = .ok (.iload 6, 2) := by decide +kernel
theorem dX1_pagesLasting_111 : decode cX1_pagesLasting 111 = .ok (.iload 8, 2) := by decide +kernel
theorem dX1_pagesLasting_113 : decode cX1_pagesLasting 113 = .ok (.iadd, 1) := by decide +kernel
theorem dX1_pagesLasting_114 : decode cX1_pagesLasting 114 = .ok (.istore 6, 2) := by decide +kernel
theorem dX1_pagesLasting_116 : decode cX1_pagesLasting 116 = .ok (.iinc 7 1, 3) := by decide +kernel
theorem dX1_pagesLasting_119 : decode cX1_pagesLasting 119 = .ok (.goto (-100), 3) := by decide +kernel
theorem dX1_pagesLasting_122 : decode cX1_pagesLasting 122 = .ok (.iload 4, 2) := by decide +kernel
theorem dX1_pagesLasting_124 : decode cX1_pagesLasting 124 = .ok (.ireturn, 1) := by decide +kernel
theorem dX1_lastsShaken_0 : decode cX1_lastsShaken 0 = .ok (.aload_n 0, 1) := by decide +kernel
theorem dX1_lastsShaken_1 : decode cX1_lastsShaken 1 = .ok (.iload_n 1, 1) := by decide +kernel
theorem dX1_lastsShaken_2 : decode cX1_lastsShaken 2 = .ok (.aload_n 0, 1) := by decide +kernel
theorem dX1_lastsShaken_3 : decode cX1_lastsShaken 3 = .ok (.iload_n 1, 1) := by decide +kernel
theorem dX1_lastsShaken_4 : decode cX1_lastsShaken 4 = .ok (.iload_n 2, 1) := by decide +kernel
theorem dX1_lastsShaken_5 : decode cX1_lastsShaken 5 = .ok (.iload_n 3, 1) := by decide +kernel
theorem dX1_lastsShaken_6 : decode cX1_lastsShaken 6 = .ok (.invokevirtual 61, 3) := by decide +kernel
theorem dX1_lastsShaken_9 : decode cX1_lastsShaken 9 = .ok (.iconst 1, 1) := by decide +kernel
theorem dX1_lastsShaken_10 : decode cX1_lastsShaken 10 = .ok (.iload 4, 2) := by decide +kernel
theorem dX1_lastsShaken_12 : decode cX1_lastsShaken 12 = .ok (.invokevirtual 109, 3) := by decide +kernel
theorem dX1_lastsShaken_15 : decode cX1_lastsShaken 15 = .ok (.iload 4, 2) := by decide +kernel
theorem dX1_lastsShaken_17 : decode cX1_lastsShaken 17 = .ok (.if_icmp .lt 7, 3) := by decide +kernel
theorem dX1_lastsShaken_20 : decode cX1_lastsShaken 20 = .ok (.iconst 1, 1) := by decide +kernel
theorem dX1_lastsShaken_21 : decode cX1_lastsShaken 21 = .ok (.goto 4, 3) := by decide +kernel
theorem dX1_lastsShaken_24 : decode cX1_lastsShaken 24 = .ok (.iconst 0, 1) := by decide +kernel
theorem dX1_lastsShaken_25 : decode cX1_lastsShaken 25 = .ok (.ireturn, 1) := by decide +kernel
theorem dX1_wouldBeDark_0 : decode cX1_wouldBeDark 0 = .ok (.iload_n 0, 1) := by decide +kernel
theorem dX1_wouldBeDark_1 : decode cX1_wouldBeDark 1 = .ok (.ifCond .le 12, 3) := by decide +kernel
theorem dX1_wouldBeDark_4 : decode cX1_wouldBeDark 4 = .ok (.iload_n 0, 1) := by decide +kernel
theorem dX1_wouldBeDark_5 : decode cX1_wouldBeDark 5 = .ok (.iload_n 1, 1) := by decide +kernel
theorem dX1_wouldBeDark_6 : decode cX1_wouldBeDark 6 = .ok (.if_icmp .lt 7, 3) := by decide +kernel
theorem dX1_wouldBeDark_9 : decode cX1_wouldBeDark 9 = .ok (.iconst 1, 1) := by decide +kernel
theorem dX1_wouldBeDark_10 : decode cX1_wouldBeDark 10 = .ok (.goto 4, 3) := by decide +kernel
theorem dX1_wouldBeDark_13 : decode cX1_wouldBeDark 13 = .ok (.iconst 0, 1) := by decide +kernel
theorem dX1_wouldBeDark_14 : decode cX1_wouldBeDark 14 = .ok (.ireturn, 1) := by decide +kernel
theorem dX1_handPageByPage_0 : decode cX1_handPageByPage 0 = .ok (.aload_n 0, 1) := by decide +kernel
theorem dX1_handPageByPage_1 : decode cX1_handPageByPage 1 = .ok (.getfield 18, 3) := by decide +kernel
theorem dX1_handPageByPage_4 : decode cX1_handPageByPage 4 = .ok (.iload_n 1, 1) := by decide +kernel
theorem dX1_handPageByPage_5 : decode cX1_handPageByPage 5 = .ok (.iaload, 1) := by decide +kernel
theorem dX1_handPageByPage_6 : decode cX1_handPageByPage 6 = .ok (.istore 4, 2) := by decide +kernel
theorem dX1_handPageByPage_8 : decode cX1_handPageByPage 8 = .ok (.iconst 0, 1) := by decide +kernel
theorem dX1_handPageByPage_9 : decode cX1_handPageByPage 9 = .ok (.istore 5, 2) := by decide +kernel
theorem dX1_handPageByPage_11 : decode cX1_handPageByPage 11 = .ok (.iload 5, 2) := by decide +kernel
theorem dX1_handPageByPage_13 : decode cX1_handPageByPage 13 = .ok (.iload_n 3, 1) := by decide +kernel
theorem dX1_handPageByPage_14 : decode cX1_handPageByPage 14 = .ok (.if_icmp .ge 31, 3) := by decide +kernel
theorem dX1_handPageByPage_17 : decode cX1_handPageByPage 17 = .ok (.iload 4, 2) := by decide +kernel
theorem dX1_handPageByPage_19 : decode cX1_handPageByPage 19 = .ok (.iload_n 2, 1) := by decide +kernel
theorem dX1_handPageByPage_20 : decode cX1_handPageByPage 20 = .ok (.isub, 1) := by decide +kernel
theorem dX1_handPageByPage_21 : decode cX1_handPageByPage 21 = .ok (.istore 4, 2) := by decide +kernel
theorem dX1_handPageByPage_23 : decode cX1_handPageByPage 23 = .ok (.iload 4, 2) := by decide +kernel
theorem dX1_handPageByPage_25 : decode cX1_handPageByPage 25 = .ok (.iload 4, 2) := by decide +kernel
theorem dX1_handPageByPage_27 : decode cX1_handPageByPage 27 = .ok (.aload_n 0, 1) := by decide +kernel
theorem dX1_handPageByPage_28 : decode cX1_handPageByPage 28 = .ok (.getfield 9, 3) := by decide +kernel
theorem dX1_handPageByPage_31 : decode cX1_handPageByPage 31 = .ok (.iconst 1, 1) := by decide +kernel
theorem dX1_handPageByPage_32 : decode cX1_handPageByPage 32 = .ok (.iaload, 1) := by decide +kernel
theorem dX1_handPageByPage_33 : decode cX1_handPageByPage 33 = .ok (.invokestatic 84, 3) := by decide +kernel
theorem dX1_handPageByPage_36 : decode cX1_handPageByPage 36 = .ok (.isub, 1) := by decide +kernel
theorem dX1_handPageByPage_37 : decode cX1_handPageByPage 37 = .ok (.istore 4, 2) := by decide +kernel
theorem dX1_handPageByPage_39 : decode cX1_handPageByPage 39 = .ok (.iinc 5 1, 3) := by decide +kernel
theorem dX1_handPageByPage_42 : decode cX1_handPageByPage 42 = .ok (.goto (-31), 3) := by decide +kernel
theorem dX1_handPageByPage_45 : decode cX1_handPageByPage 45 = .ok (.iload 4, 2) := by decide +kernel
theorem dX1_handPageByPage_47 : decode cX1_handPageByPage 47 = .ok (.ireturn, 1) := by decide +kernel
theorem dX1_handAddedUp_0 : decode cX1_handAddedUp 0 = .ok (.aload_n 0, 1) := by decide +kernel
theorem dX1_handAddedUp_1 : decode cX1_handAddedUp 1 = .ok (.getfield 18, 3) := by decide +kernel
theorem dX1_handAddedUp_4 : decode cX1_handAddedUp 4 = .ok (.iload_n 1, 1) := by decide +kernel
theorem dX1_handAddedUp_5 : decode cX1_handAddedUp 5 = .ok (.iaload, 1) := by decide +kernel
theorem dX1_handAddedUp_6 : decode cX1_handAddedUp 6 = .ok (.istore 4, 2) := by decide +kernel
theorem dX1_handAddedUp_8 : decode cX1_handAddedUp 8 = .ok (.iconst 0, 1) := by decide +kernel
theorem dX1_handAddedUp_9 : decode cX1_handAddedUp 9 = .ok (.istore 5, 2) := by decide +kernel
theorem dX1_handAddedUp_11 : decode cX1_handAddedUp 11 = .ok (.iconst 0, 1) := by decide +kernel
theorem dX1_handAddedUp_12 : decode cX1_handAddedUp 12 = .ok (.istore 6, 2) := by decide +kernel
theorem dX1_handAddedUp_14 : decode cX1_handAddedUp 14 = .ok (.iconst 0, 1) := by decide +kernel
theorem dX1_handAddedUp_15 : decode cX1_handAddedUp 15 = .ok (.istore 7, 2) := by decide +kernel
theorem dX1_handAddedUp_17 : decode cX1_handAddedUp 17 = .ok (.iload 7, 2) := by decide +kernel
theorem dX1_handAddedUp_19 : decode cX1_handAddedUp 19 = .ok (.iload_n 3, 1) := by decide +kernel
theorem dX1_handAddedUp_20 : decode cX1_handAddedUp 20 = .ok (.if_icmp .ge 37, 3) := by decide +kernel
theorem dX1_handAddedUp_23 : decode cX1_handAddedUp 23 = .ok (.iload 5, 2) := by decide +kernel
theorem dX1_handAddedUp_25 : decode cX1_handAddedUp 25 = .ok (.iload_n 2, 1) := by decide +kernel
theorem dX1_handAddedUp_26 : decode cX1_handAddedUp 26 = .ok (.iadd, 1) := by decide +kernel
theorem dX1_handAddedUp_27 : decode cX1_handAddedUp 27 = .ok (.istore 5, 2) := by decide +kernel
theorem dX1_handAddedUp_29 : decode cX1_handAddedUp 29 = .ok (.iload 6, 2) := by decide +kernel
theorem dX1_handAddedUp_31 : decode cX1_handAddedUp 31 = .ok (.iload 4, 2) := by decide +kernel
theorem dX1_handAddedUp_33 : decode cX1_handAddedUp 33 = .ok (.iload 5, 2) := by decide +kernel
theorem dX1_handAddedUp_35 : decode cX1_handAddedUp 35 = .ok (.isub, 1) := by decide +kernel
theorem dX1_handAddedUp_36 : decode cX1_handAddedUp 36 = .ok (.iload 6, 2) := by decide +kernel
theorem dX1_handAddedUp_38 : decode cX1_handAddedUp 38 = .ok (.isub, 1) := by decide +kernel
theorem dX1_handAddedUp_39 : decode cX1_handAddedUp 39 = .ok (.aload_n 0, 1) := by decide +kernel
theorem dX1_handAddedUp_40 : decode cX1_handAddedUp 40 = .ok (.getfield 9, 3) := by decide +kernel
theorem dX1_handAddedUp_43 : decode cX1_handAddedUp 43 = .ok (.iconst 1, 1) := by decide +kernel
theorem dX1_handAddedUp_44 : decode cX1_handAddedUp 44 = .ok (.iaload, 1) := by decide +kernel
theorem dX1_handAddedUp_45 : decode cX1_handAddedUp 45 = .ok (.invokestatic 84, 3) := by decide +kernel
theorem dX1_handAddedUp_48 : decode cX1_handAddedUp 48 = .ok (.iadd, 1) := by decide +kernel
theorem dX1_handAddedUp_49 : decode cX1_handAddedUp 49 = .ok (.istore 6, 2) := by decide +kernel
theorem dX1_handAddedUp_51 : decode cX1_handAddedUp 51 = .ok (.iinc 7 1, 3) := by decide +kernel
theorem dX1_handAddedUp_54 : decode cX1_handAddedUp 54 = .ok (.goto (-37), 3) := by decide +kernel
theorem dX1_handAddedUp_57 : decode cX1_handAddedUp 57 = .ok (.iload 4, 2) := by decide +kernel
theorem dX1_handAddedUp_59 : decode cX1_handAddedUp 59 = .ok (.iload 5, 2) := by decide +kernel
theorem dX1_handAddedUp_61 : decode cX1_handAddedUp 61 = .ok (.isub, 1) := by decide +kernel
theorem dX1_handAddedUp_62 : decode cX1_handAddedUp 62 = .ok (.iload 6, 2) := by decide +kernel
theorem dX1_handAddedUp_64 : decode cX1_handAddedUp 64 = .ok (.isub, 1) := by decide +kernel
theorem dX1_handAddedUp_65 : decode cX1_handAddedUp 65 = .ok (.ireturn, 1) := by decide +kernel
theorem dX2_init_0 : decode cX2_init 0 = .ok (.aload_n 0, 1) := by decide +kernel
theorem dX2_init_1 : decode cX2_init 1 = .ok (.invokespecial 3, 3) := by decide +kernel
theorem dX2_init_4 : decode cX2_init 4 = .ok (.aload_n 0, 1) := by decide +kernel
theorem dX2_init_5 : decode cX2_init 5 = .ok (.bipush 60, 2) := by decide +kernel
theorem dX2_init_7 : decode cX2_init 7 = .ok (.newarray .char, 2) := by decide +kernel
theorem dX2_init_9 : decode cX2_init 9 = .ok (.putfield 11, 3) := by decide +kernel
theorem dX2_init_12 : decode cX2_init 12 = .ok (.aload_n 0, 1) := by decide +kernel
theorem dX2_init_13 : decode cX2_init 13 = .ok (.iconst 0, 1) := by decide +kernel
theorem dX2_init_14 : decode cX2_init 14 = .ok (.putfield 15, 3) := by decide +kernel
theorem dX2_init_17 : decode cX2_init 17 = .ok (.aload_n 0, 1) := by decide +kernel
theorem dX2_init_18 : decode cX2_init 18 = .ok (.iconst 0, 1) := by decide +kernel
theorem dX2_init_19 : decode cX2_init 19 = .ok (.putfield 19, 3) := by decide +kernel
theorem dX2_init_22 : decode cX2_init 22 = .ok (.aload_n 0, 1) := by decide +kernel
theorem dX2_init_23 : decode cX2_init 23 = .ok (.iconst 0, 1) := by decide +kernel
theorem dX2_init_24 : decode cX2_init 24 = .ok (.putfield 22, 3) := by decide +kernel
theorem dX2_init_27 : decode cX2_init 27 = .ok (.aload_n 0, 1) := by decide +kernel
theorem dX2_init_28 : decode cX2_init 28 = .ok (.bipush 30, 2) := by decide +kernel
theorem dX2_init_30 : decode cX2_init 30 = .ok (.newarray .char, 2) := by decide +kernel
theorem dX2_init_32 : decode cX2_init 32 = .ok (.putfield 25, 3) := by decide +kernel
theorem dX2_init_35 : decode cX2_init 35 = .ok (.aload_n 0, 1) := by decide +kernel
theorem dX2_init_36 : decode cX2_init 36 = .ok (.bipush 30, 2) := by decide +kernel
theorem dX2_init_38 : decode cX2_init 38 = .ok (.newarray .int, 2) := by decide +kernel
theorem dX2_init_40 : decode cX2_init 40 = .ok (.putfield 28, 3) := by decide +kernel
theorem dX2_init_43 : decode cX2_init 43 = .ok (.aload_n 0, 1) := by decide +kernel
theorem dX2_init_44 : decode cX2_init 44 = .ok (.bipush 30, 2) := by decide +kernel
theorem dX2_init_46 : decode cX2_init 46 = .ok (.newarray .int, 2) := by decide +kernel
theorem dX2_init_48 : decode cX2_init 48 = .ok (.putfield 32, 3) := by decide +kernel
theorem dX2_init_51 : decode cX2_init 51 = .ok (.aload_n 0, 1) := by decide +kernel
theorem dX2_init_52 : decode cX2_init 52 = .ok (.bipush 30, 2) := by decide +kernel
theorem dX2_init_54 : decode cX2_init 54 = .ok (.newarray .int, 2) := by decide +kernel
theorem dX2_init_56 : decode cX2_init 56 = .ok (.putfield 35, 3) := by decide +kernel
theorem dX2_init_59 : decode cX2_init 59 = .ok (.aload_n 0, 1) := by decide +kernel
theorem dX2_init_60 : decode cX2_init 60 = .ok (.bipush 30, 2) := by decide +kernel
theorem dX2_init_62 : decode cX2_init 62 = .ok (.newarray .int, 2) := by decide +kernel
theorem dX2_init_64 : decode cX2_init 64 = .ok (.putfield 38, 3) := by decide +kernel
theorem dX2_init_67 : decode cX2_init 67 = .ok (.return_, 1) := by decide +kernel
theorem dX2_hasRoom_0 : decode cX2_hasRoom 0 = .ok (.aload_n 0, 1) := by decide +kernel
theorem dX2_hasRoom_1 : decode cX2_hasRoom 1 = .ok (.getfield 15, 3) := by decide +kernel
theorem dX2_hasRoom_4 : decode cX2_hasRoom 4 = .ok (.bipush 60, 2) := by decide +kernel
theorem dX2_hasRoom_6 : decode cX2_hasRoom 6 = .ok (.if_icmp .ge 7, 3) := by decide +kernel
theorem dX2_hasRoom_9 : decode cX2_hasRoom 9 = .ok (.iconst 1, 1) := by decide +kernel
theorem dX2_hasRoom_10 : decode cX2_hasRoom 10 = .ok (.goto 4, 3) := by decide +kernel
theorem dX2_hasRoom_13 : decode cX2_hasRoom 13 = .ok (.iconst 0, 1) := by decide +kernel
theorem dX2_hasRoom_14 : decode cX2_hasRoom 14 = .ok (.ireturn, 1) := by decide +kernel
theorem dX2_add_0 : decode cX2_add 0 = .ok (.aload_n 0, 1) := by decide +kernel
theorem dX2_add_1 : decode cX2_add 1 = .ok (.invokevirtual 41, 3) := by decide +kernel
theorem dX2_add_4 : decode cX2_add 4 = .ok (.ifCond .eq 23, 3) := by decide +kernel
theorem dX2_add_7 : decode cX2_add 7 = .ok (.aload_n 0, 1) := by decide +kernel
theorem dX2_add_8 : decode cX2_add 8 = .ok (.getfield 11, 3) := by decide +kernel
theorem dX2_add_11 : decode cX2_add 11 = .ok (.aload_n 0, 1) := by decide +kernel
theorem dX2_add_12 : decode cX2_add 12 = .ok (.getfield 15, 3) := by decide +kernel
theorem dX2_add_15 : decode cX2_add 15 = .ok (.iload_n 1, 1) := by decide +kernel
theorem dX2_add_16 : decode cX2_add 16 = .ok (.castore, 1) := by decide +kernel
theorem dX2_add_17 : decode cX2_add 17 = .ok (.aload_n 0, 1) := by decide +kernel
theorem dX2_add_18 : decode cX2_add 18 = .ok (.dup, 1) := by decide +kernel
theorem dX2_add_19 : decode cX2_add 19 = .ok (.getfield 15, 3) := by decide +kernel
theorem dX2_add_22 : decode cX2_add 22 = .ok (.iconst 1, 1) := by decide +kernel
theorem dX2_add_23 : decode cX2_add 23 = .ok (.iadd, 1) := by decide +kernel
theorem dX2_add_24 : decode cX2_add 24 = .ok (.putfield 15, 3) := by decide +kernel
theorem dX2_add_27 : decode cX2_add 27 = .ok (.return_, 1) := by decide +kernel
theorem dX2_wipe_0 : decode cX2_wipe 0 = .ok (.aload_n 0, 1) := by decide +kernel
theorem dX2_wipe_1 : decode cX2_wipe 1 = .ok (.iconst 0, 1) := by decide +kernel
theorem dX2_wipe_2 : decode cX2_wipe 2 = .ok (.putfield 15, 3) := by decide +kernel
theorem dX2_wipe_5 : decode cX2_wipe 5 = .ok (.return_, 1) := by decide +kernel
theorem dX2_findFault_0 : decode cX2_findFault 0 = .ok (.aload_n 0, 1) := by decide +kernel
theorem dX2_findFault_1 : decode cX2_findFault 1 = .ok (.iconst 0, 1) := by decide +kernel
theorem dX2_findFault_2 : decode cX2_findFault 2 = .ok (.putfield 19, 3) := by decide +kernel
theorem dX2_findFault_5 : decode cX2_findFault 5 = .ok (.aload_n 0, 1) := by decide +kernel
theorem dX2_findFault_6 : decode cX2_findFault 6 = .ok (.iconst 0, 1) := by decide +kernel
theorem dX2_findFault_7 : decode cX2_findFault 7 = .ok (.putfield 22, 3) := by decide +kernel
theorem dX2_findFault_10 : decode cX2_findFault 10 = .ok (.aload_n 0, 1) := by decide +kernel
theorem dX2_findFault_11 : decode cX2_findFault 11 = .ok (.invokevirtual 45, 3) := by decide +kernel
theorem dX2_findFault_14 : decode cX2_findFault 14 = .ok (.istore_n 1, 1) := by decide +kernel
theorem dX2_findFault_15 : decode cX2_findFault 15 = .ok (.iconst 1, 1) := by decide +kernel
theorem dX2_findFault_16 : decode cX2_findFault 16 = .ok (.istore_n 2, 1) := by decide +kernel
theorem dX2_findFault_17 : decode cX2_findFault 17 = .ok (.iload_n 2, 1) := by decide +kernel
theorem dX2_findFault_18 : decode cX2_findFault 18 = .ok (.bipush 30, 2) := by decide +kernel
theorem dX2_findFault_20 : decode cX2_findFault 20 = .ok (.if_icmp .ge 27, 3) := by decide +kernel
theorem dX2_findFault_23 : decode cX2_findFault 23 = .ok (.iload_n 1, 1) := by decide +kernel
theorem dX2_findFault_24 : decode cX2_findFault 24 = .ok (.ifCond .eq 23, 3) := by decide +kernel
theorem dX2_findFault_27 : decode cX2_findFault 27 = .ok (.aload_n 0, 1) := by decide +kernel
theorem dX2_findFault_28 : decode cX2_findFault 28 = .ok (.bipush 59, 2) := by decide +kernel
theorem dX2_findFault_30 : decode cX2_findFault 30 = .ok (.invokevirtual 48, 3) := by decide +kernel
theorem dX2_findFault_33 : decode cX2_findFault 33 = .ok (.ifCond .eq 14, 3) := by decide +kernel
theorem dX2_findFault_36 : decode cX2_findFault 36 = .ok (.aload_n 0, 1) := by decide +kernel
theorem dX2_findFault_37 : decode cX2_findFault 37 = .ok (.invokevirtual 45, 3) := by decide +kernel
theorem dX2_findFault_40 : decode cX2_findFault 40 = .ok (.istore_n 1, 1) := by decide +kernel
theorem dX2_findFault_41 : decode cX2_findFault 41 = .ok (.iinc 2 1, 3) := by decide +kernel
theorem dX2_findFault_44 : decode cX2_findFault 44 = .ok (.goto (-27), 3) := by decide +kernel
theorem dX2_findFault_47 : decode cX2_findFault 47 = .ok (.iload_n 1, 1) := by decide +kernel
theorem dX2_findFault_48 : decode cX2_findFault 48 = .ok (.ifCond .eq 19, 3) := by decide +kernel
theorem dX2_findFault_51 : decode cX2_findFault 51 = .ok (.aload_n 0, 1) := by decide +kernel
theorem dX2_findFault_52 : decode cX2_findFault 52 = .ok (.getfield 19, 3) := by decide +kernel
theorem dX2_findFault_55 : decode cX2_findFault 55 = .ok (.aload_n 0, 1) := by decide +kernel
theorem dX2_findFault_56 : decode cX2_findFault 56 = .ok (.getfield 15, 3) := by decide +kernel
theorem dX2_findFault_59 : decode cX2_findFault 59 = .ok (.if_icmp .ne 8, 3) := by decide +kernel
theorem dX2_findFault_62 : decode cX2_findFault 62 = .ok (.bipush (-4), 2) := by decide +kernel
theorem dX2_findFault_64 : decode cX2_findFault 64 = .ok (.goto 7, 3) := by decide +kernel
theorem dX2_findFault_67 : decode cX2_findFault 67 = .ok (.aload_n 0, 1) := by decide +kernel
theorem dX2_findFault_68 : decode cX2_findFault 68 = .ok (.getfield 19, 3) := by decide +kernel
theorem dX2_findFault_71 : decode cX2_findFault 71 = .ok (.ireturn, 1) := by decide +kernel
theorem dX2_readDeed_0 : decode cX2_readDeed 0 = .ok (.aload_n 0, 1) := by decide +kernel
theorem dX2_readDeed_1 : decode cX2_readDeed 1 = .ok (.getfield 22, 3) := by decide +kernel
theorem dX2_readDeed_4 : decode cX2_readDeed 4 = .ok (.bipush 30, 2) := by decide +kernel
theorem dX2_readDeed_6 : decode cX2_readDeed 6 = .ok (.if_icmp .lt 5, 3) := by decide +kernel
theorem dX2_readDeed_9 : decode cX2_readDeed 9 = .ok (.iconst 0, 1) := by decide +kernel
theorem dX2_readDeed_10 : decode cX2_readDeed 10 = .ok (.ireturn, 1) := by decide +kernel
theorem dX2_readDeed_11 : decode cX2_readDeed 11 = .ok (.aload_n 0, 1) := by decide +kernel
theorem dX2_readDeed_12 : decode cX2_readDeed 12 = .ok (.getfield 28, 3) := by decide +kernel
theorem dX2_readDeed_15 : decode cX2_readDeed 15 = .ok (.aload_n 0, 1) := by decide +kernel
theorem dX2_readDeed_16 : decode cX2_readDeed 16 = .ok (.getfield 22, 3) := by decide +kernel
theorem dX2_readDeed_19 : decode cX2_readDeed 19 = .ok (.aload_n 0, 1) := by decide +kernel
theorem dX2_readDeed_20 : decode cX2_readDeed 20 = .ok (.getfield 19, 3) := by decide +kernel
theorem dX2_readDeed_23 : decode cX2_readDeed 23 = .ok (.iastore, 1) := by decide +kernel
theorem dX2_readDeed_24 : decode cX2_readDeed 24 = .ok (.aload_n 0, 1) := by decide +kernel
theorem dX2_readDeed_25 : decode cX2_readDeed 25 = .ok (.bipush 112, 2) := by decide +kernel
theorem dX2_readDeed_27 : decode cX2_readDeed 27 = .ok (.invokevirtual 48, 3) := by decide +kernel
theorem dX2_readDeed_30 : decode cX2_readDeed 30 = .ok (.ifCond .eq 22, 3) := by decide +kernel
theorem dX2_readDeed_33 : decode cX2_readDeed 33 = .ok (.aload_n 0, 1) := by decide +kernel
theorem dX2_readDeed_34 : decode cX2_readDeed 34 = .ok (.getfield 25, 3) := by decide +kernel
theorem dX2_readDeed_37 : decode cX2_readDeed 37 = .ok (.aload_n 0, 1) := by decide +kernel
theorem dX2_readDeed_38 : decode cX2_readDeed 38 = .ok (.getfield 22, 3) := by decide +kernel
theorem dX2_readDeed_41 : decode cX2_readDeed 41 = .ok (.bipush 112, 2) := by decide +kernel
theorem dX2_readDeed_43 : decode cX2_readDeed 43 = .ok (.castore, 1) := by decide +kernel
theorem dX2_readDeed_44 : decode cX2_readDeed 44 = .ok (.aload_n 0, 1) := by decide +kernel
theorem dX2_readDeed_45 : decode cX2_readDeed 45 = .ok (.invokevirtual 52, 3) := by decide +kernel
theorem dX2_readDeed_48 : decode cX2_readDeed 48 = .ok (.istore_n 1, 1) := by decide +kernel
theorem dX2_readDeed_49 : decode cX2_readDeed 49 = .ok (.goto 64, 3) := by decide +kernel
theorem dX2_readDeed_52 : decode cX2_readDeed 52 = .ok (.aload_n 0, 1) := by decide +kernel
theorem dX2_readDeed_53 : decode cX2_readDeed 53 = .ok (.bipush 115, 2) := by decide +kernel
theorem dX2_readDeed_55 : decode cX2_readDeed 55 = .ok (.invokevirtual 48, 3) := by decide +kernel
theorem dX2_readDeed_58 : decode cX2_readDeed 58 = .ok (.ifCond .eq 22, 3) := by decide +kernel
theorem dX2_readDeed_61 : decode cX2_readDeed 61 = .ok (.aload_n 0, 1) := by decide +kernel
theorem dX2_readDeed_62 : decode cX2_readDeed 62 = .ok (.getfield 25, 3) := by decide +kernel
theorem dX2_readDeed_65 : decode cX2_readDeed 65 = .ok (.aload_n 0, 1) := by decide +kernel
theorem dX2_readDeed_66 : decode cX2_readDeed 66 = .ok (.getfield 22, 3) := by decide +kernel
theorem dX2_readDeed_69 : decode cX2_readDeed 69 = .ok (.bipush 115, 2) := by decide +kernel
theorem dX2_readDeed_71 : decode cX2_readDeed 71 = .ok (.castore, 1) := by decide +kernel
theorem dX2_readDeed_72 : decode cX2_readDeed 72 = .ok (.aload_n 0, 1) := by decide +kernel
theorem dX2_readDeed_73 : decode cX2_readDeed 73 = .ok (.invokevirtual 55, 3) := by decide +kernel
theorem dX2_readDeed_76 : decode cX2_readDeed 76 = .ok (.istore_n 1, 1) := by decide +kernel
theorem dX2_readDeed_77 : decode cX2_readDeed 77 = .ok (.goto 36, 3) := by decide +kernel
theorem dX2_readDeed_80 : decode cX2_readDeed 80 = .ok (.aload_n 0, 1) := by decide +kernel
theorem dX2_readDeed_81 : decode cX2_readDeed 81 = .ok (.getfield 25, 3) := by decide +kernel
theorem dX2_readDeed_84 : decode cX2_readDeed 84 = .ok (.aload_n 0, 1) := by decide +kernel
theorem dX2_readDeed_85 : decode cX2_readDeed 85 = .ok (.getfield 22, 3) := by decide +kernel
theorem dX2_readDeed_88 : decode cX2_readDeed 88 = .ok (.bipush 109, 2) := by decide +kernel
theorem dX2_readDeed_90 : decode cX2_readDeed 90 = .ok (.castore, 1) := by decide +kernel
theorem dX2_readDeed_91 : decode cX2_readDeed 91 = .ok (.aload_n 0, 1) := by decide +kernel
theorem dX2_readDeed_92 : decode cX2_readDeed 92 = .ok (.bipush 109, 2) := by decide +kernel
theorem dX2_readDeed_94 : decode cX2_readDeed 94 = .ok (.invokevirtual 48, 3) := by decide +kernel
theorem dX2_readDeed_97 : decode cX2_readDeed 97 = .ok (.ifCond .eq 14, 3) := by decide +kernel
theorem dX2_readDeed_100 : decode cX2_readDeed 100 = .ok (.aload_n 0, 1) := by decide +kernel
theorem dX2_readDeed_101 : decode cX2_readDeed 101 = .ok (.invokevirtual 58, 3) := by decide +kernel
theorem dX2_readDeed_104 : decode cX2_readDeed 104 = .ok (.ifCond .eq 7, 3) := by decide +kernel
theorem dX2_readDeed_107 : decode cX2_readDeed 107 = .ok (.iconst 1, 1) := by decide +kernel
theorem dX2_readDeed_108 : decode cX2_readDeed 108 = .ok (.goto 4, 3) := by decide +kernel
theorem dX2_readDeed_111 : decode cX2_readDeed 111 = .ok (.iconst 0, 1) := by decide +kernel
theorem dX2_readDeed_112 : decode cX2_readDeed 112 = .ok (.istore_n 1, 1) := by decide +kernel
theorem dX2_readDeed_113 : decode cX2_readDeed 113 = .ok (.aload_n 0, 1) := by decide +kernel
theorem dX2_readDeed_114 : decode cX2_readDeed 114 = .ok (.dup, 1) := by decide +kernel
theorem dX2_readDeed_115 : decode cX2_readDeed 115 = .ok (.getfield 22, 3) := by decide +kernel
theorem dX2_readDeed_118 : decode cX2_readDeed 118 = .ok (.iconst 1, 1) := by decide +kernel
theorem dX2_readDeed_119 : decode cX2_readDeed 119 = .ok (.iadd, 1) := by decide +kernel
theorem dX2_readDeed_120 : decode cX2_readDeed 120 = .ok (.putfield 22, 3) := by decide +kernel
theorem dX2_readDeed_123 : decode cX2_readDeed 123 = .ok (.iload_n 1, 1) := by decide +kernel
theorem dX2_readDeed_124 : decode cX2_readDeed 124 = .ok (.ireturn, 1) := by decide +kernel
theorem dX2_readPrinting_0 : decode cX2_readPrinting 0 = .ok (.aload_n 0, 1) := by decide +kernel
theorem dX2_readPrinting_1 : decode cX2_readPrinting 1 = .ok (.iconst 2, 1) := by decide +kernel
theorem dX2_readPrinting_2 : decode cX2_readPrinting 2 = .ok (.invokevirtual 61, 3) := by decide +kernel
theorem dX2_readPrinting_5 : decode cX2_readPrinting 5 = .ok (.istore_n 1, 1) := by decide +kernel
theorem dX2_readPrinting_6 : decode cX2_readPrinting 6 = .ok (.iload_n 1, 1) := by decide +kernel
theorem dX2_readPrinting_7 : decode cX2_readPrinting 7 = .ok (.bipush (-4), 2) := by decide +kernel
theorem dX2_readPrinting_9 : decode cX2_readPrinting 9 = .ok (.if_icmp .eq 12, 3) := by decide +kernel
theorem dX2_readPrinting_12 : decode cX2_readPrinting 12 = .ok (.aload_n 0, 1) := by decide +kernel
theorem dX2_readPrinting_13 : decode cX2_readPrinting 13 = .ok (.bipush 58, 2) := by decide +kernel
theorem dX2_readPrinting_15 : decode cX2_readPrinting 15 = .ok (.invokevirtual 48, 3) := by decide +kernel
theorem dX2_readPrinting_18 : decode cX2_readPrinting 18 = .ok (.ifCond .ne 5, 3) := by decide +kernel
theorem dX2_readPrinting_21 : decode cX2_readPrinting 21 = .ok (.iconst 0, 1) := by decide +kernel
theorem dX2_readPrinting_22 : decode cX2_readPrinting 22 = .ok (.ireturn, 1) := by decide +kernel
theorem dX2_readPrinting_23 : decode cX2_readPrinting 23 = .ok (.aload_n 0, 1) := by decide +kernel
theorem dX2_readPrinting_24 : decode cX2_readPrinting 24 = .ok (.iconst 1, 1) := by decide +kernel
theorem dX2_readPrinting_25 : decode cX2_readPrinting 25 = .ok (.sipush 999, 3) := by decide +kernel
theorem dX2_readPrinting_28 : decode cX2_readPrinting 28 = .ok (.invokevirtual 65, 3) := by decide +kernel
theorem dX2_readPrinting_31 : decode cX2_readPrinting 31 = .ok (.istore_n 2, 1) := by decide +kernel
theorem dX2_readPrinting_32 : decode cX2_readPrinting 32 = .ok (.iload_n 2, 1) := by decide +kernel
theorem dX2_readPrinting_33 : decode cX2_readPrinting 33 = .ok (.bipush (-4), 2) := by decide +kernel
theorem dX2_readPrinting_35 : decode cX2_readPrinting 35 = .ok (.if_icmp .ne 5, 3) := by decide +kernel
theorem dX2_readPrinting_38 : decode cX2_readPrinting 38 = .ok (.iconst 0, 1) := by decide +kernel
theorem dX2_readPrinting_39 : decode cX2_readPrinting 39 = .ok (.ireturn, 1) := by decide +kernel
theorem dX2_readPrinting_40 : decode cX2_readPrinting 40 = .ok (.aload_n 0, 1) := by decide +kernel
theorem dX2_readPrinting_41 : decode cX2_readPrinting 41 = .ok (.bipush 120, 2) := by decide +kernel
theorem dX2_readPrinting_43 : decode cX2_readPrinting 43 = .ok (.invokevirtual 48, 3) := by decide +kernel
theorem dX2_readPrinting_46 : decode cX2_readPrinting 46 = .ok (.ifCond .eq 13, 3) := by decide +kernel
theorem dX2_readPrinting_49 : decode cX2_readPrinting 49 = .ok (.aload_n 0, 1) := by decide +kernel
theorem dX2_readPrinting_50 : decode cX2_readPrinting 50 = .ok (.iconst 2, 1) := by decide +kernel
theorem dX2_readPrinting_51 : decode cX2_readPrinting 51 = .ok (.bipush 50, 2) := by decide +kernel
theorem dX2_readPrinting_53 : decode cX2_readPrinting 53 = .ok (.invokevirtual 65, 3) := by decide +kernel
theorem dX2_readPrinting_56 : decode cX2_readPrinting 56 = .ok (.goto 4, 3) := by decide +kernel
theorem dX2_readPrinting_59 : decode cX2_readPrinting 59 = .ok (.iconst 1, 1) := by decide +kernel
theorem dX2_readPrinting_60 : decode cX2_readPrinting 60 = .ok (.istore_n 3, 1) := by decide +kernel
theorem dX2_readPrinting_61 : decode cX2_readPrinting 61 = .ok (.aload_n 0, 1) := by decide +kernel
theorem dX2_readPrinting_62 : decode cX2_readPrinting 62 = .ok (.getfield 32, 3) := by decide +kernel
theorem dX2_readPrinting_65 : decode cX2_readPrinting 65 = .ok (.aload_n 0, 1) := by decide +kernel
theorem dX2_readPrinting_66 : decode cX2_readPrinting 66 = .ok (.getfield 22, 3) := by decide +kernel
theorem dX2_readPrinting_69 : decode cX2_readPrinting 69 = .ok (.iload_n 1, 1) := by decide +kernel
theorem dX2_readPrinting_70 : decode cX2_readPrinting 70 = .ok (.iastore, 1) := by decide +kernel
theorem dX2_readPrinting_71 : decode cX2_readPrinting 71 = .ok (.aload_n 0, 1) := by decide +kernel
theorem dX2_readPrinting_72 : decode cX2_readPrinting 72 = .ok (.getfield 35, 3) := by decide +kernel
theorem dX2_readPrinting_75 : decode cX2_readPrinting 75 = .ok (.aload_n 0, 1) := by decide +kernel
theorem dX2_readPrinting_76 : decode cX2_readPrinting 76 = .ok (.getfield 22, 3) := by decide +kernel
theorem dX2_readPrinting_79 : decode cX2_readPrinting 79 = .ok (.iload_n 2, 1) := by decide +kernel
theorem dX2_readPrinting_80 : decode cX2_readPrinting 80 = .ok (.iastore, 1) := by decide +kernel
theorem dX2_readPrinting_81 : decode cX2_readPrinting 81 = .ok (.aload_n 0, 1) := by decide +kernel
theorem dX2_readPrinting_82 : decode cX2_readPrinting 82 = .ok (.getfield 38, 3) := by decide +kernel
theorem dX2_readPrinting_85 : decode cX2_readPrinting 85 = .ok (.aload_n 0, 1) := by decide +kernel
theorem dX2_readPrinting_86 : decode cX2_readPrinting 86 = .ok (.getfield 22, 3) := by decide +kernel
theorem dX2_readPrinting_89 : decode cX2_readPrinting 89 = .ok (.iload_n 3, 1) := by decide +kernel
theorem dX2_readPrinting_90 : decode cX2_readPrinting 90 = .ok (.iastore, 1) := by decide +kernel
theorem dX2_readPrinting_91 : decode cX2_readPrinting 91 = .ok (.iload_n 3, 1) := by decide +kernel
theorem dX2_readPrinting_92 : decode cX2_readPrinting 92 = .ok (.bipush (-4), 2) := by decide +kernel
theorem dX2_readPrinting_94 : decode cX2_readPrinting 94 = .ok (.if_icmp .eq 7, 3) := by decide +kernel
theorem dX2_readPrinting_97 : decode cX2_readPrinting 97 = .ok (.iconst 1, 1) := by decide +kernel
theorem dX2_readPrinting_98 : decode cX2_readPrinting 98 = .ok (.goto 4, 3) := by decide +kernel
theorem dX2_readPrinting_101 : decode cX2_readPrinting 101 = .ok (.iconst 0, 1) := by decide +kernel
theorem dX2_readPrinting_102 : decode cX2_readPrinting 102 = .ok (.ireturn, 1) := by decide +kernel
theorem dX2_readShaking_0 : decode cX2_readShaking 0 = .ok (.aload_n 0, 1) := by decide +kernel
theorem dX2_readShaking_1 : decode cX2_readShaking 1 = .ok (.iconst 4, 1) := by decide +kernel
theorem dX2_readShaking_2 : decode cX2_readShaking 2 = .ok (.invokevirtual 61, 3) := by decide +kernel
theorem dX2_readShaking_5 : decode cX2_readShaking 5 = .ok (.istore_n 1, 1) := by decide +kernel
theorem dX2_readShaking_6 : decode cX2_readShaking 6 = .ok (.aload_n 0, 1) := by decide +kernel
theorem dX2_readShaking_7 : decode cX2_readShaking 7 = .ok (.getfield 32, 3) := by decide +kernel
theorem dX2_readShaking_10 : decode cX2_readShaking 10 = .ok (.aload_n 0, 1) := by decide +kernel
theorem dX2_readShaking_11 : decode cX2_readShaking 11 = .ok (.getfield 22, 3) := by decide +kernel
theorem dX2_readShaking_14 : decode cX2_readShaking 14 = .ok (.iload_n 1, 1) := by decide +kernel
theorem dX2_readShaking_15 : decode cX2_readShaking 15 = .ok (.iastore, 1) := by decide +kernel
theorem dX2_readShaking_16 : decode cX2_readShaking 16 = .ok (.iload_n 1, 1) := by decide +kernel
theorem dX2_readShaking_17 : decode cX2_readShaking 17 = .ok (.bipush (-4), 2) := by decide +kernel
theorem dX2_readShaking_19 : decode cX2_readShaking 19 = .ok (.if_icmp .eq 7, 3) := by decide +kernel
theorem dX2_readShaking_22 : decode cX2_readShaking 22 = .ok (.iconst 1, 1) := by decide +kernel
theorem dX2_readShaking_23 : decode cX2_readShaking 23 = .ok (.goto 4, 3) := by decide +kernel
theorem dX2_readShaking_26 : decode cX2_readShaking 26 = .ok (.iconst 0, 1) := by decide +kernel
theorem dX2_readShaking_27 : decode cX2_readShaking 27 = .ok (.ireturn, 1) := by decide +kernel
theorem dX2_readMoving_0 : decode cX2_readMoving 0 = .ok (.aload_n 0, 1) := by decide +kernel
theorem dX2_readMoving_1 : decode cX2_readMoving 1 = .ok (.iconst 4, 1) := by decide +kernel
theorem dX2_readMoving_2 : decode cX2_readMoving 2 = .ok (.invokevirtual 61, 3) := by decide +kernel
theorem dX2_readMoving_5 : decode cX2_readMoving 5 = .ok (.istore_n 1, 1) := by decide +kernel
theorem dX2_readMoving_6 : decode cX2_readMoving 6 = .ok (.iload_n 1, 1) := by decide +kernel
theorem dX2_readMoving_7 : decode cX2_readMoving 7 = .ok (.bipush (-4), 2) := by decide +kernel
theorem dX2_readMoving_9 : decode cX2_readMoving 9 = .ok (.if_icmp .eq 12, 3) := by decide +kernel
theorem dX2_readMoving_12 : decode cX2_readMoving 12 = .ok (.aload_n 0, 1) := by decide +kernel
theorem dX2_readMoving_13 : decode cX2_readMoving 13 = .ok (.bipush 62, 2) := by decide +kernel
theorem dX2_readMoving_15 : decode cX2_readMoving 15 = .ok (.invokevirtual 48, 3) := by decide +kernel
theorem dX2_readMoving_18 : decode cX2_readMoving 18 = .ok (.ifCond .ne 5, 3) := by decide +kernel
theorem dX2_readMoving_21 : decode cX2_readMoving 21 = .ok (.iconst 0, 1) := by decide +kernel
theorem dX2_readMoving_22 : decode cX2_readMoving 22 = .ok (.ireturn, 1) := by decide +kernel
theorem dX2_readMoving_23 : decode cX2_readMoving 23 = .ok (.aload_n 0, 1) := by decide +kernel
theorem dX2_readMoving_24 : decode cX2_readMoving 24 = .ok (.iconst 2, 1) := by decide +kernel
theorem dX2_readMoving_25 : decode cX2_readMoving 25 = .ok (.invokevirtual 61, 3) := by decide +kernel
theorem dX2_readMoving_28 : decode cX2_readMoving 28 = .ok (.istore_n 2, 1) := by decide +kernel
theorem dX2_readMoving_29 : decode cX2_readMoving 29 = .ok (.aload_n 0, 1) := by decide +kernel
theorem dX2_readMoving_30 : decode cX2_readMoving 30 = .ok (.getfield 32, 3) := by decide +kernel
theorem dX2_readMoving_33 : decode cX2_readMoving 33 = .ok (.aload_n 0, 1) := by decide +kernel
theorem dX2_readMoving_34 : decode cX2_readMoving 34 = .ok (.getfield 22, 3) := by decide +kernel
end
section
theorem dX2_readMoving_37 : decode cX2_readMoving 37 = .ok (.iload_n 1, 1) := by decide +kernel
theorem dX2_readMoving_38 : decode cX2_readMoving 38 = .ok (.iastore, 1) := by decide +kernel
theorem dX2_readMoving_39 : decode cX2_readMoving 39 = .ok (.aload_n 0, 1) := by decide +kernel
theorem dX2_readMoving_40 : decode cX2_readMoving 40 = .ok (.getfield 35, 3) := by decide +kernel
theorem dX2_readMoving_43 : decode cX2_readMoving 43 = .ok (.aload_n 0, 1) := by decide +kernel
theorem dX2_readMoving_44 : decode cX2_readMoving 44 = .ok (.getfield 22, 3) := by decide +kernel
theorem dX2_readMoving_47 : decode cX2_readMoving 47 = .ok (.iload_n 2, 1) := by decide +kernel
theorem dX2_readMoving_48 : decode cX2_readMoving 48 = .ok (.iastore, 1) := by decide +kernel
theorem dX2_readMoving_49 : decode cX2_readMoving 49 = .ok (.iload_n 2, 1) := by decide +kernel
theorem dX2_readMoving_50 : decode cX2_readMoving 50 = .ok (.bipush (-4), 2) := by decide +kernel
theorem dX2_readMoving_52 : decode cX2_readMoving 52 = .ok (.if_icmp .eq 7, 3) := by decide +kernel
theorem dX2_readMoving_55 : decode cX2_readMoving 55 = .ok (.iconst 1, 1) := by decide +kernel
theorem dX2_readMoving_56 : decode cX2_readMoving 56 = .ok (.goto 4, 3) := by decide +kernel
theorem dX2_readMoving_59 : decode cX2_readMoving 59 = .ok (.iconst 0, 1) := by decide +kernel
theorem dX2_readMoving_60 : decode cX2_readMoving 60 = .ok (.ireturn, 1) := by decide +kernel
theorem dX2_read_0 : decode cX2_read 0 = .ok (.aload_n 0, 1) := by decide +kernel
theorem dX2_read_1 : decode cX2_read 1 = .ok (.getfield 19, 3) := by decide +kernel
theorem dX2_read_4 : decode cX2_read 4 = .ok (.aload_n 0, 1) := by decide +kernel
theorem dX2_read_5 : decode cX2_read 5 = .ok (.getfield 15, 3) := by decide +kernel
theorem dX2_read_8 : decode cX2_read 8 = .ok (.if_icmp .ge 28, 3) := by decide +kernel
theorem dX2_read_11 : decode cX2_read 11 = .ok (.aload_n 0, 1) := by decide +kernel
theorem dX2_read_12 : decode cX2_read 12 = .ok (.getfield 11, 3) := by decide +kernel
theorem dX2_read_15 : decode cX2_read 15 = .ok (.aload_n 0, 1) := by decide +kernel
theorem dX2_read_16 : decode cX2_read 16 = .ok (.getfield 19, 3) := by decide +kernel
theorem dX2_read_19 : decode cX2_read 19 = .ok (.caload, 1) := by decide +kernel
theorem dX2_read_20 : decode cX2_read 20 = .ok (.iload_n 1, 1) := by decide +kernel
theorem dX2_read_21 : decode cX2_read 21 = .ok (.if_icmp .ne 15, 3) := by decide +kernel
theorem dX2_read_24 : decode cX2_read 24 = .ok (.aload_n 0, 1) := by decide +kernel
theorem dX2_read_25 : decode cX2_read 25 = .ok (.dup, 1) := by decide +kernel
theorem dX2_read_26 : decode cX2_read 26 = .ok (.getfield 19, 3) := by decide +kernel
theorem dX2_read_29 : decode cX2_read 29 = .ok (.iconst 1, 1) := by decide +kernel
theorem dX2_read_30 : decode cX2_read 30 = .ok (.iadd, 1) := by decide +kernel
theorem dX2_read_31 : decode cX2_read 31 = .ok (.putfield 19, 3) := by decide +kernel
theorem dX2_read_34 : decode cX2_read 34 = .ok (.iconst 1, 1) := by decide +kernel
theorem dX2_read_35 : decode cX2_read 35 = .ok (.ireturn, 1) := by decide +kernel
theorem dX2_read_36 : decode cX2_read 36 = .ok (.iconst 0, 1) := by decide +kernel
theorem dX2_read_37 : decode cX2_read 37 = .ok (.ireturn, 1) := by decide +kernel
theorem dX2_readBelow_0 : decode cX2_readBelow 0 = .ok (.aload_n 0, 1) := by decide +kernel
theorem dX2_readBelow_1 : decode cX2_readBelow 1 = .ok (.getfield 19, 3) := by decide +kernel
theorem dX2_readBelow_4 : decode cX2_readBelow 4 = .ok (.aload_n 0, 1) := by decide +kernel
theorem dX2_readBelow_5 : decode cX2_readBelow 5 = .ok (.getfield 15, 3) := by decide +kernel
theorem dX2_readBelow_8 : decode cX2_readBelow 8 = .ok (.if_icmp .ge 18, 3) := by decide +kernel
theorem dX2_readBelow_11 : decode cX2_readBelow 11 = .ok (.aload_n 0, 1) := by decide +kernel
theorem dX2_readBelow_12 : decode cX2_readBelow 12 = .ok (.getfield 11, 3) := by decide +kernel
theorem dX2_readBelow_15 : decode cX2_readBelow 15 = .ok (.aload_n 0, 1) := by decide +kernel
theorem dX2_readBelow_16 : decode cX2_readBelow 16 = .ok (.getfield 19, 3) := by decide +kernel
theorem dX2_readBelow_19 : decode cX2_readBelow 19 = .ok (.caload, 1) := by decide +kernel
theorem dX2_readBelow_20 : decode cX2_readBelow 20 = .ok (.bipush 48, 2) := by decide +kernel
theorem dX2_readBelow_22 : decode cX2_readBelow 22 = .ok (.isub, 1) := by decide +kernel
theorem dX2_readBelow_23 : decode cX2_readBelow 23 = .ok (.goto 5, 3) := by decide +kernel
theorem dX2_readBelow_26 : decode cX2_readBelow 26 = .ok (.bipush (-4), 2) := by decide +kernel
theorem dX2_readBelow_28 : decode cX2_readBelow 28 = .ok (.istore_n 2, 1) := by decide +kernel
theorem dX2_readBelow_29 : decode cX2_readBelow 29 = .ok (.iload_n 2, 1) := by decide +kernel
theorem dX2_readBelow_30 : decode cX2_readBelow 30 = .ok (.ifCond .lt 8, 3) := by decide +kernel
theorem dX2_readBelow_33 : decode cX2_readBelow 33 = .ok (.iload_n 2, 1) := by decide +kernel
theorem dX2_readBelow_34 : decode cX2_readBelow 34 = .ok (.iload_n 1, 1) := by decide +kernel
theorem dX2_readBelow_35 : decode cX2_readBelow 35 = .ok (.if_icmp .lt 6, 3) := by decide +kernel
theorem dX2_readBelow_38 : decode cX2_readBelow 38 = .ok (.bipush (-4), 2) := by decide +kernel
theorem dX2_readBelow_40 : decode cX2_readBelow 40 = .ok (.ireturn, 1) := by decide +kernel
theorem dX2_readBelow_41 : decode cX2_readBelow 41 = .ok (.aload_n 0, 1) := by decide +kernel
theorem dX2_readBelow_42 : decode cX2_readBelow 42 = .ok (.dup, 1) := by decide +kernel
theorem dX2_readBelow_43 : decode cX2_readBelow 43 = .ok (.getfield 19, 3) := by decide +kernel
theorem dX2_readBelow_46 : decode cX2_readBelow 46 = .ok (.iconst 1, 1) := by decide +kernel
theorem dX2_readBelow_47 : decode cX2_readBelow 47 = .ok (.iadd, 1) := by decide +kernel
theorem dX2_readBelow_48 : decode cX2_readBelow 48 = .ok (.putfield 19, 3) := by decide +kernel
theorem dX2_readBelow_51 : decode cX2_readBelow 51 = .ok (.iload_n 2, 1) := by decide +kernel
theorem dX2_readBelow_52 : decode cX2_readBelow 52 = .ok (.ireturn, 1) := by decide +kernel
theorem dX2_readNumber_0 : decode cX2_readNumber 0 = .ok (.iconst 0, 1) := by decide +kernel
theorem dX2_readNumber_1 : decode cX2_readNumber 1 = .ok (.istore_n 3, 1) := by decide +kernel
theorem dX2_readNumber_2 : decode cX2_readNumber 2 = .ok (.aload_n 0, 1) := by decide +kernel
theorem dX2_readNumber_3 : decode cX2_readNumber 3 = .ok (.getfield 19, 3) := by decide +kernel
theorem dX2_readNumber_6 : decode cX2_readNumber 6 = .ok (.istore 4, 2) := by decide +kernel
theorem dX2_readNumber_8 : decode cX2_readNumber 8 = .ok (.iload 4, 2) := by decide +kernel
theorem dX2_readNumber_10 : decode cX2_readNumber 10 = .ok (.aload_n 0, 1) := by decide +kernel
theorem dX2_readNumber_11 : decode cX2_readNumber 11 = .ok (.getfield 15, 3) := by decide +kernel
theorem dX2_readNumber_14 : decode cX2_readNumber 14 = .ok (.if_icmp .ge 67, 3) := by decide +kernel
theorem dX2_readNumber_17 : decode cX2_readNumber 17 = .ok (.aload_n 0, 1) := by decide +kernel
theorem dX2_readNumber_18 : decode cX2_readNumber 18 = .ok (.getfield 11, 3) := by decide +kernel
theorem dX2_readNumber_21 : decode cX2_readNumber 21 = .ok (.iload 4, 2) := by decide +kernel
theorem dX2_readNumber_23 : decode cX2_readNumber 23 = .ok (.caload, 1) := by decide +kernel
theorem dX2_readNumber_24 : decode cX2_readNumber 24 = .ok (.bipush 48, 2) := by decide +kernel
theorem dX2_readNumber_26 : decode cX2_readNumber 26 = .ok (.isub, 1) := by decide +kernel
theorem dX2_readNumber_27 : decode cX2_readNumber 27 = .ok (.istore 5, 2) := by decide +kernel
theorem dX2_readNumber_29 : decode cX2_readNumber 29 = .ok (.bipush 10, 2) := by decide +kernel
theorem dX2_readNumber_31 : decode cX2_readNumber 31 = .ok (.iload_n 3, 1) := by decide +kernel
theorem dX2_readNumber_32 : decode cX2_readNumber 32 = .ok (.imul, 1) := by decide +kernel
theorem dX2_readNumber_33 : decode cX2_readNumber 33 = .ok (.iload 5, 2) := by decide +kernel
theorem dX2_readNumber_35 : decode cX2_readNumber 35 = .ok (.iadd, 1) := by decide +kernel
theorem dX2_readNumber_36 : decode cX2_readNumber 36 = .ok (.istore 6, 2) := by decide +kernel
theorem dX2_readNumber_38 : decode cX2_readNumber 38 = .ok (.iload 5, 2) := by decide +kernel
theorem dX2_readNumber_40 : decode cX2_readNumber 40 = .ok (.ifCond .lt 41, 3) := by decide +kernel
theorem dX2_readNumber_43 : decode cX2_readNumber 43 = .ok (.iload 5, 2) := by decide +kernel
theorem dX2_readNumber_45 : decode cX2_readNumber 45 = .ok (.bipush 9, 2) := by decide +kernel
theorem dX2_readNumber_47 : decode cX2_readNumber 47 = .ok (.if_icmp .gt 34, 3) := by decide +kernel
theorem dX2_readNumber_50 : decode cX2_readNumber 50 = .ok (.iload 6, 2) := by decide +kernel
theorem dX2_readNumber_52 : decode cX2_readNumber 52 = .ok (.ifCond .eq 29, 3) := by decide +kernel
theorem dX2_readNumber_55 : decode cX2_readNumber 55 = .ok (.iload 6, 2) := by decide +kernel
theorem dX2_readNumber_57 : decode cX2_readNumber 57 = .ok (.iload_n 2, 1) := by decide +kernel
theorem dX2_readNumber_58 : decode cX2_readNumber 58 = .ok (.if_icmp .le 6, 3) := by decide +kernel
theorem dX2_readNumber_61 : decode cX2_readNumber 61 = .ok (.goto 20, 3) := by decide +kernel
theorem dX2_readNumber_64 : decode cX2_readNumber 64 = .ok (.iload 6, 2) := by decide +kernel
theorem dX2_readNumber_66 : decode cX2_readNumber 66 = .ok (.istore_n 3, 1) := by decide +kernel
theorem dX2_readNumber_67 : decode cX2_readNumber 67 = .ok (.aload_n 0, 1) := by decide +kernel
theorem dX2_readNumber_68 : decode cX2_readNumber 68 = .ok (.iload 4, 2) := by decide +kernel
theorem dX2_readNumber_70 : decode cX2_readNumber 70 = .ok (.iconst 1, 1) := by decide +kernel
theorem dX2_readNumber_71 : decode cX2_readNumber 71 = .ok (.iadd, 1) := by decide +kernel
theorem dX2_readNumber_72 : decode cX2_readNumber 72 = .ok (.putfield 19, 3) := by decide +kernel
theorem dX2_readNumber_75 : decode cX2_readNumber 75 = .ok (.iinc 4 1, 3) := by decide +kernel
theorem dX2_readNumber_78 : decode cX2_readNumber 78 = .ok (.goto (-70), 3) := by decide +kernel
theorem dX2_readNumber_81 : decode cX2_readNumber 81 = .ok (.iload_n 3, 1) := by decide +kernel
theorem dX2_readNumber_82 : decode cX2_readNumber 82 = .ok (.iload_n 1, 1) := by decide +kernel
theorem dX2_readNumber_83 : decode cX2_readNumber 83 = .ok (.if_icmp .lt 7, 3) := by decide +kernel
theorem dX2_readNumber_86 : decode cX2_readNumber 86 = .ok (.iload_n 3, 1) := by decide +kernel
theorem dX2_readNumber_87 : decode cX2_readNumber 87 = .ok (.goto 5, 3) := by decide +kernel
theorem dX2_readNumber_90 : decode cX2_readNumber 90 = .ok (.bipush (-4), 2) := by decide +kernel
theorem dX2_readNumber_92 : decode cX2_readNumber 92 = .ok (.ireturn, 1) := by decide +kernel
theorem dX3_init_0 : decode cX3_init 0 = .ok (.aload_n 0, 1) := by decide +kernel
theorem dX3_init_1 : decode cX3_init 1 = .ok (.invokespecial 3, 3) := by decide +kernel
theorem dX3_init_4 : decode cX3_init 4 = .ok (.aload_n 0, 1) := by decide +kernel
theorem dX3_init_5 : decode cX3_init 5 = .ok (.bipush (-4), 2) := by decide +kernel
theorem dX3_init_7 : decode cX3_init 7 = .ok (.putfield 9, 3) := by decide +kernel
theorem dX3_init_10 : decode cX3_init 10 = .ok (.aload_n 0, 1) := by decide +kernel
theorem dX3_init_11 : decode cX3_init 11 = .ok (.bipush (-4), 2) := by decide +kernel
theorem dX3_init_13 : decode cX3_init 13 = .ok (.putfield 15, 3) := by decide +kernel
theorem dX3_init_16 : decode cX3_init 16 = .ok (.aload_n 0, 1) := by decide +kernel
theorem dX3_init_17 : decode cX3_init 17 = .ok (.bipush (-4), 2) := by decide +kernel
theorem dX3_init_19 : decode cX3_init 19 = .ok (.putfield 18, 3) := by decide +kernel
theorem dX3_init_22 : decode cX3_init 22 = .ok (.aload_n 0, 1) := by decide +kernel
theorem dX3_init_23 : decode cX3_init 23 = .ok (.bipush (-4), 2) := by decide +kernel
theorem dX3_init_25 : decode cX3_init 25 = .ok (.putfield 21, 3) := by decide +kernel
theorem dX3_init_28 : decode cX3_init 28 = .ok (.return_, 1) := by decide +kernel
theorem dX3_forget_0 : decode cX3_forget 0 = .ok (.aload_n 0, 1) := by decide +kernel
theorem dX3_forget_1 : decode cX3_forget 1 = .ok (.bipush (-4), 2) := by decide +kernel
theorem dX3_forget_3 : decode cX3_forget 3 = .ok (.bipush (-4), 2) := by decide +kernel
theorem dX3_forget_5 : decode cX3_forget 5 = .ok (.bipush (-4), 2) := by decide +kernel
theorem dX3_forget_7 : decode cX3_forget 7 = .ok (.bipush (-4), 2) := by decide +kernel
theorem dX3_forget_9 : decode cX3_forget 9 = .ok (.invokevirtual 24, 3) := by decide +kernel
theorem dX3_forget_12 : decode cX3_forget 12 = .ok (.return_, 1) := by decide +kernel
theorem dX3_note_0 : decode cX3_note 0 = .ok (.aload_n 0, 1) := by decide +kernel
theorem dX3_note_1 : decode cX3_note 1 = .ok (.iload_n 1, 1) := by decide +kernel
theorem dX3_note_2 : decode cX3_note 2 = .ok (.putfield 9, 3) := by decide +kernel
theorem dX3_note_5 : decode cX3_note 5 = .ok (.aload_n 0, 1) := by decide +kernel
theorem dX3_note_6 : decode cX3_note 6 = .ok (.iload_n 2, 1) := by decide +kernel
theorem dX3_note_7 : decode cX3_note 7 = .ok (.putfield 15, 3) := by decide +kernel
theorem dX3_note_10 : decode cX3_note 10 = .ok (.aload_n 0, 1) := by decide +kernel
theorem dX3_note_11 : decode cX3_note 11 = .ok (.iload_n 3, 1) := by decide +kernel
theorem dX3_note_12 : decode cX3_note 12 = .ok (.putfield 18, 3) := by decide +kernel
theorem dX3_note_15 : decode cX3_note 15 = .ok (.aload_n 0, 1) := by decide +kernel
theorem dX3_note_16 : decode cX3_note 16 = .ok (.iload 4, 2) := by decide +kernel
theorem dX3_note_18 : decode cX3_note 18 = .ok (.putfield 21, 3) := by decide +kernel
theorem dX3_note_21 : decode cX3_note 21 = .ok (.return_, 1) := by decide +kernel
theorem dX3_known_0 : decode cX3_known 0 = .ok (.aload_n 0, 1) := by decide +kernel
theorem dX3_known_1 : decode cX3_known 1 = .ok (.getfield 9, 3) := by decide +kernel
theorem dX3_known_4 : decode cX3_known 4 = .ok (.bipush (-4), 2) := by decide +kernel
theorem dX3_known_6 : decode cX3_known 6 = .ok (.if_icmp .eq 7, 3) := by decide +kernel
theorem dX3_known_9 : decode cX3_known 9 = .ok (.iconst 1, 1) := by decide +kernel
theorem dX3_known_10 : decode cX3_known 10 = .ok (.goto 4, 3) := by decide +kernel
theorem dX3_known_13 : decode cX3_known 13 = .ok (.iconst 0, 1) := by decide +kernel
theorem dX3_known_14 : decode cX3_known 14 = .ok (.ireturn, 1) := by decide +kernel
theorem dX4_init_0 : decode cX4_init 0 = .ok (.aload_n 0, 1) := by decide +kernel
theorem dX4_init_1 : decode cX4_init 1 = .ok (.invokespecial 1, 3) := by decide +kernel
theorem dX4_init_4 : decode cX4_init 4 = .ok (.aload_n 0, 1) := by decide +kernel
theorem dX4_init_5 : decode cX4_init 5 = .ok (.new 7, 3) := by decide +kernel
theorem dX4_init_8 : decode cX4_init 8 = .ok (.dup, 1) := by decide +kernel
theorem dX4_init_9 : decode cX4_init 9 = .ok (.invokespecial 9, 3) := by decide +kernel
theorem dX4_init_12 : decode cX4_init 12 = .ok (.putfield 10, 3) := by decide +kernel
theorem dX4_init_15 : decode cX4_init 15 = .ok (.aload_n 0, 1) := by decide +kernel
theorem dX4_init_16 : decode cX4_init 16 = .ok (.new 7, 3) := by decide +kernel
theorem dX4_init_19 : decode cX4_init 19 = .ok (.dup, 1) := by decide +kernel
theorem dX4_init_20 : decode cX4_init 20 = .ok (.invokespecial 9, 3) := by decide +kernel
theorem dX4_init_23 : decode cX4_init 23 = .ok (.putfield 16, 3) := by decide +kernel
theorem dX4_init_26 : decode cX4_init 26 = .ok (.aload_n 0, 1) := by decide +kernel
theorem dX4_init_27 : decode cX4_init 27 = .ok (.iconst 0, 1) := by decide +kernel
theorem dX4_init_28 : decode cX4_init 28 = .ok (.putfield 19, 3) := by decide +kernel
theorem dX4_init_31 : decode cX4_init 31 = .ok (.aload_n 0, 1) := by decide +kernel
theorem dX4_init_32 : decode cX4_init 32 = .ok (.new 23, 3) := by decide +kernel
theorem dX4_init_35 : decode cX4_init 35 = .ok (.dup, 1) := by decide +kernel
theorem dX4_init_36 : decode cX4_init 36 = .ok (.invokespecial 25, 3) := by decide +kernel
theorem dX4_init_39 : decode cX4_init 39 = .ok (.putfield 26, 3) := by decide +kernel
theorem dX4_init_42 : decode cX4_init 42 = .ok (.aload_n 0, 1) := by decide +kernel
theorem dX4_init_43 : decode cX4_init 43 = .ok (.new 30, 3) := by decide +kernel
theorem dX4_init_46 : decode cX4_init 46 = .ok (.dup, 1) := by decide +kernel
theorem dX4_init_47 : decode cX4_init 47 = .ok (.invokespecial 32, 3) := by decide +kernel
theorem dX4_init_50 : decode cX4_init 50 = .ok (.putfield 33, 3) := by decide +kernel
theorem dX4_init_53 : decode cX4_init 53 = .ok (.aload_n 0, 1) := by decide +kernel
theorem dX4_init_54 : decode cX4_init 54 = .ok (.new 37, 3) := by decide +kernel
theorem dX4_init_57 : decode cX4_init 57 = .ok (.dup, 1) := by decide +kernel
theorem dX4_init_58 : decode cX4_init 58 = .ok (.invokespecial 39, 3) := by decide +kernel
theorem dX4_init_61 : decode cX4_init 61 = .ok (.putfield 40, 3) := by decide +kernel
theorem dX4_init_64 : decode cX4_init 64 = .ok (.return_, 1) := by decide +kernel
theorem dX4_print_0 : decode cX4_print 0 = .ok (.iload_n 1, 1) := by decide +kernel
theorem dX4_print_1 : decode cX4_print 1 = .ok (.invokestatic 44, 3) := by decide +kernel
theorem dX4_print_4 : decode cX4_print 4 = .ok (.ifCond .eq 10, 3) := by decide +kernel
theorem dX4_print_7 : decode cX4_print 7 = .ok (.iload_n 2, 1) := by decide +kernel
theorem dX4_print_8 : decode cX4_print 8 = .ok (.invokestatic 48, 3) := by decide +kernel
theorem dX4_print_11 : decode cX4_print 11 = .ok (.ifCond .ne 5, 3) := by decide +kernel
theorem dX4_print_14 : decode cX4_print 14 = .ok (.iconst (-1), 1) := by decide +kernel
theorem dX4_print_15 : decode cX4_print 15 = .ok (.ireturn, 1) := by decide +kernel
theorem dX4_print_16 : decode cX4_print 16 = .ok (.aload_n 0, 1) := by decide +kernel
theorem dX4_print_17 : decode cX4_print 17 = .ok (.getfield 26, 3) := by decide +kernel
theorem dX4_print_20 : decode cX4_print 20 = .ok (.aload_n 0, 1) := by decide +kernel
theorem dX4_print_21 : decode cX4_print 21 = .ok (.getfield 10, 3) := by decide +kernel
theorem dX4_print_24 : decode cX4_print 24 = .ok (.invokevirtual 51, 3) := by decide +kernel
theorem dX4_print_27 : decode cX4_print 27 = .ok (.aload_n 0, 1) := by decide +kernel
theorem dX4_print_28 : decode cX4_print 28 = .ok (.getfield 10, 3) := by decide +kernel
theorem dX4_print_31 : decode cX4_print 31 = .ok (.iload_n 1, 1) := by decide +kernel
theorem dX4_print_32 : decode cX4_print 32 = .ok (.iload_n 2, 1) := by decide +kernel
theorem dX4_print_33 : decode cX4_print 33 = .ok (.invokevirtual 55, 3) := by decide +kernel
theorem dX4_print_36 : decode cX4_print 36 = .ok (.ireturn, 1) := by decide +kernel
theorem dX4_shake_0 : decode cX4_shake 0 = .ok (.iload_n 1, 1) := by decide +kernel
theorem dX4_shake_1 : decode cX4_shake 1 = .ok (.invokestatic 59, 3) := by decide +kernel
theorem dX4_shake_4 : decode cX4_shake 4 = .ok (.ifCond .ne 5, 3) := by decide +kernel
theorem dX4_shake_7 : decode cX4_shake 7 = .ok (.iconst (-1), 1) := by decide +kernel
theorem dX4_shake_8 : decode cX4_shake 8 = .ok (.ireturn, 1) := by decide +kernel
theorem dX4_shake_9 : decode cX4_shake 9 = .ok (.aload_n 0, 1) := by decide +kernel
theorem dX4_shake_10 : decode cX4_shake 10 = .ok (.getfield 26, 3) := by decide +kernel
theorem dX4_shake_13 : decode cX4_shake 13 = .ok (.aload_n 0, 1) := by decide +kernel
theorem dX4_shake_14 : decode cX4_shake 14 = .ok (.getfield 10, 3) := by decide +kernel
theorem dX4_shake_17 : decode cX4_shake 17 = .ok (.invokevirtual 51, 3) := by decide +kernel
theorem dX4_shake_20 : decode cX4_shake 20 = .ok (.aload_n 0, 1) := by decide +kernel
theorem dX4_shake_21 : decode cX4_shake 21 = .ok (.getfield 10, 3) := by decide +kernel
theorem dX4_shake_24 : decode cX4_shake 24 = .ok (.iload_n 1, 1) := by decide +kernel
theorem dX4_shake_25 : decode cX4_shake 25 = .ok (.invokevirtual 62, 3) := by decide +kernel
theorem dX4_shake_28 : decode cX4_shake 28 = .ok (.ireturn, 1) := by decide +kernel
theorem dX4_move_0 : decode cX4_move 0 = .ok (.iload_n 1, 1) := by decide +kernel
theorem dX4_move_1 : decode cX4_move 1 = .ok (.invokestatic 59, 3) := by decide +kernel
theorem dX4_move_4 : decode cX4_move 4 = .ok (.ifCond .eq 10, 3) := by decide +kernel
theorem dX4_move_7 : decode cX4_move 7 = .ok (.iload_n 2, 1) := by decide +kernel
theorem dX4_move_8 : decode cX4_move 8 = .ok (.invokestatic 44, 3) := by decide +kernel
theorem dX4_move_11 : decode cX4_move 11 = .ok (.ifCond .ne 5, 3) := by decide +kernel
theorem dX4_move_14 : decode cX4_move 14 = .ok (.iconst (-1), 1) := by decide +kernel
theorem dX4_move_15 : decode cX4_move 15 = .ok (.ireturn, 1) := by decide +kernel
theorem dX4_move_16 : decode cX4_move 16 = .ok (.aload_n 0, 1) := by decide +kernel
theorem dX4_move_17 : decode cX4_move 17 = .ok (.getfield 26, 3) := by decide +kernel
theorem dX4_move_20 : decode cX4_move 20 = .ok (.aload_n 0, 1) := by decide +kernel
theorem dX4_move_21 : decode cX4_move 21 = .ok (.getfield 10, 3) := by decide +kernel
theorem dX4_move_24 : decode cX4_move 24 = .ok (.invokevirtual 51, 3) := by decide +kernel
theorem dX4_move_27 : decode cX4_move 27 = .ok (.aload_n 0, 1) := by decide +kernel
theorem dX4_move_28 : decode cX4_move 28 = .ok (.getfield 10, 3) := by decide +kernel
theorem dX4_move_31 : decode cX4_move 31 = .ok (.iload_n 1, 1) := by decide +kernel
theorem dX4_move_32 : decode cX4_move 32 = .ok (.iload_n 2, 1) := by decide +kernel
theorem dX4_move_33 : decode cX4_move 33 = .ok (.invokevirtual 66, 3) := by decide +kernel
theorem dX4_move_36 : decode cX4_move 36 = .ok (.ireturn, 1) := by decide +kernel
theorem dX4_takeOut_0 : decode cX4_takeOut 0 = .ok (.iload_n 1, 1) := by decide +kernel
theorem dX4_takeOut_1 : decode cX4_takeOut 1 = .ok (.invokestatic 44, 3) := by decide +kernel
theorem dX4_takeOut_4 : decode cX4_takeOut 4 = .ok (.ifCond .ne 5, 3) := by decide +kernel
theorem dX4_takeOut_7 : decode cX4_takeOut 7 = .ok (.iconst (-1), 1) := by decide +kernel
theorem dX4_takeOut_8 : decode cX4_takeOut 8 = .ok (.ireturn, 1) := by decide +kernel
theorem dX4_takeOut_9 : decode cX4_takeOut 9 = .ok (.aload_n 0, 1) := by decide +kernel
theorem dX4_takeOut_10 : decode cX4_takeOut 10 = .ok (.getfield 10, 3) := by decide +kernel
theorem dX4_takeOut_13 : decode cX4_takeOut 13 = .ok (.getfield 69, 3) := by decide +kernel
theorem dX4_takeOut_16 : decode cX4_takeOut 16 = .ok (.iload_n 1, 1) := by decide +kernel
theorem dX4_takeOut_17 : decode cX4_takeOut 17 = .ok (.iaload, 1) := by decide +kernel
theorem dX4_takeOut_18 : decode cX4_takeOut 18 = .ok (.istore_n 2, 1) := by decide +kernel
theorem dX4_takeOut_19 : decode cX4_takeOut 19 = .ok (.iload_n 2, 1) := by decide +kernel
theorem dX4_takeOut_20 : decode cX4_takeOut 20 = .ok (.invokestatic 59, 3) := by decide +kernel
theorem dX4_takeOut_23 : decode cX4_takeOut 23 = .ok (.ifCond .ne 6, 3) := by decide +kernel
theorem dX4_takeOut_26 : decode cX4_takeOut 26 = .ok (.bipush (-2), 2) := by decide +kernel
theorem dX4_takeOut_28 : decode cX4_takeOut 28 = .ok (.ireturn, 1) := by decide +kernel
theorem dX4_takeOut_29 : decode cX4_takeOut 29 = .ok (.aload_n 0, 1) := by decide +kernel
theorem dX4_takeOut_30 : decode cX4_takeOut 30 = .ok (.getfield 26, 3) := by decide +kernel
theorem dX4_takeOut_33 : decode cX4_takeOut 33 = .ok (.aload_n 0, 1) := by decide +kernel
theorem dX4_takeOut_34 : decode cX4_takeOut 34 = .ok (.getfield 10, 3) := by decide +kernel
theorem dX4_takeOut_37 : decode cX4_takeOut 37 = .ok (.invokevirtual 51, 3) := by decide +kernel
theorem dX4_takeOut_40 : decode cX4_takeOut 40 = .ok (.aload_n 0, 1) := by decide +kernel
theorem dX4_takeOut_41 : decode cX4_takeOut 41 = .ok (.getfield 10, 3) := by decide +kernel
theorem dX4_takeOut_44 : decode cX4_takeOut 44 = .ok (.iload_n 1, 1) := by decide +kernel
theorem dX4_takeOut_45 : decode cX4_takeOut 45 = .ok (.invokevirtual 73, 3) := by decide +kernel
theorem dX4_takeOut_48 : decode cX4_takeOut 48 = .ok (.iload_n 2, 1) := by decide +kernel
theorem dX4_takeOut_49 : decode cX4_takeOut 49 = .ok (.ireturn, 1) := by decide +kernel
theorem dX4_refill_0 : decode cX4_refill 0 = .ok (.iload_n 1, 1) := by decide +kernel
theorem dX4_refill_1 : decode cX4_refill 1 = .ok (.invokestatic 59, 3) := by decide +kernel
theorem dX4_refill_4 : decode cX4_refill 4 = .ok (.ifCond .eq 15, 3) := by decide +kernel
theorem dX4_refill_7 : decode cX4_refill 7 = .ok (.iload_n 2, 1) := by decide +kernel
theorem dX4_refill_8 : decode cX4_refill 8 = .ok (.iconst 1, 1) := by decide +kernel
theorem dX4_refill_9 : decode cX4_refill 9 = .ok (.if_icmp .lt 10, 3) := by decide +kernel
theorem dX4_refill_12 : decode cX4_refill 12 = .ok (.iload_n 2, 1) := by decide +kernel
theorem dX4_refill_13 : decode cX4_refill 13 = .ok (.sipush 6000, 3) := by decide +kernel
theorem dX4_refill_16 : decode cX4_refill 16 = .ok (.if_icmp .le 5, 3) := by decide +kernel
theorem dX4_refill_19 : decode cX4_refill 19 = .ok (.iconst (-1), 1) := by decide +kernel
theorem dX4_refill_20 : decode cX4_refill 20 = .ok (.ireturn, 1) := by decide +kernel
theorem dX4_refill_21 : decode cX4_refill 21 = .ok (.aload_n 0, 1) := by decide +kernel
theorem dX4_refill_22 : decode cX4_refill 22 = .ok (.getfield 10, 3) := by decide +kernel
theorem dX4_refill_25 : decode cX4_refill 25 = .ok (.iload_n 1, 1) := by decide +kernel
theorem dX4_refill_26 : decode cX4_refill 26 = .ok (.invokevirtual 77, 3) := by decide +kernel
theorem dX4_refill_29 : decode cX4_refill 29 = .ok (.invokestatic 44, 3) := by decide +kernel
theorem dX4_refill_32 : decode cX4_refill 32 = .ok (.ifCond .eq 6, 3) := by decide +kernel
theorem dX4_refill_35 : decode cX4_refill 35 = .ok (.bipush (-2), 2) := by decide +kernel
theorem dX4_refill_37 : decode cX4_refill 37 = .ok (.ireturn, 1) := by decide +kernel
theorem dX4_refill_38 : decode cX4_refill 38 = .ok (.aload_n 0, 1) := by decide +kernel
theorem dX4_refill_39 : decode cX4_refill 39 = .ok (.getfield 10, 3) := by decide +kernel
theorem dX4_refill_42 : decode cX4_refill 42 = .ok (.iload_n 1, 1) := by decide +kernel
theorem dX4_refill_43 : decode cX4_refill 43 = .ok (.invokevirtual 80, 3) := by decide +kernel
theorem dX4_refill_46 : decode cX4_refill 46 = .ok (.sipush 6000, 3) := by decide +kernel
theorem dX4_refill_49 : decode cX4_refill 49 = .ok (.if_icmp .lt 6, 3) := by decide +kernel
theorem dX4_refill_52 : decode cX4_refill 52 = .ok (.bipush (-3), 2) := by decide +kernel
theorem dX4_refill_54 : decode cX4_refill 54 = .ok (.ireturn, 1) := by decide +kernel
theorem dX4_refill_55 : decode cX4_refill 55 = .ok (.aload_n 0, 1) := by decide +kernel
theorem dX4_refill_56 : decode cX4_refill 56 = .ok (.getfield 26, 3) := by decide +kernel
theorem dX4_refill_59 : decode cX4_refill 59 = .ok (.aload_n 0, 1) := by decide +kernel
theorem dX4_refill_60 : decode cX4_refill 60 = .ok (.getfield 10, 3) := by decide +kernel
theorem dX4_refill_63 : decode cX4_refill 63 = .ok (.invokevirtual 51, 3) := by decide +kernel
theorem dX4_refill_66 : decode cX4_refill 66 = .ok (.aload_n 0, 1) := by decide +kernel
theorem dX4_refill_67 : decode cX4_refill 67 = .ok (.getfield 10, 3) := by decide +kernel
theorem dX4_refill_70 : decode cX4_refill 70 = .ok (.iload_n 1, 1) := by decide +kernel
theorem dX4_refill_71 : decode cX4_refill 71 = .ok (.iload_n 2, 1) := by decide +kernel
theorem dX4_refill_72 : decode cX4_refill 72 = .ok (.invokevirtual 83, 3) := by decide +kernel
theorem dX4_refill_75 : decode cX4_refill 75 = .ok (.ireturn, 1) := by decide +kernel
theorem dX4_set_0 : decode cX4_set 0 = .ok (.iload_n 1, 1) := by decide +kernel
theorem dX4_set_1 : decode cX4_set 1 = .ok (.ifCond .lt 8, 3) := by decide +kernel
theorem dX4_set_4 : decode cX4_set 4 = .ok (.iload_n 1, 1) := by decide +kernel
theorem dX4_set_5 : decode cX4_set 5 = .ok (.iconst 4, 1) := by decide +kernel
theorem dX4_set_6 : decode cX4_set 6 = .ok (.if_icmp .lt 5, 3) := by decide +kernel
theorem dX4_set_9 : decode cX4_set 9 = .ok (.iconst (-1), 1) := by decide +kernel
theorem dX4_set_10 : decode cX4_set 10 = .ok (.ireturn, 1) := by decide +kernel
theorem dX4_set_11 : decode cX4_set 11 = .ok (.iload_n 2, 1) := by decide +kernel
theorem dX4_set_12 : decode cX4_set 12 = .ok (.getstatic 86, 3) := by decide +kernel
theorem dX4_set_15 : decode cX4_set 15 = .ok (.iload_n 1, 1) := by decide +kernel
theorem dX4_set_16 : decode cX4_set 16 = .ok (.iaload, 1) := by decide +kernel
theorem dX4_set_17 : decode cX4_set 17 = .ok (.if_icmp .lt 12, 3) := by decide +kernel
theorem dX4_set_20 : decode cX4_set 20 = .ok (.iload_n 2, 1) := by decide +kernel
theorem dX4_set_21 : decode cX4_set 21 = .ok (.getstatic 89, 3) := by decide +kernel
theorem dX4_set_24 : decode cX4_set 24 = .ok (.iload_n 1, 1) := by decide +kernel
theorem dX4_set_25 : decode cX4_set 25 = .ok (.iaload, 1) := by decide +kernel
theorem dX4_set_26 : decode cX4_set 26 = .ok (.if_icmp .le 5, 3) := by decide +kernel
theorem dX4_set_29 : decode cX4_set 29 = .ok (.iconst (-1), 1) := by decide +kernel
theorem dX4_set_30 : decode cX4_set 30 = .ok (.ireturn, 1) := by decide +kernel
theorem dX4_set_31 : decode cX4_set 31 = .ok (.aload_n 0, 1) := by decide +kernel
theorem dX4_set_32 : decode cX4_set 32 = .ok (.getfield 26, 3) := by decide +kernel
theorem dX4_set_35 : decode cX4_set 35 = .ok (.aload_n 0, 1) := by decide +kernel
theorem dX4_set_36 : decode cX4_set 36 = .ok (.getfield 10, 3) := by decide +kernel
theorem dX4_set_39 : decode cX4_set 39 = .ok (.invokevirtual 51, 3) := by decide +kernel
theorem dX4_set_42 : decode cX4_set 42 = .ok (.aload_n 0, 1) := by decide +kernel
theorem dX4_set_43 : decode cX4_set 43 = .ok (.getfield 10, 3) := by decide +kernel
theorem dX4_set_46 : decode cX4_set 46 = .ok (.getfield 92, 3) := by decide +kernel
theorem dX4_set_49 : decode cX4_set 49 = .ok (.iload_n 1, 1) := by decide +kernel
theorem dX4_set_50 : decode cX4_set 50 = .ok (.iaload, 1) := by decide +kernel
theorem dX4_set_51 : decode cX4_set 51 = .ok (.istore_n 3, 1) := by decide +kernel
theorem dX4_set_52 : decode cX4_set 52 = .ok (.aload_n 0, 1) := by decide +kernel
theorem dX4_set_53 : decode cX4_set 53 = .ok (.getfield 10, 3) := by decide +kernel
theorem dX4_set_56 : decode cX4_set 56 = .ok (.getfield 92, 3) := by decide +kernel
theorem dX4_set_59 : decode cX4_set 59 = .ok (.iload_n 1, 1) := by decide +kernel
theorem dX4_set_60 : decode cX4_set 60 = .ok (.iload_n 2, 1) := by decide +kernel
theorem dX4_set_61 : decode cX4_set 61 = .ok (.iastore, 1) := by decide +kernel
theorem dX4_set_62 : decode cX4_set 62 = .ok (.iload_n 3, 1) := by decide +kernel
theorem dX4_set_63 : decode cX4_set 63 = .ok (.ireturn, 1) := by decide +kernel
theorem dX4_append_0 : decode cX4_append 0 = .ok (.iload_n 1, 1) := by decide +kernel
theorem dX4_append_1 : decode cX4_append 1 = .ok (.bipush 33, 2) := by decide +kernel
theorem dX4_append_3 : decode cX4_append 3 = .ok (.if_icmp .lt 9, 3) := by decide +kernel
theorem dX4_append_6 : decode cX4_append 6 = .ok (.iload_n 1, 1) := by decide +kernel
theorem dX4_append_7 : decode cX4_append 7 = .ok (.bipush 126, 2) := by decide +kernel
theorem dX4_append_9 : decode cX4_append 9 = .ok (.if_icmp .le 5, 3) := by decide +kernel
theorem dX4_append_12 : decode cX4_append 12 = .ok (.iconst (-1), 1) := by decide +kernel
theorem dX4_append_13 : decode cX4_append 13 = .ok (.ireturn, 1) := by decide +kernel
theorem dX4_append_14 : decode cX4_append 14 = .ok (.aload_n 0, 1) := by decide +kernel
theorem dX4_append_15 : decode cX4_append 15 = .ok (.getfield 33, 3) := by decide +kernel
theorem dX4_append_18 : decode cX4_append 18 = .ok (.invokevirtual 95, 3) := by decide +kernel
theorem dX4_append_21 : decode cX4_append 21 = .ok (.ifCond .ne 6, 3) := by decide +kernel
theorem dX4_append_24 : decode cX4_append 24 = .ok (.bipush (-3), 2) := by decide +kernel
theorem dX4_append_26 : decode cX4_append 26 = .ok (.ireturn, 1) := by decide +kernel
theorem dX4_append_27 : decode cX4_append 27 = .ok (.aload_n 0, 1) := by decide +kernel
theorem dX4_append_28 : decode cX4_append 28 = .ok (.getfield 33, 3) := by decide +kernel
theorem dX4_append_31 : decode cX4_append 31 = .ok (.iload_n 1, 1) := by decide +kernel
theorem dX4_append_32 : decode cX4_append 32 = .ok (.i2c, 1) := by decide +kernel
theorem dX4_append_33 : decode cX4_append 33 = .ok (.invokevirtual 99, 3) := by decide +kernel
theorem dX4_append_36 : decode cX4_append 36 = .ok (.aload_n 0, 1) := by decide +kernel
theorem dX4_append_37 : decode cX4_append 37 = .ok (.getfield 33, 3) := by decide +kernel
theorem dX4_append_40 : decode cX4_append 40 = .ok (.getfield 103, 3) := by decide +kernel
theorem dX4_append_43 : decode cX4_append 43 = .ok (.ireturn, 1) := by decide +kernel
theorem dX4_clear_0 : decode cX4_clear 0 = .ok (.aload_n 0, 1) := by decide +kernel
theorem dX4_clear_1 : decode cX4_clear 1 = .ok (.getfield 33, 3) := by decide +kernel
theorem dX4_clear_4 : decode cX4_clear 4 = .ok (.getfield 103, 3) := by decide +kernel
theorem dX4_clear_7 : decode cX4_clear 7 = .ok (.istore_n 1, 1) := by decide +kernel
theorem dX4_clear_8 : decode cX4_clear 8 = .ok (.aload_n 0, 1) := by decide +kernel
theorem dX4_clear_9 : decode cX4_clear 9 = .ok (.getfield 33, 3) := by decide +kernel
theorem dX4_clear_12 : decode cX4_clear 12 = .ok (.invokevirtual 107, 3) := by decide +kernel
theorem dX4_clear_15 : decode cX4_clear 15 = .ok (.iload_n 1, 1) := by decide +kernel
theorem dX4_clear_16 : decode cX4_clear 16 = .ok (.ireturn, 1) := by decide +kernel
theorem dX4_fault_0 : decode cX4_fault 0 = .ok (.aload_n 0, 1) := by decide +kernel
theorem dX4_fault_1 : decode cX4_fault 1 = .ok (.getfield 33, 3) := by decide +kernel
theorem dX4_fault_4 : decode cX4_fault 4 = .ok (.invokevirtual 110, 3) := by decide +kernel
theorem dX4_fault_7 : decode cX4_fault 7 = .ok (.ireturn, 1) := by decide +kernel
theorem dX4_run_0 : decode cX4_run 0 = .ok (.aload_n 0, 1) := by decide +kernel
theorem dX4_run_1 : decode cX4_run 1 = .ok (.getfield 33, 3) := by decide +kernel
theorem dX4_run_4 : decode cX4_run 4 = .ok (.invokevirtual 110, 3) := by decide +kernel
theorem dX4_run_7 : decode cX4_run 7 = .ok (.bipush (-4), 2) := by decide +kernel
theorem dX4_run_9 : decode cX4_run 9 = .ok (.if_icmp .eq 6, 3) := by decide +kernel
theorem dX4_run_12 : decode cX4_run 12 = .ok (.bipush (-2), 2) := by decide +kernel
theorem dX4_run_14 : decode cX4_run 14 = .ok (.ireturn, 1) := by decide +kernel
theorem dX4_run_15 : decode cX4_run 15 = .ok (.aload_n 0, 1) := by decide +kernel
theorem dX4_run_16 : decode cX4_run 16 = .ok (.getfield 26, 3) := by decide +kernel
theorem dX4_run_19 : decode cX4_run 19 = .ok (.aload_n 0, 1) := by decide +kernel
theorem dX4_run_20 : decode cX4_run 20 = .ok (.getfield 10, 3) := by decide +kernel
theorem dX4_run_23 : decode cX4_run 23 = .ok (.invokevirtual 51, 3) := by decide +kernel
theorem dX4_run_26 : decode cX4_run 26 = .ok (.aload_n 0, 1) := by decide +kernel
theorem dX4_run_27 : decode cX4_run 27 = .ok (.getfield 40, 3) := by decide +kernel
theorem dX4_run_30 : decode cX4_run 30 = .ok (.invokevirtual 114, 3) := by decide +kernel
theorem dX4_run_33 : decode cX4_run 33 = .ok (.iconst 0, 1) := by decide +kernel
theorem dX4_run_34 : decode cX4_run 34 = .ok (.istore_n 1, 1) := by decide +kernel
theorem dX4_run_35 : decode cX4_run 35 = .ok (.iconst 0, 1) := by decide +kernel
theorem dX4_run_36 : decode cX4_run 36 = .ok (.istore_n 2, 1) := by decide +kernel
theorem dX4_run_37 : decode cX4_run 37 = .ok (.iload_n 2, 1) := by decide +kernel
theorem dX4_run_38 : decode cX4_run 38 = .ok (.aload_n 0, 1) := by decide +kernel
theorem dX4_run_39 : decode cX4_run 39 = .ok (.getfield 33, 3) := by decide +kernel
theorem dX4_run_42 : decode cX4_run 42 = .ok (.getfield 117, 3) := by decide +kernel
theorem dX4_run_45 : decode cX4_run 45 = .ok (.if_icmp .ge 27, 3) := by decide +kernel
theorem dX4_run_48 : decode cX4_run 48 = .ok (.aload_n 0, 1) := by decide +kernel
theorem dX4_run_49 : decode cX4_run 49 = .ok (.getfield 40, 3) := by decide +kernel
theorem dX4_run_52 : decode cX4_run 52 = .ok (.invokevirtual 120, 3) := by decide +kernel
theorem dX4_run_55 : decode cX4_run 55 = .ok (.ifCond .ne 17, 3) := by decide +kernel
theorem dX4_run_58 : decode cX4_run 58 = .ok (.iload_n 1, 1) := by decide +kernel
theorem dX4_run_59 : decode cX4_run 59 = .ok (.aload_n 0, 1) := by decide +kernel
theorem dX4_run_60 : decode cX4_run 60 = .ok (.iload_n 2, 1) := by decide +kernel
theorem dX4_run_61 : decode cX4_run 61 = .ok (.invokevirtual 123, 3) := by decide +kernel
theorem dX4_run_64 : decode cX4_run 64 = .ok (.iadd, 1) := by decide +kernel
theorem dX4_run_65 : decode cX4_run 65 = .ok (.istore_n 1, 1) := by decide +kernel
theorem dX4_run_66 : decode cX4_run 66 = .ok (.iinc 2 1, 3) := by decide +kernel
theorem dX4_run_69 : decode cX4_run 69 = .ok (.goto (-32), 3) := by decide +kernel
theorem dX4_run_72 : decode cX4_run 72 = .ok (.aload_n 0, 1) := by decide +kernel
theorem dX4_run_73 : decode cX4_run 73 = .ok (.getfield 33, 3) := by decide +kernel
theorem dX4_run_76 : decode cX4_run 76 = .ok (.invokevirtual 107, 3) := by decide +kernel
theorem dX4_run_79 : decode cX4_run 79 = .ok (.iload_n 1, 1) := by decide +kernel
theorem dX4_run_80 : decode cX4_run 80 = .ok (.ireturn, 1) := by decide +kernel
theorem dX4_why_0 : decode cX4_why 0 = .ok (.iload_n 1, 1) := by decide +kernel
theorem dX4_why_1 : decode cX4_why 1 = .ok (.tableswitch 63 0 3 #[31, 39, 47, 55], 31) := by decide +kernel
theorem dX4_why_32 : decode cX4_why 32 = .ok (.aload_n 0, 1) := by decide +kernel
theorem dX4_why_33 : decode cX4_why 33 = .ok (.getfield 40, 3) := by decide +kernel
theorem dX4_why_36 : decode cX4_why 36 = .ok (.getfield 126, 3) := by decide +kernel
theorem dX4_why_39 : decode cX4_why 39 = .ok (.ireturn, 1) := by decide +kernel
theorem dX4_why_40 : decode cX4_why 40 = .ok (.aload_n 0, 1) := by decide +kernel
theorem dX4_why_41 : decode cX4_why 41 = .ok (.getfield 40, 3) := by decide +kernel
theorem dX4_why_44 : decode cX4_why 44 = .ok (.getfield 129, 3) := by decide +kernel
theorem dX4_why_47 : decode cX4_why 47 = .ok (.ireturn, 1) := by decide +kernel
theorem dX4_why_48 : decode cX4_why 48 = .ok (.aload_n 0, 1) := by decide +kernel
theorem dX4_why_49 : decode cX4_why 49 = .ok (.getfield 40, 3) := by decide +kernel
theorem dX4_why_52 : decode cX4_why 52 = .ok (.getfield 132, 3) := by decide +kernel
theorem dX4_why_55 : decode cX4_why 55 = .ok (.ireturn, 1) := by decide +kernel
theorem dX4_why_56 : decode cX4_why 56 = .ok (.aload_n 0, 1) := by decide +kernel
theorem dX4_why_57 : decode cX4_why 57 = .ok (.getfield 40, 3) := by decide +kernel
theorem dX4_why_60 : decode cX4_why 60 = .ok (.getfield 135, 3) := by decide +kernel
theorem dX4_why_63 : decode cX4_why 63 = .ok (.ireturn, 1) := by decide +kernel
theorem dX4_why_64 : decode cX4_why 64 = .ok (.iconst (-1), 1) := by decide +kernel
theorem dX4_why_65 : decode cX4_why 65 = .ok (.ireturn, 1) := by decide +kernel
theorem dX4_cup_0 : decode cX4_cup 0 = .ok (.iload_n 1, 1) := by decide +kernel
theorem dX4_cup_1 : decode cX4_cup 1 = .ok (.invokestatic 59, 3) := by decide +kernel
theorem dX4_cup_4 : decode cX4_cup 4 = .ok (.ifCond .ne 5, 3) := by decide +kernel
theorem dX4_cup_7 : decode cX4_cup 7 = .ok (.iconst (-1), 1) := by decide +kernel
theorem dX4_cup_8 : decode cX4_cup 8 = .ok (.ireturn, 1) := by decide +kernel
theorem dX4_cup_9 : decode cX4_cup 9 = .ok (.iload_n 2, 1) := by decide +kernel
theorem dX4_cup_10 : decode cX4_cup 10 = .ok (.tableswitch 134 0 7 #[46, 56, 66, 76, 86, 95, 104, 113], 46) := by decide +kernel
theorem dX4_cup_56 : decode cX4_cup 56 = .ok (.aload_n 0, 1) := by decide +kernel
theorem dX4_cup_57 : decode cX4_cup 57 = .ok (.getfield 10, 3) := by decide +kernel
theorem dX4_cup_60 : decode cX4_cup 60 = .ok (.getfield 138, 3) := by decide +kernel
theorem dX4_cup_63 : decode cX4_cup 63 = .ok (.iload_n 1, 1) := by decide +kernel
theorem dX4_cup_64 : decode cX4_cup 64 = .ok (.iaload, 1) := by decide +kernel
theorem dX4_cup_65 : decode cX4_cup 65 = .ok (.ireturn, 1) := by decide +kernel
theorem dX4_cup_66 : decode cX4_cup 66 = .ok (.aload_n 0, 1) := by decide +kernel
theorem dX4_cup_67 : decode cX4_cup 67 = .ok (.getfield 10, 3) := by decide +kernel
theorem dX4_cup_70 : decode cX4_cup 70 = .ok (.getfield 141, 3) := by decide +kernel
theorem dX4_cup_73 : decode cX4_cup 73 = .ok (.iload_n 1, 1) := by decide +kernel
theorem dX4_cup_74 : decode cX4_cup 74 = .ok (.iaload, 1) := by decide +kernel
theorem dX4_cup_75 : decode cX4_cup 75 = .ok (.ireturn, 1) := by decide +kernel
theorem dX4_cup_76 : decode cX4_cup 76 = .ok (.aload_n 0, 1) := by decide +kernel
theorem dX4_cup_77 : decode cX4_cup 77 = .ok (.getfield 10, 3) := by decide +kernel
theorem dX4_cup_80 : decode cX4_cup 80 = .ok (.getfield 144, 3) := by decide +kernel
theorem dX4_cup_83 : decode cX4_cup 83 = .ok (.iload_n 1, 1) := by decide +kernel
theorem dX4_cup_84 : decode cX4_cup 84 = .ok (.iaload, 1) := by decide +kernel
theorem dX4_cup_85 : decode cX4_cup 85 = .ok (.ireturn, 1) := by decide +kernel
theorem dX4_cup_86 : decode cX4_cup 86 = .ok (.aload_n 0, 1) := by decide +kernel
theorem dX4_cup_87 : decode cX4_cup 87 = .ok (.getfield 10, 3) := by decide +kernel
theorem dX4_cup_90 : decode cX4_cup 90 = .ok (.getfield 147, 3) := by decide +kernel
theorem dX4_cup_93 : decode cX4_cup 93 = .ok (.iload_n 1, 1) := by decide +kernel
theorem dX4_cup_94 : decode cX4_cup 94 = .ok (.iaload, 1) := by decide +kernel
theorem dX4_cup_95 : decode cX4_cup 95 = .ok (.ireturn, 1) := by decide +kernel
theorem dX4_cup_96 : decode cX4_cup 96 = .ok (.aload_n 0, 1) := by decide +kernel
theorem dX4_cup_97 : decode cX4_cup 97 = .ok (.getfield 10, 3) := by decide +kernel
theorem dX4_cup_100 : decode cX4_cup 100 = .ok (.iload_n 1, 1) := by decide +kernel
theorem dX4_cup_101 : decode cX4_cup 101 = .ok (.invokevirtual 77, 3) := by decide +kernel
theorem dX4_cup_104 : decode cX4_cup 104 = .ok (.ireturn, 1) := by decide +kernel
theorem dX4_cup_105 : decode cX4_cup 105 = .ok (.aload_n 0, 1) := by decide +kernel
theorem dX4_cup_106 : decode cX4_cup 106 = .ok (.getfield 10, 3) := by decide +kernel
theorem dX4_cup_109 : decode cX4_cup 109 = .ok (.iload_n 1, 1) := by decide +kernel
theorem dX4_cup_110 : decode cX4_cup 110 = .ok (.invokevirtual 150, 3) := by decide +kernel
theorem dX4_cup_113 : decode cX4_cup 113 = .ok (.ireturn, 1) := by decide +kernel
theorem dX4_cup_114 : decode cX4_cup 114 = .ok (.aload_n 0, 1) := by decide +kernel
theorem dX4_cup_115 : decode cX4_cup 115 = .ok (.getfield 10, 3) := by decide +kernel
theorem dX4_cup_118 : decode cX4_cup 118 = .ok (.iload_n 1, 1) := by decide +kernel
theorem dX4_cup_119 : decode cX4_cup 119 = .ok (.invokevirtual 153, 3) := by decide +kernel
theorem dX4_cup_122 : decode cX4_cup 122 = .ok (.ireturn, 1) := by decide +kernel
theorem dX4_cup_123 : decode cX4_cup 123 = .ok (.aload_n 0, 1) := by decide +kernel
theorem dX4_cup_124 : decode cX4_cup 124 = .ok (.getfield 10, 3) := by decide +kernel
theorem dX4_cup_127 : decode cX4_cup 127 = .ok (.iload_n 1, 1) := by decide +kernel
theorem dX4_cup_128 : decode cX4_cup 128 = .ok (.invokevirtual 153, 3) := by decide +kernel
theorem dX4_cup_131 : decode cX4_cup 131 = .ok (.aload_n 0, 1) := by decide +kernel
theorem dX4_cup_132 : decode cX4_cup 132 = .ok (.getfield 10, 3) := by decide +kernel
theorem dX4_cup_135 : decode cX4_cup 135 = .ok (.iload_n 1, 1) := by decide +kernel
theorem dX4_cup_136 : decode cX4_cup 136 = .ok (.invokevirtual 80, 3) := by decide +kernel
theorem dX4_cup_139 : decode cX4_cup 139 = .ok (.isub, 1) := by decide +kernel
theorem dX4_cup_140 : decode cX4_cup 140 = .ok (.ldc 156, 2) := by decide +kernel
theorem dX4_cup_142 : decode cX4_cup 142 = .ok (.iadd, 1) := by decide +kernel
theorem dX4_cup_143 : decode cX4_cup 143 = .ok (.ireturn, 1) := by decide +kernel
theorem dX4_cup_144 : decode cX4_cup 144 = .ok (.iconst (-1), 1) := by decide +kernel
theorem dX4_cup_145 : decode cX4_cup 145 = .ok (.ireturn, 1) := by decide +kernel
theorem dX4_printer_0 : decode cX4_printer 0 = .ok (.iload_n 1, 1) := by decide +kernel
theorem dX4_printer_1 : decode cX4_printer 1 = .ok (.invokestatic 44, 3) := by decide +kernel
theorem dX4_printer_4 : decode cX4_printer 4 = .ok (.ifCond .ne 5, 3) := by decide +kernel
theorem dX4_printer_7 : decode cX4_printer 7 = .ok (.iconst (-1), 1) := by decide +kernel
theorem dX4_printer_8 : decode cX4_printer 8 = .ok (.ireturn, 1) := by decide +kernel
theorem dX4_printer_9 : decode cX4_printer 9 = .ok (.iload_n 2, 1) := by decide +kernel
theorem dX4_printer_10 : decode cX4_printer 10 = .ok (.tableswitch 98 0 5 #[38, 48, 58, 68, 78, 88], 38) := by decide +kernel
theorem dX4_printer_48 : decode cX4_printer 48 = .ok (.aload_n 0, 1) := by decide +kernel
theorem dX4_printer_49 : decode cX4_printer 49 = .ok (.getfield 10, 3) := by decide +kernel
theorem dX4_printer_52 : decode cX4_printer 52 = .ok (.getfield 69, 3) := by decide +kernel
theorem dX4_printer_55 : decode cX4_printer 55 = .ok (.iload_n 1, 1) := by decide +kernel
theorem dX4_printer_56 : decode cX4_printer 56 = .ok (.iaload, 1) := by decide +kernel
theorem dX4_printer_57 : decode cX4_printer 57 = .ok (.ireturn, 1) := by decide +kernel
theorem dX4_printer_58 : decode cX4_printer 58 = .ok (.aload_n 0, 1) := by decide +kernel
theorem dX4_printer_59 : decode cX4_printer 59 = .ok (.getfield 10, 3) := by decide +kernel
theorem dX4_printer_62 : decode cX4_printer 62 = .ok (.getfield 157, 3) := by decide +kernel
theorem dX4_printer_65 : decode cX4_printer 65 = .ok (.iload_n 1, 1) := by decide +kernel
theorem dX4_printer_66 : decode cX4_printer 66 = .ok (.iaload, 1) := by decide +kernel
theorem dX4_printer_67 : decode cX4_printer 67 = .ok (.ireturn, 1) := by decide +kernel
theorem dX4_printer_68 : decode cX4_printer 68 = .ok (.aload_n 0, 1) := by decide +kernel
theorem dX4_printer_69 : decode cX4_printer 69 = .ok (.getfield 10, 3) := by decide +kernel
theorem dX4_printer_72 : decode cX4_printer 72 = .ok (.getfield 160, 3) := by decide +kernel
theorem dX4_printer_75 : decode cX4_printer 75 = .ok (.iload_n 1, 1) := by decide +kernel
theorem dX4_printer_76 : decode cX4_printer 76 = .ok (.iaload, 1) := by decide +kernel
theorem dX4_printer_77 : decode cX4_printer 77 = .ok (.ireturn, 1) := by decide +kernel
theorem dX4_printer_78 : decode cX4_printer 78 = .ok (.aload_n 0, 1) := by decide +kernel
theorem dX4_printer_79 : decode cX4_printer 79 = .ok (.getfield 10, 3) := by decide +kernel
theorem dX4_printer_82 : decode cX4_printer 82 = .ok (.getfield 163, 3) := by decide +kernel
theorem dX4_printer_85 : decode cX4_printer 85 = .ok (.iload_n 1, 1) := by decide +kernel
theorem dX4_printer_86 : decode cX4_printer 86 = .ok (.iaload, 1) := by decide +kernel
theorem dX4_printer_87 : decode cX4_printer 87 = .ok (.ireturn, 1) := by decide +kernel
theorem dX4_printer_88 : decode cX4_printer 88 = .ok (.aload_n 0, 1) := by decide +kernel
theorem dX4_printer_89 : decode cX4_printer 89 = .ok (.getfield 10, 3) := by decide +kernel
theorem dX4_printer_92 : decode cX4_printer 92 = .ok (.getfield 166, 3) := by decide +kernel
theorem dX4_printer_95 : decode cX4_printer 95 = .ok (.iload_n 1, 1) := by decide +kernel
theorem dX4_printer_96 : decode cX4_printer 96 = .ok (.iaload, 1) := by decide +kernel
theorem dX4_printer_97 : decode cX4_printer 97 = .ok (.ireturn, 1) := by decide +kernel
theorem dX4_printer_98 : decode cX4_printer 98 = .ok (.aload_n 0, 1) := by decide +kernel
theorem dX4_printer_99 : decode cX4_printer 99 = .ok (.getfield 10, 3) := by decide +kernel
theorem dX4_printer_102 : decode cX4_printer 102 = .ok (.getfield 169, 3) := by decide +kernel
theorem dX4_printer_105 : decode cX4_printer 105 = .ok (.iload_n 1, 1) := by decide +kernel
theorem dX4_printer_106 : decode cX4_printer 106 = .ok (.iaload, 1) := by decide +kernel
theorem dX4_printer_107 : decode cX4_printer 107 = .ok (.ireturn, 1) := by decide +kernel
theorem dX4_printer_108 : decode cX4_printer 108 = .ok (.iconst (-1), 1) := by decide +kernel
theorem dX4_printer_109 : decode cX4_printer 109 = .ok (.ireturn, 1) := by decide +kernel
theorem dX4_needs_0 : decode cX4_needs 0 = .ok (.iload_n 1, 1) := by decide +kernel
theorem dX4_needs_1 : decode cX4_needs 1 = .ok (.invokestatic 59, 3) := by decide +kernel
theorem dX4_needs_4 : decode cX4_needs 4 = .ok (.ifCond .eq 10, 3) := by decide +kernel
theorem dX4_needs_7 : decode cX4_needs 7 = .ok (.iload_n 2, 1) := by decide +kernel
theorem dX4_needs_8 : decode cX4_needs 8 = .ok (.invokestatic 48, 3) := by decide +kernel
theorem dX4_needs_11 : decode cX4_needs 11 = .ok (.ifCond .ne 5, 3) := by decide +kernel
theorem dX4_needs_14 : decode cX4_needs 14 = .ok (.iconst (-1), 1) := by decide +kernel
theorem dX4_needs_15 : decode cX4_needs 15 = .ok (.ireturn, 1) := by decide +kernel
theorem dX4_needs_16 : decode cX4_needs 16 = .ok (.iload_n 3, 1) := by decide +kernel
theorem dX4_needs_17 : decode cX4_needs 17 = .ok (.lookupswitch 65 #[(0, 27), (1, 46)], 27) := by decide +kernel
theorem dX4_needs_44 : decode cX4_needs 44 = .ok (.aload_n 0, 1) := by decide +kernel
theorem dX4_needs_45 : decode cX4_needs 45 = .ok (.getfield 10, 3) := by decide +kernel
theorem dX4_needs_48 : decode cX4_needs 48 = .ok (.iload_n 1, 1) := by decide +kernel
theorem dX4_needs_49 : decode cX4_needs 49 = .ok (.iload_n 2, 1) := by decide +kernel
theorem dX4_needs_50 : decode cX4_needs 50 = .ok (.aload_n 0, 1) := by decide +kernel
theorem dX4_needs_51 : decode cX4_needs 51 = .ok (.getfield 10, 3) := by decide +kernel
theorem dX4_needs_54 : decode cX4_needs 54 = .ok (.getfield 92, 3) := by decide +kernel
theorem dX4_needs_57 : decode cX4_needs 57 = .ok (.iconst 0, 1) := by decide +kernel
theorem dX4_needs_58 : decode cX4_needs 58 = .ok (.iaload, 1) := by decide +kernel
theorem dX4_needs_59 : decode cX4_needs 59 = .ok (.invokevirtual 172, 3) := by decide +kernel
theorem dX4_needs_62 : decode cX4_needs 62 = .ok (.ireturn, 1) := by decide +kernel
theorem dX4_needs_63 : decode cX4_needs 63 = .ok (.aload_n 0, 1) := by decide +kernel
theorem dX4_needs_64 : decode cX4_needs 64 = .ok (.getfield 10, 3) := by decide +kernel
theorem dX4_needs_67 : decode cX4_needs 67 = .ok (.iload_n 1, 1) := by decide +kernel
theorem dX4_needs_68 : decode cX4_needs 68 = .ok (.iload_n 2, 1) := by decide +kernel
theorem dX4_needs_69 : decode cX4_needs 69 = .ok (.aload_n 0, 1) := by decide +kernel
theorem dX4_needs_70 : decode cX4_needs 70 = .ok (.getfield 10, 3) := by decide +kernel
theorem dX4_needs_73 : decode cX4_needs 73 = .ok (.getfield 92, 3) := by decide +kernel
theorem dX4_needs_76 : decode cX4_needs 76 = .ok (.iconst 0, 1) := by decide +kernel
theorem dX4_needs_77 : decode cX4_needs 77 = .ok (.iaload, 1) := by decide +kernel
theorem dX4_needs_78 : decode cX4_needs 78 = .ok (.invokevirtual 176, 3) := by decide +kernel
theorem dX4_needs_81 : decode cX4_needs 81 = .ok (.ireturn, 1) := by decide +kernel
theorem dX4_needs_82 : decode cX4_needs 82 = .ok (.iconst (-1), 1) := by decide +kernel
theorem dX4_needs_83 : decode cX4_needs 83 = .ok (.ireturn, 1) := by decide +kernel
theorem dX4_whyNot_0 : decode cX4_whyNot 0 = .ok (.iload_n 1, 1) := by decide +kernel
theorem dX4_whyNot_1 : decode cX4_whyNot 1 = .ok (.invokestatic 44, 3) := by decide +kernel
theorem dX4_whyNot_4 : decode cX4_whyNot 4 = .ok (.ifCond .ne 5, 3) := by decide +kernel
theorem dX4_whyNot_7 : decode cX4_whyNot 7 = .ok (.iconst (-1), 1) := by decide +kernel
theorem dX4_whyNot_8 : decode cX4_whyNot 8 = .ok (.ireturn, 1) := by decide +kernel
theorem dX4_whyNot_9 : decode cX4_whyNot 9 = .ok (.aload_n 0, 1) := by decide +kernel
theorem dX4_whyNot_10 : decode cX4_whyNot 10 = .ok (.getfield 10, 3) := by decide +kernel
theorem dX4_whyNot_13 : decode cX4_whyNot 13 = .ok (.aload_n 0, 1) := by decide +kernel
theorem dX4_whyNot_14 : decode cX4_whyNot 14 = .ok (.getfield 10, 3) := by decide +kernel
theorem dX4_whyNot_17 : decode cX4_whyNot 17 = .ok (.getfield 69, 3) := by decide +kernel
theorem dX4_whyNot_20 : decode cX4_whyNot 20 = .ok (.iload_n 1, 1) := by decide +kernel
theorem dX4_whyNot_21 : decode cX4_whyNot 21 = .ok (.iaload, 1) := by decide +kernel
theorem dX4_whyNot_22 : decode cX4_whyNot 22 = .ok (.invokevirtual 179, 3) := by decide +kernel
theorem dX4_whyNot_25 : decode cX4_whyNot 25 = .ok (.ireturn, 1) := by decide +kernel
theorem dX4_count_0 : decode cX4_count 0 = .ok (.iload_n 1, 1) := by decide +kernel
theorem dX4_count_1 : decode cX4_count 1 = .ok (.tableswitch 172 0 13 #[71, 79, 87, 95, 103, 119, 127, 135, 143, 143, 143, 143, 156, 164], 71) := by decide +kernel
theorem dX4_count_72 : decode cX4_count 72 = .ok (.aload_n 0, 1) := by decide +kernel
theorem dX4_count_73 : decode cX4_count 73 = .ok (.getfield 10, 3) := by decide +kernel
theorem dX4_count_76 : decode cX4_count 76 = .ok (.invokevirtual 182, 3) := by decide +kernel
theorem dX4_count_79 : decode cX4_count 79 = .ok (.ireturn, 1) := by decide +kernel
theorem dX4_count_80 : decode cX4_count 80 = .ok (.aload_n 0, 1) := by decide +kernel
theorem dX4_count_81 : decode cX4_count 81 = .ok (.getfield 10, 3) := by decide +kernel
theorem dX4_count_84 : decode cX4_count 84 = .ok (.getfield 185, 3) := by decide +kernel
theorem dX4_count_87 : decode cX4_count 87 = .ok (.ireturn, 1) := by decide +kernel
theorem dX4_count_88 : decode cX4_count 88 = .ok (.aload_n 0, 1) := by decide +kernel
theorem dX4_count_89 : decode cX4_count 89 = .ok (.getfield 10, 3) := by decide +kernel
theorem dX4_count_92 : decode cX4_count 92 = .ok (.getfield 188, 3) := by decide +kernel
theorem dX4_count_95 : decode cX4_count 95 = .ok (.ireturn, 1) := by decide +kernel
theorem dX4_count_96 : decode cX4_count 96 = .ok (.aload_n 0, 1) := by decide +kernel
theorem dX4_count_97 : decode cX4_count 97 = .ok (.getfield 10, 3) := by decide +kernel
theorem dX4_count_100 : decode cX4_count 100 = .ok (.getfield 191, 3) := by decide +kernel
theorem dX4_count_103 : decode cX4_count 103 = .ok (.ireturn, 1) := by decide +kernel
theorem dX4_count_104 : decode cX4_count 104 = .ok (.aload_n 0, 1) := by decide +kernel
theorem dX4_count_105 : decode cX4_count 105 = .ok (.getfield 10, 3) := by decide +kernel
theorem dX4_count_108 : decode cX4_count 108 = .ok (.invokevirtual 194, 3) := by decide +kernel
theorem dX4_count_111 : decode cX4_count 111 = .ok (.aload_n 0, 1) := by decide +kernel
theorem dX4_count_112 : decode cX4_count 112 = .ok (.getfield 10, 3) := by decide +kernel
theorem dX4_count_115 : decode cX4_count 115 = .ok (.invokevirtual 197, 3) := by decide +kernel
theorem dX4_count_118 : decode cX4_count 118 = .ok (.iadd, 1) := by decide +kernel
theorem dX4_count_119 : decode cX4_count 119 = .ok (.ireturn, 1) := by decide +kernel
theorem dX4_count_120 : decode cX4_count 120 = .ok (.aload_n 0, 1) := by decide +kernel
theorem dX4_count_121 : decode cX4_count 121 = .ok (.getfield 10, 3) := by decide +kernel
theorem dX4_count_124 : decode cX4_count 124 = .ok (.invokevirtual 200, 3) := by decide +kernel
theorem dX4_count_127 : decode cX4_count 127 = .ok (.ireturn, 1) := by decide +kernel
theorem dX4_count_128 : decode cX4_count 128 = .ok (.aload_n 0, 1) := by decide +kernel
theorem dX4_count_129 : decode cX4_count 129 = .ok (.getfield 10, 3) := by decide +kernel
theorem dX4_count_132 : decode cX4_count 132 = .ok (.invokevirtual 203, 3) := by decide +kernel
theorem dX4_count_135 : decode cX4_count 135 = .ok (.ireturn, 1) := by decide +kernel
theorem dX4_count_136 : decode cX4_count 136 = .ok (.aload_n 0, 1) := by decide +kernel
theorem dX4_count_137 : decode cX4_count 137 = .ok (.getfield 10, 3) := by decide +kernel
theorem dX4_count_140 : decode cX4_count 140 = .ok (.invokevirtual 206, 3) := by decide +kernel
theorem dX4_count_143 : decode cX4_count 143 = .ok (.ireturn, 1) := by decide +kernel
theorem dX4_count_144 : decode cX4_count 144 = .ok (.aload_n 0, 1) := by decide +kernel
theorem dX4_count_145 : decode cX4_count 145 = .ok (.getfield 10, 3) := by decide +kernel
theorem dX4_count_148 : decode cX4_count 148 = .ok (.getfield 92, 3) := by decide +kernel
theorem dX4_count_151 : decode cX4_count 151 = .ok (.iload_n 1, 1) := by decide +kernel
theorem dX4_count_152 : decode cX4_count 152 = .ok (.bipush 8, 2) := by decide +kernel
theorem dX4_count_154 : decode cX4_count 154 = .ok (.isub, 1) := by decide +kernel
theorem dX4_count_155 : decode cX4_count 155 = .ok (.iaload, 1) := by decide +kernel
theorem dX4_count_156 : decode cX4_count 156 = .ok (.ireturn, 1) := by decide +kernel
theorem dX4_count_157 : decode cX4_count 157 = .ok (.aload_n 0, 1) := by decide +kernel
theorem dX4_count_158 : decode cX4_count 158 = .ok (.getfield 33, 3) := by decide +kernel
theorem dX4_count_161 : decode cX4_count 161 = .ok (.getfield 103, 3) := by decide +kernel
theorem dX4_count_164 : decode cX4_count 164 = .ok (.ireturn, 1) := by decide +kernel
theorem dX4_count_165 : decode cX4_count 165 = .ok (.aload_n 0, 1) := by decide +kernel
theorem dX4_count_166 : decode cX4_count 166 = .ok (.getfield 26, 3) := by decide +kernel
theorem dX4_count_169 : decode cX4_count 169 = .ok (.getfield 209, 3) := by decide +kernel
theorem dX4_count_172 : decode cX4_count 172 = .ok (.ireturn, 1) := by decide +kernel
theorem dX4_count_173 : decode cX4_count 173 = .ok (.iconst (-1), 1) := by decide +kernel
theorem dX4_count_174 : decode cX4_count 174 = .ok (.ireturn, 1) := by decide +kernel
theorem dX4_darkness_0 : decode cX4_darkness 0 = .ok (.aload_n 0, 1) := by decide +kernel
theorem dX4_darkness_1 : decode cX4_darkness 1 = .ok (.getfield 10, 3) := by decide +kernel
theorem dX4_darkness_4 : decode cX4_darkness 4 = .ok (.invokevirtual 194, 3) := by decide +kernel
theorem dX4_darkness_7 : decode cX4_darkness 7 = .ok (.istore_n 1, 1) := by decide +kernel
theorem dX4_darkness_8 : decode cX4_darkness 8 = .ok (.iload_n 1, 1) := by decide +kernel
theorem dX4_darkness_9 : decode cX4_darkness 9 = .ok (.aload_n 0, 1) := by decide +kernel
theorem dX4_darkness_10 : decode cX4_darkness 10 = .ok (.getfield 10, 3) := by decide +kernel
theorem dX4_darkness_13 : decode cX4_darkness 13 = .ok (.invokevirtual 197, 3) := by decide +kernel
theorem dX4_darkness_16 : decode cX4_darkness 16 = .ok (.iadd, 1) := by decide +kernel
theorem dX4_darkness_17 : decode cX4_darkness 17 = .ok (.istore_n 2, 1) := by decide +kernel
theorem dX4_darkness_18 : decode cX4_darkness 18 = .ok (.iload_n 2, 1) := by decide +kernel
theorem dX4_darkness_19 : decode cX4_darkness 19 = .ok (.ifCond .le 11, 3) := by decide +kernel
theorem dX4_darkness_22 : decode cX4_darkness 22 = .ok (.iload_n 1, 1) := by decide +kernel
theorem dX4_darkness_23 : decode cX4_darkness 23 = .ok (.i2d, 1) := by decide +kernel
theorem dX4_darkness_24 : decode cX4_darkness 24 = .ok (.iload_n 2, 1) := by decide +kernel
theorem dX4_darkness_25 : decode cX4_darkness 25 = .ok (.i2d, 1) := by decide +kernel
theorem dX4_darkness_26 : decode cX4_darkness 26 = .ok (.ddiv, 1) := by decide +kernel
theorem dX4_darkness_27 : decode cX4_darkness 27 = .ok (.goto 4, 3) := by decide +kernel
theorem dX4_darkness_30 : decode cX4_darkness 30 = .ok (.dconst 1, 1) := by decide +kernel
theorem dX4_darkness_31 : decode cX4_darkness 31 = .ok (.dreturn, 1) := by decide +kernel
theorem dX4_lasts_0 : decode cX4_lasts 0 = .ok (.iload_n 1, 1) := by decide +kernel
theorem dX4_lasts_1 : decode cX4_lasts 1 = .ok (.invokestatic 59, 3) := by decide +kernel
theorem dX4_lasts_4 : decode cX4_lasts 4 = .ok (.ifCond .eq 10, 3) := by decide +kernel
theorem dX4_lasts_7 : decode cX4_lasts 7 = .ok (.iload_n 2, 1) := by decide +kernel
theorem dX4_lasts_8 : decode cX4_lasts 8 = .ok (.invokestatic 48, 3) := by decide +kernel
theorem dX4_lasts_11 : decode cX4_lasts 11 = .ok (.ifCond .ne 5, 3) := by decide +kernel
theorem dX4_lasts_14 : decode cX4_lasts 14 = .ok (.iconst (-1), 1) := by decide +kernel
theorem dX4_lasts_15 : decode cX4_lasts 15 = .ok (.ireturn, 1) := by decide +kernel
theorem dX4_lasts_16 : decode cX4_lasts 16 = .ok (.aload_n 0, 1) := by decide +kernel
theorem dX4_lasts_17 : decode cX4_lasts 17 = .ok (.getfield 10, 3) := by decide +kernel
theorem dX4_lasts_20 : decode cX4_lasts 20 = .ok (.iload_n 1, 1) := by decide +kernel
theorem dX4_lasts_21 : decode cX4_lasts 21 = .ok (.iload_n 2, 1) := by decide +kernel
theorem dX4_lasts_22 : decode cX4_lasts 22 = .ok (.aload_n 0, 1) := by decide +kernel
theorem dX4_lasts_23 : decode cX4_lasts 23 = .ok (.getfield 10, 3) := by decide +kernel
theorem dX4_lasts_26 : decode cX4_lasts 26 = .ok (.getfield 92, 3) := by decide +kernel
theorem dX4_lasts_29 : decode cX4_lasts 29 = .ok (.iconst 0, 1) := by decide +kernel
theorem dX4_lasts_30 : decode cX4_lasts 30 = .ok (.iaload, 1) := by decide +kernel
theorem dX4_lasts_31 : decode cX4_lasts 31 = .ok (.invokevirtual 172, 3) := by decide +kernel
theorem dX4_lasts_34 : decode cX4_lasts 34 = .ok (.istore 4, 2) := by decide +kernel
theorem dX4_lasts_36 : decode cX4_lasts 36 = .ok (.aload_n 0, 1) := by decide +kernel
theorem dX4_lasts_37 : decode cX4_lasts 37 = .ok (.getfield 10, 3) := by decide +kernel
theorem dX4_lasts_40 : decode cX4_lasts 40 = .ok (.iload_n 1, 1) := by decide +kernel
theorem dX4_lasts_41 : decode cX4_lasts 41 = .ok (.iload 4, 2) := by decide +kernel
theorem dX4_lasts_43 : decode cX4_lasts 43 = .ok (.iload_n 3, 1) := by decide +kernel
theorem dX4_lasts_44 : decode cX4_lasts 44 = .ok (.sipush 999, 3) := by decide +kernel
theorem dX4_lasts_47 : decode cX4_lasts 47 = .ok (.invokevirtual 212, 3) := by decide +kernel
theorem dX4_lasts_50 : decode cX4_lasts 50 = .ok (.ireturn, 1) := by decide +kernel
theorem dX4_atHand_0 : decode cX4_atHand 0 = .ok (.iload_n 1, 1) := by decide +kernel
theorem dX4_atHand_1 : decode cX4_atHand 1 = .ok (.invokestatic 59, 3) := by decide +kernel
theorem dX4_atHand_4 : decode cX4_atHand 4 = .ok (.ifCond .eq 31, 3) := by decide +kernel
theorem dX4_atHand_7 : decode cX4_atHand 7 = .ok (.iload_n 2, 1) := by decide +kernel
theorem dX4_atHand_8 : decode cX4_atHand 8 = .ok (.invokestatic 48, 3) := by decide +kernel
theorem dX4_atHand_11 : decode cX4_atHand 11 = .ok (.ifCond .eq 24, 3) := by decide +kernel
theorem dX4_atHand_14 : decode cX4_atHand 14 = .ok (.iload_n 3, 1) := by decide +kernel
theorem dX4_atHand_15 : decode cX4_atHand 15 = .ok (.ifCond .lt 20, 3) := by decide +kernel
theorem dX4_atHand_18 : decode cX4_atHand 18 = .ok (.iload_n 3, 1) := by decide +kernel
theorem dX4_atHand_19 : decode cX4_atHand 19 = .ok (.bipush 50, 2) := by decide +kernel
theorem dX4_atHand_21 : decode cX4_atHand 21 = .ok (.if_icmp .gt 14, 3) := by decide +kernel
theorem dX4_atHand_24 : decode cX4_atHand 24 = .ok (.iload 4, 2) := by decide +kernel
theorem dX4_atHand_26 : decode cX4_atHand 26 = .ok (.ifCond .lt 9, 3) := by decide +kernel
theorem dX4_atHand_29 : decode cX4_atHand 29 = .ok (.iload 4, 2) := by decide +kernel
theorem dX4_atHand_31 : decode cX4_atHand 31 = .ok (.iconst 1, 1) := by decide +kernel
theorem dX4_atHand_32 : decode cX4_atHand 32 = .ok (.if_icmp .le 5, 3) := by decide +kernel
theorem dX4_atHand_35 : decode cX4_atHand 35 = .ok (.iconst (-1), 1) := by decide +kernel
theorem dX4_atHand_36 : decode cX4_atHand 36 = .ok (.ireturn, 1) := by decide +kernel
theorem dX4_atHand_37 : decode cX4_atHand 37 = .ok (.aload_n 0, 1) := by decide +kernel
theorem dX4_atHand_38 : decode cX4_atHand 38 = .ok (.getfield 10, 3) := by decide +kernel
theorem dX4_atHand_41 : decode cX4_atHand 41 = .ok (.iload_n 1, 1) := by decide +kernel
theorem dX4_atHand_42 : decode cX4_atHand 42 = .ok (.iload_n 2, 1) := by decide +kernel
theorem dX4_atHand_43 : decode cX4_atHand 43 = .ok (.aload_n 0, 1) := by decide +kernel
theorem dX4_atHand_44 : decode cX4_atHand 44 = .ok (.getfield 10, 3) := by decide +kernel
theorem dX4_atHand_47 : decode cX4_atHand 47 = .ok (.getfield 92, 3) := by decide +kernel
theorem dX4_atHand_50 : decode cX4_atHand 50 = .ok (.iconst 0, 1) := by decide +kernel
theorem dX4_atHand_51 : decode cX4_atHand 51 = .ok (.iaload, 1) := by decide +kernel
theorem dX4_atHand_52 : decode cX4_atHand 52 = .ok (.invokevirtual 172, 3) := by decide +kernel
theorem dX4_atHand_55 : decode cX4_atHand 55 = .ok (.istore 5, 2) := by decide +kernel
theorem dX4_atHand_57 : decode cX4_atHand 57 = .ok (.aload_n 0, 1) := by decide +kernel
theorem dX4_atHand_58 : decode cX4_atHand 58 = .ok (.getfield 10, 3) := by decide +kernel
theorem dX4_atHand_61 : decode cX4_atHand 61 = .ok (.iload_n 1, 1) := by decide +kernel
theorem dX4_atHand_62 : decode cX4_atHand 62 = .ok (.iload 5, 2) := by decide +kernel
theorem dX4_atHand_64 : decode cX4_atHand 64 = .ok (.iconst 0, 1) := by decide +kernel
theorem dX4_atHand_65 : decode cX4_atHand 65 = .ok (.iload_n 3, 1) := by decide +kernel
theorem dX4_atHand_66 : decode cX4_atHand 66 = .ok (.invokevirtual 212, 3) := by decide +kernel
theorem dX4_atHand_69 : decode cX4_atHand 69 = .ok (.iload_n 3, 1) := by decide +kernel
theorem dX4_atHand_70 : decode cX4_atHand 70 = .ok (.if_icmp .ge 6, 3) := by decide +kernel
theorem dX4_atHand_73 : decode cX4_atHand 73 = .ok (.bipush (-4), 2) := by decide +kernel
theorem dX4_atHand_75 : decode cX4_atHand 75 = .ok (.ireturn, 1) := by decide +kernel
theorem dX4_atHand_76 : decode cX4_atHand 76 = .ok (.iload 4, 2) := by decide +kernel
theorem dX4_atHand_78 : decode cX4_atHand 78 = .ok (.ifCond .ne 17, 3) := by decide +kernel
theorem dX4_atHand_81 : decode cX4_atHand 81 = .ok (.aload_n 0, 1) := by decide +kernel
theorem dX4_atHand_82 : decode cX4_atHand 82 = .ok (.getfield 10, 3) := by decide +kernel
theorem dX4_atHand_85 : decode cX4_atHand 85 = .ok (.iload_n 1, 1) := by decide +kernel
theorem dX4_atHand_86 : decode cX4_atHand 86 = .ok (.iload 5, 2) := by decide +kernel
theorem dX4_atHand_88 : decode cX4_atHand 88 = .ok (.iload_n 3, 1) := by decide +kernel
theorem dX4_atHand_89 : decode cX4_atHand 89 = .ok (.invokevirtual 216, 3) := by decide +kernel
theorem dX4_atHand_92 : decode cX4_atHand 92 = .ok (.goto 14, 3) := by decide +kernel
theorem dX4_atHand_95 : decode cX4_atHand 95 = .ok (.aload_n 0, 1) := by decide +kernel
theorem dX4_atHand_96 : decode cX4_atHand 96 = .ok (.getfield 10, 3) := by decide +kernel
theorem dX4_atHand_99 : decode cX4_atHand 99 = .ok (.iload_n 1, 1) := by decide +kernel
theorem dX4_atHand_100 : decode cX4_atHand 100 = .ok (.iload 5, 2) := by decide +kernel
theorem dX4_atHand_102 : decode cX4_atHand 102 = .ok (.iload_n 3, 1) := by decide +kernel
theorem dX4_atHand_103 : decode cX4_atHand 103 = .ok (.invokevirtual 219, 3) := by decide +kernel
theorem dX4_atHand_106 : decode cX4_atHand 106 = .ok (.ireturn, 1) := by decide +kernel
theorem dX4_bestFor_0 : decode cX4_bestFor 0 = .ok (.iload_n 1, 1) := by decide +kernel
theorem dX4_bestFor_1 : decode cX4_bestFor 1 = .ok (.invokestatic 48, 3) := by decide +kernel
theorem dX4_bestFor_4 : decode cX4_bestFor 4 = .ok (.ifCond .eq 10, 3) := by decide +kernel
theorem dX4_bestFor_7 : decode cX4_bestFor 7 = .ok (.iload_n 2, 1) := by decide +kernel
theorem dX4_bestFor_8 : decode cX4_bestFor 8 = .ok (.invokestatic 222, 3) := by decide +kernel
theorem dX4_bestFor_11 : decode cX4_bestFor 11 = .ok (.ifCond .ne 5, 3) := by decide +kernel
theorem dX4_bestFor_14 : decode cX4_bestFor 14 = .ok (.iconst (-1), 1) := by decide +kernel
theorem dX4_bestFor_15 : decode cX4_bestFor 15 = .ok (.ireturn, 1) := by decide +kernel
theorem dX4_bestFor_16 : decode cX4_bestFor 16 = .ok (.bipush (-4), 2) := by decide +kernel
theorem dX4_bestFor_18 : decode cX4_bestFor 18 = .ok (.istore_n 3, 1) := by decide +kernel
theorem dX4_bestFor_19 : decode cX4_bestFor 19 = .ok (.iconst 0, 1) := by decide +kernel
theorem dX4_bestFor_20 : decode cX4_bestFor 20 = .ok (.istore 4, 2) := by decide +kernel
theorem dX4_bestFor_22 : decode cX4_bestFor 22 = .ok (.iconst 0, 1) := by decide +kernel
theorem dX4_bestFor_23 : decode cX4_bestFor 23 = .ok (.istore 5, 2) := by decide +kernel
theorem dX4_bestFor_25 : decode cX4_bestFor 25 = .ok (.iload 5, 2) := by decide +kernel
theorem dX4_bestFor_27 : decode cX4_bestFor 27 = .ok (.iconst 4, 1) := by decide +kernel
theorem dX4_bestFor_28 : decode cX4_bestFor 28 = .ok (.if_icmp .ge 70, 3) := by decide +kernel
theorem dX4_bestFor_31 : decode cX4_bestFor 31 = .ok (.aload_n 0, 1) := by decide +kernel
theorem dX4_bestFor_32 : decode cX4_bestFor 32 = .ok (.getfield 10, 3) := by decide +kernel
theorem dX4_bestFor_35 : decode cX4_bestFor 35 = .ok (.iload 5, 2) := by decide +kernel
theorem dX4_bestFor_37 : decode cX4_bestFor 37 = .ok (.iload_n 1, 1) := by decide +kernel
theorem dX4_bestFor_38 : decode cX4_bestFor 38 = .ok (.aload_n 0, 1) := by decide +kernel
theorem dX4_bestFor_39 : decode cX4_bestFor 39 = .ok (.getfield 10, 3) := by decide +kernel
theorem dX4_bestFor_42 : decode cX4_bestFor 42 = .ok (.getfield 92, 3) := by decide +kernel
theorem dX4_bestFor_45 : decode cX4_bestFor 45 = .ok (.iconst 0, 1) := by decide +kernel
theorem dX4_bestFor_46 : decode cX4_bestFor 46 = .ok (.iaload, 1) := by decide +kernel
theorem dX4_bestFor_47 : decode cX4_bestFor 47 = .ok (.iload_n 2, 1) := by decide +kernel
theorem dX4_bestFor_48 : decode cX4_bestFor 48 = .ok (.invokevirtual 225, 3) := by decide +kernel
theorem dX4_bestFor_51 : decode cX4_bestFor 51 = .ok (.istore 6, 2) := by decide +kernel
theorem dX4_bestFor_53 : decode cX4_bestFor 53 = .ok (.iload 6, 2) := by decide +kernel
theorem dX4_bestFor_55 : decode cX4_bestFor 55 = .ok (.ifCond .eq 37, 3) := by decide +kernel
theorem dX4_bestFor_58 : decode cX4_bestFor 58 = .ok (.iload_n 3, 1) := by decide +kernel
theorem dX4_bestFor_59 : decode cX4_bestFor 59 = .ok (.bipush (-4), 2) := by decide +kernel
theorem dX4_bestFor_61 : decode cX4_bestFor 61 = .ok (.if_icmp .eq 17, 3) := by decide +kernel
theorem dX4_bestFor_64 : decode cX4_bestFor 64 = .ok (.aload_n 0, 1) := by decide +kernel
theorem dX4_bestFor_65 : decode cX4_bestFor 65 = .ok (.getfield 10, 3) := by decide +kernel
theorem dX4_bestFor_68 : decode cX4_bestFor 68 = .ok (.iload 5, 2) := by decide +kernel
theorem dX4_bestFor_70 : decode cX4_bestFor 70 = .ok (.invokevirtual 80, 3) := by decide +kernel
theorem dX4_bestFor_73 : decode cX4_bestFor 73 = .ok (.iload 4, 2) := by decide +kernel
theorem dX4_bestFor_75 : decode cX4_bestFor 75 = .ok (.if_icmp .ge 17, 3) := by decide +kernel
theorem dX4_bestFor_78 : decode cX4_bestFor 78 = .ok (.iload 5, 2) := by decide +kernel
theorem dX4_bestFor_80 : decode cX4_bestFor 80 = .ok (.istore_n 3, 1) := by decide +kernel
theorem dX4_bestFor_81 : decode cX4_bestFor 81 = .ok (.aload_n 0, 1) := by decide +kernel
theorem dX4_bestFor_82 : decode cX4_bestFor 82 = .ok (.getfield 10, 3) := by decide +kernel
theorem dX4_bestFor_85 : decode cX4_bestFor 85 = .ok (.iload 5, 2) := by decide +kernel
theorem dX4_bestFor_87 : decode cX4_bestFor 87 = .ok (.invokevirtual 80, 3) := by decide +kernel
theorem dX4_bestFor_90 : decode cX4_bestFor 90 = .ok (.istore 4, 2) := by decide +kernel
theorem dX4_bestFor_92 : decode cX4_bestFor 92 = .ok (.iinc 5 1, 3) := by decide +kernel
theorem dX4_bestFor_95 : decode cX4_bestFor 95 = .ok (.goto (-70), 3) := by decide +kernel
theorem dX4_bestFor_98 : decode cX4_bestFor 98 = .ok (.iload_n 3, 1) := by decide +kernel
theorem dX4_bestFor_99 : decode cX4_bestFor 99 = .ok (.ireturn, 1) := by decide +kernel
theorem dX4_darkest_0 : decode cX4_darkest 0 = .ok (.iload_n 1, 1) := by decide +kernel
theorem dX4_darkest_1 : decode cX4_darkest 1 = .ok (.invokestatic 59, 3) := by decide +kernel
theorem dX4_darkest_4 : decode cX4_darkest 4 = .ok (.ifCond .eq 17, 3) := by decide +kernel
theorem dX4_darkest_7 : decode cX4_darkest 7 = .ok (.iload_n 2, 1) := by decide +kernel
theorem dX4_darkest_8 : decode cX4_darkest 8 = .ok (.invokestatic 48, 3) := by decide +kernel
theorem dX4_darkest_11 : decode cX4_darkest 11 = .ok (.ifCond .eq 10, 3) := by decide +kernel
theorem dX4_darkest_14 : decode cX4_darkest 14 = .ok (.iload_n 3, 1) := by decide +kernel
theorem dX4_darkest_15 : decode cX4_darkest 15 = .ok (.invokestatic 222, 3) := by decide +kernel
theorem dX4_darkest_18 : decode cX4_darkest 18 = .ok (.ifCond .ne 5, 3) := by decide +kernel
theorem dX4_darkest_21 : decode cX4_darkest 21 = .ok (.iconst (-1), 1) := by decide +kernel
theorem dX4_darkest_22 : decode cX4_darkest 22 = .ok (.ireturn, 1) := by decide +kernel
theorem dX4_darkest_23 : decode cX4_darkest 23 = .ok (.iconst 5, 1) := by decide +kernel
theorem dX4_darkest_24 : decode cX4_darkest 24 = .ok (.istore 4, 2) := by decide +kernel
theorem dX4_darkest_26 : decode cX4_darkest 26 = .ok (.iload 4, 2) := by decide +kernel
theorem dX4_darkest_28 : decode cX4_darkest 28 = .ok (.iconst 1, 1) := by decide +kernel
theorem dX4_darkest_29 : decode cX4_darkest 29 = .ok (.if_icmp .lt 27, 3) := by decide +kernel
theorem dX4_darkest_32 : decode cX4_darkest 32 = .ok (.aload_n 0, 1) := by decide +kernel
theorem dX4_darkest_33 : decode cX4_darkest 33 = .ok (.getfield 10, 3) := by decide +kernel
theorem dX4_darkest_36 : decode cX4_darkest 36 = .ok (.iload_n 1, 1) := by decide +kernel
theorem dX4_darkest_37 : decode cX4_darkest 37 = .ok (.iload_n 2, 1) := by decide +kernel
theorem dX4_darkest_38 : decode cX4_darkest 38 = .ok (.iload 4, 2) := by decide +kernel
theorem dX4_darkest_40 : decode cX4_darkest 40 = .ok (.iload_n 3, 1) := by decide +kernel
theorem dX4_darkest_41 : decode cX4_darkest 41 = .ok (.invokevirtual 225, 3) := by decide +kernel
theorem dX4_darkest_44 : decode cX4_darkest 44 = .ok (.ifCond .eq 6, 3) := by decide +kernel
theorem dX4_darkest_47 : decode cX4_darkest 47 = .ok (.iload 4, 2) := by decide +kernel
theorem dX4_darkest_49 : decode cX4_darkest 49 = .ok (.ireturn, 1) := by decide +kernel
theorem dX4_darkest_50 : decode cX4_darkest 50 = .ok (.iinc 4 (-1), 3) := by decide +kernel
theorem dX4_darkest_53 : decode cX4_darkest 53 = .ok (.goto (-27), 3) := by decide +kernel
theorem dX4_darkest_56 : decode cX4_darkest 56 = .ok (.bipush (-4), 2) := by decide +kernel
theorem dX4_darkest_58 : decode cX4_darkest 58 = .ok (.ireturn, 1) := by decide +kernel
theorem dX4_undo_0 : decode cX4_undo 0 = .ok (.aload_n 0, 1) := by decide +kernel
theorem dX4_undo_1 : decode cX4_undo 1 = .ok (.getfield 26, 3) := by decide +kernel
theorem dX4_undo_4 : decode cX4_undo 4 = .ok (.getfield 209, 3) := by decide +kernel
theorem dX4_undo_7 : decode cX4_undo 7 = .ok (.iconst 1, 1) := by decide +kernel
theorem dX4_undo_8 : decode cX4_undo 8 = .ok (.if_icmp .ge 6, 3) := by decide +kernel
theorem dX4_undo_11 : decode cX4_undo 11 = .ok (.bipush (-2), 2) := by decide +kernel
theorem dX4_undo_13 : decode cX4_undo 13 = .ok (.ireturn, 1) := by decide +kernel
theorem dX4_undo_14 : decode cX4_undo 14 = .ok (.aload_n 0, 1) := by decide +kernel
theorem dX4_undo_15 : decode cX4_undo 15 = .ok (.getfield 26, 3) := by decide +kernel
theorem dX4_undo_18 : decode cX4_undo 18 = .ok (.aload_n 0, 1) := by decide +kernel
theorem dX4_undo_19 : decode cX4_undo 19 = .ok (.getfield 10, 3) := by decide +kernel
theorem dX4_undo_22 : decode cX4_undo 22 = .ok (.invokevirtual 229, 3) := by decide +kernel
theorem dX4_undo_25 : decode cX4_undo 25 = .ok (.aload_n 0, 1) := by decide +kernel
theorem dX4_undo_26 : decode cX4_undo 26 = .ok (.getfield 26, 3) := by decide +kernel
theorem dX4_undo_29 : decode cX4_undo 29 = .ok (.getfield 209, 3) := by decide +kernel
theorem dX4_undo_32 : decode cX4_undo 32 = .ok (.ireturn, 1) := by decide +kernel
theorem dX4_save_0 : decode cX4_save 0 = .ok (.aload_n 0, 1) := by decide +kernel
theorem dX4_save_1 : decode cX4_save 1 = .ok (.getfield 16, 3) := by decide +kernel
theorem dX4_save_4 : decode cX4_save 4 = .ok (.aload_n 0, 1) := by decide +kernel
theorem dX4_save_5 : decode cX4_save 5 = .ok (.getfield 10, 3) := by decide +kernel
theorem dX4_save_8 : decode cX4_save 8 = .ok (.invokevirtual 232, 3) := by decide +kernel
theorem dX4_save_11 : decode cX4_save 11 = .ok (.aload_n 0, 1) := by decide +kernel
theorem dX4_save_12 : decode cX4_save 12 = .ok (.iconst 1, 1) := by decide +kernel
theorem dX4_save_13 : decode cX4_save 13 = .ok (.putfield 19, 3) := by decide +kernel
theorem dX4_save_16 : decode cX4_save 16 = .ok (.aload_n 0, 1) := by decide +kernel
theorem dX4_save_17 : decode cX4_save 17 = .ok (.getfield 10, 3) := by decide +kernel
theorem dX4_save_20 : decode cX4_save 20 = .ok (.invokevirtual 182, 3) := by decide +kernel
theorem dX4_save_23 : decode cX4_save 23 = .ok (.ireturn, 1) := by decide +kernel
theorem dX4_restore_0 : decode cX4_restore 0 = .ok (.aload_n 0, 1) := by decide +kernel
theorem dX4_restore_1 : decode cX4_restore 1 = .ok (.getfield 19, 3) := by decide +kernel
theorem dX4_restore_4 : decode cX4_restore 4 = .ok (.ifCond .ne 6, 3) := by decide +kernel
theorem dX4_restore_7 : decode cX4_restore 7 = .ok (.bipush (-2), 2) := by decide +kernel
theorem dX4_restore_9 : decode cX4_restore 9 = .ok (.ireturn, 1) := by decide +kernel
theorem dX4_restore_10 : decode cX4_restore 10 = .ok (.aload_n 0, 1) := by decide +kernel
theorem dX4_restore_11 : decode cX4_restore 11 = .ok (.getfield 26, 3) := by decide +kernel
theorem dX4_restore_14 : decode cX4_restore 14 = .ok (.aload_n 0, 1) := by decide +kernel
theorem dX4_restore_15 : decode cX4_restore 15 = .ok (.getfield 10, 3) := by decide +kernel
theorem dX4_restore_18 : decode cX4_restore 18 = .ok (.invokevirtual 51, 3) := by decide +kernel
theorem dX4_restore_21 : decode cX4_restore 21 = .ok (.aload_n 0, 1) := by decide +kernel
theorem dX4_restore_22 : decode cX4_restore 22 = .ok (.getfield 10, 3) := by decide +kernel
theorem dX4_restore_25 : decode cX4_restore 25 = .ok (.aload_n 0, 1) := by decide +kernel
theorem dX4_restore_26 : decode cX4_restore 26 = .ok (.getfield 16, 3) := by decide +kernel
theorem dX4_restore_29 : decode cX4_restore 29 = .ok (.invokevirtual 232, 3) := by decide +kernel
theorem dX4_restore_32 : decode cX4_restore 32 = .ok (.aload_n 0, 1) := by decide +kernel
theorem dX4_restore_33 : decode cX4_restore 33 = .ok (.getfield 10, 3) := by decide +kernel
theorem dX4_restore_36 : decode cX4_restore 36 = .ok (.invokevirtual 182, 3) := by decide +kernel
theorem dX4_restore_39 : decode cX4_restore 39 = .ok (.ireturn, 1) := by decide +kernel
theorem dX4_doDeed_0 : decode cX4_doDeed 0 = .ok (.aload_n 0, 1) := by decide +kernel
theorem dX4_doDeed_1 : decode cX4_doDeed 1 = .ok (.getfield 33, 3) := by decide +kernel
theorem dX4_doDeed_4 : decode cX4_doDeed 4 = .ok (.getfield 235, 3) := by decide +kernel
theorem dX4_doDeed_7 : decode cX4_doDeed 7 = .ok (.iload_n 1, 1) := by decide +kernel
theorem dX4_doDeed_8 : decode cX4_doDeed 8 = .ok (.caload, 1) := by decide +kernel
theorem dX4_doDeed_9 : decode cX4_doDeed 9 = .ok (.istore_n 2, 1) := by decide +kernel
theorem dX4_doDeed_10 : decode cX4_doDeed 10 = .ok (.iload_n 2, 1) := by decide +kernel
theorem dX4_doDeed_11 : decode cX4_doDeed 11 = .ok (.bipush 112, 2) := by decide +kernel
theorem dX4_doDeed_13 : decode cX4_doDeed 13 = .ok (.if_icmp .ne 9, 3) := by decide +kernel
theorem dX4_doDeed_16 : decode cX4_doDeed 16 = .ok (.aload_n 0, 1) := by decide +kernel
theorem dX4_doDeed_17 : decode cX4_doDeed 17 = .ok (.iload_n 1, 1) := by decide +kernel
theorem dX4_doDeed_18 : decode cX4_doDeed 18 = .ok (.invokevirtual 239, 3) := by decide +kernel
theorem dX4_doDeed_21 : decode cX4_doDeed 21 = .ok (.ireturn, 1) := by decide +kernel
theorem dX4_doDeed_22 : decode cX4_doDeed 22 = .ok (.iload_n 2, 1) := by decide +kernel
theorem dX4_doDeed_23 : decode cX4_doDeed 23 = .ok (.bipush 115, 2) := by decide +kernel
theorem dX4_doDeed_25 : decode cX4_doDeed 25 = .ok (.if_icmp .ne 23, 3) := by decide +kernel
theorem dX4_doDeed_28 : decode cX4_doDeed 28 = .ok (.aload_n 0, 1) := by decide +kernel
theorem dX4_doDeed_29 : decode cX4_doDeed 29 = .ok (.getfield 10, 3) := by decide +kernel
theorem dX4_doDeed_32 : decode cX4_doDeed 32 = .ok (.aload_n 0, 1) := by decide +kernel
theorem dX4_doDeed_33 : decode cX4_doDeed 33 = .ok (.getfield 33, 3) := by decide +kernel
theorem dX4_doDeed_36 : decode cX4_doDeed 36 = .ok (.getfield 242, 3) := by decide +kernel
theorem dX4_doDeed_39 : decode cX4_doDeed 39 = .ok (.iload_n 1, 1) := by decide +kernel
theorem dX4_doDeed_40 : decode cX4_doDeed 40 = .ok (.iaload, 1) := by decide +kernel
theorem dX4_doDeed_41 : decode cX4_doDeed 41 = .ok (.invokevirtual 62, 3) := by decide +kernel
theorem dX4_doDeed_44 : decode cX4_doDeed 44 = .ok (.pop, 1) := by decide +kernel
theorem dX4_doDeed_45 : decode cX4_doDeed 45 = .ok (.goto 29, 3) := by decide +kernel
theorem dX4_doDeed_48 : decode cX4_doDeed 48 = .ok (.aload_n 0, 1) := by decide +kernel
theorem dX4_doDeed_49 : decode cX4_doDeed 49 = .ok (.getfield 10, 3) := by decide +kernel
theorem dX4_doDeed_52 : decode cX4_doDeed 52 = .ok (.aload_n 0, 1) := by decide +kernel
theorem dX4_doDeed_53 : decode cX4_doDeed 53 = .ok (.getfield 33, 3) := by decide +kernel
theorem dX4_doDeed_56 : decode cX4_doDeed 56 = .ok (.getfield 242, 3) := by decide +kernel
theorem dX4_doDeed_59 : decode cX4_doDeed 59 = .ok (.iload_n 1, 1) := by decide +kernel
theorem dX4_doDeed_60 : decode cX4_doDeed 60 = .ok (.iaload, 1) := by decide +kernel
theorem dX4_doDeed_61 : decode cX4_doDeed 61 = .ok (.aload_n 0, 1) := by decide +kernel
theorem dX4_doDeed_62 : decode cX4_doDeed 62 = .ok (.getfield 33, 3) := by decide +kernel
theorem dX4_doDeed_65 : decode cX4_doDeed 65 = .ok (.getfield 245, 3) := by decide +kernel
theorem dX4_doDeed_68 : decode cX4_doDeed 68 = .ok (.iload_n 1, 1) := by decide +kernel
theorem dX4_doDeed_69 : decode cX4_doDeed 69 = .ok (.iaload, 1) := by decide +kernel
theorem dX4_doDeed_70 : decode cX4_doDeed 70 = .ok (.invokevirtual 66, 3) := by decide +kernel
theorem dX4_doDeed_73 : decode cX4_doDeed 73 = .ok (.pop, 1) := by decide +kernel
theorem dX4_doDeed_74 : decode cX4_doDeed 74 = .ok (.iconst 0, 1) := by decide +kernel
theorem dX4_doDeed_75 : decode cX4_doDeed 75 = .ok (.ireturn, 1) := by decide +kernel
theorem dX4_printPagesOf_0 : decode cX4_printPagesOf 0 = .ok (.aload_n 0, 1) := by decide +kernel
theorem dX4_printPagesOf_1 : decode cX4_printPagesOf 1 = .ok (.getfield 33, 3) := by decide +kernel
theorem dX4_printPagesOf_4 : decode cX4_printPagesOf 4 = .ok (.getfield 248, 3) := by decide +kernel
theorem dX4_printPagesOf_7 : decode cX4_printPagesOf 7 = .ok (.iload_n 1, 1) := by decide +kernel
theorem dX4_printPagesOf_8 : decode cX4_printPagesOf 8 = .ok (.iaload, 1) := by decide +kernel
theorem dX4_printPagesOf_9 : decode cX4_printPagesOf 9 = .ok (.istore_n 2, 1) := by decide +kernel
theorem dX4_printPagesOf_10 : decode cX4_printPagesOf 10 = .ok (.iconst 0, 1) := by decide +kernel
theorem dX4_printPagesOf_11 : decode cX4_printPagesOf 11 = .ok (.istore_n 3, 1) := by decide +kernel
theorem dX4_printPagesOf_12 : decode cX4_printPagesOf 12 = .ok (.iload_n 3, 1) := by decide +kernel
theorem dX4_printPagesOf_13 : decode cX4_printPagesOf 13 = .ok (.iload_n 2, 1) := by decide +kernel
theorem dX4_printPagesOf_14 : decode cX4_printPagesOf 14 = .ok (.if_icmp .ge 65, 3) := by decide +kernel
theorem dX4_printPagesOf_17 : decode cX4_printPagesOf 17 = .ok (.aload_n 0, 1) := by decide +kernel
theorem dX4_printPagesOf_18 : decode cX4_printPagesOf 18 = .ok (.getfield 10, 3) := by decide +kernel
theorem dX4_printPagesOf_21 : decode cX4_printPagesOf 21 = .ok (.aload_n 0, 1) := by decide +kernel
theorem dX4_printPagesOf_22 : decode cX4_printPagesOf 22 = .ok (.getfield 33, 3) := by decide +kernel
theorem dX4_printPagesOf_25 : decode cX4_printPagesOf 25 = .ok (.getfield 242, 3) := by decide +kernel
theorem dX4_printPagesOf_28 : decode cX4_printPagesOf 28 = .ok (.iload_n 1, 1) := by decide +kernel
theorem dX4_printPagesOf_29 : decode cX4_printPagesOf 29 = .ok (.iaload, 1) := by decide +kernel
theorem dX4_printPagesOf_30 : decode cX4_printPagesOf 30 = .ok (.aload_n 0, 1) := by decide +kernel
theorem dX4_printPagesOf_31 : decode cX4_printPagesOf 31 = .ok (.getfield 33, 3) := by decide +kernel
theorem dX4_printPagesOf_34 : decode cX4_printPagesOf 34 = .ok (.getfield 245, 3) := by decide +kernel
theorem dX4_printPagesOf_37 : decode cX4_printPagesOf 37 = .ok (.iload_n 1, 1) := by decide +kernel
theorem dX4_printPagesOf_38 : decode cX4_printPagesOf 38 = .ok (.iaload, 1) := by decide +kernel
theorem dX4_printPagesOf_39 : decode cX4_printPagesOf 39 = .ok (.invokevirtual 55, 3) := by decide +kernel
theorem dX4_printPagesOf_42 : decode cX4_printPagesOf 42 = .ok (.istore 4, 2) := by decide +kernel
theorem dX4_printPagesOf_44 : decode cX4_printPagesOf 44 = .ok (.iload 4, 2) := by decide +kernel
theorem dX4_printPagesOf_46 : decode cX4_printPagesOf 46 = .ok (.bipush 10, 2) := by decide +kernel
theorem dX4_printPagesOf_48 : decode cX4_printPagesOf 48 = .ok (.if_icmp .ge 25, 3) := by decide +kernel
theorem dX4_printPagesOf_51 : decode cX4_printPagesOf 51 = .ok (.aload_n 0, 1) := by decide +kernel
theorem dX4_printPagesOf_52 : decode cX4_printPagesOf 52 = .ok (.getfield 40, 3) := by decide +kernel
theorem dX4_printPagesOf_55 : decode cX4_printPagesOf 55 = .ok (.iload 4, 2) := by decide +kernel
theorem dX4_printPagesOf_57 : decode cX4_printPagesOf 57 = .ok (.iload_n 1, 1) := by decide +kernel
theorem dX4_printPagesOf_58 : decode cX4_printPagesOf 58 = .ok (.aload_n 0, 1) := by decide +kernel
theorem dX4_printPagesOf_59 : decode cX4_printPagesOf 59 = .ok (.getfield 33, 3) := by decide +kernel
theorem dX4_printPagesOf_62 : decode cX4_printPagesOf 62 = .ok (.getfield 251, 3) := by decide +kernel
theorem dX4_printPagesOf_65 : decode cX4_printPagesOf 65 = .ok (.iload_n 1, 1) := by decide +kernel
theorem dX4_printPagesOf_66 : decode cX4_printPagesOf 66 = .ok (.iaload, 1) := by decide +kernel
theorem dX4_printPagesOf_67 : decode cX4_printPagesOf 67 = .ok (.iload_n 3, 1) := by decide +kernel
theorem dX4_printPagesOf_68 : decode cX4_printPagesOf 68 = .ok (.invokevirtual 254, 3) := by decide +kernel
theorem dX4_printPagesOf_71 : decode cX4_printPagesOf 71 = .ok (.iload_n 3, 1) := by decide +kernel
theorem dX4_printPagesOf_72 : decode cX4_printPagesOf 72 = .ok (.ireturn, 1) := by decide +kernel
theorem dX4_printPagesOf_73 : decode cX4_printPagesOf 73 = .ok (.iinc 3 1, 3) := by decide +kernel
theorem dX4_printPagesOf_76 : decode cX4_printPagesOf 76 = .ok (.goto (-64), 3) := by decide +kernel
theorem dX4_printPagesOf_79 : decode cX4_printPagesOf 79 = .ok (.iload_n 2, 1) := by decide +kernel
theorem dX4_printPagesOf_80 : decode cX4_printPagesOf 80 = .ok (.ireturn, 1) := by decide +kernel
theorem dX4_isCup_0 : decode cX4_isCup 0 = .ok (.iload_n 0, 1) := by decide +kernel
theorem dX4_isCup_1 : decode cX4_isCup 1 = .ok (.ifCond .lt 12, 3) := by decide +kernel
theorem dX4_isCup_4 : decode cX4_isCup 4 = .ok (.iload_n 0, 1) := by decide +kernel
theorem dX4_isCup_5 : decode cX4_isCup 5 = .ok (.iconst 4, 1) := by decide +kernel
theorem dX4_isCup_6 : decode cX4_isCup 6 = .ok (.if_icmp .ge 7, 3) := by decide +kernel
theorem dX4_isCup_9 : decode cX4_isCup 9 = .ok (.iconst 1, 1) := by decide +kernel
theorem dX4_isCup_10 : decode cX4_isCup 10 = .ok (.goto 4, 3) := by decide +kernel
theorem dX4_isCup_13 : decode cX4_isCup 13 = .ok (.iconst 0, 1) := by decide +kernel
theorem dX4_isCup_14 : decode cX4_isCup 14 = .ok (.ireturn, 1) := by decide +kernel
theorem dX4_isPrinter_0 : decode cX4_isPrinter 0 = .ok (.iload_n 0, 1) := by decide +kernel
theorem dX4_isPrinter_1 : decode cX4_isPrinter 1 = .ok (.ifCond .lt 12, 3) := by decide +kernel
theorem dX4_isPrinter_4 : decode cX4_isPrinter 4 = .ok (.iload_n 0, 1) := by decide +kernel
theorem dX4_isPrinter_5 : decode cX4_isPrinter 5 = .ok (.iconst 2, 1) := by decide +kernel
theorem dX4_isPrinter_6 : decode cX4_isPrinter 6 = .ok (.if_icmp .ge 7, 3) := by decide +kernel
theorem dX4_isPrinter_9 : decode cX4_isPrinter 9 = .ok (.iconst 1, 1) := by decide +kernel
theorem dX4_isPrinter_10 : decode cX4_isPrinter 10 = .ok (.goto 4, 3) := by decide +kernel
theorem dX4_isPrinter_13 : decode cX4_isPrinter 13 = .ok (.iconst 0, 1) := by decide +kernel
theorem dX4_isPrinter_14 : decode cX4_isPrinter 14 = .ok (.ireturn, 1) := by decide +kernel
theorem dX4_isDots_0 : decode cX4_isDots 0 = .ok (.iload_n 0, 1) := by decide +kernel
theorem dX4_isDots_1 : decode cX4_isDots 1 = .ok (.iconst 1, 1) := by decide +kernel
theorem dX4_isDots_2 : decode cX4_isDots 2 = .ok (.if_icmp .lt 14, 3) := by decide +kernel
theorem dX4_isDots_5 : decode cX4_isDots 5 = .ok (.iload_n 0, 1) := by decide +kernel
theorem dX4_isDots_6 : decode cX4_isDots 6 = .ok (.sipush 999, 3) := by decide +kernel
theorem dX4_isDots_9 : decode cX4_isDots 9 = .ok (.if_icmp .gt 7, 3) := by decide +kernel
theorem dX4_isDots_12 : decode cX4_isDots 12 = .ok (.iconst 1, 1) := by decide +kernel
theorem dX4_isDots_13 : decode cX4_isDots 13 = .ok (.goto 4, 3) := by decide +kernel
theorem dX4_isDots_16 : decode cX4_isDots 16 = .ok (.iconst 0, 1) := by decide +kernel
theorem dX4_isDots_17 : decode cX4_isDots 17 = .ok (.ireturn, 1) := by decide +kernel
theorem dX4_isJobLength_0 : decode cX4_isJobLength 0 = .ok (.iload_n 0, 1) := by decide +kernel
theorem dX4_isJobLength_1 : decode cX4_isJobLength 1 = .ok (.iconst 1, 1) := by decide +kernel
theorem dX4_isJobLength_2 : decode cX4_isJobLength 2 = .ok (.if_icmp .lt 13, 3) := by decide +kernel
theorem dX4_isJobLength_5 : decode cX4_isJobLength 5 = .ok (.iload_n 0, 1) := by decide +kernel
theorem dX4_isJobLength_6 : decode cX4_isJobLength 6 = .ok (.bipush 50, 2) := by decide +kernel
theorem dX4_isJobLength_8 : decode cX4_isJobLength 8 = .ok (.if_icmp .gt 7, 3) := by decide +kernel
theorem dX4_isJobLength_11 : decode cX4_isJobLength 11 = .ok (.iconst 1, 1) := by decide +kernel
theorem dX4_isJobLength_12 : decode cX4_isJobLength 12 = .ok (.goto 4, 3) := by decide +kernel
theorem dX4_isJobLength_15 : decode cX4_isJobLength 15 = .ok (.iconst 0, 1) := by decide +kernel
theorem dX4_isJobLength_16 : decode cX4_isJobLength 16 = .ok (.ireturn, 1) := by decide +kernel
theorem dX4_share_0 : decode cX4_share 0 = .ok (.iload_n 1, 1) := by decide +kernel
theorem dX4_share_1 : decode cX4_share 1 = .ok (.ifCond .le 9, 3) := by decide +kernel
theorem dX4_share_4 : decode cX4_share 4 = .ok (.iload_n 0, 1) := by decide +kernel
theorem dX4_share_5 : decode cX4_share 5 = .ok (.iload_n 1, 1) := by decide +kernel
theorem dX4_share_6 : decode cX4_share 6 = .ok (.idiv, 1) := by decide +kernel
theorem dX4_share_7 : decode cX4_share 7 = .ok (.goto 4, 3) := by decide +kernel
theorem dX4_share_10 : decode cX4_share 10 = .ok (.iconst 0, 1) := by decide +kernel
theorem dX4_share_11 : decode cX4_share 11 = .ok (.ireturn, 1) := by decide +kernel
theorem dX5_init_0 : decode cX5_init 0 = .ok (.aload_n 0, 1) := by decide +kernel
theorem dX5_init_1 : decode cX5_init 1 = .ok (.invokespecial 1, 3) := by decide +kernel
theorem dX5_init_4 : decode cX5_init 4 = .ok (.aload_n 0, 1) := by decide +kernel
theorem dX5_init_5 : decode cX5_init 5 = .ok (.bipush 35, 2) := by decide +kernel
theorem dX5_init_7 : decode cX5_init 7 = .ok (.newarray .int, 2) := by decide +kernel
theorem dX5_init_9 : decode cX5_init 9 = .ok (.putfield 7, 3) := by decide +kernel
theorem dX5_init_12 : decode cX5_init 12 = .ok (.aload_n 0, 1) := by decide +kernel
theorem dX5_init_13 : decode cX5_init 13 = .ok (.sipush 140, 3) := by decide +kernel
theorem dX5_init_16 : decode cX5_init 16 = .ok (.newarray .int, 2) := by decide +kernel
theorem dX5_init_18 : decode cX5_init 18 = .ok (.putfield 13, 3) := by decide +kernel
theorem dX5_init_21 : decode cX5_init 21 = .ok (.aload_n 0, 1) := by decide +kernel
theorem dX5_init_22 : decode cX5_init 22 = .ok (.bipush 35, 2) := by decide +kernel
theorem dX5_init_24 : decode cX5_init 24 = .ok (.newarray .int, 2) := by decide +kernel
theorem dX5_init_26 : decode cX5_init 26 = .ok (.putfield 16, 3) := by decide +kernel
theorem dX5_init_29 : decode cX5_init 29 = .ok (.aload_n 0, 1) := by decide +kernel
theorem dX5_init_30 : decode cX5_init 30 = .ok (.bipush 60, 2) := by decide +kernel
theorem dX5_init_32 : decode cX5_init 32 = .ok (.newarray .int, 2) := by decide +kernel
theorem dX5_init_34 : decode cX5_init 34 = .ok (.putfield 19, 3) := by decide +kernel
theorem dX5_init_37 : decode cX5_init 37 = .ok (.aload_n 0, 1) := by decide +kernel
theorem dX5_init_38 : decode cX5_init 38 = .ok (.iconst 4, 1) := by decide +kernel
theorem dX5_init_39 : decode cX5_init 39 = .ok (.newarray .int, 2) := by decide +kernel
theorem dX5_init_41 : decode cX5_init 41 = .ok (.putfield 22, 3) := by decide +kernel
theorem dX5_init_44 : decode cX5_init 44 = .ok (.iconst 0, 1) := by decide +kernel
theorem dX5_init_45 : decode cX5_init 45 = .ok (.istore_n 1, 1) := by decide +kernel
theorem dX5_init_46 : decode cX5_init 46 = .ok (.iload_n 1, 1) := by decide +kernel
theorem dX5_init_47 : decode cX5_init 47 = .ok (.iconst 4, 1) := by decide +kernel
theorem dX5_init_48 : decode cX5_init 48 = .ok (.if_icmp .ge 55, 3) := by decide +kernel
theorem dX5_init_51 : decode cX5_init 51 = .ok (.aload_n 0, 1) := by decide +kernel
theorem dX5_init_52 : decode cX5_init 52 = .ok (.getfield 7, 3) := by decide +kernel
theorem dX5_init_55 : decode cX5_init 55 = .ok (.iconst 0, 1) := by decide +kernel
theorem dX5_init_56 : decode cX5_init 56 = .ok (.iload_n 1, 1) := by decide +kernel
theorem dX5_init_57 : decode cX5_init 57 = .ok (.iadd, 1) := by decide +kernel
theorem dX5_init_58 : decode cX5_init 58 = .ok (.iload_n 1, 1) := by decide +kernel
theorem dX5_init_59 : decode cX5_init 59 = .ok (.iconst 3, 1) := by decide +kernel
theorem dX5_init_60 : decode cX5_init 60 = .ok (.irem, 1) := by decide +kernel
theorem dX5_init_61 : decode cX5_init 61 = .ok (.iastore, 1) := by decide +kernel
theorem dX5_init_62 : decode cX5_init 62 = .ok (.aload_n 0, 1) := by decide +kernel
theorem dX5_init_63 : decode cX5_init 63 = .ok (.getfield 7, 3) := by decide +kernel
theorem dX5_init_66 : decode cX5_init 66 = .ok (.iconst 4, 1) := by decide +kernel
theorem dX5_init_67 : decode cX5_init 67 = .ok (.iload_n 1, 1) := by decide +kernel
theorem dX5_init_68 : decode cX5_init 68 = .ok (.iadd, 1) := by decide +kernel
theorem dX5_init_69 : decode cX5_init 69 = .ok (.sipush 2000, 3) := by decide +kernel
theorem dX5_init_72 : decode cX5_init 72 = .ok (.iastore, 1) := by decide +kernel
theorem dX5_init_73 : decode cX5_init 73 = .ok (.aload_n 0, 1) := by decide +kernel
theorem dX5_init_74 : decode cX5_init 74 = .ok (.getfield 7, 3) := by decide +kernel
theorem dX5_init_77 : decode cX5_init 77 = .ok (.bipush 8, 2) := by decide +kernel
theorem dX5_init_79 : decode cX5_init 79 = .ok (.iload_n 1, 1) := by decide +kernel
theorem dX5_init_80 : decode cX5_init 80 = .ok (.iadd, 1) := by decide +kernel
theorem dX5_init_81 : decode cX5_init 81 = .ok (.sipush 2000, 3) := by decide +kernel
theorem dX5_init_84 : decode cX5_init 84 = .ok (.iastore, 1) := by decide +kernel
theorem dX5_init_85 : decode cX5_init 85 = .ok (.aload_n 0, 1) := by decide +kernel
theorem dX5_init_86 : decode cX5_init 86 = .ok (.getfield 7, 3) := by decide +kernel
theorem dX5_init_89 : decode cX5_init 89 = .ok (.bipush 12, 2) := by decide +kernel
theorem dX5_init_91 : decode cX5_init 91 = .ok (.iload_n 1, 1) := by decide +kernel
theorem dX5_init_92 : decode cX5_init 92 = .ok (.iadd, 1) := by decide +kernel
theorem dX5_init_93 : decode cX5_init 93 = .ok (.sipush 4000, 3) := by decide +kernel
theorem dX5_init_96 : decode cX5_init 96 = .ok (.iastore, 1) := by decide +kernel
theorem dX5_init_97 : decode cX5_init 97 = .ok (.iinc 1 1, 3) := by decide +kernel
theorem dX5_init_100 : decode cX5_init 100 = .ok (.goto (-54), 3) := by decide +kernel
theorem dX5_init_103 : decode cX5_init 103 = .ok (.iconst 0, 1) := by decide +kernel
theorem dX5_init_104 : decode cX5_init 104 = .ok (.istore_n 1, 1) := by decide +kernel
theorem dX5_init_105 : decode cX5_init 105 = .ok (.iload_n 1, 1) := by decide +kernel
theorem dX5_init_106 : decode cX5_init 106 = .ok (.iconst 2, 1) := by decide +kernel
theorem dX5_init_107 : decode cX5_init 107 = .ok (.if_icmp .ge 29, 3) := by decide +kernel
theorem dX5_init_110 : decode cX5_init 110 = .ok (.aload_n 0, 1) := by decide +kernel
theorem dX5_init_111 : decode cX5_init 111 = .ok (.getfield 7, 3) := by decide +kernel
theorem dX5_init_114 : decode cX5_init 114 = .ok (.bipush 16, 2) := by decide +kernel
theorem dX5_init_116 : decode cX5_init 116 = .ok (.iload_n 1, 1) := by decide +kernel
theorem dX5_init_117 : decode cX5_init 117 = .ok (.iadd, 1) := by decide +kernel
theorem dX5_init_118 : decode cX5_init 118 = .ok (.iload_n 1, 1) := by decide +kernel
theorem dX5_init_119 : decode cX5_init 119 = .ok (.iastore, 1) := by decide +kernel
theorem dX5_init_120 : decode cX5_init 120 = .ok (.aload_n 0, 1) := by decide +kernel
theorem dX5_init_121 : decode cX5_init 121 = .ok (.getfield 7, 3) := by decide +kernel
theorem dX5_init_124 : decode cX5_init 124 = .ok (.bipush 26, 2) := by decide +kernel
theorem dX5_init_126 : decode cX5_init 126 = .ok (.iload_n 1, 1) := by decide +kernel
theorem dX5_init_127 : decode cX5_init 127 = .ok (.iadd, 1) := by decide +kernel
theorem dX5_init_128 : decode cX5_init 128 = .ok (.iconst (-1), 1) := by decide +kernel
theorem dX5_init_129 : decode cX5_init 129 = .ok (.iastore, 1) := by decide +kernel
theorem dX5_init_130 : decode cX5_init 130 = .ok (.iinc 1 1, 3) := by decide +kernel
theorem dX5_init_133 : decode cX5_init 133 = .ok (.goto (-28), 3) := by decide +kernel
theorem dX5_init_136 : decode cX5_init 136 = .ok (.aload_n 0, 1) := by decide +kernel
theorem dX5_init_137 : decode cX5_init 137 = .ok (.getfield 7, 3) := by decide +kernel
theorem dX5_init_140 : decode cX5_init 140 = .ok (.bipush 31, 2) := by decide +kernel
theorem dX5_init_142 : decode cX5_init 142 = .ok (.iconst 2, 1) := by decide +kernel
theorem dX5_init_143 : decode cX5_init 143 = .ok (.iastore, 1) := by decide +kernel
theorem dX5_init_144 : decode cX5_init 144 = .ok (.aload_n 0, 1) := by decide +kernel
theorem dX5_init_145 : decode cX5_init 145 = .ok (.getfield 7, 3) := by decide +kernel
theorem dX5_init_148 : decode cX5_init 148 = .ok (.bipush 32, 2) := by decide +kernel
theorem dX5_init_150 : decode cX5_init 150 = .ok (.bipush 10, 2) := by decide +kernel
theorem dX5_init_152 : decode cX5_init 152 = .ok (.iastore, 1) := by decide +kernel
theorem dX5_init_153 : decode cX5_init 153 = .ok (.aload_n 0, 1) := by decide +kernel
theorem dX5_init_154 : decode cX5_init 154 = .ok (.getfield 7, 3) := by decide +kernel
theorem dX5_init_157 : decode cX5_init 157 = .ok (.bipush 34, 2) := by decide +kernel
theorem dX5_init_159 : decode cX5_init 159 = .ok (.bipush 50, 2) := by decide +kernel
theorem dX5_init_161 : decode cX5_init 161 = .ok (.iastore, 1) := by decide +kernel
theorem dX5_init_162 : decode cX5_init 162 = .ok (.return_, 1) := by decide +kernel
theorem dX5_in_0 : decode cX5_in 0 = .ok (.iload_n 0, 1) := by decide +kernel
theorem dX5_in_1 : decode cX5_in 1 = .ok (.iload_n 1, 1) := by decide +kernel
theorem dX5_in_2 : decode cX5_in 2 = .ok (.if_icmp .lt 12, 3) := by decide +kernel
theorem dX5_in_5 : decode cX5_in 5 = .ok (.iload_n 0, 1) := by decide +kernel
theorem dX5_in_6 : decode cX5_in 6 = .ok (.iload_n 2, 1) := by decide +kernel
theorem dX5_in_7 : decode cX5_in 7 = .ok (.if_icmp .gt 7, 3) := by decide +kernel
theorem dX5_in_10 : decode cX5_in 10 = .ok (.iconst 1, 1) := by decide +kernel
theorem dX5_in_11 : decode cX5_in 11 = .ok (.goto 4, 3) := by decide +kernel
theorem dX5_in_14 : decode cX5_in 14 = .ok (.iconst 0, 1) := by decide +kernel
theorem dX5_in_15 : decode cX5_in 15 = .ok (.ireturn, 1) := by decide +kernel
theorem dX5_isCup_0 : decode cX5_isCup 0 = .ok (.iload_n 0, 1) := by decide +kernel
theorem dX5_isCup_1 : decode cX5_isCup 1 = .ok (.iconst 0, 1) := by decide +kernel
theorem dX5_isCup_2 : decode cX5_isCup 2 = .ok (.iconst 3, 1) := by decide +kernel
theorem dX5_isCup_3 : decode cX5_isCup 3 = .ok (.invokestatic 25, 3) := by decide +kernel
theorem dX5_isCup_6 : decode cX5_isCup 6 = .ok (.ireturn, 1) := by decide +kernel
theorem dX5_isPrinter_0 : decode cX5_isPrinter 0 = .ok (.iload_n 0, 1) := by decide +kernel
theorem dX5_isPrinter_1 : decode cX5_isPrinter 1 = .ok (.iconst 0, 1) := by decide +kernel
theorem dX5_isPrinter_2 : decode cX5_isPrinter 2 = .ok (.iconst 1, 1) := by decide +kernel
theorem dX5_isPrinter_3 : decode cX5_isPrinter 3 = .ok (.invokestatic 25, 3) := by decide +kernel
theorem dX5_isPrinter_6 : decode cX5_isPrinter 6 = .ok (.ireturn, 1) := by decide +kernel
theorem dX5_areDots_0 : decode cX5_areDots 0 = .ok (.iload_n 0, 1) := by decide +kernel
theorem dX5_areDots_1 : decode cX5_areDots 1 = .ok (.iconst 1, 1) := by decide +kernel
theorem dX5_areDots_2 : decode cX5_areDots 2 = .ok (.sipush 999, 3) := by decide +kernel
theorem dX5_areDots_5 : decode cX5_areDots 5 = .ok (.invokestatic 25, 3) := by decide +kernel
theorem dX5_areDots_8 : decode cX5_areDots 8 = .ok (.ireturn, 1) := by decide +kernel
theorem dX5_records_0 : decode cX5_records 0 = .ok (.aload_n 0, 1) := by decide +kernel
theorem dX5_records_1 : decode cX5_records 1 = .ok (.getfield 29, 3) := by decide +kernel
theorem dX5_records_4 : decode cX5_records 4 = .ok (.iconst 4, 1) := by decide +kernel
theorem dX5_records_5 : decode cX5_records 5 = .ok (.if_icmp .ne 42, 3) := by decide +kernel
theorem dX5_records_8 : decode cX5_records 8 = .ok (.iconst 0, 1) := by decide +kernel
theorem dX5_records_9 : decode cX5_records 9 = .ok (.istore_n 1, 1) := by decide +kernel
theorem dX5_records_10 : decode cX5_records 10 = .ok (.iload_n 1, 1) := by decide +kernel
theorem dX5_records_11 : decode cX5_records 11 = .ok (.bipush 105, 2) := by decide +kernel
theorem dX5_records_13 : decode cX5_records 13 = .ok (.if_icmp .ge 24, 3) := by decide +kernel
theorem dX5_records_16 : decode cX5_records 16 = .ok (.aload_n 0, 1) := by decide +kernel
theorem dX5_records_17 : decode cX5_records 17 = .ok (.getfield 13, 3) := by decide +kernel
theorem dX5_records_20 : decode cX5_records 20 = .ok (.iload_n 1, 1) := by decide +kernel
theorem dX5_records_21 : decode cX5_records 21 = .ok (.aload_n 0, 1) := by decide +kernel
theorem dX5_records_22 : decode cX5_records 22 = .ok (.getfield 13, 3) := by decide +kernel
theorem dX5_records_25 : decode cX5_records 25 = .ok (.bipush 35, 2) := by decide +kernel
theorem dX5_records_27 : decode cX5_records 27 = .ok (.iload_n 1, 1) := by decide +kernel
theorem dX5_records_28 : decode cX5_records 28 = .ok (.iadd, 1) := by decide +kernel
theorem dX5_records_29 : decode cX5_records 29 = .ok (.iaload, 1) := by decide +kernel
theorem dX5_records_30 : decode cX5_records 30 = .ok (.iastore, 1) := by decide +kernel
theorem dX5_records_31 : decode cX5_records 31 = .ok (.iinc 1 1, 3) := by decide +kernel
theorem dX5_records_34 : decode cX5_records 34 = .ok (.goto (-24), 3) := by decide +kernel
theorem dX5_records_37 : decode cX5_records 37 = .ok (.aload_n 0, 1) := by decide +kernel
theorem dX5_records_38 : decode cX5_records 38 = .ok (.dup, 1) := by decide +kernel
theorem dX5_records_39 : decode cX5_records 39 = .ok (.getfield 29, 3) := by decide +kernel
theorem dX5_records_42 : decode cX5_records 42 = .ok (.iconst 1, 1) := by decide +kernel
theorem dX5_records_43 : decode cX5_records 43 = .ok (.isub, 1) := by decide +kernel
theorem dX5_records_44 : decode cX5_records 44 = .ok (.putfield 29, 3) := by decide +kernel
theorem dX5_records_47 : decode cX5_records 47 = .ok (.iconst 0, 1) := by decide +kernel
theorem dX5_records_48 : decode cX5_records 48 = .ok (.istore_n 1, 1) := by decide +kernel
theorem dX5_records_49 : decode cX5_records 49 = .ok (.iload_n 1, 1) := by decide +kernel
theorem dX5_records_50 : decode cX5_records 50 = .ok (.bipush 35, 2) := by decide +kernel
theorem dX5_records_52 : decode cX5_records 52 = .ok (.if_icmp .ge 29, 3) := by decide +kernel
theorem dX5_records_55 : decode cX5_records 55 = .ok (.aload_n 0, 1) := by decide +kernel
theorem dX5_records_56 : decode cX5_records 56 = .ok (.getfield 13, 3) := by decide +kernel
theorem dX5_records_59 : decode cX5_records 59 = .ok (.bipush 35, 2) := by decide +kernel
theorem dX5_records_61 : decode cX5_records 61 = .ok (.aload_n 0, 1) := by decide +kernel
theorem dX5_records_62 : decode cX5_records 62 = .ok (.getfield 29, 3) := by decide +kernel
theorem dX5_records_65 : decode cX5_records 65 = .ok (.imul, 1) := by decide +kernel
theorem dX5_records_66 : decode cX5_records 66 = .ok (.iload_n 1, 1) := by decide +kernel
theorem dX5_records_67 : decode cX5_records 67 = .ok (.iadd, 1) := by decide +kernel
theorem dX5_records_68 : decode cX5_records 68 = .ok (.aload_n 0, 1) := by decide +kernel
theorem dX5_records_69 : decode cX5_records 69 = .ok (.getfield 7, 3) := by decide +kernel
theorem dX5_records_72 : decode cX5_records 72 = .ok (.iload_n 1, 1) := by decide +kernel
theorem dX5_records_73 : decode cX5_records 73 = .ok (.iaload, 1) := by decide +kernel
theorem dX5_records_74 : decode cX5_records 74 = .ok (.iastore, 1) := by decide +kernel
theorem dX5_records_75 : decode cX5_records 75 = .ok (.iinc 1 1, 3) := by decide +kernel
theorem dX5_records_78 : decode cX5_records 78 = .ok (.goto (-29), 3) := by decide +kernel
theorem dX5_records_81 : decode cX5_records 81 = .ok (.aload_n 0, 1) := by decide +kernel
theorem dX5_records_82 : decode cX5_records 82 = .ok (.dup, 1) := by decide +kernel
theorem dX5_records_83 : decode cX5_records 83 = .ok (.getfield 29, 3) := by decide +kernel
theorem dX5_records_86 : decode cX5_records 86 = .ok (.iconst 1, 1) := by decide +kernel
theorem dX5_records_87 : decode cX5_records 87 = .ok (.iadd, 1) := by decide +kernel
theorem dX5_records_88 : decode cX5_records 88 = .ok (.putfield 29, 3) := by decide +kernel
theorem dX5_records_91 : decode cX5_records 91 = .ok (.return_, 1) := by decide +kernel
theorem dX5_need_0 : decode cX5_need 0 = .ok (.iload_n 2, 1) := by decide +kernel
theorem dX5_need_1 : decode cX5_need 1 = .ok (.iload_n 3, 1) := by decide +kernel
theorem dX5_need_2 : decode cX5_need 2 = .ok (.imul, 1) := by decide +kernel
theorem dX5_need_3 : decode cX5_need 3 = .ok (.istore 4, 2) := by decide +kernel
theorem dX5_need_5 : decode cX5_need 5 = .ok (.aload_n 0, 1) := by decide +kernel
theorem dX5_need_6 : decode cX5_need 6 = .ok (.getfield 7, 3) := by decide +kernel
theorem dX5_need_9 : decode cX5_need 9 = .ok (.iconst 0, 1) := by decide +kernel
theorem dX5_need_10 : decode cX5_need 10 = .ok (.iload_n 1, 1) := by decide +kernel
theorem dX5_need_11 : decode cX5_need 11 = .ok (.iadd, 1) := by decide +kernel
theorem dX5_need_12 : decode cX5_need 12 = .ok (.iaload, 1) := by decide +kernel
theorem dX5_need_13 : decode cX5_need 13 = .ok (.ifCond .ne 8, 3) := by decide +kernel
theorem dX5_need_16 : decode cX5_need 16 = .ok (.iload 4, 2) := by decide +kernel
theorem dX5_need_18 : decode cX5_need 18 = .ok (.goto 32, 3) := by decide +kernel
theorem dX5_need_21 : decode cX5_need 21 = .ok (.aload_n 0, 1) := by decide +kernel
theorem dX5_need_22 : decode cX5_need 22 = .ok (.getfield 7, 3) := by decide +kernel
theorem dX5_need_25 : decode cX5_need 25 = .ok (.iconst 0, 1) := by decide +kernel
theorem dX5_need_26 : decode cX5_need 26 = .ok (.iload_n 1, 1) := by decide +kernel
theorem dX5_need_27 : decode cX5_need 27 = .ok (.iadd, 1) := by decide +kernel
theorem dX5_need_28 : decode cX5_need 28 = .ok (.iaload, 1) := by decide +kernel
theorem dX5_need_29 : decode cX5_need 29 = .ok (.iconst 1, 1) := by decide +kernel
theorem dX5_need_30 : decode cX5_need 30 = .ok (.if_icmp .ne 12, 3) := by decide +kernel
theorem dX5_need_33 : decode cX5_need 33 = .ok (.iload 4, 2) := by decide +kernel
theorem dX5_need_35 : decode cX5_need 35 = .ok (.iconst 3, 1) := by decide +kernel
theorem dX5_need_36 : decode cX5_need 36 = .ok (.imul, 1) := by decide +kernel
theorem dX5_need_37 : decode cX5_need 37 = .ok (.iconst 4, 1) := by decide +kernel
theorem dX5_need_38 : decode cX5_need 38 = .ok (.idiv, 1) := by decide +kernel
theorem dX5_need_39 : decode cX5_need 39 = .ok (.goto 11, 3) := by decide +kernel
theorem dX5_need_42 : decode cX5_need 42 = .ok (.iload 4, 2) := by decide +kernel
theorem dX5_need_44 : decode cX5_need 44 = .ok (.bipush 9, 2) := by decide +kernel
theorem dX5_need_46 : decode cX5_need 46 = .ok (.imul, 1) := by decide +kernel
theorem dX5_need_47 : decode cX5_need 47 = .ok (.bipush 8, 2) := by decide +kernel
theorem dX5_need_49 : decode cX5_need 49 = .ok (.idiv, 1) := by decide +kernel
theorem dX5_need_50 : decode cX5_need 50 = .ok (.ireturn, 1) := by decide +kernel
theorem dX5_counted_0 : decode cX5_counted 0 = .ok (.aload_n 0, 1) := by decide +kernel
theorem dX5_counted_1 : decode cX5_counted 1 = .ok (.getfield 7, 3) := by decide +kernel
theorem dX5_counted_4 : decode cX5_counted 4 = .ok (.iconst 0, 1) := by decide +kernel
theorem dX5_counted_5 : decode cX5_counted 5 = .ok (.iload_n 1, 1) := by decide +kernel
theorem dX5_counted_6 : decode cX5_counted 6 = .ok (.iadd, 1) := by decide +kernel
theorem dX5_counted_7 : decode cX5_counted 7 = .ok (.iaload, 1) := by decide +kernel
theorem dX5_counted_8 : decode cX5_counted 8 = .ok (.iconst 2, 1) := by decide +kernel
theorem dX5_counted_9 : decode cX5_counted 9 = .ok (.if_icmp .ne 15, 3) := by decide +kernel
theorem dX5_counted_12 : decode cX5_counted 12 = .ok (.iload_n 2, 1) := by decide +kernel
theorem dX5_counted_13 : decode cX5_counted 13 = .ok (.aload_n 0, 1) := by decide +kernel
theorem dX5_counted_14 : decode cX5_counted 14 = .ok (.getfield 7, 3) := by decide +kernel
theorem dX5_counted_17 : decode cX5_counted 17 = .ok (.bipush 31, 2) := by decide +kernel
theorem dX5_counted_19 : decode cX5_counted 19 = .ok (.iaload, 1) := by decide +kernel
theorem dX5_counted_20 : decode cX5_counted 20 = .ok (.imul, 1) := by decide +kernel
theorem dX5_counted_21 : decode cX5_counted 21 = .ok (.goto 16, 3) := by decide +kernel
theorem dX5_counted_24 : decode cX5_counted 24 = .ok (.aload_n 0, 1) := by decide +kernel
theorem dX5_counted_25 : decode cX5_counted 25 = .ok (.iload_n 1, 1) := by decide +kernel
theorem dX5_counted_26 : decode cX5_counted 26 = .ok (.iload_n 2, 1) := by decide +kernel
theorem dX5_counted_27 : decode cX5_counted 27 = .ok (.aload_n 0, 1) := by decide +kernel
theorem dX5_counted_28 : decode cX5_counted 28 = .ok (.getfield 7, 3) := by decide +kernel
theorem dX5_counted_31 : decode cX5_counted 31 = .ok (.bipush 31, 2) := by decide +kernel
theorem dX5_counted_33 : decode cX5_counted 33 = .ok (.iaload, 1) := by decide +kernel
theorem dX5_counted_34 : decode cX5_counted 34 = .ok (.invokevirtual 33, 3) := by decide +kernel
theorem dX5_counted_37 : decode cX5_counted 37 = .ok (.ireturn, 1) := by decide +kernel
theorem dX5_where_0 : decode cX5_where 0 = .ok (.aload_n 0, 1) := by decide +kernel
theorem dX5_where_1 : decode cX5_where 1 = .ok (.getfield 7, 3) := by decide +kernel
theorem dX5_where_4 : decode cX5_where 4 = .ok (.bipush 16, 2) := by decide +kernel
theorem dX5_where_6 : decode cX5_where 6 = .ok (.iaload, 1) := by decide +kernel
theorem dX5_where_7 : decode cX5_where 7 = .ok (.iload_n 1, 1) := by decide +kernel
theorem dX5_where_8 : decode cX5_where 8 = .ok (.if_icmp .ne 7, 3) := by decide +kernel
theorem dX5_where_11 : decode cX5_where 11 = .ok (.iconst 0, 1) := by decide +kernel
theorem dX5_where_12 : decode cX5_where 12 = .ok (.goto 19, 3) := by decide +kernel
theorem dX5_where_15 : decode cX5_where 15 = .ok (.aload_n 0, 1) := by decide +kernel
theorem dX5_where_16 : decode cX5_where 16 = .ok (.getfield 7, 3) := by decide +kernel
theorem dX5_where_19 : decode cX5_where 19 = .ok (.bipush 17, 2) := by decide +kernel
theorem dX5_where_21 : decode cX5_where 21 = .ok (.iaload, 1) := by decide +kernel
theorem dX5_where_22 : decode cX5_where 22 = .ok (.iload_n 1, 1) := by decide +kernel
theorem dX5_where_23 : decode cX5_where 23 = .ok (.if_icmp .ne 7, 3) := by decide +kernel
theorem dX5_where_26 : decode cX5_where 26 = .ok (.iconst 1, 1) := by decide +kernel
theorem dX5_where_27 : decode cX5_where 27 = .ok (.goto 4, 3) := by decide +kernel
theorem dX5_where_30 : decode cX5_where 30 = .ok (.iconst (-1), 1) := by decide +kernel
theorem dX5_where_31 : decode cX5_where 31 = .ok (.ireturn, 1) := by decide +kernel
theorem dX5_tonerOf_0 : decode cX5_tonerOf 0 = .ok (.aload_n 0, 1) := by decide +kernel
theorem dX5_tonerOf_1 : decode cX5_tonerOf 1 = .ok (.getfield 7, 3) := by decide +kernel
theorem dX5_tonerOf_4 : decode cX5_tonerOf 4 = .ok (.iconst 4, 1) := by decide +kernel
theorem dX5_tonerOf_5 : decode cX5_tonerOf 5 = .ok (.iload_n 1, 1) := by decide +kernel
theorem dX5_tonerOf_6 : decode cX5_tonerOf 6 = .ok (.iadd, 1) := by decide +kernel
theorem dX5_tonerOf_7 : decode cX5_tonerOf 7 = .ok (.iaload, 1) := by decide +kernel
theorem dX5_tonerOf_8 : decode cX5_tonerOf 8 = .ok (.aload_n 0, 1) := by decide +kernel
theorem dX5_tonerOf_9 : decode cX5_tonerOf 9 = .ok (.getfield 7, 3) := by decide +kernel
theorem dX5_tonerOf_12 : decode cX5_tonerOf 12 = .ok (.bipush 8, 2) := by decide +kernel
theorem dX5_tonerOf_14 : decode cX5_tonerOf 14 = .ok (.iload_n 1, 1) := by decide +kernel
theorem dX5_tonerOf_15 : decode cX5_tonerOf 15 = .ok (.iadd, 1) := by decide +kernel
theorem dX5_tonerOf_16 : decode cX5_tonerOf 16 = .ok (.iaload, 1) := by decide +kernel
theorem dX5_tonerOf_17 : decode cX5_tonerOf 17 = .ok (.iadd, 1) := by decide +kernel
theorem dX5_tonerOf_18 : decode cX5_tonerOf 18 = .ok (.ireturn, 1) := by decide +kernel
theorem dX5_toner_0 : decode cX5_toner 0 = .ok (.iconst 0, 1) := by decide +kernel
theorem dX5_toner_1 : decode cX5_toner 1 = .ok (.istore_n 1, 1) := by decide +kernel
theorem dX5_toner_2 : decode cX5_toner 2 = .ok (.iconst 0, 1) := by decide +kernel
theorem dX5_toner_3 : decode cX5_toner 3 = .ok (.istore_n 2, 1) := by decide +kernel
theorem dX5_toner_4 : decode cX5_toner 4 = .ok (.iload_n 2, 1) := by decide +kernel
theorem dX5_toner_5 : decode cX5_toner 5 = .ok (.iconst 4, 1) := by decide +kernel
theorem dX5_toner_6 : decode cX5_toner 6 = .ok (.if_icmp .ge 17, 3) := by decide +kernel
theorem dX5_toner_9 : decode cX5_toner 9 = .ok (.iload_n 1, 1) := by decide +kernel
theorem dX5_toner_10 : decode cX5_toner 10 = .ok (.aload_n 0, 1) := by decide +kernel
theorem dX5_toner_11 : decode cX5_toner 11 = .ok (.iload_n 2, 1) := by decide +kernel
theorem dX5_toner_12 : decode cX5_toner 12 = .ok (.invokevirtual 37, 3) := by decide +kernel
theorem dX5_toner_15 : decode cX5_toner 15 = .ok (.iadd, 1) := by decide +kernel
theorem dX5_toner_16 : decode cX5_toner 16 = .ok (.istore_n 1, 1) := by decide +kernel
theorem dX5_toner_17 : decode cX5_toner 17 = .ok (.iinc 2 1, 3) := by decide +kernel
theorem dX5_toner_20 : decode cX5_toner 20 = .ok (.goto (-16), 3) := by decide +kernel
theorem dX5_toner_23 : decode cX5_toner 23 = .ok (.iload_n 1, 1) := by decide +kernel
theorem dX5_toner_24 : decode cX5_toner 24 = .ok (.ireturn, 1) := by decide +kernel
theorem dX5_reason_0 : decode cX5_reason 0 = .ok (.aload_n 0, 1) := by decide +kernel
theorem dX5_reason_1 : decode cX5_reason 1 = .ok (.getfield 7, 3) := by decide +kernel
theorem dX5_reason_4 : decode cX5_reason 4 = .ok (.bipush 16, 2) := by decide +kernel
end
section
theorem dX5_reason_6 : decode cX5_reason 6 = .ok (.iload_n 1, 1) := by decide +kernel
theorem dX5_reason_7 : decode cX5_reason 7 = .ok (.iadd, 1) := by decide +kernel
theorem dX5_reason_8 : decode cX5_reason 8 = .ok (.iaload, 1) := by decide +kernel
theorem dX5_reason_9 : decode cX5_reason 9 = .ok (.istore_n 2, 1) := by decide +kernel
theorem dX5_reason_10 : decode cX5_reason 10 = .ok (.iload_n 2, 1) := by decide +kernel
theorem dX5_reason_11 : decode cX5_reason 11 = .ok (.iconst (-1), 1) := by decide +kernel
theorem dX5_reason_12 : decode cX5_reason 12 = .ok (.if_icmp .ne 7, 3) := by decide +kernel
theorem dX5_reason_15 : decode cX5_reason 15 = .ok (.iconst 1, 1) := by decide +kernel
theorem dX5_reason_16 : decode cX5_reason 16 = .ok (.goto 46, 3) := by decide +kernel
theorem dX5_reason_19 : decode cX5_reason 19 = .ok (.aload_n 0, 1) := by decide +kernel
theorem dX5_reason_20 : decode cX5_reason 20 = .ok (.getfield 7, 3) := by decide +kernel
theorem dX5_reason_23 : decode cX5_reason 23 = .ok (.bipush 12, 2) := by decide +kernel
theorem dX5_reason_25 : decode cX5_reason 25 = .ok (.iload_n 2, 1) := by decide +kernel
theorem dX5_reason_26 : decode cX5_reason 26 = .ok (.iadd, 1) := by decide +kernel
theorem dX5_reason_27 : decode cX5_reason 27 = .ok (.iaload, 1) := by decide +kernel
theorem dX5_reason_28 : decode cX5_reason 28 = .ok (.ifCond .ne 18, 3) := by decide +kernel
theorem dX5_reason_31 : decode cX5_reason 31 = .ok (.aload_n 0, 1) := by decide +kernel
theorem dX5_reason_32 : decode cX5_reason 32 = .ok (.getfield 7, 3) := by decide +kernel
theorem dX5_reason_35 : decode cX5_reason 35 = .ok (.bipush 33, 2) := by decide +kernel
theorem dX5_reason_37 : decode cX5_reason 37 = .ok (.iaload, 1) := by decide +kernel
theorem dX5_reason_38 : decode cX5_reason 38 = .ok (.iconst 1, 1) := by decide +kernel
theorem dX5_reason_39 : decode cX5_reason 39 = .ok (.if_icmp .ne 7, 3) := by decide +kernel
theorem dX5_reason_42 : decode cX5_reason 42 = .ok (.iconst 2, 1) := by decide +kernel
theorem dX5_reason_43 : decode cX5_reason 43 = .ok (.goto 19, 3) := by decide +kernel
theorem dX5_reason_46 : decode cX5_reason 46 = .ok (.aload_n 0, 1) := by decide +kernel
theorem dX5_reason_47 : decode cX5_reason 47 = .ok (.getfield 7, 3) := by decide +kernel
theorem dX5_reason_50 : decode cX5_reason 50 = .ok (.iconst 4, 1) := by decide +kernel
theorem dX5_reason_51 : decode cX5_reason 51 = .ok (.iload_n 2, 1) := by decide +kernel
theorem dX5_reason_52 : decode cX5_reason 52 = .ok (.iadd, 1) := by decide +kernel
theorem dX5_reason_53 : decode cX5_reason 53 = .ok (.iaload, 1) := by decide +kernel
theorem dX5_reason_54 : decode cX5_reason 54 = .ok (.ifCond .ne 7, 3) := by decide +kernel
theorem dX5_reason_57 : decode cX5_reason 57 = .ok (.iconst 3, 1) := by decide +kernel
theorem dX5_reason_58 : decode cX5_reason 58 = .ok (.goto 4, 3) := by decide +kernel
theorem dX5_reason_61 : decode cX5_reason 61 = .ok (.iconst 0, 1) := by decide +kernel
theorem dX5_reason_62 : decode cX5_reason 62 = .ok (.ireturn, 1) := by decide +kernel
theorem dX5_prints_0 : decode cX5_prints 0 = .ok (.aload_n 0, 1) := by decide +kernel
theorem dX5_prints_1 : decode cX5_prints 1 = .ok (.iload_n 1, 1) := by decide +kernel
theorem dX5_prints_2 : decode cX5_prints 2 = .ok (.invokevirtual 41, 3) := by decide +kernel
theorem dX5_prints_5 : decode cX5_prints 5 = .ok (.istore_n 3, 1) := by decide +kernel
theorem dX5_prints_6 : decode cX5_prints 6 = .ok (.iload_n 3, 1) := by decide +kernel
theorem dX5_prints_7 : decode cX5_prints 7 = .ok (.ifCond .le 18, 3) := by decide +kernel
theorem dX5_prints_10 : decode cX5_prints 10 = .ok (.aload_n 0, 1) := by decide +kernel
theorem dX5_prints_11 : decode cX5_prints 11 = .ok (.getfield 7, 3) := by decide +kernel
theorem dX5_prints_14 : decode cX5_prints 14 = .ok (.bipush 22, 2) := by decide +kernel
theorem dX5_prints_16 : decode cX5_prints 16 = .ok (.iload_n 1, 1) := by decide +kernel
theorem dX5_prints_17 : decode cX5_prints 17 = .ok (.iadd, 1) := by decide +kernel
theorem dX5_prints_18 : decode cX5_prints 18 = .ok (.dup2, 1) := by decide +kernel
theorem dX5_prints_19 : decode cX5_prints 19 = .ok (.iaload, 1) := by decide +kernel
theorem dX5_prints_20 : decode cX5_prints 20 = .ok (.iconst 1, 1) := by decide +kernel
theorem dX5_prints_21 : decode cX5_prints 21 = .ok (.iadd, 1) := by decide +kernel
theorem dX5_prints_22 : decode cX5_prints 22 = .ok (.iastore, 1) := by decide +kernel
theorem dX5_prints_23 : decode cX5_prints 23 = .ok (.iload_n 3, 1) := by decide +kernel
theorem dX5_prints_24 : decode cX5_prints 24 = .ok (.ireturn, 1) := by decide +kernel
theorem dX5_prints_25 : decode cX5_prints 25 = .ok (.aload_n 0, 1) := by decide +kernel
theorem dX5_prints_26 : decode cX5_prints 26 = .ok (.getfield 7, 3) := by decide +kernel
theorem dX5_prints_29 : decode cX5_prints 29 = .ok (.bipush 16, 2) := by decide +kernel
theorem dX5_prints_31 : decode cX5_prints 31 = .ok (.iload_n 1, 1) := by decide +kernel
theorem dX5_prints_32 : decode cX5_prints 32 = .ok (.iadd, 1) := by decide +kernel
theorem dX5_prints_33 : decode cX5_prints 33 = .ok (.iaload, 1) := by decide +kernel
theorem dX5_prints_34 : decode cX5_prints 34 = .ok (.istore 4, 2) := by decide +kernel
theorem dX5_prints_36 : decode cX5_prints 36 = .ok (.aload_n 0, 1) := by decide +kernel
theorem dX5_prints_37 : decode cX5_prints 37 = .ok (.iload 4, 2) := by decide +kernel
theorem dX5_prints_39 : decode cX5_prints 39 = .ok (.iload_n 2, 1) := by decide +kernel
theorem dX5_prints_40 : decode cX5_prints 40 = .ok (.aload_n 0, 1) := by decide +kernel
theorem dX5_prints_41 : decode cX5_prints 41 = .ok (.getfield 7, 3) := by decide +kernel
theorem dX5_prints_44 : decode cX5_prints 44 = .ok (.bipush 31, 2) := by decide +kernel
theorem dX5_prints_46 : decode cX5_prints 46 = .ok (.iaload, 1) := by decide +kernel
theorem dX5_prints_47 : decode cX5_prints 47 = .ok (.invokevirtual 33, 3) := by decide +kernel
theorem dX5_prints_50 : decode cX5_prints 50 = .ok (.istore 5, 2) := by decide +kernel
theorem dX5_prints_52 : decode cX5_prints 52 = .ok (.aload_n 0, 1) := by decide +kernel
theorem dX5_prints_53 : decode cX5_prints 53 = .ok (.getfield 7, 3) := by decide +kernel
theorem dX5_prints_56 : decode cX5_prints 56 = .ok (.iconst 4, 1) := by decide +kernel
theorem dX5_prints_57 : decode cX5_prints 57 = .ok (.iload 4, 2) := by decide +kernel
theorem dX5_prints_59 : decode cX5_prints 59 = .ok (.iadd, 1) := by decide +kernel
theorem dX5_prints_60 : decode cX5_prints 60 = .ok (.iaload, 1) := by decide +kernel
theorem dX5_prints_61 : decode cX5_prints 61 = .ok (.iload 5, 2) := by decide +kernel
theorem dX5_prints_63 : decode cX5_prints 63 = .ok (.if_icmp .ge 15, 3) := by decide +kernel
theorem dX5_prints_66 : decode cX5_prints 66 = .ok (.aload_n 0, 1) := by decide +kernel
theorem dX5_prints_67 : decode cX5_prints 67 = .ok (.getfield 7, 3) := by decide +kernel
theorem dX5_prints_70 : decode cX5_prints 70 = .ok (.iconst 4, 1) := by decide +kernel
theorem dX5_prints_71 : decode cX5_prints 71 = .ok (.iload 4, 2) := by decide +kernel
theorem dX5_prints_73 : decode cX5_prints 73 = .ok (.iadd, 1) := by decide +kernel
theorem dX5_prints_74 : decode cX5_prints 74 = .ok (.iaload, 1) := by decide +kernel
theorem dX5_prints_75 : decode cX5_prints 75 = .ok (.goto 5, 3) := by decide +kernel
theorem dX5_prints_78 : decode cX5_prints 78 = .ok (.iload 5, 2) := by decide +kernel
theorem dX5_prints_80 : decode cX5_prints 80 = .ok (.istore 6, 2) := by decide +kernel
theorem dX5_prints_82 : decode cX5_prints 82 = .ok (.iload 6, 2) := by decide +kernel
theorem dX5_prints_84 : decode cX5_prints 84 = .ok (.iload 5, 2) := by decide +kernel
theorem dX5_prints_86 : decode cX5_prints 86 = .ok (.if_icmp .ne 8, 3) := by decide +kernel
theorem dX5_prints_89 : decode cX5_prints 89 = .ok (.bipush 100, 2) := by decide +kernel
theorem dX5_prints_91 : decode cX5_prints 91 = .ok (.goto 11, 3) := by decide +kernel
theorem dX5_prints_94 : decode cX5_prints 94 = .ok (.iload 6, 2) := by decide +kernel
theorem dX5_prints_96 : decode cX5_prints 96 = .ok (.bipush 100, 2) := by decide +kernel
theorem dX5_prints_98 : decode cX5_prints 98 = .ok (.imul, 1) := by decide +kernel
theorem dX5_prints_99 : decode cX5_prints 99 = .ok (.iload 5, 2) := by decide +kernel
theorem dX5_prints_101 : decode cX5_prints 101 = .ok (.idiv, 1) := by decide +kernel
theorem dX5_prints_102 : decode cX5_prints 102 = .ok (.istore 7, 2) := by decide +kernel
theorem dX5_prints_104 : decode cX5_prints 104 = .ok (.aload_n 0, 1) := by decide +kernel
theorem dX5_prints_105 : decode cX5_prints 105 = .ok (.iload 4, 2) := by decide +kernel
theorem dX5_prints_107 : decode cX5_prints 107 = .ok (.iload_n 2, 1) := by decide +kernel
theorem dX5_prints_108 : decode cX5_prints 108 = .ok (.invokevirtual 44, 3) := by decide +kernel
theorem dX5_prints_111 : decode cX5_prints 111 = .ok (.istore 8, 2) := by decide +kernel
theorem dX5_prints_113 : decode cX5_prints 113 = .ok (.aload_n 0, 1) := by decide +kernel
theorem dX5_prints_114 : decode cX5_prints 114 = .ok (.getfield 7, 3) := by decide +kernel
theorem dX5_prints_117 : decode cX5_prints 117 = .ok (.iconst 4, 1) := by decide +kernel
theorem dX5_prints_118 : decode cX5_prints 118 = .ok (.iload 4, 2) := by decide +kernel
theorem dX5_prints_120 : decode cX5_prints 120 = .ok (.iadd, 1) := by decide +kernel
theorem dX5_prints_121 : decode cX5_prints 121 = .ok (.dup2, 1) := by decide +kernel
theorem dX5_prints_122 : decode cX5_prints 122 = .ok (.iaload, 1) := by decide +kernel
theorem dX5_prints_123 : decode cX5_prints 123 = .ok (.iload 6, 2) := by decide +kernel
theorem dX5_prints_125 : decode cX5_prints 125 = .ok (.isub, 1) := by decide +kernel
theorem dX5_prints_126 : decode cX5_prints 126 = .ok (.iastore, 1) := by decide +kernel
theorem dX5_prints_127 : decode cX5_prints 127 = .ok (.aload_n 0, 1) := by decide +kernel
theorem dX5_prints_128 : decode cX5_prints 128 = .ok (.getfield 7, 3) := by decide +kernel
theorem dX5_prints_131 : decode cX5_prints 131 = .ok (.bipush 28, 2) := by decide +kernel
theorem dX5_prints_133 : decode cX5_prints 133 = .ok (.dup2, 1) := by decide +kernel
theorem dX5_prints_134 : decode cX5_prints 134 = .ok (.iaload, 1) := by decide +kernel
theorem dX5_prints_135 : decode cX5_prints 135 = .ok (.iload 6, 2) := by decide +kernel
theorem dX5_prints_137 : decode cX5_prints 137 = .ok (.iadd, 1) := by decide +kernel
theorem dX5_prints_138 : decode cX5_prints 138 = .ok (.iastore, 1) := by decide +kernel
theorem dX5_prints_139 : decode cX5_prints 139 = .ok (.aload_n 0, 1) := by decide +kernel
theorem dX5_prints_140 : decode cX5_prints 140 = .ok (.getfield 7, 3) := by decide +kernel
theorem dX5_prints_143 : decode cX5_prints 143 = .ok (.bipush 12, 2) := by decide +kernel
theorem dX5_prints_145 : decode cX5_prints 145 = .ok (.iload 4, 2) := by decide +kernel
theorem dX5_prints_147 : decode cX5_prints 147 = .ok (.iadd, 1) := by decide +kernel
theorem dX5_prints_148 : decode cX5_prints 148 = .ok (.aload_n 0, 1) := by decide +kernel
theorem dX5_prints_149 : decode cX5_prints 149 = .ok (.getfield 7, 3) := by decide +kernel
theorem dX5_prints_152 : decode cX5_prints 152 = .ok (.bipush 12, 2) := by decide +kernel
theorem dX5_prints_154 : decode cX5_prints 154 = .ok (.iload 4, 2) := by decide +kernel
theorem dX5_prints_156 : decode cX5_prints 156 = .ok (.iadd, 1) := by decide +kernel
theorem dX5_prints_157 : decode cX5_prints 157 = .ok (.iaload, 1) := by decide +kernel
theorem dX5_prints_158 : decode cX5_prints 158 = .ok (.iload 8, 2) := by decide +kernel
theorem dX5_prints_160 : decode cX5_prints 160 = .ok (.if_icmp .le 19, 3) := by decide +kernel
theorem dX5_prints_163 : decode cX5_prints 163 = .ok (.aload_n 0, 1) := by decide +kernel
theorem dX5_prints_164 : decode cX5_prints 164 = .ok (.getfield 7, 3) := by decide +kernel
theorem dX5_prints_167 : decode cX5_prints 167 = .ok (.bipush 12, 2) := by decide +kernel
theorem dX5_prints_169 : decode cX5_prints 169 = .ok (.iload 4, 2) := by decide +kernel
theorem dX5_prints_171 : decode cX5_prints 171 = .ok (.iadd, 1) := by decide +kernel
theorem dX5_prints_172 : decode cX5_prints 172 = .ok (.iaload, 1) := by decide +kernel
theorem dX5_prints_173 : decode cX5_prints 173 = .ok (.iload 8, 2) := by decide +kernel
theorem dX5_prints_175 : decode cX5_prints 175 = .ok (.isub, 1) := by decide +kernel
theorem dX5_prints_176 : decode cX5_prints 176 = .ok (.goto 4, 3) := by decide +kernel
theorem dX5_prints_179 : decode cX5_prints 179 = .ok (.iconst 0, 1) := by decide +kernel
theorem dX5_prints_180 : decode cX5_prints 180 = .ok (.iastore, 1) := by decide +kernel
theorem dX5_prints_181 : decode cX5_prints 181 = .ok (.aload_n 0, 1) := by decide +kernel
theorem dX5_prints_182 : decode cX5_prints 182 = .ok (.getfield 7, 3) := by decide +kernel
theorem dX5_prints_185 : decode cX5_prints 185 = .ok (.iconst 4, 1) := by decide +kernel
theorem dX5_prints_186 : decode cX5_prints 186 = .ok (.iload 4, 2) := by decide +kernel
theorem dX5_prints_188 : decode cX5_prints 188 = .ok (.iadd, 1) := by decide +kernel
theorem dX5_prints_189 : decode cX5_prints 189 = .ok (.iaload, 1) := by decide +kernel
theorem dX5_prints_190 : decode cX5_prints 190 = .ok (.aload_n 0, 1) := by decide +kernel
theorem dX5_prints_191 : decode cX5_prints 191 = .ok (.getfield 7, 3) := by decide +kernel
theorem dX5_prints_194 : decode cX5_prints 194 = .ok (.bipush 32, 2) := by decide +kernel
theorem dX5_prints_196 : decode cX5_prints 196 = .ok (.iaload, 1) := by decide +kernel
theorem dX5_prints_197 : decode cX5_prints 197 = .ok (.idiv, 1) := by decide +kernel
theorem dX5_prints_198 : decode cX5_prints 198 = .ok (.istore 9, 2) := by decide +kernel
theorem dX5_prints_200 : decode cX5_prints 200 = .ok (.aload_n 0, 1) := by decide +kernel
theorem dX5_prints_201 : decode cX5_prints 201 = .ok (.getfield 7, 3) := by decide +kernel
theorem dX5_prints_204 : decode cX5_prints 204 = .ok (.iconst 4, 1) := by decide +kernel
theorem dX5_prints_205 : decode cX5_prints 205 = .ok (.iload 4, 2) := by decide +kernel
theorem dX5_prints_207 : decode cX5_prints 207 = .ok (.iadd, 1) := by decide +kernel
theorem dX5_prints_208 : decode cX5_prints 208 = .ok (.dup2, 1) := by decide +kernel
theorem dX5_prints_209 : decode cX5_prints 209 = .ok (.iaload, 1) := by decide +kernel
theorem dX5_prints_210 : decode cX5_prints 210 = .ok (.iload 9, 2) := by decide +kernel
theorem dX5_prints_212 : decode cX5_prints 212 = .ok (.isub, 1) := by decide +kernel
theorem dX5_prints_213 : decode cX5_prints 213 = .ok (.iastore, 1) := by decide +kernel
theorem dX5_prints_214 : decode cX5_prints 214 = .ok (.aload_n 0, 1) := by decide +kernel
theorem dX5_prints_215 : decode cX5_prints 215 = .ok (.getfield 7, 3) := by decide +kernel
theorem dX5_prints_218 : decode cX5_prints 218 = .ok (.bipush 8, 2) := by decide +kernel
theorem dX5_prints_220 : decode cX5_prints 220 = .ok (.iload 4, 2) := by decide +kernel
theorem dX5_prints_222 : decode cX5_prints 222 = .ok (.iadd, 1) := by decide +kernel
theorem dX5_prints_223 : decode cX5_prints 223 = .ok (.dup2, 1) := by decide +kernel
theorem dX5_prints_224 : decode cX5_prints 224 = .ok (.iaload, 1) := by decide +kernel
theorem dX5_prints_225 : decode cX5_prints 225 = .ok (.iload 9, 2) := by decide +kernel
theorem dX5_prints_227 : decode cX5_prints 227 = .ok (.iadd, 1) := by decide +kernel
theorem dX5_prints_228 : decode cX5_prints 228 = .ok (.iastore, 1) := by decide +kernel
theorem dX5_prints_229 : decode cX5_prints 229 = .ok (.aload_n 0, 1) := by decide +kernel
theorem dX5_prints_230 : decode cX5_prints 230 = .ok (.getfield 7, 3) := by decide +kernel
theorem dX5_prints_233 : decode cX5_prints 233 = .ok (.bipush 18, 2) := by decide +kernel
theorem dX5_prints_235 : decode cX5_prints 235 = .ok (.iload_n 1, 1) := by decide +kernel
theorem dX5_prints_236 : decode cX5_prints 236 = .ok (.iadd, 1) := by decide +kernel
theorem dX5_prints_237 : decode cX5_prints 237 = .ok (.dup2, 1) := by decide +kernel
theorem dX5_prints_238 : decode cX5_prints 238 = .ok (.iaload, 1) := by decide +kernel
theorem dX5_prints_239 : decode cX5_prints 239 = .ok (.iload 6, 2) := by decide +kernel
theorem dX5_prints_241 : decode cX5_prints 241 = .ok (.iload 5, 2) := by decide +kernel
theorem dX5_prints_243 : decode cX5_prints 243 = .ok (.if_icmp .ne 7, 3) := by decide +kernel
theorem dX5_prints_246 : decode cX5_prints 246 = .ok (.iconst 1, 1) := by decide +kernel
theorem dX5_prints_247 : decode cX5_prints 247 = .ok (.goto 4, 3) := by decide +kernel
theorem dX5_prints_250 : decode cX5_prints 250 = .ok (.iconst 0, 1) := by decide +kernel
theorem dX5_prints_251 : decode cX5_prints 251 = .ok (.iadd, 1) := by decide +kernel
theorem dX5_prints_252 : decode cX5_prints 252 = .ok (.iastore, 1) := by decide +kernel
theorem dX5_prints_253 : decode cX5_prints 253 = .ok (.aload_n 0, 1) := by decide +kernel
theorem dX5_prints_254 : decode cX5_prints 254 = .ok (.getfield 7, 3) := by decide +kernel
theorem dX5_prints_257 : decode cX5_prints 257 = .ok (.bipush 20, 2) := by decide +kernel
theorem dX5_prints_259 : decode cX5_prints 259 = .ok (.iload_n 1, 1) := by decide +kernel
theorem dX5_prints_260 : decode cX5_prints 260 = .ok (.iadd, 1) := by decide +kernel
theorem dX5_prints_261 : decode cX5_prints 261 = .ok (.dup2, 1) := by decide +kernel
theorem dX5_prints_262 : decode cX5_prints 262 = .ok (.iaload, 1) := by decide +kernel
theorem dX5_prints_263 : decode cX5_prints 263 = .ok (.iload 6, 2) := by decide +kernel
theorem dX5_prints_265 : decode cX5_prints 265 = .ok (.iload 5, 2) := by decide +kernel
theorem dX5_prints_267 : decode cX5_prints 267 = .ok (.if_icmp .ne 7, 3) := by decide +kernel
theorem dX5_prints_270 : decode cX5_prints 270 = .ok (.iconst 0, 1) := by decide +kernel
theorem dX5_prints_271 : decode cX5_prints 271 = .ok (.goto 4, 3) := by decide +kernel
theorem dX5_prints_274 : decode cX5_prints 274 = .ok (.iconst 1, 1) := by decide +kernel
theorem dX5_prints_275 : decode cX5_prints 275 = .ok (.iadd, 1) := by decide +kernel
theorem dX5_prints_276 : decode cX5_prints 276 = .ok (.iastore, 1) := by decide +kernel
theorem dX5_prints_277 : decode cX5_prints 277 = .ok (.aload_n 0, 1) := by decide +kernel
theorem dX5_prints_278 : decode cX5_prints 278 = .ok (.getfield 7, 3) := by decide +kernel
theorem dX5_prints_281 : decode cX5_prints 281 = .ok (.bipush 24, 2) := by decide +kernel
theorem dX5_prints_283 : decode cX5_prints 283 = .ok (.iload_n 1, 1) := by decide +kernel
theorem dX5_prints_284 : decode cX5_prints 284 = .ok (.iadd, 1) := by decide +kernel
theorem dX5_prints_285 : decode cX5_prints 285 = .ok (.dup2, 1) := by decide +kernel
theorem dX5_prints_286 : decode cX5_prints 286 = .ok (.iaload, 1) := by decide +kernel
theorem dX5_prints_287 : decode cX5_prints 287 = .ok (.iload_n 2, 1) := by decide +kernel
theorem dX5_prints_288 : decode cX5_prints 288 = .ok (.iadd, 1) := by decide +kernel
theorem dX5_prints_289 : decode cX5_prints 289 = .ok (.iastore, 1) := by decide +kernel
theorem dX5_prints_290 : decode cX5_prints 290 = .ok (.aload_n 0, 1) := by decide +kernel
theorem dX5_prints_291 : decode cX5_prints 291 = .ok (.getfield 7, 3) := by decide +kernel
theorem dX5_prints_294 : decode cX5_prints 294 = .ok (.bipush 26, 2) := by decide +kernel
theorem dX5_prints_296 : decode cX5_prints 296 = .ok (.iload_n 1, 1) := by decide +kernel
theorem dX5_prints_297 : decode cX5_prints 297 = .ok (.iadd, 1) := by decide +kernel
theorem dX5_prints_298 : decode cX5_prints 298 = .ok (.iload 7, 2) := by decide +kernel
theorem dX5_prints_300 : decode cX5_prints 300 = .ok (.iastore, 1) := by decide +kernel
theorem dX5_prints_301 : decode cX5_prints 301 = .ok (.bipush 10, 2) := by decide +kernel
theorem dX5_prints_303 : decode cX5_prints 303 = .ok (.iload 7, 2) := by decide +kernel
theorem dX5_prints_305 : decode cX5_prints 305 = .ok (.iadd, 1) := by decide +kernel
theorem dX5_prints_306 : decode cX5_prints 306 = .ok (.ireturn, 1) := by decide +kernel
theorem dX5_print_0 : decode cX5_print 0 = .ok (.iload_n 1, 1) := by decide +kernel
theorem dX5_print_1 : decode cX5_print 1 = .ok (.invokestatic 48, 3) := by decide +kernel
theorem dX5_print_4 : decode cX5_print 4 = .ok (.ifCond .eq 10, 3) := by decide +kernel
theorem dX5_print_7 : decode cX5_print 7 = .ok (.iload_n 2, 1) := by decide +kernel
theorem dX5_print_8 : decode cX5_print 8 = .ok (.invokestatic 52, 3) := by decide +kernel
theorem dX5_print_11 : decode cX5_print 11 = .ok (.ifCond .ne 5, 3) := by decide +kernel
theorem dX5_print_14 : decode cX5_print 14 = .ok (.iconst (-1), 1) := by decide +kernel
theorem dX5_print_15 : decode cX5_print 15 = .ok (.ireturn, 1) := by decide +kernel
theorem dX5_print_16 : decode cX5_print 16 = .ok (.aload_n 0, 1) := by decide +kernel
theorem dX5_print_17 : decode cX5_print 17 = .ok (.invokevirtual 55, 3) := by decide +kernel
theorem dX5_print_20 : decode cX5_print 20 = .ok (.aload_n 0, 1) := by decide +kernel
theorem dX5_print_21 : decode cX5_print 21 = .ok (.iload_n 1, 1) := by decide +kernel
theorem dX5_print_22 : decode cX5_print 22 = .ok (.iload_n 2, 1) := by decide +kernel
theorem dX5_print_23 : decode cX5_print 23 = .ok (.invokevirtual 58, 3) := by decide +kernel
theorem dX5_print_26 : decode cX5_print 26 = .ok (.ireturn, 1) := by decide +kernel
theorem dX5_shakes_0 : decode cX5_shakes 0 = .ok (.aload_n 0, 1) := by decide +kernel
theorem dX5_shakes_1 : decode cX5_shakes 1 = .ok (.getfield 7, 3) := by decide +kernel
theorem dX5_shakes_4 : decode cX5_shakes 4 = .ok (.bipush 8, 2) := by decide +kernel
theorem dX5_shakes_6 : decode cX5_shakes 6 = .ok (.iload_n 1, 1) := by decide +kernel
theorem dX5_shakes_7 : decode cX5_shakes 7 = .ok (.iadd, 1) := by decide +kernel
theorem dX5_shakes_8 : decode cX5_shakes 8 = .ok (.iaload, 1) := by decide +kernel
theorem dX5_shakes_9 : decode cX5_shakes 9 = .ok (.iconst 2, 1) := by decide +kernel
theorem dX5_shakes_10 : decode cX5_shakes 10 = .ok (.idiv, 1) := by decide +kernel
theorem dX5_shakes_11 : decode cX5_shakes 11 = .ok (.istore_n 2, 1) := by decide +kernel
theorem dX5_shakes_12 : decode cX5_shakes 12 = .ok (.aload_n 0, 1) := by decide +kernel
theorem dX5_shakes_13 : decode cX5_shakes 13 = .ok (.getfield 7, 3) := by decide +kernel
theorem dX5_shakes_16 : decode cX5_shakes 16 = .ok (.bipush 8, 2) := by decide +kernel
theorem dX5_shakes_18 : decode cX5_shakes 18 = .ok (.iload_n 1, 1) := by decide +kernel
theorem dX5_shakes_19 : decode cX5_shakes 19 = .ok (.iadd, 1) := by decide +kernel
theorem dX5_shakes_20 : decode cX5_shakes 20 = .ok (.dup2, 1) := by decide +kernel
theorem dX5_shakes_21 : decode cX5_shakes 21 = .ok (.iaload, 1) := by decide +kernel
theorem dX5_shakes_22 : decode cX5_shakes 22 = .ok (.iload_n 2, 1) := by decide +kernel
theorem dX5_shakes_23 : decode cX5_shakes 23 = .ok (.isub, 1) := by decide +kernel
theorem dX5_shakes_24 : decode cX5_shakes 24 = .ok (.iastore, 1) := by decide +kernel
theorem dX5_shakes_25 : decode cX5_shakes 25 = .ok (.aload_n 0, 1) := by decide +kernel
theorem dX5_shakes_26 : decode cX5_shakes 26 = .ok (.getfield 7, 3) := by decide +kernel
theorem dX5_shakes_29 : decode cX5_shakes 29 = .ok (.iconst 4, 1) := by decide +kernel
theorem dX5_shakes_30 : decode cX5_shakes 30 = .ok (.iload_n 1, 1) := by decide +kernel
theorem dX5_shakes_31 : decode cX5_shakes 31 = .ok (.iadd, 1) := by decide +kernel
theorem dX5_shakes_32 : decode cX5_shakes 32 = .ok (.dup2, 1) := by decide +kernel
theorem dX5_shakes_33 : decode cX5_shakes 33 = .ok (.iaload, 1) := by decide +kernel
theorem dX5_shakes_34 : decode cX5_shakes 34 = .ok (.iload_n 2, 1) := by decide +kernel
theorem dX5_shakes_35 : decode cX5_shakes 35 = .ok (.iadd, 1) := by decide +kernel
theorem dX5_shakes_36 : decode cX5_shakes 36 = .ok (.iastore, 1) := by decide +kernel
theorem dX5_shakes_37 : decode cX5_shakes 37 = .ok (.iload_n 2, 1) := by decide +kernel
theorem dX5_shakes_38 : decode cX5_shakes 38 = .ok (.ireturn, 1) := by decide +kernel
theorem dX5_shake_0 : decode cX5_shake 0 = .ok (.iload_n 1, 1) := by decide +kernel
theorem dX5_shake_1 : decode cX5_shake 1 = .ok (.invokestatic 61, 3) := by decide +kernel
theorem dX5_shake_4 : decode cX5_shake 4 = .ok (.ifCond .ne 5, 3) := by decide +kernel
theorem dX5_shake_7 : decode cX5_shake 7 = .ok (.iconst (-1), 1) := by decide +kernel
theorem dX5_shake_8 : decode cX5_shake 8 = .ok (.ireturn, 1) := by decide +kernel
theorem dX5_shake_9 : decode cX5_shake 9 = .ok (.aload_n 0, 1) := by decide +kernel
theorem dX5_shake_10 : decode cX5_shake 10 = .ok (.invokevirtual 55, 3) := by decide +kernel
theorem dX5_shake_13 : decode cX5_shake 13 = .ok (.aload_n 0, 1) := by decide +kernel
theorem dX5_shake_14 : decode cX5_shake 14 = .ok (.iload_n 1, 1) := by decide +kernel
theorem dX5_shake_15 : decode cX5_shake 15 = .ok (.invokevirtual 64, 3) := by decide +kernel
theorem dX5_shake_18 : decode cX5_shake 18 = .ok (.ireturn, 1) := by decide +kernel
theorem dX5_takes_0 : decode cX5_takes 0 = .ok (.aload_n 0, 1) := by decide +kernel
theorem dX5_takes_1 : decode cX5_takes 1 = .ok (.getfield 7, 3) := by decide +kernel
theorem dX5_takes_4 : decode cX5_takes 4 = .ok (.bipush 16, 2) := by decide +kernel
theorem dX5_takes_6 : decode cX5_takes 6 = .ok (.iload_n 1, 1) := by decide +kernel
theorem dX5_takes_7 : decode cX5_takes 7 = .ok (.iadd, 1) := by decide +kernel
theorem dX5_takes_8 : decode cX5_takes 8 = .ok (.iaload, 1) := by decide +kernel
theorem dX5_takes_9 : decode cX5_takes 9 = .ok (.istore_n 2, 1) := by decide +kernel
theorem dX5_takes_10 : decode cX5_takes 10 = .ok (.iload_n 2, 1) := by decide +kernel
theorem dX5_takes_11 : decode cX5_takes 11 = .ok (.iconst (-1), 1) := by decide +kernel
theorem dX5_takes_12 : decode cX5_takes 12 = .ok (.if_icmp .ne 5, 3) := by decide +kernel
theorem dX5_takes_15 : decode cX5_takes 15 = .ok (.iconst 0, 1) := by decide +kernel
theorem dX5_takes_16 : decode cX5_takes 16 = .ok (.ireturn, 1) := by decide +kernel
theorem dX5_takes_17 : decode cX5_takes 17 = .ok (.aload_n 0, 1) := by decide +kernel
theorem dX5_takes_18 : decode cX5_takes 18 = .ok (.getfield 7, 3) := by decide +kernel
theorem dX5_takes_21 : decode cX5_takes 21 = .ok (.iconst 4, 1) := by decide +kernel
theorem dX5_takes_22 : decode cX5_takes 22 = .ok (.iload_n 2, 1) := by decide +kernel
theorem dX5_takes_23 : decode cX5_takes 23 = .ok (.iadd, 1) := by decide +kernel
theorem dX5_takes_24 : decode cX5_takes 24 = .ok (.iaload, 1) := by decide +kernel
theorem dX5_takes_25 : decode cX5_takes 25 = .ok (.bipush 50, 2) := by decide +kernel
theorem dX5_takes_27 : decode cX5_takes 27 = .ok (.idiv, 1) := by decide +kernel
theorem dX5_takes_28 : decode cX5_takes 28 = .ok (.istore_n 3, 1) := by decide +kernel
theorem dX5_takes_29 : decode cX5_takes 29 = .ok (.aload_n 0, 1) := by decide +kernel
theorem dX5_takes_30 : decode cX5_takes 30 = .ok (.getfield 7, 3) := by decide +kernel
theorem dX5_takes_33 : decode cX5_takes 33 = .ok (.iconst 4, 1) := by decide +kernel
theorem dX5_takes_34 : decode cX5_takes 34 = .ok (.iload_n 2, 1) := by decide +kernel
theorem dX5_takes_35 : decode cX5_takes 35 = .ok (.iadd, 1) := by decide +kernel
theorem dX5_takes_36 : decode cX5_takes 36 = .ok (.dup2, 1) := by decide +kernel
theorem dX5_takes_37 : decode cX5_takes 37 = .ok (.iaload, 1) := by decide +kernel
theorem dX5_takes_38 : decode cX5_takes 38 = .ok (.iload_n 3, 1) := by decide +kernel
theorem dX5_takes_39 : decode cX5_takes 39 = .ok (.isub, 1) := by decide +kernel
theorem dX5_takes_40 : decode cX5_takes 40 = .ok (.iastore, 1) := by decide +kernel
theorem dX5_takes_41 : decode cX5_takes 41 = .ok (.aload_n 0, 1) := by decide +kernel
theorem dX5_takes_42 : decode cX5_takes 42 = .ok (.getfield 7, 3) := by decide +kernel
theorem dX5_takes_45 : decode cX5_takes 45 = .ok (.bipush 29, 2) := by decide +kernel
theorem dX5_takes_47 : decode cX5_takes 47 = .ok (.dup2, 1) := by decide +kernel
theorem dX5_takes_48 : decode cX5_takes 48 = .ok (.iaload, 1) := by decide +kernel
theorem dX5_takes_49 : decode cX5_takes 49 = .ok (.iload_n 3, 1) := by decide +kernel
theorem dX5_takes_50 : decode cX5_takes 50 = .ok (.iadd, 1) := by decide +kernel
theorem dX5_takes_51 : decode cX5_takes 51 = .ok (.iastore, 1) := by decide +kernel
theorem dX5_takes_52 : decode cX5_takes 52 = .ok (.aload_n 0, 1) := by decide +kernel
theorem dX5_takes_53 : decode cX5_takes 53 = .ok (.getfield 7, 3) := by decide +kernel
theorem dX5_takes_56 : decode cX5_takes 56 = .ok (.bipush 16, 2) := by decide +kernel
theorem dX5_takes_58 : decode cX5_takes 58 = .ok (.iload_n 1, 1) := by decide +kernel
theorem dX5_takes_59 : decode cX5_takes 59 = .ok (.iadd, 1) := by decide +kernel
theorem dX5_takes_60 : decode cX5_takes 60 = .ok (.iconst (-1), 1) := by decide +kernel
theorem dX5_takes_61 : decode cX5_takes 61 = .ok (.iastore, 1) := by decide +kernel
theorem dX5_takes_62 : decode cX5_takes 62 = .ok (.iload_n 3, 1) := by decide +kernel
theorem dX5_takes_63 : decode cX5_takes 63 = .ok (.ireturn, 1) := by decide +kernel
theorem dX5_moves_0 : decode cX5_moves 0 = .ok (.aload_n 0, 1) := by decide +kernel
theorem dX5_moves_1 : decode cX5_moves 1 = .ok (.iload_n 1, 1) := by decide +kernel
theorem dX5_moves_2 : decode cX5_moves 2 = .ok (.invokevirtual 67, 3) := by decide +kernel
theorem dX5_moves_5 : decode cX5_moves 5 = .ok (.istore_n 3, 1) := by decide +kernel
theorem dX5_moves_6 : decode cX5_moves 6 = .ok (.iload_n 3, 1) := by decide +kernel
theorem dX5_moves_7 : decode cX5_moves 7 = .ok (.iload_n 2, 1) := by decide +kernel
theorem dX5_moves_8 : decode cX5_moves 8 = .ok (.if_icmp .ne 5, 3) := by decide +kernel
theorem dX5_moves_11 : decode cX5_moves 11 = .ok (.iconst 0, 1) := by decide +kernel
theorem dX5_moves_12 : decode cX5_moves 12 = .ok (.ireturn, 1) := by decide +kernel
theorem dX5_moves_13 : decode cX5_moves 13 = .ok (.iload_n 3, 1) := by decide +kernel
theorem dX5_moves_14 : decode cX5_moves 14 = .ok (.iconst (-1), 1) := by decide +kernel
theorem dX5_moves_15 : decode cX5_moves 15 = .ok (.if_icmp .ne 7, 3) := by decide +kernel
theorem dX5_moves_18 : decode cX5_moves 18 = .ok (.iconst 0, 1) := by decide +kernel
theorem dX5_moves_19 : decode cX5_moves 19 = .ok (.goto 8, 3) := by decide +kernel
theorem dX5_moves_22 : decode cX5_moves 22 = .ok (.aload_n 0, 1) := by decide +kernel
theorem dX5_moves_23 : decode cX5_moves 23 = .ok (.iload_n 3, 1) := by decide +kernel
theorem dX5_moves_24 : decode cX5_moves 24 = .ok (.invokevirtual 70, 3) := by decide +kernel
theorem dX5_moves_27 : decode cX5_moves 27 = .ok (.istore 4, 2) := by decide +kernel
theorem dX5_moves_29 : decode cX5_moves 29 = .ok (.iload 4, 2) := by decide +kernel
theorem dX5_moves_31 : decode cX5_moves 31 = .ok (.aload_n 0, 1) := by decide +kernel
theorem dX5_moves_32 : decode cX5_moves 32 = .ok (.iload_n 2, 1) := by decide +kernel
theorem dX5_moves_33 : decode cX5_moves 33 = .ok (.invokevirtual 70, 3) := by decide +kernel
theorem dX5_moves_36 : decode cX5_moves 36 = .ok (.iadd, 1) := by decide +kernel
theorem dX5_moves_37 : decode cX5_moves 37 = .ok (.istore 4, 2) := by decide +kernel
theorem dX5_moves_39 : decode cX5_moves 39 = .ok (.aload_n 0, 1) := by decide +kernel
theorem dX5_moves_40 : decode cX5_moves 40 = .ok (.getfield 7, 3) := by decide +kernel
theorem dX5_moves_43 : decode cX5_moves 43 = .ok (.bipush 16, 2) := by decide +kernel
theorem dX5_moves_45 : decode cX5_moves 45 = .ok (.iload_n 2, 1) := by decide +kernel
theorem dX5_moves_46 : decode cX5_moves 46 = .ok (.iadd, 1) := by decide +kernel
theorem dX5_moves_47 : decode cX5_moves 47 = .ok (.iload_n 1, 1) := by decide +kernel
theorem dX5_moves_48 : decode cX5_moves 48 = .ok (.iastore, 1) := by decide +kernel
theorem dX5_moves_49 : decode cX5_moves 49 = .ok (.iload 4, 2) := by decide +kernel
theorem dX5_moves_51 : decode cX5_moves 51 = .ok (.ireturn, 1) := by decide +kernel
theorem dX5_move_0 : decode cX5_move 0 = .ok (.iload_n 1, 1) := by decide +kernel
theorem dX5_move_1 : decode cX5_move 1 = .ok (.invokestatic 61, 3) := by decide +kernel
theorem dX5_move_4 : decode cX5_move 4 = .ok (.ifCond .eq 10, 3) := by decide +kernel
theorem dX5_move_7 : decode cX5_move 7 = .ok (.iload_n 2, 1) := by decide +kernel
theorem dX5_move_8 : decode cX5_move 8 = .ok (.invokestatic 48, 3) := by decide +kernel
theorem dX5_move_11 : decode cX5_move 11 = .ok (.ifCond .ne 5, 3) := by decide +kernel
theorem dX5_move_14 : decode cX5_move 14 = .ok (.iconst (-1), 1) := by decide +kernel
theorem dX5_move_15 : decode cX5_move 15 = .ok (.ireturn, 1) := by decide +kernel
theorem dX5_move_16 : decode cX5_move 16 = .ok (.aload_n 0, 1) := by decide +kernel
theorem dX5_move_17 : decode cX5_move 17 = .ok (.invokevirtual 55, 3) := by decide +kernel
theorem dX5_move_20 : decode cX5_move 20 = .ok (.aload_n 0, 1) := by decide +kernel
theorem dX5_move_21 : decode cX5_move 21 = .ok (.iload_n 1, 1) := by decide +kernel
theorem dX5_move_22 : decode cX5_move 22 = .ok (.iload_n 2, 1) := by decide +kernel
theorem dX5_move_23 : decode cX5_move 23 = .ok (.invokevirtual 73, 3) := by decide +kernel
theorem dX5_move_26 : decode cX5_move 26 = .ok (.ireturn, 1) := by decide +kernel
theorem dX5_takeOut_0 : decode cX5_takeOut 0 = .ok (.iload_n 1, 1) := by decide +kernel
theorem dX5_takeOut_1 : decode cX5_takeOut 1 = .ok (.invokestatic 48, 3) := by decide +kernel
theorem dX5_takeOut_4 : decode cX5_takeOut 4 = .ok (.ifCond .ne 5, 3) := by decide +kernel
theorem dX5_takeOut_7 : decode cX5_takeOut 7 = .ok (.iconst (-1), 1) := by decide +kernel
theorem dX5_takeOut_8 : decode cX5_takeOut 8 = .ok (.ireturn, 1) := by decide +kernel
theorem dX5_takeOut_9 : decode cX5_takeOut 9 = .ok (.aload_n 0, 1) := by decide +kernel
theorem dX5_takeOut_10 : decode cX5_takeOut 10 = .ok (.getfield 7, 3) := by decide +kernel
theorem dX5_takeOut_13 : decode cX5_takeOut 13 = .ok (.bipush 16, 2) := by decide +kernel
theorem dX5_takeOut_15 : decode cX5_takeOut 15 = .ok (.iload_n 1, 1) := by decide +kernel
theorem dX5_takeOut_16 : decode cX5_takeOut 16 = .ok (.iadd, 1) := by decide +kernel
theorem dX5_takeOut_17 : decode cX5_takeOut 17 = .ok (.iaload, 1) := by decide +kernel
theorem dX5_takeOut_18 : decode cX5_takeOut 18 = .ok (.iconst (-1), 1) := by decide +kernel
theorem dX5_takeOut_19 : decode cX5_takeOut 19 = .ok (.if_icmp .ne 6, 3) := by decide +kernel
theorem dX5_takeOut_22 : decode cX5_takeOut 22 = .ok (.bipush (-2), 2) := by decide +kernel
theorem dX5_takeOut_24 : decode cX5_takeOut 24 = .ok (.ireturn, 1) := by decide +kernel
theorem dX5_takeOut_25 : decode cX5_takeOut 25 = .ok (.aload_n 0, 1) := by decide +kernel
theorem dX5_takeOut_26 : decode cX5_takeOut 26 = .ok (.invokevirtual 55, 3) := by decide +kernel
theorem dX5_takeOut_29 : decode cX5_takeOut 29 = .ok (.aload_n 0, 1) := by decide +kernel
theorem dX5_takeOut_30 : decode cX5_takeOut 30 = .ok (.getfield 7, 3) := by decide +kernel
theorem dX5_takeOut_33 : decode cX5_takeOut 33 = .ok (.bipush 16, 2) := by decide +kernel
theorem dX5_takeOut_35 : decode cX5_takeOut 35 = .ok (.iload_n 1, 1) := by decide +kernel
theorem dX5_takeOut_36 : decode cX5_takeOut 36 = .ok (.iadd, 1) := by decide +kernel
theorem dX5_takeOut_37 : decode cX5_takeOut 37 = .ok (.iaload, 1) := by decide +kernel
theorem dX5_takeOut_38 : decode cX5_takeOut 38 = .ok (.istore_n 2, 1) := by decide +kernel
theorem dX5_takeOut_39 : decode cX5_takeOut 39 = .ok (.aload_n 0, 1) := by decide +kernel
theorem dX5_takeOut_40 : decode cX5_takeOut 40 = .ok (.iload_n 1, 1) := by decide +kernel
theorem dX5_takeOut_41 : decode cX5_takeOut 41 = .ok (.invokevirtual 70, 3) := by decide +kernel
theorem dX5_takeOut_44 : decode cX5_takeOut 44 = .ok (.istore_n 3, 1) := by decide +kernel
theorem dX5_takeOut_45 : decode cX5_takeOut 45 = .ok (.iload_n 2, 1) := by decide +kernel
theorem dX5_takeOut_46 : decode cX5_takeOut 46 = .ok (.ireturn, 1) := by decide +kernel
theorem dX5_refill_0 : decode cX5_refill 0 = .ok (.iload_n 1, 1) := by decide +kernel
theorem dX5_refill_1 : decode cX5_refill 1 = .ok (.invokestatic 61, 3) := by decide +kernel
theorem dX5_refill_4 : decode cX5_refill 4 = .ok (.ifCond .eq 14, 3) := by decide +kernel
theorem dX5_refill_7 : decode cX5_refill 7 = .ok (.iload_n 2, 1) := by decide +kernel
theorem dX5_refill_8 : decode cX5_refill 8 = .ok (.iconst 1, 1) := by decide +kernel
theorem dX5_refill_9 : decode cX5_refill 9 = .ok (.sipush 6000, 3) := by decide +kernel
theorem dX5_refill_12 : decode cX5_refill 12 = .ok (.invokestatic 25, 3) := by decide +kernel
theorem dX5_refill_15 : decode cX5_refill 15 = .ok (.ifCond .ne 5, 3) := by decide +kernel
theorem dX5_refill_18 : decode cX5_refill 18 = .ok (.iconst (-1), 1) := by decide +kernel
theorem dX5_refill_19 : decode cX5_refill 19 = .ok (.ireturn, 1) := by decide +kernel
theorem dX5_refill_20 : decode cX5_refill 20 = .ok (.aload_n 0, 1) := by decide +kernel
theorem dX5_refill_21 : decode cX5_refill 21 = .ok (.iload_n 1, 1) := by decide +kernel
theorem dX5_refill_22 : decode cX5_refill 22 = .ok (.invokevirtual 67, 3) := by decide +kernel
theorem dX5_refill_25 : decode cX5_refill 25 = .ok (.iconst (-1), 1) := by decide +kernel
theorem dX5_refill_26 : decode cX5_refill 26 = .ok (.if_icmp .eq 6, 3) := by decide +kernel
theorem dX5_refill_29 : decode cX5_refill 29 = .ok (.bipush (-2), 2) := by decide +kernel
theorem dX5_refill_31 : decode cX5_refill 31 = .ok (.ireturn, 1) := by decide +kernel
theorem dX5_refill_32 : decode cX5_refill 32 = .ok (.sipush 6000, 3) := by decide +kernel
theorem dX5_refill_35 : decode cX5_refill 35 = .ok (.aload_n 0, 1) := by decide +kernel
theorem dX5_refill_36 : decode cX5_refill 36 = .ok (.iload_n 1, 1) := by decide +kernel
theorem dX5_refill_37 : decode cX5_refill 37 = .ok (.invokevirtual 37, 3) := by decide +kernel
theorem dX5_refill_40 : decode cX5_refill 40 = .ok (.isub, 1) := by decide +kernel
theorem dX5_refill_41 : decode cX5_refill 41 = .ok (.istore_n 3, 1) := by decide +kernel
theorem dX5_refill_42 : decode cX5_refill 42 = .ok (.iload_n 3, 1) := by decide +kernel
theorem dX5_refill_43 : decode cX5_refill 43 = .ok (.ifCond .gt 6, 3) := by decide +kernel
theorem dX5_refill_46 : decode cX5_refill 46 = .ok (.bipush (-3), 2) := by decide +kernel
theorem dX5_refill_48 : decode cX5_refill 48 = .ok (.ireturn, 1) := by decide +kernel
theorem dX5_refill_49 : decode cX5_refill 49 = .ok (.aload_n 0, 1) := by decide +kernel
theorem dX5_refill_50 : decode cX5_refill 50 = .ok (.invokevirtual 55, 3) := by decide +kernel
theorem dX5_refill_53 : decode cX5_refill 53 = .ok (.iload_n 2, 1) := by decide +kernel
theorem dX5_refill_54 : decode cX5_refill 54 = .ok (.iload_n 3, 1) := by decide +kernel
theorem dX5_refill_55 : decode cX5_refill 55 = .ok (.if_icmp .ge 7, 3) := by decide +kernel
theorem dX5_refill_58 : decode cX5_refill 58 = .ok (.iload_n 2, 1) := by decide +kernel
theorem dX5_refill_59 : decode cX5_refill 59 = .ok (.goto 4, 3) := by decide +kernel
theorem dX5_refill_62 : decode cX5_refill 62 = .ok (.iload_n 3, 1) := by decide +kernel
theorem dX5_refill_63 : decode cX5_refill 63 = .ok (.istore 4, 2) := by decide +kernel
theorem dX5_refill_65 : decode cX5_refill 65 = .ok (.aload_n 0, 1) := by decide +kernel
theorem dX5_refill_66 : decode cX5_refill 66 = .ok (.getfield 7, 3) := by decide +kernel
theorem dX5_refill_69 : decode cX5_refill 69 = .ok (.bipush 8, 2) := by decide +kernel
theorem dX5_refill_71 : decode cX5_refill 71 = .ok (.iload_n 1, 1) := by decide +kernel
theorem dX5_refill_72 : decode cX5_refill 72 = .ok (.iadd, 1) := by decide +kernel
theorem dX5_refill_73 : decode cX5_refill 73 = .ok (.dup2, 1) := by decide +kernel
theorem dX5_refill_74 : decode cX5_refill 74 = .ok (.iaload, 1) := by decide +kernel
theorem dX5_refill_75 : decode cX5_refill 75 = .ok (.iload 4, 2) := by decide +kernel
theorem dX5_refill_77 : decode cX5_refill 77 = .ok (.iadd, 1) := by decide +kernel
theorem dX5_refill_78 : decode cX5_refill 78 = .ok (.iastore, 1) := by decide +kernel
theorem dX5_refill_79 : decode cX5_refill 79 = .ok (.aload_n 0, 1) := by decide +kernel
theorem dX5_refill_80 : decode cX5_refill 80 = .ok (.getfield 7, 3) := by decide +kernel
theorem dX5_refill_83 : decode cX5_refill 83 = .ok (.iconst 0, 1) := by decide +kernel
theorem dX5_refill_84 : decode cX5_refill 84 = .ok (.iload_n 1, 1) := by decide +kernel
theorem dX5_refill_85 : decode cX5_refill 85 = .ok (.iadd, 1) := by decide +kernel
theorem dX5_refill_86 : decode cX5_refill 86 = .ok (.iconst 2, 1) := by decide +kernel
theorem dX5_refill_87 : decode cX5_refill 87 = .ok (.iastore, 1) := by decide +kernel
theorem dX5_refill_88 : decode cX5_refill 88 = .ok (.aload_n 0, 1) := by decide +kernel
theorem dX5_refill_89 : decode cX5_refill 89 = .ok (.getfield 7, 3) := by decide +kernel
theorem dX5_refill_92 : decode cX5_refill 92 = .ok (.bipush 30, 2) := by decide +kernel
theorem dX5_refill_94 : decode cX5_refill 94 = .ok (.dup2, 1) := by decide +kernel
theorem dX5_refill_95 : decode cX5_refill 95 = .ok (.iaload, 1) := by decide +kernel
theorem dX5_refill_96 : decode cX5_refill 96 = .ok (.iload 4, 2) := by decide +kernel
theorem dX5_refill_98 : decode cX5_refill 98 = .ok (.iadd, 1) := by decide +kernel
theorem dX5_refill_99 : decode cX5_refill 99 = .ok (.iastore, 1) := by decide +kernel
theorem dX5_refill_100 : decode cX5_refill 100 = .ok (.iload 4, 2) := by decide +kernel
theorem dX5_refill_102 : decode cX5_refill 102 = .ok (.ireturn, 1) := by decide +kernel
theorem dX5_lowest_0 : decode cX5_lowest 0 = .ok (.iload_n 0, 1) := by decide +kernel
theorem dX5_lowest_1 : decode cX5_lowest 1 = .ok (.iconst 1, 1) := by decide +kernel
theorem dX5_lowest_2 : decode cX5_lowest 2 = .ok (.if_icmp .ne 7, 3) := by decide +kernel
theorem dX5_lowest_5 : decode cX5_lowest 5 = .ok (.iconst 2, 1) := by decide +kernel
theorem dX5_lowest_6 : decode cX5_lowest 6 = .ok (.goto 13, 3) := by decide +kernel
theorem dX5_lowest_9 : decode cX5_lowest 9 = .ok (.iload_n 0, 1) := by decide +kernel
theorem dX5_lowest_10 : decode cX5_lowest 10 = .ok (.iconst 2, 1) := by decide +kernel
theorem dX5_lowest_11 : decode cX5_lowest 11 = .ok (.if_icmp .ne 7, 3) := by decide +kernel
theorem dX5_lowest_14 : decode cX5_lowest 14 = .ok (.iconst 0, 1) := by decide +kernel
theorem dX5_lowest_15 : decode cX5_lowest 15 = .ok (.goto 4, 3) := by decide +kernel
theorem dX5_lowest_18 : decode cX5_lowest 18 = .ok (.iconst 1, 1) := by decide +kernel
theorem dX5_lowest_19 : decode cX5_lowest 19 = .ok (.ireturn, 1) := by decide +kernel
theorem dX5_highest_0 : decode cX5_highest 0 = .ok (.iload_n 0, 1) := by decide +kernel
theorem dX5_highest_1 : decode cX5_highest 1 = .ok (.ifCond .ne 7, 3) := by decide +kernel
theorem dX5_highest_4 : decode cX5_highest 4 = .ok (.iconst 5, 1) := by decide +kernel
theorem dX5_highest_5 : decode cX5_highest 5 = .ok (.goto 25, 3) := by decide +kernel
theorem dX5_highest_8 : decode cX5_highest 8 = .ok (.iload_n 0, 1) := by decide +kernel
theorem dX5_highest_9 : decode cX5_highest 9 = .ok (.iconst 1, 1) := by decide +kernel
theorem dX5_highest_10 : decode cX5_highest 10 = .ok (.if_icmp .ne 8, 3) := by decide +kernel
theorem dX5_highest_13 : decode cX5_highest 13 = .ok (.bipush 50, 2) := by decide +kernel
theorem dX5_highest_15 : decode cX5_highest 15 = .ok (.goto 15, 3) := by decide +kernel
theorem dX5_highest_18 : decode cX5_highest 18 = .ok (.iload_n 0, 1) := by decide +kernel
theorem dX5_highest_19 : decode cX5_highest 19 = .ok (.iconst 2, 1) := by decide +kernel
theorem dX5_highest_20 : decode cX5_highest 20 = .ok (.if_icmp .ne 7, 3) := by decide +kernel
theorem dX5_highest_23 : decode cX5_highest 23 = .ok (.iconst 1, 1) := by decide +kernel
theorem dX5_highest_24 : decode cX5_highest 24 = .ok (.goto 6, 3) := by decide +kernel
theorem dX5_highest_27 : decode cX5_highest 27 = .ok (.sipush 500, 3) := by decide +kernel
theorem dX5_highest_30 : decode cX5_highest 30 = .ok (.ireturn, 1) := by decide +kernel
theorem dX5_set_0 : decode cX5_set 0 = .ok (.iload_n 1, 1) := by decide +kernel
theorem dX5_set_1 : decode cX5_set 1 = .ok (.iconst 0, 1) := by decide +kernel
theorem dX5_set_2 : decode cX5_set 2 = .ok (.iconst 3, 1) := by decide +kernel
theorem dX5_set_3 : decode cX5_set 3 = .ok (.invokestatic 25, 3) := by decide +kernel
theorem dX5_set_6 : decode cX5_set 6 = .ok (.ifCond .eq 18, 3) := by decide +kernel
theorem dX5_set_9 : decode cX5_set 9 = .ok (.iload_n 2, 1) := by decide +kernel
theorem dX5_set_10 : decode cX5_set 10 = .ok (.iload_n 1, 1) := by decide +kernel
theorem dX5_set_11 : decode cX5_set 11 = .ok (.invokestatic 76, 3) := by decide +kernel
theorem dX5_set_14 : decode cX5_set 14 = .ok (.iload_n 1, 1) := by decide +kernel
theorem dX5_set_15 : decode cX5_set 15 = .ok (.invokestatic 79, 3) := by decide +kernel
theorem dX5_set_18 : decode cX5_set 18 = .ok (.invokestatic 25, 3) := by decide +kernel
theorem dX5_set_21 : decode cX5_set 21 = .ok (.ifCond .ne 5, 3) := by decide +kernel
theorem dX5_set_24 : decode cX5_set 24 = .ok (.iconst (-1), 1) := by decide +kernel
theorem dX5_set_25 : decode cX5_set 25 = .ok (.ireturn, 1) := by decide +kernel
theorem dX5_set_26 : decode cX5_set 26 = .ok (.aload_n 0, 1) := by decide +kernel
theorem dX5_set_27 : decode cX5_set 27 = .ok (.invokevirtual 55, 3) := by decide +kernel
theorem dX5_set_30 : decode cX5_set 30 = .ok (.aload_n 0, 1) := by decide +kernel
theorem dX5_set_31 : decode cX5_set 31 = .ok (.getfield 7, 3) := by decide +kernel
theorem dX5_set_34 : decode cX5_set 34 = .ok (.bipush 31, 2) := by decide +kernel
theorem dX5_set_36 : decode cX5_set 36 = .ok (.iload_n 1, 1) := by decide +kernel
theorem dX5_set_37 : decode cX5_set 37 = .ok (.iadd, 1) := by decide +kernel
theorem dX5_set_38 : decode cX5_set 38 = .ok (.iaload, 1) := by decide +kernel
theorem dX5_set_39 : decode cX5_set 39 = .ok (.istore_n 3, 1) := by decide +kernel
theorem dX5_set_40 : decode cX5_set 40 = .ok (.aload_n 0, 1) := by decide +kernel
theorem dX5_set_41 : decode cX5_set 41 = .ok (.getfield 7, 3) := by decide +kernel
theorem dX5_set_44 : decode cX5_set 44 = .ok (.bipush 31, 2) := by decide +kernel
theorem dX5_set_46 : decode cX5_set 46 = .ok (.iload_n 1, 1) := by decide +kernel
theorem dX5_set_47 : decode cX5_set 47 = .ok (.iadd, 1) := by decide +kernel
theorem dX5_set_48 : decode cX5_set 48 = .ok (.iload_n 2, 1) := by decide +kernel
theorem dX5_set_49 : decode cX5_set 49 = .ok (.iastore, 1) := by decide +kernel
theorem dX5_set_50 : decode cX5_set 50 = .ok (.iload_n 3, 1) := by decide +kernel
theorem dX5_set_51 : decode cX5_set 51 = .ok (.ireturn, 1) := by decide +kernel
theorem dX5_append_0 : decode cX5_append 0 = .ok (.iload_n 1, 1) := by decide +kernel
theorem dX5_append_1 : decode cX5_append 1 = .ok (.bipush 33, 2) := by decide +kernel
theorem dX5_append_3 : decode cX5_append 3 = .ok (.bipush 126, 2) := by decide +kernel
theorem dX5_append_5 : decode cX5_append 5 = .ok (.invokestatic 25, 3) := by decide +kernel
theorem dX5_append_8 : decode cX5_append 8 = .ok (.ifCond .ne 5, 3) := by decide +kernel
theorem dX5_append_11 : decode cX5_append 11 = .ok (.iconst (-1), 1) := by decide +kernel
theorem dX5_append_12 : decode cX5_append 12 = .ok (.ireturn, 1) := by decide +kernel
theorem dX5_append_13 : decode cX5_append 13 = .ok (.aload_n 0, 1) := by decide +kernel
theorem dX5_append_14 : decode cX5_append 14 = .ok (.getfield 82, 3) := by decide +kernel
theorem dX5_append_17 : decode cX5_append 17 = .ok (.bipush 60, 2) := by decide +kernel
theorem dX5_append_19 : decode cX5_append 19 = .ok (.if_icmp .ne 6, 3) := by decide +kernel
theorem dX5_append_22 : decode cX5_append 22 = .ok (.bipush (-3), 2) := by decide +kernel
theorem dX5_append_24 : decode cX5_append 24 = .ok (.ireturn, 1) := by decide +kernel
theorem dX5_append_25 : decode cX5_append 25 = .ok (.aload_n 0, 1) := by decide +kernel
theorem dX5_append_26 : decode cX5_append 26 = .ok (.getfield 19, 3) := by decide +kernel
theorem dX5_append_29 : decode cX5_append 29 = .ok (.aload_n 0, 1) := by decide +kernel
theorem dX5_append_30 : decode cX5_append 30 = .ok (.getfield 82, 3) := by decide +kernel
theorem dX5_append_33 : decode cX5_append 33 = .ok (.iload_n 1, 1) := by decide +kernel
theorem dX5_append_34 : decode cX5_append 34 = .ok (.iastore, 1) := by decide +kernel
theorem dX5_append_35 : decode cX5_append 35 = .ok (.aload_n 0, 1) := by decide +kernel
theorem dX5_append_36 : decode cX5_append 36 = .ok (.dup, 1) := by decide +kernel
theorem dX5_append_37 : decode cX5_append 37 = .ok (.getfield 82, 3) := by decide +kernel
theorem dX5_append_40 : decode cX5_append 40 = .ok (.iconst 1, 1) := by decide +kernel
theorem dX5_append_41 : decode cX5_append 41 = .ok (.iadd, 1) := by decide +kernel
theorem dX5_append_42 : decode cX5_append 42 = .ok (.putfield 82, 3) := by decide +kernel
theorem dX5_append_45 : decode cX5_append 45 = .ok (.aload_n 0, 1) := by decide +kernel
theorem dX5_append_46 : decode cX5_append 46 = .ok (.getfield 82, 3) := by decide +kernel
theorem dX5_append_49 : decode cX5_append 49 = .ok (.ireturn, 1) := by decide +kernel
theorem dX5_clear_0 : decode cX5_clear 0 = .ok (.aload_n 0, 1) := by decide +kernel
theorem dX5_clear_1 : decode cX5_clear 1 = .ok (.getfield 82, 3) := by decide +kernel
theorem dX5_clear_4 : decode cX5_clear 4 = .ok (.istore_n 1, 1) := by decide +kernel
theorem dX5_clear_5 : decode cX5_clear 5 = .ok (.aload_n 0, 1) := by decide +kernel
theorem dX5_clear_6 : decode cX5_clear 6 = .ok (.iconst 0, 1) := by decide +kernel
theorem dX5_clear_7 : decode cX5_clear 7 = .ok (.putfield 82, 3) := by decide +kernel
theorem dX5_clear_10 : decode cX5_clear 10 = .ok (.iload_n 1, 1) := by decide +kernel
theorem dX5_clear_11 : decode cX5_clear 11 = .ok (.ireturn, 1) := by decide +kernel
theorem dX5_next_0 : decode cX5_next 0 = .ok (.aload_n 0, 1) := by decide +kernel
theorem dX5_next_1 : decode cX5_next 1 = .ok (.getfield 85, 3) := by decide +kernel
theorem dX5_next_4 : decode cX5_next 4 = .ok (.aload_n 0, 1) := by decide +kernel
theorem dX5_next_5 : decode cX5_next 5 = .ok (.getfield 82, 3) := by decide +kernel
theorem dX5_next_8 : decode cX5_next 8 = .ok (.if_icmp .ge 15, 3) := by decide +kernel
theorem dX5_next_11 : decode cX5_next 11 = .ok (.aload_n 0, 1) := by decide +kernel
theorem dX5_next_12 : decode cX5_next 12 = .ok (.getfield 19, 3) := by decide +kernel
theorem dX5_next_15 : decode cX5_next 15 = .ok (.aload_n 0, 1) := by decide +kernel
theorem dX5_next_16 : decode cX5_next 16 = .ok (.getfield 85, 3) := by decide +kernel
theorem dX5_next_19 : decode cX5_next 19 = .ok (.iaload, 1) := by decide +kernel
theorem dX5_next_20 : decode cX5_next 20 = .ok (.goto 4, 3) := by decide +kernel
theorem dX5_next_23 : decode cX5_next 23 = .ok (.iconst 0, 1) := by decide +kernel
theorem dX5_next_24 : decode cX5_next 24 = .ok (.ireturn, 1) := by decide +kernel
theorem dX5_sign_0 : decode cX5_sign 0 = .ok (.aload_n 0, 1) := by decide +kernel
theorem dX5_sign_1 : decode cX5_sign 1 = .ok (.aload_n 0, 1) := by decide +kernel
theorem dX5_sign_2 : decode cX5_sign 2 = .ok (.getfield 88, 3) := by decide +kernel
theorem dX5_sign_5 : decode cX5_sign 5 = .ok (.ifCond .ne 11, 3) := by decide +kernel
theorem dX5_sign_8 : decode cX5_sign 8 = .ok (.aload_n 0, 1) := by decide +kernel
theorem dX5_sign_9 : decode cX5_sign 9 = .ok (.invokevirtual 92, 3) := by decide +kernel
theorem dX5_sign_12 : decode cX5_sign 12 = .ok (.iload_n 1, 1) := by decide +kernel
theorem dX5_sign_13 : decode cX5_sign 13 = .ok (.if_icmp .eq 7, 3) := by decide +kernel
theorem dX5_sign_16 : decode cX5_sign 16 = .ok (.iconst 1, 1) := by decide +kernel
theorem dX5_sign_17 : decode cX5_sign 17 = .ok (.goto 4, 3) := by decide +kernel
theorem dX5_sign_20 : decode cX5_sign 20 = .ok (.iconst 0, 1) := by decide +kernel
theorem dX5_sign_21 : decode cX5_sign 21 = .ok (.putfield 88, 3) := by decide +kernel
theorem dX5_sign_24 : decode cX5_sign 24 = .ok (.aload_n 0, 1) := by decide +kernel
theorem dX5_sign_25 : decode cX5_sign 25 = .ok (.dup, 1) := by decide +kernel
theorem dX5_sign_26 : decode cX5_sign 26 = .ok (.getfield 85, 3) := by decide +kernel
theorem dX5_sign_29 : decode cX5_sign 29 = .ok (.aload_n 0, 1) := by decide +kernel
theorem dX5_sign_30 : decode cX5_sign 30 = .ok (.getfield 88, 3) := by decide +kernel
theorem dX5_sign_33 : decode cX5_sign 33 = .ok (.ifCond .eq 7, 3) := by decide +kernel
theorem dX5_sign_36 : decode cX5_sign 36 = .ok (.iconst 0, 1) := by decide +kernel
theorem dX5_sign_37 : decode cX5_sign 37 = .ok (.goto 4, 3) := by decide +kernel
theorem dX5_sign_40 : decode cX5_sign 40 = .ok (.iconst 1, 1) := by decide +kernel
theorem dX5_sign_41 : decode cX5_sign 41 = .ok (.iadd, 1) := by decide +kernel
theorem dX5_sign_42 : decode cX5_sign 42 = .ok (.putfield 85, 3) := by decide +kernel
theorem dX5_sign_45 : decode cX5_sign 45 = .ok (.return_, 1) := by decide +kernel
theorem dX5_digit_0 : decode cX5_digit 0 = .ok (.aload_n 0, 1) := by decide +kernel
theorem dX5_digit_1 : decode cX5_digit 1 = .ok (.invokevirtual 92, 3) := by decide +kernel
theorem dX5_digit_4 : decode cX5_digit 4 = .ok (.bipush 48, 2) := by decide +kernel
theorem dX5_digit_6 : decode cX5_digit 6 = .ok (.isub, 1) := by decide +kernel
theorem dX5_digit_7 : decode cX5_digit 7 = .ok (.istore_n 3, 1) := by decide +kernel
theorem dX5_digit_8 : decode cX5_digit 8 = .ok (.aload_n 0, 1) := by decide +kernel
theorem dX5_digit_9 : decode cX5_digit 9 = .ok (.aload_n 0, 1) := by decide +kernel
theorem dX5_digit_10 : decode cX5_digit 10 = .ok (.getfield 88, 3) := by decide +kernel
theorem dX5_digit_13 : decode cX5_digit 13 = .ok (.ifCond .ne 12, 3) := by decide +kernel
theorem dX5_digit_16 : decode cX5_digit 16 = .ok (.iload_n 3, 1) := by decide +kernel
theorem dX5_digit_17 : decode cX5_digit 17 = .ok (.iload_n 1, 1) := by decide +kernel
theorem dX5_digit_18 : decode cX5_digit 18 = .ok (.iload_n 2, 1) := by decide +kernel
theorem dX5_digit_19 : decode cX5_digit 19 = .ok (.invokestatic 25, 3) := by decide +kernel
theorem dX5_digit_22 : decode cX5_digit 22 = .ok (.ifCond .ne 7, 3) := by decide +kernel
theorem dX5_digit_25 : decode cX5_digit 25 = .ok (.iconst 1, 1) := by decide +kernel
theorem dX5_digit_26 : decode cX5_digit 26 = .ok (.goto 4, 3) := by decide +kernel
theorem dX5_digit_29 : decode cX5_digit 29 = .ok (.iconst 0, 1) := by decide +kernel
theorem dX5_digit_30 : decode cX5_digit 30 = .ok (.putfield 88, 3) := by decide +kernel
theorem dX5_digit_33 : decode cX5_digit 33 = .ok (.aload_n 0, 1) := by decide +kernel
theorem dX5_digit_34 : decode cX5_digit 34 = .ok (.dup, 1) := by decide +kernel
theorem dX5_digit_35 : decode cX5_digit 35 = .ok (.getfield 85, 3) := by decide +kernel
theorem dX5_digit_38 : decode cX5_digit 38 = .ok (.aload_n 0, 1) := by decide +kernel
theorem dX5_digit_39 : decode cX5_digit 39 = .ok (.getfield 88, 3) := by decide +kernel
theorem dX5_digit_42 : decode cX5_digit 42 = .ok (.ifCond .eq 7, 3) := by decide +kernel
theorem dX5_digit_45 : decode cX5_digit 45 = .ok (.iconst 0, 1) := by decide +kernel
theorem dX5_digit_46 : decode cX5_digit 46 = .ok (.goto 4, 3) := by decide +kernel
theorem dX5_digit_49 : decode cX5_digit 49 = .ok (.iconst 1, 1) := by decide +kernel
theorem dX5_digit_50 : decode cX5_digit 50 = .ok (.iadd, 1) := by decide +kernel
theorem dX5_digit_51 : decode cX5_digit 51 = .ok (.putfield 85, 3) := by decide +kernel
theorem dX5_digit_54 : decode cX5_digit 54 = .ok (.iload_n 3, 1) := by decide +kernel
theorem dX5_digit_55 : decode cX5_digit 55 = .ok (.ireturn, 1) := by decide +kernel
theorem dX5_number_0 : decode cX5_number 0 = .ok (.aload_n 0, 1) := by decide +kernel
theorem dX5_number_1 : decode cX5_number 1 = .ok (.iconst 1, 1) := by decide +kernel
theorem dX5_number_2 : decode cX5_number 2 = .ok (.bipush 9, 2) := by decide +kernel
theorem dX5_number_4 : decode cX5_number 4 = .ok (.invokevirtual 96, 3) := by decide +kernel
theorem dX5_number_7 : decode cX5_number 7 = .ok (.istore_n 3, 1) := by decide +kernel
theorem dX5_number_8 : decode cX5_number 8 = .ok (.aload_n 0, 1) := by decide +kernel
theorem dX5_number_9 : decode cX5_number 9 = .ok (.getfield 88, 3) := by decide +kernel
theorem dX5_number_12 : decode cX5_number 12 = .ok (.ifCond .ne 7, 3) := by decide +kernel
theorem dX5_number_15 : decode cX5_number 15 = .ok (.iconst 1, 1) := by decide +kernel
theorem dX5_number_16 : decode cX5_number 16 = .ok (.goto 4, 3) := by decide +kernel
theorem dX5_number_19 : decode cX5_number 19 = .ok (.iconst 0, 1) := by decide +kernel
theorem dX5_number_20 : decode cX5_number 20 = .ok (.istore 4, 2) := by decide +kernel
theorem dX5_number_22 : decode cX5_number 22 = .ok (.iload 4, 2) := by decide +kernel
theorem dX5_number_24 : decode cX5_number 24 = .ok (.ifCond .eq 84, 3) := by decide +kernel
theorem dX5_number_27 : decode cX5_number 27 = .ok (.aload_n 0, 1) := by decide +kernel
theorem dX5_number_28 : decode cX5_number 28 = .ok (.invokevirtual 92, 3) := by decide +kernel
theorem dX5_number_31 : decode cX5_number 31 = .ok (.bipush 48, 2) := by decide +kernel
theorem dX5_number_33 : decode cX5_number 33 = .ok (.bipush 57, 2) := by decide +kernel
theorem dX5_number_35 : decode cX5_number 35 = .ok (.invokestatic 25, 3) := by decide +kernel
theorem dX5_number_38 : decode cX5_number 38 = .ok (.ifCond .eq 23, 3) := by decide +kernel
theorem dX5_number_41 : decode cX5_number 41 = .ok (.bipush 10, 2) := by decide +kernel
theorem dX5_number_43 : decode cX5_number 43 = .ok (.iload_n 3, 1) := by decide +kernel
theorem dX5_number_44 : decode cX5_number 44 = .ok (.imul, 1) := by decide +kernel
theorem dX5_number_45 : decode cX5_number 45 = .ok (.aload_n 0, 1) := by decide +kernel
theorem dX5_number_46 : decode cX5_number 46 = .ok (.invokevirtual 92, 3) := by decide +kernel
theorem dX5_number_49 : decode cX5_number 49 = .ok (.iadd, 1) := by decide +kernel
theorem dX5_number_50 : decode cX5_number 50 = .ok (.bipush 48, 2) := by decide +kernel
theorem dX5_number_52 : decode cX5_number 52 = .ok (.isub, 1) := by decide +kernel
theorem dX5_number_53 : decode cX5_number 53 = .ok (.iload_n 2, 1) := by decide +kernel
theorem dX5_number_54 : decode cX5_number 54 = .ok (.if_icmp .gt 7, 3) := by decide +kernel
theorem dX5_number_57 : decode cX5_number 57 = .ok (.iconst 1, 1) := by decide +kernel
theorem dX5_number_58 : decode cX5_number 58 = .ok (.goto 4, 3) := by decide +kernel
theorem dX5_number_61 : decode cX5_number 61 = .ok (.iconst 0, 1) := by decide +kernel
theorem dX5_number_62 : decode cX5_number 62 = .ok (.istore 4, 2) := by decide +kernel
theorem dX5_number_64 : decode cX5_number 64 = .ok (.iload 4, 2) := by decide +kernel
theorem dX5_number_66 : decode cX5_number 66 = .ok (.ifCond .eq 18, 3) := by decide +kernel
theorem dX5_number_69 : decode cX5_number 69 = .ok (.bipush 10, 2) := by decide +kernel
theorem dX5_number_71 : decode cX5_number 71 = .ok (.iload_n 3, 1) := by decide +kernel
theorem dX5_number_72 : decode cX5_number 72 = .ok (.imul, 1) := by decide +kernel
theorem dX5_number_73 : decode cX5_number 73 = .ok (.aload_n 0, 1) := by decide +kernel
theorem dX5_number_74 : decode cX5_number 74 = .ok (.invokevirtual 92, 3) := by decide +kernel
theorem dX5_number_77 : decode cX5_number 77 = .ok (.iadd, 1) := by decide +kernel
theorem dX5_number_78 : decode cX5_number 78 = .ok (.bipush 48, 2) := by decide +kernel
theorem dX5_number_80 : decode cX5_number 80 = .ok (.isub, 1) := by decide +kernel
theorem dX5_number_81 : decode cX5_number 81 = .ok (.goto 4, 3) := by decide +kernel
theorem dX5_number_84 : decode cX5_number 84 = .ok (.iload_n 3, 1) := by decide +kernel
theorem dX5_number_85 : decode cX5_number 85 = .ok (.istore_n 3, 1) := by decide +kernel
theorem dX5_number_86 : decode cX5_number 86 = .ok (.aload_n 0, 1) := by decide +kernel
theorem dX5_number_87 : decode cX5_number 87 = .ok (.dup, 1) := by decide +kernel
theorem dX5_number_88 : decode cX5_number 88 = .ok (.getfield 85, 3) := by decide +kernel
theorem dX5_number_91 : decode cX5_number 91 = .ok (.iload 4, 2) := by decide +kernel
theorem dX5_number_93 : decode cX5_number 93 = .ok (.ifCond .eq 7, 3) := by decide +kernel
theorem dX5_number_96 : decode cX5_number 96 = .ok (.iconst 1, 1) := by decide +kernel
theorem dX5_number_97 : decode cX5_number 97 = .ok (.goto 4, 3) := by decide +kernel
theorem dX5_number_100 : decode cX5_number 100 = .ok (.iconst 0, 1) := by decide +kernel
theorem dX5_number_101 : decode cX5_number 101 = .ok (.iadd, 1) := by decide +kernel
theorem dX5_number_102 : decode cX5_number 102 = .ok (.putfield 85, 3) := by decide +kernel
theorem dX5_number_105 : decode cX5_number 105 = .ok (.goto (-83), 3) := by decide +kernel
theorem dX5_number_108 : decode cX5_number 108 = .ok (.aload_n 0, 1) := by decide +kernel
theorem dX5_number_109 : decode cX5_number 109 = .ok (.aload_n 0, 1) := by decide +kernel
theorem dX5_number_110 : decode cX5_number 110 = .ok (.getfield 88, 3) := by decide +kernel
theorem dX5_number_113 : decode cX5_number 113 = .ok (.ifCond .ne 8, 3) := by decide +kernel
theorem dX5_number_116 : decode cX5_number 116 = .ok (.iload_n 3, 1) := by decide +kernel
theorem dX5_number_117 : decode cX5_number 117 = .ok (.iload_n 1, 1) := by decide +kernel
theorem dX5_number_118 : decode cX5_number 118 = .ok (.if_icmp .ge 7, 3) := by decide +kernel
theorem dX5_number_121 : decode cX5_number 121 = .ok (.iconst 1, 1) := by decide +kernel
theorem dX5_number_122 : decode cX5_number 122 = .ok (.goto 4, 3) := by decide +kernel
theorem dX5_number_125 : decode cX5_number 125 = .ok (.iconst 0, 1) := by decide +kernel
theorem dX5_number_126 : decode cX5_number 126 = .ok (.putfield 88, 3) := by decide +kernel
theorem dX5_number_129 : decode cX5_number 129 = .ok (.iload_n 3, 1) := by decide +kernel
theorem dX5_number_130 : decode cX5_number 130 = .ok (.ireturn, 1) := by decide +kernel
theorem dX5_deed_0 : decode cX5_deed 0 = .ok (.aload_n 0, 1) := by decide +kernel
theorem dX5_deed_1 : decode cX5_deed 1 = .ok (.aload_n 0, 1) := by decide +kernel
theorem dX5_deed_2 : decode cX5_deed 2 = .ok (.getfield 88, 3) := by decide +kernel
theorem dX5_deed_5 : decode cX5_deed 5 = .ok (.ifCond .eq 7, 3) := by decide +kernel
theorem dX5_deed_8 : decode cX5_deed 8 = .ok (.iconst 0, 1) := by decide +kernel
theorem dX5_deed_9 : decode cX5_deed 9 = .ok (.goto 7, 3) := by decide +kernel
theorem dX5_deed_12 : decode cX5_deed 12 = .ok (.aload_n 0, 1) := by decide +kernel
theorem dX5_deed_13 : decode cX5_deed 13 = .ok (.invokevirtual 92, 3) := by decide +kernel
theorem dX5_deed_16 : decode cX5_deed 16 = .ok (.putfield 99, 3) := by decide +kernel
theorem dX5_deed_19 : decode cX5_deed 19 = .ok (.aload_n 0, 1) := by decide +kernel
theorem dX5_deed_20 : decode cX5_deed 20 = .ok (.iconst 1, 1) := by decide +kernel
theorem dX5_deed_21 : decode cX5_deed 21 = .ok (.putfield 102, 3) := by decide +kernel
theorem dX5_deed_24 : decode cX5_deed 24 = .ok (.aload_n 0, 1) := by decide +kernel
theorem dX5_deed_25 : decode cX5_deed 25 = .ok (.getfield 99, 3) := by decide +kernel
theorem dX5_deed_28 : decode cX5_deed 28 = .ok (.bipush 112, 2) := by decide +kernel
theorem dX5_deed_30 : decode cX5_deed 30 = .ok (.if_icmp .ne 81, 3) := by decide +kernel
theorem dX5_deed_33 : decode cX5_deed 33 = .ok (.aload_n 0, 1) := by decide +kernel
theorem dX5_deed_34 : decode cX5_deed 34 = .ok (.dup, 1) := by decide +kernel
theorem dX5_deed_35 : decode cX5_deed 35 = .ok (.getfield 85, 3) := by decide +kernel
theorem dX5_deed_38 : decode cX5_deed 38 = .ok (.iconst 1, 1) := by decide +kernel
theorem dX5_deed_39 : decode cX5_deed 39 = .ok (.iadd, 1) := by decide +kernel
theorem dX5_deed_40 : decode cX5_deed 40 = .ok (.putfield 85, 3) := by decide +kernel
theorem dX5_deed_43 : decode cX5_deed 43 = .ok (.aload_n 0, 1) := by decide +kernel
theorem dX5_deed_44 : decode cX5_deed 44 = .ok (.aload_n 0, 1) := by decide +kernel
theorem dX5_deed_45 : decode cX5_deed 45 = .ok (.iconst 0, 1) := by decide +kernel
theorem dX5_deed_46 : decode cX5_deed 46 = .ok (.iconst 1, 1) := by decide +kernel
theorem dX5_deed_47 : decode cX5_deed 47 = .ok (.invokevirtual 96, 3) := by decide +kernel
theorem dX5_deed_50 : decode cX5_deed 50 = .ok (.putfield 105, 3) := by decide +kernel
theorem dX5_deed_53 : decode cX5_deed 53 = .ok (.aload_n 0, 1) := by decide +kernel
theorem dX5_deed_54 : decode cX5_deed 54 = .ok (.bipush 58, 2) := by decide +kernel
theorem dX5_deed_56 : decode cX5_deed 56 = .ok (.invokevirtual 108, 3) := by decide +kernel
theorem dX5_deed_59 : decode cX5_deed 59 = .ok (.aload_n 0, 1) := by decide +kernel
theorem dX5_deed_60 : decode cX5_deed 60 = .ok (.aload_n 0, 1) := by decide +kernel
theorem dX5_deed_61 : decode cX5_deed 61 = .ok (.iconst 1, 1) := by decide +kernel
theorem dX5_deed_62 : decode cX5_deed 62 = .ok (.sipush 999, 3) := by decide +kernel
theorem dX5_deed_65 : decode cX5_deed 65 = .ok (.invokevirtual 112, 3) := by decide +kernel
theorem dX5_deed_68 : decode cX5_deed 68 = .ok (.putfield 115, 3) := by decide +kernel
theorem dX5_deed_71 : decode cX5_deed 71 = .ok (.aload_n 0, 1) := by decide +kernel
theorem dX5_deed_72 : decode cX5_deed 72 = .ok (.getfield 88, 3) := by decide +kernel
theorem dX5_deed_75 : decode cX5_deed 75 = .ok (.ifCond .ne 121, 3) := by decide +kernel
theorem dX5_deed_78 : decode cX5_deed 78 = .ok (.aload_n 0, 1) := by decide +kernel
theorem dX5_deed_79 : decode cX5_deed 79 = .ok (.invokevirtual 92, 3) := by decide +kernel
theorem dX5_deed_82 : decode cX5_deed 82 = .ok (.bipush 120, 2) := by decide +kernel
theorem dX5_deed_84 : decode cX5_deed 84 = .ok (.if_icmp .ne 112, 3) := by decide +kernel
theorem dX5_deed_87 : decode cX5_deed 87 = .ok (.aload_n 0, 1) := by decide +kernel
theorem dX5_deed_88 : decode cX5_deed 88 = .ok (.dup, 1) := by decide +kernel
theorem dX5_deed_89 : decode cX5_deed 89 = .ok (.getfield 85, 3) := by decide +kernel
theorem dX5_deed_92 : decode cX5_deed 92 = .ok (.iconst 1, 1) := by decide +kernel
theorem dX5_deed_93 : decode cX5_deed 93 = .ok (.iadd, 1) := by decide +kernel
theorem dX5_deed_94 : decode cX5_deed 94 = .ok (.putfield 85, 3) := by decide +kernel
theorem dX5_deed_97 : decode cX5_deed 97 = .ok (.aload_n 0, 1) := by decide +kernel
theorem dX5_deed_98 : decode cX5_deed 98 = .ok (.aload_n 0, 1) := by decide +kernel
theorem dX5_deed_99 : decode cX5_deed 99 = .ok (.iconst 2, 1) := by decide +kernel
theorem dX5_deed_100 : decode cX5_deed 100 = .ok (.bipush 50, 2) := by decide +kernel
theorem dX5_deed_102 : decode cX5_deed 102 = .ok (.invokevirtual 112, 3) := by decide +kernel
theorem dX5_deed_105 : decode cX5_deed 105 = .ok (.putfield 102, 3) := by decide +kernel
theorem dX5_deed_108 : decode cX5_deed 108 = .ok (.goto 88, 3) := by decide +kernel
theorem dX5_deed_111 : decode cX5_deed 111 = .ok (.aload_n 0, 1) := by decide +kernel
theorem dX5_deed_112 : decode cX5_deed 112 = .ok (.getfield 99, 3) := by decide +kernel
theorem dX5_deed_115 : decode cX5_deed 115 = .ok (.bipush 115, 2) := by decide +kernel
theorem dX5_deed_117 : decode cX5_deed 117 = .ok (.if_icmp .ne 26, 3) := by decide +kernel
theorem dX5_deed_120 : decode cX5_deed 120 = .ok (.aload_n 0, 1) := by decide +kernel
theorem dX5_deed_121 : decode cX5_deed 121 = .ok (.dup, 1) := by decide +kernel
theorem dX5_deed_122 : decode cX5_deed 122 = .ok (.getfield 85, 3) := by decide +kernel
theorem dX5_deed_125 : decode cX5_deed 125 = .ok (.iconst 1, 1) := by decide +kernel
theorem dX5_deed_126 : decode cX5_deed 126 = .ok (.iadd, 1) := by decide +kernel
theorem dX5_deed_127 : decode cX5_deed 127 = .ok (.putfield 85, 3) := by decide +kernel
theorem dX5_deed_130 : decode cX5_deed 130 = .ok (.aload_n 0, 1) := by decide +kernel
theorem dX5_deed_131 : decode cX5_deed 131 = .ok (.aload_n 0, 1) := by decide +kernel
theorem dX5_deed_132 : decode cX5_deed 132 = .ok (.iconst 0, 1) := by decide +kernel
theorem dX5_deed_133 : decode cX5_deed 133 = .ok (.iconst 3, 1) := by decide +kernel
theorem dX5_deed_134 : decode cX5_deed 134 = .ok (.invokevirtual 96, 3) := by decide +kernel
theorem dX5_deed_137 : decode cX5_deed 137 = .ok (.putfield 105, 3) := by decide +kernel
theorem dX5_deed_140 : decode cX5_deed 140 = .ok (.goto 56, 3) := by decide +kernel
theorem dX5_deed_143 : decode cX5_deed 143 = .ok (.aload_n 0, 1) := by decide +kernel
theorem dX5_deed_144 : decode cX5_deed 144 = .ok (.getfield 99, 3) := by decide +kernel
theorem dX5_deed_147 : decode cX5_deed 147 = .ok (.bipush 109, 2) := by decide +kernel
theorem dX5_deed_149 : decode cX5_deed 149 = .ok (.if_icmp .ne 42, 3) := by decide +kernel
theorem dX5_deed_152 : decode cX5_deed 152 = .ok (.aload_n 0, 1) := by decide +kernel
theorem dX5_deed_153 : decode cX5_deed 153 = .ok (.dup, 1) := by decide +kernel
theorem dX5_deed_154 : decode cX5_deed 154 = .ok (.getfield 85, 3) := by decide +kernel
theorem dX5_deed_157 : decode cX5_deed 157 = .ok (.iconst 1, 1) := by decide +kernel
theorem dX5_deed_158 : decode cX5_deed 158 = .ok (.iadd, 1) := by decide +kernel
theorem dX5_deed_159 : decode cX5_deed 159 = .ok (.putfield 85, 3) := by decide +kernel
theorem dX5_deed_162 : decode cX5_deed 162 = .ok (.aload_n 0, 1) := by decide +kernel
theorem dX5_deed_163 : decode cX5_deed 163 = .ok (.aload_n 0, 1) := by decide +kernel
theorem dX5_deed_164 : decode cX5_deed 164 = .ok (.iconst 0, 1) := by decide +kernel
theorem dX5_deed_165 : decode cX5_deed 165 = .ok (.iconst 3, 1) := by decide +kernel
theorem dX5_deed_166 : decode cX5_deed 166 = .ok (.invokevirtual 96, 3) := by decide +kernel
theorem dX5_deed_169 : decode cX5_deed 169 = .ok (.putfield 105, 3) := by decide +kernel
theorem dX5_deed_172 : decode cX5_deed 172 = .ok (.aload_n 0, 1) := by decide +kernel
theorem dX5_deed_173 : decode cX5_deed 173 = .ok (.bipush 62, 2) := by decide +kernel
theorem dX5_deed_175 : decode cX5_deed 175 = .ok (.invokevirtual 108, 3) := by decide +kernel
theorem dX5_deed_178 : decode cX5_deed 178 = .ok (.aload_n 0, 1) := by decide +kernel
theorem dX5_deed_179 : decode cX5_deed 179 = .ok (.aload_n 0, 1) := by decide +kernel
theorem dX5_deed_180 : decode cX5_deed 180 = .ok (.iconst 0, 1) := by decide +kernel
theorem dX5_deed_181 : decode cX5_deed 181 = .ok (.iconst 1, 1) := by decide +kernel
theorem dX5_deed_182 : decode cX5_deed 182 = .ok (.invokevirtual 96, 3) := by decide +kernel
theorem dX5_deed_185 : decode cX5_deed 185 = .ok (.putfield 115, 3) := by decide +kernel
theorem dX5_deed_188 : decode cX5_deed 188 = .ok (.goto 8, 3) := by decide +kernel
theorem dX5_deed_191 : decode cX5_deed 191 = .ok (.aload_n 0, 1) := by decide +kernel
theorem dX5_deed_192 : decode cX5_deed 192 = .ok (.iconst 1, 1) := by decide +kernel
theorem dX5_deed_193 : decode cX5_deed 193 = .ok (.putfield 88, 3) := by decide +kernel
theorem dX5_deed_196 : decode cX5_deed 196 = .ok (.return_, 1) := by decide +kernel
theorem dX5_isJob_0 : decode cX5_isJob 0 = .ok (.aload_n 0, 1) := by decide +kernel
theorem dX5_isJob_1 : decode cX5_isJob 1 = .ok (.iconst 0, 1) := by decide +kernel
theorem dX5_isJob_2 : decode cX5_isJob 2 = .ok (.putfield 85, 3) := by decide +kernel
theorem dX5_isJob_5 : decode cX5_isJob 5 = .ok (.aload_n 0, 1) := by decide +kernel
theorem dX5_isJob_6 : decode cX5_isJob 6 = .ok (.iconst 0, 1) := by decide +kernel
theorem dX5_isJob_7 : decode cX5_isJob 7 = .ok (.putfield 88, 3) := by decide +kernel
theorem dX5_isJob_10 : decode cX5_isJob 10 = .ok (.iconst 1, 1) := by decide +kernel
theorem dX5_isJob_11 : decode cX5_isJob 11 = .ok (.istore_n 1, 1) := by decide +kernel
theorem dX5_isJob_12 : decode cX5_isJob 12 = .ok (.iload_n 1, 1) := by decide +kernel
theorem dX5_isJob_13 : decode cX5_isJob 13 = .ok (.ifCond .eq 57, 3) := by decide +kernel
theorem dX5_isJob_16 : decode cX5_isJob 16 = .ok (.aload_n 0, 1) := by decide +kernel
theorem dX5_isJob_17 : decode cX5_isJob 17 = .ok (.invokevirtual 118, 3) := by decide +kernel
theorem dX5_isJob_20 : decode cX5_isJob 20 = .ok (.aload_n 0, 1) := by decide +kernel
theorem dX5_isJob_21 : decode cX5_isJob 21 = .ok (.getfield 88, 3) := by decide +kernel
theorem dX5_isJob_24 : decode cX5_isJob 24 = .ok (.ifCond .ne 18, 3) := by decide +kernel
theorem dX5_isJob_27 : decode cX5_isJob 27 = .ok (.aload_n 0, 1) := by decide +kernel
theorem dX5_isJob_28 : decode cX5_isJob 28 = .ok (.getfield 85, 3) := by decide +kernel
theorem dX5_isJob_31 : decode cX5_isJob 31 = .ok (.aload_n 0, 1) := by decide +kernel
theorem dX5_isJob_32 : decode cX5_isJob 32 = .ok (.getfield 82, 3) := by decide +kernel
theorem dX5_isJob_35 : decode cX5_isJob 35 = .ok (.if_icmp .ge 7, 3) := by decide +kernel
theorem dX5_isJob_38 : decode cX5_isJob 38 = .ok (.iconst 1, 1) := by decide +kernel
theorem dX5_isJob_39 : decode cX5_isJob 39 = .ok (.goto 4, 3) := by decide +kernel
theorem dX5_isJob_42 : decode cX5_isJob 42 = .ok (.iconst 0, 1) := by decide +kernel
theorem dX5_isJob_43 : decode cX5_isJob 43 = .ok (.istore_n 1, 1) := by decide +kernel
theorem dX5_isJob_44 : decode cX5_isJob 44 = .ok (.iload_n 1, 1) := by decide +kernel
theorem dX5_isJob_45 : decode cX5_isJob 45 = .ok (.ifCond .eq (-33), 3) := by decide +kernel
theorem dX5_isJob_48 : decode cX5_isJob 48 = .ok (.aload_n 0, 1) := by decide +kernel
theorem dX5_isJob_49 : decode cX5_isJob 49 = .ok (.bipush 59, 2) := by decide +kernel
theorem dX5_isJob_51 : decode cX5_isJob 51 = .ok (.invokevirtual 108, 3) := by decide +kernel
theorem dX5_isJob_54 : decode cX5_isJob 54 = .ok (.aload_n 0, 1) := by decide +kernel
theorem dX5_isJob_55 : decode cX5_isJob 55 = .ok (.getfield 88, 3) := by decide +kernel
theorem dX5_isJob_58 : decode cX5_isJob 58 = .ok (.ifCond .ne 7, 3) := by decide +kernel
theorem dX5_isJob_61 : decode cX5_isJob 61 = .ok (.iconst 1, 1) := by decide +kernel
theorem dX5_isJob_62 : decode cX5_isJob 62 = .ok (.goto 4, 3) := by decide +kernel
theorem dX5_isJob_65 : decode cX5_isJob 65 = .ok (.iconst 0, 1) := by decide +kernel
theorem dX5_isJob_66 : decode cX5_isJob 66 = .ok (.istore_n 1, 1) := by decide +kernel
theorem dX5_isJob_67 : decode cX5_isJob 67 = .ok (.goto (-55), 3) := by decide +kernel
theorem dX5_isJob_70 : decode cX5_isJob 70 = .ok (.aload_n 0, 1) := by decide +kernel
theorem dX5_isJob_71 : decode cX5_isJob 71 = .ok (.getfield 88, 3) := by decide +kernel
theorem dX5_isJob_74 : decode cX5_isJob 74 = .ok (.ifCond .ne 7, 3) := by decide +kernel
theorem dX5_isJob_77 : decode cX5_isJob 77 = .ok (.iconst 1, 1) := by decide +kernel
theorem dX5_isJob_78 : decode cX5_isJob 78 = .ok (.goto 4, 3) := by decide +kernel
theorem dX5_isJob_81 : decode cX5_isJob 81 = .ok (.iconst 0, 1) := by decide +kernel
theorem dX5_isJob_82 : decode cX5_isJob 82 = .ok (.ireturn, 1) := by decide +kernel
theorem dX5_fault_0 : decode cX5_fault 0 = .ok (.aload_n 0, 1) := by decide +kernel
theorem dX5_fault_1 : decode cX5_fault 1 = .ok (.invokevirtual 121, 3) := by decide +kernel
theorem dX5_fault_4 : decode cX5_fault 4 = .ok (.ifCond .eq 8, 3) := by decide +kernel
theorem dX5_fault_7 : decode cX5_fault 7 = .ok (.bipush (-4), 2) := by decide +kernel
theorem dX5_fault_9 : decode cX5_fault 9 = .ok (.goto 7, 3) := by decide +kernel
theorem dX5_fault_12 : decode cX5_fault 12 = .ok (.aload_n 0, 1) := by decide +kernel
theorem dX5_fault_13 : decode cX5_fault 13 = .ok (.getfield 85, 3) := by decide +kernel
theorem dX5_fault_16 : decode cX5_fault 16 = .ok (.ireturn, 1) := by decide +kernel
theorem dX5_pages_0 : decode cX5_pages 0 = .ok (.iconst 0, 1) := by decide +kernel
theorem dX5_pages_1 : decode cX5_pages 1 = .ok (.istore_n 1, 1) := by decide +kernel
theorem dX5_pages_2 : decode cX5_pages 2 = .ok (.iconst 0, 1) := by decide +kernel
theorem dX5_pages_3 : decode cX5_pages 3 = .ok (.istore_n 2, 1) := by decide +kernel
theorem dX5_pages_4 : decode cX5_pages 4 = .ok (.iload_n 1, 1) := by decide +kernel
theorem dX5_pages_5 : decode cX5_pages 5 = .ok (.aload_n 0, 1) := by decide +kernel
theorem dX5_pages_6 : decode cX5_pages 6 = .ok (.getfield 102, 3) := by decide +kernel
theorem dX5_pages_9 : decode cX5_pages 9 = .ok (.if_icmp .ge 47, 3) := by decide +kernel
theorem dX5_pages_12 : decode cX5_pages 12 = .ok (.iload_n 2, 1) := by decide +kernel
theorem dX5_pages_13 : decode cX5_pages 13 = .ok (.ifCond .ne 43, 3) := by decide +kernel
theorem dX5_pages_16 : decode cX5_pages 16 = .ok (.aload_n 0, 1) := by decide +kernel
theorem dX5_pages_17 : decode cX5_pages 17 = .ok (.aload_n 0, 1) := by decide +kernel
theorem dX5_pages_18 : decode cX5_pages 18 = .ok (.getfield 105, 3) := by decide +kernel
theorem dX5_pages_21 : decode cX5_pages 21 = .ok (.aload_n 0, 1) := by decide +kernel
theorem dX5_pages_22 : decode cX5_pages 22 = .ok (.getfield 115, 3) := by decide +kernel
theorem dX5_pages_25 : decode cX5_pages 25 = .ok (.invokevirtual 58, 3) := by decide +kernel
theorem dX5_pages_28 : decode cX5_pages 28 = .ok (.istore_n 3, 1) := by decide +kernel
theorem dX5_pages_29 : decode cX5_pages 29 = .ok (.iload_n 3, 1) := by decide +kernel
theorem dX5_pages_30 : decode cX5_pages 30 = .ok (.bipush 10, 2) := by decide +kernel
theorem dX5_pages_32 : decode cX5_pages 32 = .ok (.if_icmp .ge 7, 3) := by decide +kernel
theorem dX5_pages_35 : decode cX5_pages 35 = .ok (.iload_n 3, 1) := by decide +kernel
theorem dX5_pages_36 : decode cX5_pages 36 = .ok (.goto 4, 3) := by decide +kernel
theorem dX5_pages_39 : decode cX5_pages 39 = .ok (.iconst 0, 1) := by decide +kernel
theorem dX5_pages_40 : decode cX5_pages 40 = .ok (.istore_n 2, 1) := by decide +kernel
theorem dX5_pages_41 : decode cX5_pages 41 = .ok (.iload_n 1, 1) := by decide +kernel
theorem dX5_pages_42 : decode cX5_pages 42 = .ok (.iload_n 2, 1) := by decide +kernel
theorem dX5_pages_43 : decode cX5_pages 43 = .ok (.ifCond .ne 7, 3) := by decide +kernel
theorem dX5_pages_46 : decode cX5_pages 46 = .ok (.iconst 1, 1) := by decide +kernel
theorem dX5_pages_47 : decode cX5_pages 47 = .ok (.goto 4, 3) := by decide +kernel
theorem dX5_pages_50 : decode cX5_pages 50 = .ok (.iconst 0, 1) := by decide +kernel
theorem dX5_pages_51 : decode cX5_pages 51 = .ok (.iadd, 1) := by decide +kernel
theorem dX5_pages_52 : decode cX5_pages 52 = .ok (.istore_n 1, 1) := by decide +kernel
theorem dX5_pages_53 : decode cX5_pages 53 = .ok (.goto (-49), 3) := by decide +kernel
theorem dX5_pages_56 : decode cX5_pages 56 = .ok (.aload_n 0, 1) := by decide +kernel
theorem dX5_pages_57 : decode cX5_pages 57 = .ok (.getfield 22, 3) := by decide +kernel
theorem dX5_pages_60 : decode cX5_pages 60 = .ok (.iconst 0, 1) := by decide +kernel
theorem dX5_pages_61 : decode cX5_pages 61 = .ok (.iload_n 2, 1) := by decide +kernel
theorem dX5_pages_62 : decode cX5_pages 62 = .ok (.iastore, 1) := by decide +kernel
theorem dX5_pages_63 : decode cX5_pages 63 = .ok (.aload_n 0, 1) := by decide +kernel
theorem dX5_pages_64 : decode cX5_pages 64 = .ok (.getfield 22, 3) := by decide +kernel
theorem dX5_pages_67 : decode cX5_pages 67 = .ok (.iconst 3, 1) := by decide +kernel
theorem dX5_pages_68 : decode cX5_pages 68 = .ok (.iload_n 1, 1) := by decide +kernel
theorem dX5_pages_69 : decode cX5_pages 69 = .ok (.iastore, 1) := by decide +kernel
theorem dX5_pages_70 : decode cX5_pages 70 = .ok (.iload_n 1, 1) := by decide +kernel
theorem dX5_pages_71 : decode cX5_pages 71 = .ok (.ireturn, 1) := by decide +kernel
theorem dX5_run_0 : decode cX5_run 0 = .ok (.aload_n 0, 1) := by decide +kernel
theorem dX5_run_1 : decode cX5_run 1 = .ok (.invokevirtual 121, 3) := by decide +kernel
theorem dX5_run_4 : decode cX5_run 4 = .ok (.ifCond .ne 6, 3) := by decide +kernel
theorem dX5_run_7 : decode cX5_run 7 = .ok (.bipush (-2), 2) := by decide +kernel
theorem dX5_run_9 : decode cX5_run 9 = .ok (.ireturn, 1) := by decide +kernel
theorem dX5_run_10 : decode cX5_run 10 = .ok (.aload_n 0, 1) := by decide +kernel
theorem dX5_run_11 : decode cX5_run 11 = .ok (.invokevirtual 55, 3) := by decide +kernel
theorem dX5_run_14 : decode cX5_run 14 = .ok (.iconst 0, 1) := by decide +kernel
theorem dX5_run_15 : decode cX5_run 15 = .ok (.istore_n 1, 1) := by decide +kernel
theorem dX5_run_16 : decode cX5_run 16 = .ok (.iconst 0, 1) := by decide +kernel
theorem dX5_run_17 : decode cX5_run 17 = .ok (.istore_n 2, 1) := by decide +kernel
theorem dX5_run_18 : decode cX5_run 18 = .ok (.aload_n 0, 1) := by decide +kernel
theorem dX5_run_19 : decode cX5_run 19 = .ok (.iconst 0, 1) := by decide +kernel
theorem dX5_run_20 : decode cX5_run 20 = .ok (.putfield 85, 3) := by decide +kernel
theorem dX5_run_23 : decode cX5_run 23 = .ok (.aload_n 0, 1) := by decide +kernel
theorem dX5_run_24 : decode cX5_run 24 = .ok (.getfield 22, 3) := by decide +kernel
theorem dX5_run_27 : decode cX5_run 27 = .ok (.iconst 0, 1) := by decide +kernel
theorem dX5_run_28 : decode cX5_run 28 = .ok (.iconst 0, 1) := by decide +kernel
theorem dX5_run_29 : decode cX5_run 29 = .ok (.iastore, 1) := by decide +kernel
theorem dX5_run_30 : decode cX5_run 30 = .ok (.aload_n 0, 1) := by decide +kernel
theorem dX5_run_31 : decode cX5_run 31 = .ok (.getfield 22, 3) := by decide +kernel
theorem dX5_run_34 : decode cX5_run 34 = .ok (.iconst 0, 1) := by decide +kernel
theorem dX5_run_35 : decode cX5_run 35 = .ok (.iaload, 1) := by decide +kernel
theorem dX5_run_36 : decode cX5_run 36 = .ok (.ifCond .ne 106, 3) := by decide +kernel
theorem dX5_run_39 : decode cX5_run 39 = .ok (.aload_n 0, 1) := by decide +kernel
theorem dX5_run_40 : decode cX5_run 40 = .ok (.getfield 85, 3) := by decide +kernel
theorem dX5_run_43 : decode cX5_run 43 = .ok (.aload_n 0, 1) := by decide +kernel
theorem dX5_run_44 : decode cX5_run 44 = .ok (.getfield 82, 3) := by decide +kernel
theorem dX5_run_47 : decode cX5_run 47 = .ok (.if_icmp .ge 95, 3) := by decide +kernel
theorem dX5_run_50 : decode cX5_run 50 = .ok (.aload_n 0, 1) := by decide +kernel
theorem dX5_run_51 : decode cX5_run 51 = .ok (.getfield 85, 3) := by decide +kernel
theorem dX5_run_54 : decode cX5_run 54 = .ok (.istore_n 3, 1) := by decide +kernel
theorem dX5_run_55 : decode cX5_run 55 = .ok (.aload_n 0, 1) := by decide +kernel
theorem dX5_run_56 : decode cX5_run 56 = .ok (.invokevirtual 118, 3) := by decide +kernel
theorem dX5_run_59 : decode cX5_run 59 = .ok (.aload_n 0, 1) := by decide +kernel
theorem dX5_run_60 : decode cX5_run 60 = .ok (.dup, 1) := by decide +kernel
theorem dX5_run_61 : decode cX5_run 61 = .ok (.getfield 85, 3) := by decide +kernel
theorem dX5_run_64 : decode cX5_run 64 = .ok (.iconst 1, 1) := by decide +kernel
theorem dX5_run_65 : decode cX5_run 65 = .ok (.iadd, 1) := by decide +kernel
theorem dX5_run_66 : decode cX5_run 66 = .ok (.putfield 85, 3) := by decide +kernel
theorem dX5_run_69 : decode cX5_run 69 = .ok (.aload_n 0, 1) := by decide +kernel
theorem dX5_run_70 : decode cX5_run 70 = .ok (.getfield 99, 3) := by decide +kernel
theorem dX5_run_73 : decode cX5_run 73 = .ok (.bipush 112, 2) := by decide +kernel
theorem dX5_run_75 : decode cX5_run 75 = .ok (.if_icmp .ne 27, 3) := by decide +kernel
theorem dX5_run_78 : decode cX5_run 78 = .ok (.iload_n 1, 1) := by decide +kernel
theorem dX5_run_79 : decode cX5_run 79 = .ok (.aload_n 0, 1) := by decide +kernel
theorem dX5_run_80 : decode cX5_run 80 = .ok (.invokevirtual 125, 3) := by decide +kernel
theorem dX5_run_83 : decode cX5_run 83 = .ok (.iadd, 1) := by decide +kernel
theorem dX5_run_84 : decode cX5_run 84 = .ok (.istore_n 1, 1) := by decide +kernel
theorem dX5_run_85 : decode cX5_run 85 = .ok (.aload_n 0, 1) := by decide +kernel
theorem dX5_run_86 : decode cX5_run 86 = .ok (.getfield 22, 3) := by decide +kernel
theorem dX5_run_89 : decode cX5_run 89 = .ok (.iconst 1, 1) := by decide +kernel
theorem dX5_run_90 : decode cX5_run 90 = .ok (.iload_n 2, 1) := by decide +kernel
theorem dX5_run_91 : decode cX5_run 91 = .ok (.iastore, 1) := by decide +kernel
theorem dX5_run_92 : decode cX5_run 92 = .ok (.aload_n 0, 1) := by decide +kernel
theorem dX5_run_93 : decode cX5_run 93 = .ok (.getfield 22, 3) := by decide +kernel
theorem dX5_run_96 : decode cX5_run 96 = .ok (.iconst 2, 1) := by decide +kernel
theorem dX5_run_97 : decode cX5_run 97 = .ok (.iload_n 3, 1) := by decide +kernel
theorem dX5_run_98 : decode cX5_run 98 = .ok (.iastore, 1) := by decide +kernel
theorem dX5_run_99 : decode cX5_run 99 = .ok (.goto 37, 3) := by decide +kernel
theorem dX5_run_102 : decode cX5_run 102 = .ok (.aload_n 0, 1) := by decide +kernel
theorem dX5_run_103 : decode cX5_run 103 = .ok (.getfield 99, 3) := by decide +kernel
theorem dX5_run_106 : decode cX5_run 106 = .ok (.bipush 115, 2) := by decide +kernel
theorem dX5_run_108 : decode cX5_run 108 = .ok (.if_icmp .ne 14, 3) := by decide +kernel
theorem dX5_run_111 : decode cX5_run 111 = .ok (.aload_n 0, 1) := by decide +kernel
theorem dX5_run_112 : decode cX5_run 112 = .ok (.aload_n 0, 1) := by decide +kernel
theorem dX5_run_113 : decode cX5_run 113 = .ok (.getfield 105, 3) := by decide +kernel
theorem dX5_run_116 : decode cX5_run 116 = .ok (.invokevirtual 64, 3) := by decide +kernel
theorem dX5_run_119 : decode cX5_run 119 = .ok (.goto 15, 3) := by decide +kernel
theorem dX5_run_122 : decode cX5_run 122 = .ok (.aload_n 0, 1) := by decide +kernel
theorem dX5_run_123 : decode cX5_run 123 = .ok (.aload_n 0, 1) := by decide +kernel
theorem dX5_run_124 : decode cX5_run 124 = .ok (.getfield 105, 3) := by decide +kernel
theorem dX5_run_127 : decode cX5_run 127 = .ok (.aload_n 0, 1) := by decide +kernel
theorem dX5_run_128 : decode cX5_run 128 = .ok (.getfield 115, 3) := by decide +kernel
theorem dX5_run_131 : decode cX5_run 131 = .ok (.invokevirtual 73, 3) := by decide +kernel
theorem dX5_run_134 : decode cX5_run 134 = .ok (.istore 4, 2) := by decide +kernel
theorem dX5_run_136 : decode cX5_run 136 = .ok (.iinc 2 1, 3) := by decide +kernel
theorem dX5_run_139 : decode cX5_run 139 = .ok (.goto (-109), 3) := by decide +kernel
theorem dX5_run_142 : decode cX5_run 142 = .ok (.aload_n 0, 1) := by decide +kernel
theorem dX5_run_143 : decode cX5_run 143 = .ok (.iconst 0, 1) := by decide +kernel
theorem dX5_run_144 : decode cX5_run 144 = .ok (.putfield 82, 3) := by decide +kernel
theorem dX5_run_147 : decode cX5_run 147 = .ok (.iload_n 1, 1) := by decide +kernel
theorem dX5_run_148 : decode cX5_run 148 = .ok (.ireturn, 1) := by decide +kernel
theorem dX5_why_0 : decode cX5_why 0 = .ok (.iload_n 1, 1) := by decide +kernel
theorem dX5_why_1 : decode cX5_why 1 = .ok (.iconst 0, 1) := by decide +kernel
theorem dX5_why_2 : decode cX5_why 2 = .ok (.iconst 3, 1) := by decide +kernel
theorem dX5_why_3 : decode cX5_why 3 = .ok (.invokestatic 25, 3) := by decide +kernel
theorem dX5_why_6 : decode cX5_why 6 = .ok (.ifCond .ne 5, 3) := by decide +kernel
theorem dX5_why_9 : decode cX5_why 9 = .ok (.iconst (-1), 1) := by decide +kernel
theorem dX5_why_10 : decode cX5_why 10 = .ok (.ireturn, 1) := by decide +kernel
theorem dX5_why_11 : decode cX5_why 11 = .ok (.aload_n 0, 1) := by decide +kernel
theorem dX5_why_12 : decode cX5_why 12 = .ok (.getfield 22, 3) := by decide +kernel
theorem dX5_why_15 : decode cX5_why 15 = .ok (.iconst 0, 1) := by decide +kernel
theorem dX5_why_16 : decode cX5_why 16 = .ok (.iaload, 1) := by decide +kernel
theorem dX5_why_17 : decode cX5_why 17 = .ok (.ifCond .ne 8, 3) := by decide +kernel
theorem dX5_why_20 : decode cX5_why 20 = .ok (.bipush (-4), 2) := by decide +kernel
theorem dX5_why_22 : decode cX5_why 22 = .ok (.goto 9, 3) := by decide +kernel
theorem dX5_why_25 : decode cX5_why 25 = .ok (.aload_n 0, 1) := by decide +kernel
theorem dX5_why_26 : decode cX5_why 26 = .ok (.getfield 22, 3) := by decide +kernel
theorem dX5_why_29 : decode cX5_why 29 = .ok (.iload_n 1, 1) := by decide +kernel
theorem dX5_why_30 : decode cX5_why 30 = .ok (.iaload, 1) := by decide +kernel
theorem dX5_why_31 : decode cX5_why 31 = .ok (.ireturn, 1) := by decide +kernel
theorem dX5_scale_0 : decode cX5_scale 0 = .ok (.aload_n 0, 1) := by decide +kernel
theorem dX5_scale_1 : decode cX5_scale 1 = .ok (.iload_n 1, 1) := by decide +kernel
theorem dX5_scale_2 : decode cX5_scale 2 = .ok (.invokevirtual 37, 3) := by decide +kernel
theorem dX5_scale_5 : decode cX5_scale 5 = .ok (.aload_n 0, 1) := by decide +kernel
theorem dX5_scale_6 : decode cX5_scale 6 = .ok (.getfield 7, 3) := by decide +kernel
theorem dX5_scale_9 : decode cX5_scale 9 = .ok (.bipush 34, 2) := by decide +kernel
theorem dX5_scale_11 : decode cX5_scale 11 = .ok (.iaload, 1) := by decide +kernel
theorem dX5_scale_12 : decode cX5_scale 12 = .ok (.idiv, 1) := by decide +kernel
theorem dX5_scale_13 : decode cX5_scale 13 = .ok (.aload_n 0, 1) := by decide +kernel
theorem dX5_scale_14 : decode cX5_scale 14 = .ok (.getfield 7, 3) := by decide +kernel
theorem dX5_scale_17 : decode cX5_scale 17 = .ok (.bipush 34, 2) := by decide +kernel
theorem dX5_scale_19 : decode cX5_scale 19 = .ok (.iaload, 1) := by decide +kernel
theorem dX5_scale_20 : decode cX5_scale 20 = .ok (.imul, 1) := by decide +kernel
theorem dX5_scale_21 : decode cX5_scale 21 = .ok (.ireturn, 1) := by decide +kernel
theorem dX5_left_0 : decode cX5_left 0 = .ok (.aload_n 0, 1) := by decide +kernel
theorem dX5_left_1 : decode cX5_left 1 = .ok (.iload_n 1, 1) := by decide +kernel
theorem dX5_left_2 : decode cX5_left 2 = .ok (.invokevirtual 128, 3) := by decide +kernel
theorem dX5_left_5 : decode cX5_left 5 = .ok (.aload_n 0, 1) := by decide +kernel
theorem dX5_left_6 : decode cX5_left 6 = .ok (.getfield 7, 3) := by decide +kernel
theorem dX5_left_9 : decode cX5_left 9 = .ok (.bipush 12, 2) := by decide +kernel
theorem dX5_left_11 : decode cX5_left 11 = .ok (.iload_n 1, 1) := by decide +kernel
theorem dX5_left_12 : decode cX5_left 12 = .ok (.iadd, 1) := by decide +kernel
theorem dX5_left_13 : decode cX5_left 13 = .ok (.iaload, 1) := by decide +kernel
theorem dX5_left_14 : decode cX5_left 14 = .ok (.iadd, 1) := by decide +kernel
theorem dX5_left_15 : decode cX5_left 15 = .ok (.iconst 2, 1) := by decide +kernel
theorem dX5_left_16 : decode cX5_left 16 = .ok (.idiv, 1) := by decide +kernel
theorem dX5_left_17 : decode cX5_left 17 = .ok (.ireturn, 1) := by decide +kernel
theorem dX5_cup_0 : decode cX5_cup 0 = .ok (.iload_n 1, 1) := by decide +kernel
theorem dX5_cup_1 : decode cX5_cup 1 = .ok (.invokestatic 61, 3) := by decide +kernel
theorem dX5_cup_4 : decode cX5_cup 4 = .ok (.ifCond .ne 5, 3) := by decide +kernel
theorem dX5_cup_7 : decode cX5_cup 7 = .ok (.iconst (-1), 1) := by decide +kernel
theorem dX5_cup_8 : decode cX5_cup 8 = .ok (.ireturn, 1) := by decide +kernel
theorem dX5_cup_9 : decode cX5_cup 9 = .ok (.iload_n 2, 1) := by decide +kernel
theorem dX5_cup_10 : decode cX5_cup 10 = .ok (.tableswitch 131 0 7 #[46, 55, 64, 74, 84, 104, 110, 116], 46) := by decide +kernel
theorem dX5_cup_56 : decode cX5_cup 56 = .ok (.aload_n 0, 1) := by decide +kernel
theorem dX5_cup_57 : decode cX5_cup 57 = .ok (.getfield 7, 3) := by decide +kernel
theorem dX5_cup_60 : decode cX5_cup 60 = .ok (.iconst 0, 1) := by decide +kernel
theorem dX5_cup_61 : decode cX5_cup 61 = .ok (.iload_n 1, 1) := by decide +kernel
theorem dX5_cup_62 : decode cX5_cup 62 = .ok (.iadd, 1) := by decide +kernel
theorem dX5_cup_63 : decode cX5_cup 63 = .ok (.iaload, 1) := by decide +kernel
theorem dX5_cup_64 : decode cX5_cup 64 = .ok (.ireturn, 1) := by decide +kernel
theorem dX5_cup_65 : decode cX5_cup 65 = .ok (.aload_n 0, 1) := by decide +kernel
theorem dX5_cup_66 : decode cX5_cup 66 = .ok (.getfield 7, 3) := by decide +kernel
theorem dX5_cup_69 : decode cX5_cup 69 = .ok (.iconst 4, 1) := by decide +kernel
theorem dX5_cup_70 : decode cX5_cup 70 = .ok (.iload_n 1, 1) := by decide +kernel
theorem dX5_cup_71 : decode cX5_cup 71 = .ok (.iadd, 1) := by decide +kernel
theorem dX5_cup_72 : decode cX5_cup 72 = .ok (.iaload, 1) := by decide +kernel
theorem dX5_cup_73 : decode cX5_cup 73 = .ok (.ireturn, 1) := by decide +kernel
theorem dX5_cup_74 : decode cX5_cup 74 = .ok (.aload_n 0, 1) := by decide +kernel
theorem dX5_cup_75 : decode cX5_cup 75 = .ok (.getfield 7, 3) := by decide +kernel
theorem dX5_cup_78 : decode cX5_cup 78 = .ok (.bipush 8, 2) := by decide +kernel
theorem dX5_cup_80 : decode cX5_cup 80 = .ok (.iload_n 1, 1) := by decide +kernel
theorem dX5_cup_81 : decode cX5_cup 81 = .ok (.iadd, 1) := by decide +kernel
theorem dX5_cup_82 : decode cX5_cup 82 = .ok (.iaload, 1) := by decide +kernel
theorem dX5_cup_83 : decode cX5_cup 83 = .ok (.ireturn, 1) := by decide +kernel
theorem dX5_cup_84 : decode cX5_cup 84 = .ok (.aload_n 0, 1) := by decide +kernel
theorem dX5_cup_85 : decode cX5_cup 85 = .ok (.getfield 7, 3) := by decide +kernel
theorem dX5_cup_88 : decode cX5_cup 88 = .ok (.bipush 12, 2) := by decide +kernel
theorem dX5_cup_90 : decode cX5_cup 90 = .ok (.iload_n 1, 1) := by decide +kernel
theorem dX5_cup_91 : decode cX5_cup 91 = .ok (.iadd, 1) := by decide +kernel
theorem dX5_cup_92 : decode cX5_cup 92 = .ok (.iaload, 1) := by decide +kernel
theorem dX5_cup_93 : decode cX5_cup 93 = .ok (.ireturn, 1) := by decide +kernel
theorem dX5_cup_94 : decode cX5_cup 94 = .ok (.aload_n 0, 1) := by decide +kernel
theorem dX5_cup_95 : decode cX5_cup 95 = .ok (.iload_n 1, 1) := by decide +kernel
theorem dX5_cup_96 : decode cX5_cup 96 = .ok (.invokevirtual 67, 3) := by decide +kernel
theorem dX5_cup_99 : decode cX5_cup 99 = .ok (.iconst (-1), 1) := by decide +kernel
theorem dX5_cup_100 : decode cX5_cup 100 = .ok (.if_icmp .ne 8, 3) := by decide +kernel
theorem dX5_cup_103 : decode cX5_cup 103 = .ok (.bipush (-4), 2) := by decide +kernel
theorem dX5_cup_105 : decode cX5_cup 105 = .ok (.goto 8, 3) := by decide +kernel
theorem dX5_cup_108 : decode cX5_cup 108 = .ok (.aload_n 0, 1) := by decide +kernel
theorem dX5_cup_109 : decode cX5_cup 109 = .ok (.iload_n 1, 1) := by decide +kernel
theorem dX5_cup_110 : decode cX5_cup 110 = .ok (.invokevirtual 67, 3) := by decide +kernel
theorem dX5_cup_113 : decode cX5_cup 113 = .ok (.ireturn, 1) := by decide +kernel
theorem dX5_cup_114 : decode cX5_cup 114 = .ok (.aload_n 0, 1) := by decide +kernel
theorem dX5_cup_115 : decode cX5_cup 115 = .ok (.iload_n 1, 1) := by decide +kernel
theorem dX5_cup_116 : decode cX5_cup 116 = .ok (.invokevirtual 128, 3) := by decide +kernel
theorem dX5_cup_119 : decode cX5_cup 119 = .ok (.ireturn, 1) := by decide +kernel
theorem dX5_cup_120 : decode cX5_cup 120 = .ok (.aload_n 0, 1) := by decide +kernel
theorem dX5_cup_121 : decode cX5_cup 121 = .ok (.iload_n 1, 1) := by decide +kernel
theorem dX5_cup_122 : decode cX5_cup 122 = .ok (.invokevirtual 131, 3) := by decide +kernel
theorem dX5_cup_125 : decode cX5_cup 125 = .ok (.ireturn, 1) := by decide +kernel
theorem dX5_cup_126 : decode cX5_cup 126 = .ok (.aload_n 0, 1) := by decide +kernel
theorem dX5_cup_127 : decode cX5_cup 127 = .ok (.iload_n 1, 1) := by decide +kernel
theorem dX5_cup_128 : decode cX5_cup 128 = .ok (.invokevirtual 131, 3) := by decide +kernel
theorem dX5_cup_131 : decode cX5_cup 131 = .ok (.aload_n 0, 1) := by decide +kernel
theorem dX5_cup_132 : decode cX5_cup 132 = .ok (.iload_n 1, 1) := by decide +kernel
theorem dX5_cup_133 : decode cX5_cup 133 = .ok (.invokevirtual 37, 3) := by decide +kernel
theorem dX5_cup_136 : decode cX5_cup 136 = .ok (.isub, 1) := by decide +kernel
theorem dX5_cup_137 : decode cX5_cup 137 = .ok (.ldc 134, 2) := by decide +kernel
theorem dX5_cup_139 : decode cX5_cup 139 = .ok (.iadd, 1) := by decide +kernel
theorem dX5_cup_140 : decode cX5_cup 140 = .ok (.ireturn, 1) := by decide +kernel
theorem dX5_cup_141 : decode cX5_cup 141 = .ok (.iconst (-1), 1) := by decide +kernel
theorem dX5_cup_142 : decode cX5_cup 142 = .ok (.ireturn, 1) := by decide +kernel
theorem dX5_printer_0 : decode cX5_printer 0 = .ok (.iload_n 1, 1) := by decide +kernel
theorem dX5_printer_1 : decode cX5_printer 1 = .ok (.invokestatic 48, 3) := by decide +kernel
theorem dX5_printer_4 : decode cX5_printer 4 = .ok (.ifCond .ne 5, 3) := by decide +kernel
theorem dX5_printer_7 : decode cX5_printer 7 = .ok (.iconst (-1), 1) := by decide +kernel
theorem dX5_printer_8 : decode cX5_printer 8 = .ok (.ireturn, 1) := by decide +kernel
theorem dX5_printer_9 : decode cX5_printer 9 = .ok (.iload_n 2, 1) := by decide +kernel
theorem dX5_printer_10 : decode cX5_printer 10 = .ok (.tableswitch 134 0 5 #[38, 66, 76, 86, 96, 106], 38) := by decide +kernel
theorem dX5_printer_48 : decode cX5_printer 48 = .ok (.aload_n 0, 1) := by decide +kernel
theorem dX5_printer_49 : decode cX5_printer 49 = .ok (.getfield 7, 3) := by decide +kernel
theorem dX5_printer_52 : decode cX5_printer 52 = .ok (.bipush 16, 2) := by decide +kernel
theorem dX5_printer_54 : decode cX5_printer 54 = .ok (.iload_n 1, 1) := by decide +kernel
theorem dX5_printer_55 : decode cX5_printer 55 = .ok (.iadd, 1) := by decide +kernel
theorem dX5_printer_56 : decode cX5_printer 56 = .ok (.iaload, 1) := by decide +kernel
theorem dX5_printer_57 : decode cX5_printer 57 = .ok (.iconst (-1), 1) := by decide +kernel
theorem dX5_printer_58 : decode cX5_printer 58 = .ok (.if_icmp .ne 8, 3) := by decide +kernel
theorem dX5_printer_61 : decode cX5_printer 61 = .ok (.bipush (-4), 2) := by decide +kernel
theorem dX5_printer_63 : decode cX5_printer 63 = .ok (.goto 12, 3) := by decide +kernel
theorem dX5_printer_66 : decode cX5_printer 66 = .ok (.aload_n 0, 1) := by decide +kernel
theorem dX5_printer_67 : decode cX5_printer 67 = .ok (.getfield 7, 3) := by decide +kernel
theorem dX5_printer_70 : decode cX5_printer 70 = .ok (.bipush 16, 2) := by decide +kernel
theorem dX5_printer_72 : decode cX5_printer 72 = .ok (.iload_n 1, 1) := by decide +kernel
theorem dX5_printer_73 : decode cX5_printer 73 = .ok (.iadd, 1) := by decide +kernel
theorem dX5_printer_74 : decode cX5_printer 74 = .ok (.iaload, 1) := by decide +kernel
theorem dX5_printer_75 : decode cX5_printer 75 = .ok (.ireturn, 1) := by decide +kernel
theorem dX5_printer_76 : decode cX5_printer 76 = .ok (.aload_n 0, 1) := by decide +kernel
theorem dX5_printer_77 : decode cX5_printer 77 = .ok (.getfield 7, 3) := by decide +kernel
theorem dX5_printer_80 : decode cX5_printer 80 = .ok (.bipush 18, 2) := by decide +kernel
theorem dX5_printer_82 : decode cX5_printer 82 = .ok (.iload_n 1, 1) := by decide +kernel
theorem dX5_printer_83 : decode cX5_printer 83 = .ok (.iadd, 1) := by decide +kernel
theorem dX5_printer_84 : decode cX5_printer 84 = .ok (.iaload, 1) := by decide +kernel
theorem dX5_printer_85 : decode cX5_printer 85 = .ok (.ireturn, 1) := by decide +kernel
theorem dX5_printer_86 : decode cX5_printer 86 = .ok (.aload_n 0, 1) := by decide +kernel
theorem dX5_printer_87 : decode cX5_printer 87 = .ok (.getfield 7, 3) := by decide +kernel
theorem dX5_printer_90 : decode cX5_printer 90 = .ok (.bipush 20, 2) := by decide +kernel
theorem dX5_printer_92 : decode cX5_printer 92 = .ok (.iload_n 1, 1) := by decide +kernel
theorem dX5_printer_93 : decode cX5_printer 93 = .ok (.iadd, 1) := by decide +kernel
theorem dX5_printer_94 : decode cX5_printer 94 = .ok (.iaload, 1) := by decide +kernel
theorem dX5_printer_95 : decode cX5_printer 95 = .ok (.ireturn, 1) := by decide +kernel
theorem dX5_printer_96 : decode cX5_printer 96 = .ok (.aload_n 0, 1) := by decide +kernel
theorem dX5_printer_97 : decode cX5_printer 97 = .ok (.getfield 7, 3) := by decide +kernel
theorem dX5_printer_100 : decode cX5_printer 100 = .ok (.bipush 22, 2) := by decide +kernel
theorem dX5_printer_102 : decode cX5_printer 102 = .ok (.iload_n 1, 1) := by decide +kernel
theorem dX5_printer_103 : decode cX5_printer 103 = .ok (.iadd, 1) := by decide +kernel
theorem dX5_printer_104 : decode cX5_printer 104 = .ok (.iaload, 1) := by decide +kernel
theorem dX5_printer_105 : decode cX5_printer 105 = .ok (.ireturn, 1) := by decide +kernel
theorem dX5_printer_106 : decode cX5_printer 106 = .ok (.aload_n 0, 1) := by decide +kernel
theorem dX5_printer_107 : decode cX5_printer 107 = .ok (.getfield 7, 3) := by decide +kernel
theorem dX5_printer_110 : decode cX5_printer 110 = .ok (.bipush 24, 2) := by decide +kernel
theorem dX5_printer_112 : decode cX5_printer 112 = .ok (.iload_n 1, 1) := by decide +kernel
theorem dX5_printer_113 : decode cX5_printer 113 = .ok (.iadd, 1) := by decide +kernel
theorem dX5_printer_114 : decode cX5_printer 114 = .ok (.iaload, 1) := by decide +kernel
theorem dX5_printer_115 : decode cX5_printer 115 = .ok (.ireturn, 1) := by decide +kernel
theorem dX5_printer_116 : decode cX5_printer 116 = .ok (.aload_n 0, 1) := by decide +kernel
theorem dX5_printer_117 : decode cX5_printer 117 = .ok (.getfield 7, 3) := by decide +kernel
theorem dX5_printer_120 : decode cX5_printer 120 = .ok (.bipush 26, 2) := by decide +kernel
theorem dX5_printer_122 : decode cX5_printer 122 = .ok (.iload_n 1, 1) := by decide +kernel
theorem dX5_printer_123 : decode cX5_printer 123 = .ok (.iadd, 1) := by decide +kernel
theorem dX5_printer_124 : decode cX5_printer 124 = .ok (.iaload, 1) := by decide +kernel
theorem dX5_printer_125 : decode cX5_printer 125 = .ok (.iconst (-1), 1) := by decide +kernel
theorem dX5_printer_126 : decode cX5_printer 126 = .ok (.if_icmp .ne 8, 3) := by decide +kernel
theorem dX5_printer_129 : decode cX5_printer 129 = .ok (.bipush (-4), 2) := by decide +kernel
theorem dX5_printer_131 : decode cX5_printer 131 = .ok (.goto 12, 3) := by decide +kernel
theorem dX5_printer_134 : decode cX5_printer 134 = .ok (.aload_n 0, 1) := by decide +kernel
theorem dX5_printer_135 : decode cX5_printer 135 = .ok (.getfield 7, 3) := by decide +kernel
theorem dX5_printer_138 : decode cX5_printer 138 = .ok (.bipush 26, 2) := by decide +kernel
theorem dX5_printer_140 : decode cX5_printer 140 = .ok (.iload_n 1, 1) := by decide +kernel
theorem dX5_printer_141 : decode cX5_printer 141 = .ok (.iadd, 1) := by decide +kernel
theorem dX5_printer_142 : decode cX5_printer 142 = .ok (.iaload, 1) := by decide +kernel
theorem dX5_printer_143 : decode cX5_printer 143 = .ok (.ireturn, 1) := by decide +kernel
theorem dX5_printer_144 : decode cX5_printer 144 = .ok (.iconst (-1), 1) := by decide +kernel
theorem dX5_printer_145 : decode cX5_printer 145 = .ok (.ireturn, 1) := by decide +kernel
theorem dX5_needs_0 : decode cX5_needs 0 = .ok (.iload_n 1, 1) := by decide +kernel
theorem dX5_needs_1 : decode cX5_needs 1 = .ok (.invokestatic 61, 3) := by decide +kernel
theorem dX5_needs_4 : decode cX5_needs 4 = .ok (.ifCond .eq 19, 3) := by decide +kernel
theorem dX5_needs_7 : decode cX5_needs 7 = .ok (.iload_n 2, 1) := by decide +kernel
theorem dX5_needs_8 : decode cX5_needs 8 = .ok (.invokestatic 52, 3) := by decide +kernel
theorem dX5_needs_11 : decode cX5_needs 11 = .ok (.ifCond .eq 12, 3) := by decide +kernel
theorem dX5_needs_14 : decode cX5_needs 14 = .ok (.iload_n 3, 1) := by decide +kernel
theorem dX5_needs_15 : decode cX5_needs 15 = .ok (.iconst 0, 1) := by decide +kernel
theorem dX5_needs_16 : decode cX5_needs 16 = .ok (.iconst 1, 1) := by decide +kernel
theorem dX5_needs_17 : decode cX5_needs 17 = .ok (.invokestatic 25, 3) := by decide +kernel
theorem dX5_needs_20 : decode cX5_needs 20 = .ok (.ifCond .ne 5, 3) := by decide +kernel
theorem dX5_needs_23 : decode cX5_needs 23 = .ok (.iconst (-1), 1) := by decide +kernel
theorem dX5_needs_24 : decode cX5_needs 24 = .ok (.ireturn, 1) := by decide +kernel
theorem dX5_needs_25 : decode cX5_needs 25 = .ok (.iload_n 3, 1) := by decide +kernel
theorem dX5_needs_26 : decode cX5_needs 26 = .ok (.ifCond .ne 19, 3) := by decide +kernel
theorem dX5_needs_29 : decode cX5_needs 29 = .ok (.aload_n 0, 1) := by decide +kernel
theorem dX5_needs_30 : decode cX5_needs 30 = .ok (.iload_n 1, 1) := by decide +kernel
theorem dX5_needs_31 : decode cX5_needs 31 = .ok (.iload_n 2, 1) := by decide +kernel
theorem dX5_needs_32 : decode cX5_needs 32 = .ok (.aload_n 0, 1) := by decide +kernel
theorem dX5_needs_33 : decode cX5_needs 33 = .ok (.getfield 7, 3) := by decide +kernel
theorem dX5_needs_36 : decode cX5_needs 36 = .ok (.bipush 31, 2) := by decide +kernel
theorem dX5_needs_38 : decode cX5_needs 38 = .ok (.iaload, 1) := by decide +kernel
theorem dX5_needs_39 : decode cX5_needs 39 = .ok (.invokevirtual 33, 3) := by decide +kernel
theorem dX5_needs_42 : decode cX5_needs 42 = .ok (.goto 9, 3) := by decide +kernel
theorem dX5_needs_45 : decode cX5_needs 45 = .ok (.aload_n 0, 1) := by decide +kernel
theorem dX5_needs_46 : decode cX5_needs 46 = .ok (.iload_n 1, 1) := by decide +kernel
theorem dX5_needs_47 : decode cX5_needs 47 = .ok (.iload_n 2, 1) := by decide +kernel
theorem dX5_needs_48 : decode cX5_needs 48 = .ok (.invokevirtual 44, 3) := by decide +kernel
theorem dX5_needs_51 : decode cX5_needs 51 = .ok (.ireturn, 1) := by decide +kernel
theorem dX5_whyNot_0 : decode cX5_whyNot 0 = .ok (.iload_n 1, 1) := by decide +kernel
theorem dX5_whyNot_1 : decode cX5_whyNot 1 = .ok (.invokestatic 48, 3) := by decide +kernel
theorem dX5_whyNot_4 : decode cX5_whyNot 4 = .ok (.ifCond .eq 11, 3) := by decide +kernel
theorem dX5_whyNot_7 : decode cX5_whyNot 7 = .ok (.aload_n 0, 1) := by decide +kernel
theorem dX5_whyNot_8 : decode cX5_whyNot 8 = .ok (.iload_n 1, 1) := by decide +kernel
theorem dX5_whyNot_9 : decode cX5_whyNot 9 = .ok (.invokevirtual 41, 3) := by decide +kernel
theorem dX5_whyNot_12 : decode cX5_whyNot 12 = .ok (.goto 4, 3) := by decide +kernel
theorem dX5_whyNot_15 : decode cX5_whyNot 15 = .ok (.iconst (-1), 1) := by decide +kernel
theorem dX5_whyNot_16 : decode cX5_whyNot 16 = .ok (.ireturn, 1) := by decide +kernel
theorem dX5_darkPages_0 : decode cX5_darkPages 0 = .ok (.aload_n 0, 1) := by decide +kernel
theorem dX5_darkPages_1 : decode cX5_darkPages 1 = .ok (.getfield 7, 3) := by decide +kernel
theorem dX5_darkPages_4 : decode cX5_darkPages 4 = .ok (.bipush 18, 2) := by decide +kernel
theorem dX5_darkPages_6 : decode cX5_darkPages 6 = .ok (.iaload, 1) := by decide +kernel
theorem dX5_darkPages_7 : decode cX5_darkPages 7 = .ok (.aload_n 0, 1) := by decide +kernel
theorem dX5_darkPages_8 : decode cX5_darkPages 8 = .ok (.getfield 7, 3) := by decide +kernel
theorem dX5_darkPages_11 : decode cX5_darkPages 11 = .ok (.bipush 19, 2) := by decide +kernel
theorem dX5_darkPages_13 : decode cX5_darkPages 13 = .ok (.iaload, 1) := by decide +kernel
theorem dX5_darkPages_14 : decode cX5_darkPages 14 = .ok (.iadd, 1) := by decide +kernel
theorem dX5_darkPages_15 : decode cX5_darkPages 15 = .ok (.ireturn, 1) := by decide +kernel
theorem dX5_allPages_0 : decode cX5_allPages 0 = .ok (.aload_n 0, 1) := by decide +kernel
theorem dX5_allPages_1 : decode cX5_allPages 1 = .ok (.invokevirtual 135, 3) := by decide +kernel
theorem dX5_allPages_4 : decode cX5_allPages 4 = .ok (.aload_n 0, 1) := by decide +kernel
theorem dX5_allPages_5 : decode cX5_allPages 5 = .ok (.getfield 7, 3) := by decide +kernel
theorem dX5_allPages_8 : decode cX5_allPages 8 = .ok (.bipush 20, 2) := by decide +kernel
theorem dX5_allPages_10 : decode cX5_allPages 10 = .ok (.iaload, 1) := by decide +kernel
theorem dX5_allPages_11 : decode cX5_allPages 11 = .ok (.iadd, 1) := by decide +kernel
theorem dX5_allPages_12 : decode cX5_allPages 12 = .ok (.aload_n 0, 1) := by decide +kernel
theorem dX5_allPages_13 : decode cX5_allPages 13 = .ok (.getfield 7, 3) := by decide +kernel
theorem dX5_allPages_16 : decode cX5_allPages 16 = .ok (.bipush 21, 2) := by decide +kernel
theorem dX5_allPages_18 : decode cX5_allPages 18 = .ok (.iaload, 1) := by decide +kernel
theorem dX5_allPages_19 : decode cX5_allPages 19 = .ok (.iadd, 1) := by decide +kernel
theorem dX5_allPages_20 : decode cX5_allPages 20 = .ok (.ireturn, 1) := by decide +kernel
theorem dX5_allLeft_0 : decode cX5_allLeft 0 = .ok (.iconst 0, 1) := by decide +kernel
theorem dX5_allLeft_1 : decode cX5_allLeft 1 = .ok (.istore_n 1, 1) := by decide +kernel
theorem dX5_allLeft_2 : decode cX5_allLeft 2 = .ok (.iconst 0, 1) := by decide +kernel
theorem dX5_allLeft_3 : decode cX5_allLeft 3 = .ok (.istore_n 2, 1) := by decide +kernel
theorem dX5_allLeft_4 : decode cX5_allLeft 4 = .ok (.iload_n 2, 1) := by decide +kernel
theorem dX5_allLeft_5 : decode cX5_allLeft 5 = .ok (.iconst 4, 1) := by decide +kernel
theorem dX5_allLeft_6 : decode cX5_allLeft 6 = .ok (.if_icmp .ge 17, 3) := by decide +kernel
theorem dX5_allLeft_9 : decode cX5_allLeft 9 = .ok (.iload_n 1, 1) := by decide +kernel
theorem dX5_allLeft_10 : decode cX5_allLeft 10 = .ok (.aload_n 0, 1) := by decide +kernel
theorem dX5_allLeft_11 : decode cX5_allLeft 11 = .ok (.iload_n 2, 1) := by decide +kernel
theorem dX5_allLeft_12 : decode cX5_allLeft 12 = .ok (.invokevirtual 131, 3) := by decide +kernel
theorem dX5_allLeft_15 : decode cX5_allLeft 15 = .ok (.iadd, 1) := by decide +kernel
theorem dX5_allLeft_16 : decode cX5_allLeft 16 = .ok (.istore_n 1, 1) := by decide +kernel
theorem dX5_allLeft_17 : decode cX5_allLeft 17 = .ok (.iinc 2 1, 3) := by decide +kernel
theorem dX5_allLeft_20 : decode cX5_allLeft 20 = .ok (.goto (-16), 3) := by decide +kernel
theorem dX5_allLeft_23 : decode cX5_allLeft 23 = .ok (.iload_n 1, 1) := by decide +kernel
theorem dX5_allLeft_24 : decode cX5_allLeft 24 = .ok (.ireturn, 1) := by decide +kernel
theorem dX5_boasts_0 : decode cX5_boasts 0 = .ok (.iconst 0, 1) := by decide +kernel
theorem dX5_boasts_1 : decode cX5_boasts 1 = .ok (.istore_n 1, 1) := by decide +kernel
theorem dX5_boasts_2 : decode cX5_boasts 2 = .ok (.iconst 0, 1) := by decide +kernel
theorem dX5_boasts_3 : decode cX5_boasts 3 = .ok (.istore_n 2, 1) := by decide +kernel
theorem dX5_boasts_4 : decode cX5_boasts 4 = .ok (.iload_n 2, 1) := by decide +kernel
theorem dX5_boasts_5 : decode cX5_boasts 5 = .ok (.iconst 4, 1) := by decide +kernel
theorem dX5_boasts_6 : decode cX5_boasts 6 = .ok (.if_icmp .ge 30, 3) := by decide +kernel
theorem dX5_boasts_9 : decode cX5_boasts 9 = .ok (.iload_n 1, 1) := by decide +kernel
theorem dX5_boasts_10 : decode cX5_boasts 10 = .ok (.aload_n 0, 1) := by decide +kernel
theorem dX5_boasts_11 : decode cX5_boasts 11 = .ok (.iload_n 2, 1) := by decide +kernel
theorem dX5_boasts_12 : decode cX5_boasts 12 = .ok (.invokevirtual 131, 3) := by decide +kernel
theorem dX5_boasts_15 : decode cX5_boasts 15 = .ok (.aload_n 0, 1) := by decide +kernel
theorem dX5_boasts_16 : decode cX5_boasts 16 = .ok (.iload_n 2, 1) := by decide +kernel
theorem dX5_boasts_17 : decode cX5_boasts 17 = .ok (.invokevirtual 37, 3) := by decide +kernel
theorem dX5_boasts_20 : decode cX5_boasts 20 = .ok (.if_icmp .le 7, 3) := by decide +kernel
theorem dX5_boasts_23 : decode cX5_boasts 23 = .ok (.iconst 1, 1) := by decide +kernel
theorem dX5_boasts_24 : decode cX5_boasts 24 = .ok (.goto 4, 3) := by decide +kernel
theorem dX5_boasts_27 : decode cX5_boasts 27 = .ok (.iconst 0, 1) := by decide +kernel
theorem dX5_boasts_28 : decode cX5_boasts 28 = .ok (.iadd, 1) := by decide +kernel
theorem dX5_boasts_29 : decode cX5_boasts 29 = .ok (.istore_n 1, 1) := by decide +kernel
theorem dX5_boasts_30 : decode cX5_boasts 30 = .ok (.iinc 2 1, 3) := by decide +kernel
theorem dX5_boasts_33 : decode cX5_boasts 33 = .ok (.goto (-29), 3) := by decide +kernel
theorem dX5_boasts_36 : decode cX5_boasts 36 = .ok (.iload_n 1, 1) := by decide +kernel
theorem dX5_boasts_37 : decode cX5_boasts 37 = .ok (.ireturn, 1) := by decide +kernel
theorem dX5_count_0 : decode cX5_count 0 = .ok (.iload_n 1, 1) := by decide +kernel
theorem dX5_count_1 : decode cX5_count 1 = .ok (.tableswitch 172 0 13 #[71, 76, 84, 92, 100, 105, 139, 144, 149, 149, 149, 149, 162, 167], 71) := by decide +kernel
theorem dX5_count_72 : decode cX5_count 72 = .ok (.aload_n 0, 1) := by decide +kernel
theorem dX5_count_73 : decode cX5_count 73 = .ok (.invokevirtual 138, 3) := by decide +kernel
theorem dX5_count_76 : decode cX5_count 76 = .ok (.ireturn, 1) := by decide +kernel
theorem dX5_count_77 : decode cX5_count 77 = .ok (.aload_n 0, 1) := by decide +kernel
theorem dX5_count_78 : decode cX5_count 78 = .ok (.getfield 7, 3) := by decide +kernel
theorem dX5_count_81 : decode cX5_count 81 = .ok (.bipush 28, 2) := by decide +kernel
theorem dX5_count_83 : decode cX5_count 83 = .ok (.iaload, 1) := by decide +kernel
theorem dX5_count_84 : decode cX5_count 84 = .ok (.ireturn, 1) := by decide +kernel
theorem dX5_count_85 : decode cX5_count 85 = .ok (.aload_n 0, 1) := by decide +kernel
theorem dX5_count_86 : decode cX5_count 86 = .ok (.getfield 7, 3) := by decide +kernel
theorem dX5_count_89 : decode cX5_count 89 = .ok (.bipush 29, 2) := by decide +kernel
theorem dX5_count_91 : decode cX5_count 91 = .ok (.iaload, 1) := by decide +kernel
theorem dX5_count_92 : decode cX5_count 92 = .ok (.ireturn, 1) := by decide +kernel
theorem dX5_count_93 : decode cX5_count 93 = .ok (.aload_n 0, 1) := by decide +kernel
theorem dX5_count_94 : decode cX5_count 94 = .ok (.getfield 7, 3) := by decide +kernel
theorem dX5_count_97 : decode cX5_count 97 = .ok (.bipush 30, 2) := by decide +kernel
theorem dX5_count_99 : decode cX5_count 99 = .ok (.iaload, 1) := by decide +kernel
theorem dX5_count_100 : decode cX5_count 100 = .ok (.ireturn, 1) := by decide +kernel
theorem dX5_count_101 : decode cX5_count 101 = .ok (.aload_n 0, 1) := by decide +kernel
theorem dX5_count_102 : decode cX5_count 102 = .ok (.invokevirtual 141, 3) := by decide +kernel
theorem dX5_count_105 : decode cX5_count 105 = .ok (.ireturn, 1) := by decide +kernel
end
section
theorem dX5_count_106 : decode cX5_count 106 = .ok (.aload_n 0, 1) := by decide +kernel
theorem dX5_count_107 : decode cX5_count 107 = .ok (.getfield 7, 3) := by decide +kernel
theorem dX5_count_110 : decode cX5_count 110 = .ok (.bipush 16, 2) := by decide +kernel
theorem dX5_count_112 : decode cX5_count 112 = .ok (.iaload, 1) := by decide +kernel
theorem dX5_count_113 : decode cX5_count 113 = .ok (.iconst (-1), 1) := by decide +kernel
theorem dX5_count_114 : decode cX5_count 114 = .ok (.if_icmp .ne 7, 3) := by decide +kernel
theorem dX5_count_117 : decode cX5_count 117 = .ok (.iconst 0, 1) := by decide +kernel
theorem dX5_count_118 : decode cX5_count 118 = .ok (.goto 4, 3) := by decide +kernel
theorem dX5_count_121 : decode cX5_count 121 = .ok (.iconst 1, 1) := by decide +kernel
theorem dX5_count_122 : decode cX5_count 122 = .ok (.aload_n 0, 1) := by decide +kernel
theorem dX5_count_123 : decode cX5_count 123 = .ok (.getfield 7, 3) := by decide +kernel
theorem dX5_count_126 : decode cX5_count 126 = .ok (.bipush 17, 2) := by decide +kernel
theorem dX5_count_128 : decode cX5_count 128 = .ok (.iaload, 1) := by decide +kernel
theorem dX5_count_129 : decode cX5_count 129 = .ok (.iconst (-1), 1) := by decide +kernel
theorem dX5_count_130 : decode cX5_count 130 = .ok (.if_icmp .ne 7, 3) := by decide +kernel
theorem dX5_count_133 : decode cX5_count 133 = .ok (.iconst 0, 1) := by decide +kernel
theorem dX5_count_134 : decode cX5_count 134 = .ok (.goto 4, 3) := by decide +kernel
theorem dX5_count_137 : decode cX5_count 137 = .ok (.iconst 1, 1) := by decide +kernel
theorem dX5_count_138 : decode cX5_count 138 = .ok (.iadd, 1) := by decide +kernel
theorem dX5_count_139 : decode cX5_count 139 = .ok (.ireturn, 1) := by decide +kernel
theorem dX5_count_140 : decode cX5_count 140 = .ok (.aload_n 0, 1) := by decide +kernel
theorem dX5_count_141 : decode cX5_count 141 = .ok (.invokevirtual 144, 3) := by decide +kernel
theorem dX5_count_144 : decode cX5_count 144 = .ok (.ireturn, 1) := by decide +kernel
theorem dX5_count_145 : decode cX5_count 145 = .ok (.aload_n 0, 1) := by decide +kernel
theorem dX5_count_146 : decode cX5_count 146 = .ok (.invokevirtual 147, 3) := by decide +kernel
theorem dX5_count_149 : decode cX5_count 149 = .ok (.ireturn, 1) := by decide +kernel
theorem dX5_count_150 : decode cX5_count 150 = .ok (.aload_n 0, 1) := by decide +kernel
theorem dX5_count_151 : decode cX5_count 151 = .ok (.getfield 7, 3) := by decide +kernel
theorem dX5_count_154 : decode cX5_count 154 = .ok (.bipush 31, 2) := by decide +kernel
theorem dX5_count_156 : decode cX5_count 156 = .ok (.iload_n 1, 1) := by decide +kernel
theorem dX5_count_157 : decode cX5_count 157 = .ok (.iadd, 1) := by decide +kernel
theorem dX5_count_158 : decode cX5_count 158 = .ok (.bipush 8, 2) := by decide +kernel
theorem dX5_count_160 : decode cX5_count 160 = .ok (.isub, 1) := by decide +kernel
theorem dX5_count_161 : decode cX5_count 161 = .ok (.iaload, 1) := by decide +kernel
theorem dX5_count_162 : decode cX5_count 162 = .ok (.ireturn, 1) := by decide +kernel
theorem dX5_count_163 : decode cX5_count 163 = .ok (.aload_n 0, 1) := by decide +kernel
theorem dX5_count_164 : decode cX5_count 164 = .ok (.getfield 82, 3) := by decide +kernel
theorem dX5_count_167 : decode cX5_count 167 = .ok (.ireturn, 1) := by decide +kernel
theorem dX5_count_168 : decode cX5_count 168 = .ok (.aload_n 0, 1) := by decide +kernel
theorem dX5_count_169 : decode cX5_count 169 = .ok (.getfield 29, 3) := by decide +kernel
theorem dX5_count_172 : decode cX5_count 172 = .ok (.ireturn, 1) := by decide +kernel
theorem dX5_count_173 : decode cX5_count 173 = .ok (.iconst (-1), 1) := by decide +kernel
theorem dX5_count_174 : decode cX5_count 174 = .ok (.ireturn, 1) := by decide +kernel
theorem dX5_darkness_0 : decode cX5_darkness 0 = .ok (.aload_n 0, 1) := by decide +kernel
theorem dX5_darkness_1 : decode cX5_darkness 1 = .ok (.invokevirtual 141, 3) := by decide +kernel
theorem dX5_darkness_4 : decode cX5_darkness 4 = .ok (.ifCond .ne 7, 3) := by decide +kernel
theorem dX5_darkness_7 : decode cX5_darkness 7 = .ok (.dconst 1, 1) := by decide +kernel
theorem dX5_darkness_8 : decode cX5_darkness 8 = .ok (.goto 14, 3) := by decide +kernel
theorem dX5_darkness_11 : decode cX5_darkness 11 = .ok (.aload_n 0, 1) := by decide +kernel
theorem dX5_darkness_12 : decode cX5_darkness 12 = .ok (.invokevirtual 135, 3) := by decide +kernel
theorem dX5_darkness_15 : decode cX5_darkness 15 = .ok (.i2d, 1) := by decide +kernel
theorem dX5_darkness_16 : decode cX5_darkness 16 = .ok (.aload_n 0, 1) := by decide +kernel
theorem dX5_darkness_17 : decode cX5_darkness 17 = .ok (.invokevirtual 141, 3) := by decide +kernel
theorem dX5_darkness_20 : decode cX5_darkness 20 = .ok (.i2d, 1) := by decide +kernel
theorem dX5_darkness_21 : decode cX5_darkness 21 = .ok (.ddiv, 1) := by decide +kernel
theorem dX5_darkness_22 : decode cX5_darkness 22 = .ok (.dreturn, 1) := by decide +kernel
theorem dX5_isDark_0 : decode cX5_isDark 0 = .ok (.aload_n 0, 1) := by decide +kernel
theorem dX5_isDark_1 : decode cX5_isDark 1 = .ok (.getfield 150, 3) := by decide +kernel
theorem dX5_isDark_4 : decode cX5_isDark 4 = .ok (.ifCond .le 15, 3) := by decide +kernel
theorem dX5_isDark_7 : decode cX5_isDark 7 = .ok (.aload_n 0, 1) := by decide +kernel
theorem dX5_isDark_8 : decode cX5_isDark 8 = .ok (.getfield 150, 3) := by decide +kernel
theorem dX5_isDark_11 : decode cX5_isDark 11 = .ok (.iload_n 1, 1) := by decide +kernel
theorem dX5_isDark_12 : decode cX5_isDark 12 = .ok (.if_icmp .lt 7, 3) := by decide +kernel
theorem dX5_isDark_15 : decode cX5_isDark 15 = .ok (.iconst 1, 1) := by decide +kernel
theorem dX5_isDark_16 : decode cX5_isDark 16 = .ok (.goto 4, 3) := by decide +kernel
theorem dX5_isDark_19 : decode cX5_isDark 19 = .ok (.iconst 0, 1) := by decide +kernel
theorem dX5_isDark_20 : decode cX5_isDark 20 = .ok (.ireturn, 1) := by decide +kernel
theorem dX5_lastsFor_0 : decode cX5_lastsFor 0 = .ok (.aload_n 0, 1) := by decide +kernel
theorem dX5_lastsFor_1 : decode cX5_lastsFor 1 = .ok (.iload_n 1, 1) := by decide +kernel
theorem dX5_lastsFor_2 : decode cX5_lastsFor 2 = .ok (.iload_n 2, 1) := by decide +kernel
theorem dX5_lastsFor_3 : decode cX5_lastsFor 3 = .ok (.iload_n 3, 1) := by decide +kernel
theorem dX5_lastsFor_4 : decode cX5_lastsFor 4 = .ok (.invokevirtual 33, 3) := by decide +kernel
theorem dX5_lastsFor_7 : decode cX5_lastsFor 7 = .ok (.istore 6, 2) := by decide +kernel
theorem dX5_lastsFor_9 : decode cX5_lastsFor 9 = .ok (.aload_n 0, 1) := by decide +kernel
theorem dX5_lastsFor_10 : decode cX5_lastsFor 10 = .ok (.aload_n 0, 1) := by decide +kernel
theorem dX5_lastsFor_11 : decode cX5_lastsFor 11 = .ok (.getfield 7, 3) := by decide +kernel
theorem dX5_lastsFor_14 : decode cX5_lastsFor 14 = .ok (.iconst 4, 1) := by decide +kernel
theorem dX5_lastsFor_15 : decode cX5_lastsFor 15 = .ok (.iload_n 1, 1) := by decide +kernel
theorem dX5_lastsFor_16 : decode cX5_lastsFor 16 = .ok (.iadd, 1) := by decide +kernel
theorem dX5_lastsFor_17 : decode cX5_lastsFor 17 = .ok (.iaload, 1) := by decide +kernel
theorem dX5_lastsFor_18 : decode cX5_lastsFor 18 = .ok (.putfield 150, 3) := by decide +kernel
theorem dX5_lastsFor_21 : decode cX5_lastsFor 21 = .ok (.aload_n 0, 1) := by decide +kernel
theorem dX5_lastsFor_22 : decode cX5_lastsFor 22 = .ok (.aload_n 0, 1) := by decide +kernel
theorem dX5_lastsFor_23 : decode cX5_lastsFor 23 = .ok (.getfield 7, 3) := by decide +kernel
theorem dX5_lastsFor_26 : decode cX5_lastsFor 26 = .ok (.bipush 8, 2) := by decide +kernel
theorem dX5_lastsFor_28 : decode cX5_lastsFor 28 = .ok (.iload_n 1, 1) := by decide +kernel
theorem dX5_lastsFor_29 : decode cX5_lastsFor 29 = .ok (.iadd, 1) := by decide +kernel
theorem dX5_lastsFor_30 : decode cX5_lastsFor 30 = .ok (.iaload, 1) := by decide +kernel
theorem dX5_lastsFor_31 : decode cX5_lastsFor 31 = .ok (.putfield 153, 3) := by decide +kernel
theorem dX5_lastsFor_34 : decode cX5_lastsFor 34 = .ok (.iconst 0, 1) := by decide +kernel
theorem dX5_lastsFor_35 : decode cX5_lastsFor 35 = .ok (.istore 7, 2) := by decide +kernel
theorem dX5_lastsFor_37 : decode cX5_lastsFor 37 = .ok (.iconst 1, 1) := by decide +kernel
theorem dX5_lastsFor_38 : decode cX5_lastsFor 38 = .ok (.istore 8, 2) := by decide +kernel
theorem dX5_lastsFor_40 : decode cX5_lastsFor 40 = .ok (.iload 8, 2) := by decide +kernel
theorem dX5_lastsFor_42 : decode cX5_lastsFor 42 = .ok (.ifCond .eq 120, 3) := by decide +kernel
theorem dX5_lastsFor_45 : decode cX5_lastsFor 45 = .ok (.iload 7, 2) := by decide +kernel
theorem dX5_lastsFor_47 : decode cX5_lastsFor 47 = .ok (.iload 5, 2) := by decide +kernel
theorem dX5_lastsFor_49 : decode cX5_lastsFor 49 = .ok (.if_icmp .ge 113, 3) := by decide +kernel
theorem dX5_lastsFor_52 : decode cX5_lastsFor 52 = .ok (.aload_n 0, 1) := by decide +kernel
theorem dX5_lastsFor_53 : decode cX5_lastsFor 53 = .ok (.iload 6, 2) := by decide +kernel
theorem dX5_lastsFor_55 : decode cX5_lastsFor 55 = .ok (.invokevirtual 156, 3) := by decide +kernel
theorem dX5_lastsFor_58 : decode cX5_lastsFor 58 = .ok (.ifCond .ne 38, 3) := by decide +kernel
theorem dX5_lastsFor_61 : decode cX5_lastsFor 61 = .ok (.iload 4, 2) := by decide +kernel
theorem dX5_lastsFor_63 : decode cX5_lastsFor 63 = .ok (.ifCond .eq 33, 3) := by decide +kernel
theorem dX5_lastsFor_66 : decode cX5_lastsFor 66 = .ok (.aload_n 0, 1) := by decide +kernel
theorem dX5_lastsFor_67 : decode cX5_lastsFor 67 = .ok (.dup, 1) := by decide +kernel
theorem dX5_lastsFor_68 : decode cX5_lastsFor 68 = .ok (.getfield 150, 3) := by decide +kernel
theorem dX5_lastsFor_71 : decode cX5_lastsFor 71 = .ok (.aload_n 0, 1) := by decide +kernel
theorem dX5_lastsFor_72 : decode cX5_lastsFor 72 = .ok (.getfield 153, 3) := by decide +kernel
theorem dX5_lastsFor_75 : decode cX5_lastsFor 75 = .ok (.iconst 2, 1) := by decide +kernel
theorem dX5_lastsFor_76 : decode cX5_lastsFor 76 = .ok (.idiv, 1) := by decide +kernel
theorem dX5_lastsFor_77 : decode cX5_lastsFor 77 = .ok (.iadd, 1) := by decide +kernel
theorem dX5_lastsFor_78 : decode cX5_lastsFor 78 = .ok (.putfield 150, 3) := by decide +kernel
theorem dX5_lastsFor_81 : decode cX5_lastsFor 81 = .ok (.aload_n 0, 1) := by decide +kernel
theorem dX5_lastsFor_82 : decode cX5_lastsFor 82 = .ok (.dup, 1) := by decide +kernel
theorem dX5_lastsFor_83 : decode cX5_lastsFor 83 = .ok (.getfield 153, 3) := by decide +kernel
theorem dX5_lastsFor_86 : decode cX5_lastsFor 86 = .ok (.aload_n 0, 1) := by decide +kernel
theorem dX5_lastsFor_87 : decode cX5_lastsFor 87 = .ok (.getfield 153, 3) := by decide +kernel
theorem dX5_lastsFor_90 : decode cX5_lastsFor 90 = .ok (.iconst 2, 1) := by decide +kernel
theorem dX5_lastsFor_91 : decode cX5_lastsFor 91 = .ok (.idiv, 1) := by decide +kernel
theorem dX5_lastsFor_92 : decode cX5_lastsFor 92 = .ok (.isub, 1) := by decide +kernel
theorem dX5_lastsFor_93 : decode cX5_lastsFor 93 = .ok (.putfield 153, 3) := by decide +kernel
theorem dX5_lastsFor_96 : decode cX5_lastsFor 96 = .ok (.aload_n 0, 1) := by decide +kernel
theorem dX5_lastsFor_97 : decode cX5_lastsFor 97 = .ok (.iload 6, 2) := by decide +kernel
theorem dX5_lastsFor_99 : decode cX5_lastsFor 99 = .ok (.invokevirtual 156, 3) := by decide +kernel
theorem dX5_lastsFor_102 : decode cX5_lastsFor 102 = .ok (.istore 8, 2) := by decide +kernel
theorem dX5_lastsFor_104 : decode cX5_lastsFor 104 = .ok (.iload 8, 2) := by decide +kernel
theorem dX5_lastsFor_106 : decode cX5_lastsFor 106 = .ok (.ifCond .eq (-66), 3) := by decide +kernel
theorem dX5_lastsFor_109 : decode cX5_lastsFor 109 = .ok (.aload_n 0, 1) := by decide +kernel
theorem dX5_lastsFor_110 : decode cX5_lastsFor 110 = .ok (.dup, 1) := by decide +kernel
theorem dX5_lastsFor_111 : decode cX5_lastsFor 111 = .ok (.getfield 150, 3) := by decide +kernel
theorem dX5_lastsFor_114 : decode cX5_lastsFor 114 = .ok (.iload 6, 2) := by decide +kernel
theorem dX5_lastsFor_116 : decode cX5_lastsFor 116 = .ok (.isub, 1) := by decide +kernel
theorem dX5_lastsFor_117 : decode cX5_lastsFor 117 = .ok (.putfield 150, 3) := by decide +kernel
theorem dX5_lastsFor_120 : decode cX5_lastsFor 120 = .ok (.aload_n 0, 1) := by decide +kernel
theorem dX5_lastsFor_121 : decode cX5_lastsFor 121 = .ok (.getfield 150, 3) := by decide +kernel
theorem dX5_lastsFor_124 : decode cX5_lastsFor 124 = .ok (.aload_n 0, 1) := by decide +kernel
theorem dX5_lastsFor_125 : decode cX5_lastsFor 125 = .ok (.getfield 7, 3) := by decide +kernel
theorem dX5_lastsFor_128 : decode cX5_lastsFor 128 = .ok (.bipush 32, 2) := by decide +kernel
theorem dX5_lastsFor_130 : decode cX5_lastsFor 130 = .ok (.iaload, 1) := by decide +kernel
theorem dX5_lastsFor_131 : decode cX5_lastsFor 131 = .ok (.idiv, 1) := by decide +kernel
theorem dX5_lastsFor_132 : decode cX5_lastsFor 132 = .ok (.istore 9, 2) := by decide +kernel
theorem dX5_lastsFor_134 : decode cX5_lastsFor 134 = .ok (.aload_n 0, 1) := by decide +kernel
theorem dX5_lastsFor_135 : decode cX5_lastsFor 135 = .ok (.dup, 1) := by decide +kernel
theorem dX5_lastsFor_136 : decode cX5_lastsFor 136 = .ok (.getfield 150, 3) := by decide +kernel
theorem dX5_lastsFor_139 : decode cX5_lastsFor 139 = .ok (.iload 9, 2) := by decide +kernel
theorem dX5_lastsFor_141 : decode cX5_lastsFor 141 = .ok (.isub, 1) := by decide +kernel
theorem dX5_lastsFor_142 : decode cX5_lastsFor 142 = .ok (.putfield 150, 3) := by decide +kernel
theorem dX5_lastsFor_145 : decode cX5_lastsFor 145 = .ok (.aload_n 0, 1) := by decide +kernel
theorem dX5_lastsFor_146 : decode cX5_lastsFor 146 = .ok (.dup, 1) := by decide +kernel
theorem dX5_lastsFor_147 : decode cX5_lastsFor 147 = .ok (.getfield 153, 3) := by decide +kernel
theorem dX5_lastsFor_150 : decode cX5_lastsFor 150 = .ok (.iload 9, 2) := by decide +kernel
theorem dX5_lastsFor_152 : decode cX5_lastsFor 152 = .ok (.iadd, 1) := by decide +kernel
theorem dX5_lastsFor_153 : decode cX5_lastsFor 153 = .ok (.putfield 153, 3) := by decide +kernel
theorem dX5_lastsFor_156 : decode cX5_lastsFor 156 = .ok (.iinc 7 1, 3) := by decide +kernel
theorem dX5_lastsFor_159 : decode cX5_lastsFor 159 = .ok (.goto (-119), 3) := by decide +kernel
theorem dX5_lastsFor_162 : decode cX5_lastsFor 162 = .ok (.iload 7, 2) := by decide +kernel
theorem dX5_lastsFor_164 : decode cX5_lastsFor 164 = .ok (.ireturn, 1) := by decide +kernel
theorem dX5_lasts_0 : decode cX5_lasts 0 = .ok (.iload_n 1, 1) := by decide +kernel
theorem dX5_lasts_1 : decode cX5_lasts 1 = .ok (.invokestatic 61, 3) := by decide +kernel
theorem dX5_lasts_4 : decode cX5_lasts 4 = .ok (.ifCond .eq 30, 3) := by decide +kernel
theorem dX5_lasts_7 : decode cX5_lasts 7 = .ok (.iload_n 2, 1) := by decide +kernel
theorem dX5_lasts_8 : decode cX5_lasts 8 = .ok (.invokestatic 52, 3) := by decide +kernel
theorem dX5_lasts_11 : decode cX5_lasts 11 = .ok (.ifCond .eq 23, 3) := by decide +kernel
theorem dX5_lasts_14 : decode cX5_lasts 14 = .ok (.aload_n 0, 1) := by decide +kernel
theorem dX5_lasts_15 : decode cX5_lasts 15 = .ok (.iload_n 1, 1) := by decide +kernel
theorem dX5_lasts_16 : decode cX5_lasts 16 = .ok (.iload_n 2, 1) := by decide +kernel
theorem dX5_lasts_17 : decode cX5_lasts 17 = .ok (.aload_n 0, 1) := by decide +kernel
theorem dX5_lasts_18 : decode cX5_lasts 18 = .ok (.getfield 7, 3) := by decide +kernel
theorem dX5_lasts_21 : decode cX5_lasts 21 = .ok (.bipush 31, 2) := by decide +kernel
theorem dX5_lasts_23 : decode cX5_lasts 23 = .ok (.iaload, 1) := by decide +kernel
theorem dX5_lasts_24 : decode cX5_lasts 24 = .ok (.iload_n 3, 1) := by decide +kernel
theorem dX5_lasts_25 : decode cX5_lasts 25 = .ok (.sipush 999, 3) := by decide +kernel
theorem dX5_lasts_28 : decode cX5_lasts 28 = .ok (.invokevirtual 159, 3) := by decide +kernel
theorem dX5_lasts_31 : decode cX5_lasts 31 = .ok (.goto 4, 3) := by decide +kernel
theorem dX5_lasts_34 : decode cX5_lasts 34 = .ok (.iconst (-1), 1) := by decide +kernel
theorem dX5_lasts_35 : decode cX5_lasts 35 = .ok (.ireturn, 1) := by decide +kernel
theorem dX5_atHand_0 : decode cX5_atHand 0 = .ok (.iload_n 1, 1) := by decide +kernel
theorem dX5_atHand_1 : decode cX5_atHand 1 = .ok (.invokestatic 61, 3) := by decide +kernel
theorem dX5_atHand_4 : decode cX5_atHand 4 = .ok (.ifCond .eq 30, 3) := by decide +kernel
theorem dX5_atHand_7 : decode cX5_atHand 7 = .ok (.iload_n 2, 1) := by decide +kernel
theorem dX5_atHand_8 : decode cX5_atHand 8 = .ok (.invokestatic 52, 3) := by decide +kernel
theorem dX5_atHand_11 : decode cX5_atHand 11 = .ok (.ifCond .eq 23, 3) := by decide +kernel
theorem dX5_atHand_14 : decode cX5_atHand 14 = .ok (.iload_n 3, 1) := by decide +kernel
theorem dX5_atHand_15 : decode cX5_atHand 15 = .ok (.iconst 0, 1) := by decide +kernel
theorem dX5_atHand_16 : decode cX5_atHand 16 = .ok (.bipush 50, 2) := by decide +kernel
theorem dX5_atHand_18 : decode cX5_atHand 18 = .ok (.invokestatic 25, 3) := by decide +kernel
theorem dX5_atHand_21 : decode cX5_atHand 21 = .ok (.ifCond .eq 13, 3) := by decide +kernel
theorem dX5_atHand_24 : decode cX5_atHand 24 = .ok (.iload 4, 2) := by decide +kernel
theorem dX5_atHand_26 : decode cX5_atHand 26 = .ok (.iconst 0, 1) := by decide +kernel
theorem dX5_atHand_27 : decode cX5_atHand 27 = .ok (.iconst 1, 1) := by decide +kernel
theorem dX5_atHand_28 : decode cX5_atHand 28 = .ok (.invokestatic 25, 3) := by decide +kernel
theorem dX5_atHand_31 : decode cX5_atHand 31 = .ok (.ifCond .ne 5, 3) := by decide +kernel
theorem dX5_atHand_34 : decode cX5_atHand 34 = .ok (.iconst (-1), 1) := by decide +kernel
theorem dX5_atHand_35 : decode cX5_atHand 35 = .ok (.ireturn, 1) := by decide +kernel
theorem dX5_atHand_36 : decode cX5_atHand 36 = .ok (.aload_n 0, 1) := by decide +kernel
theorem dX5_atHand_37 : decode cX5_atHand 37 = .ok (.iload_n 1, 1) := by decide +kernel
theorem dX5_atHand_38 : decode cX5_atHand 38 = .ok (.iload_n 2, 1) := by decide +kernel
theorem dX5_atHand_39 : decode cX5_atHand 39 = .ok (.aload_n 0, 1) := by decide +kernel
theorem dX5_atHand_40 : decode cX5_atHand 40 = .ok (.getfield 7, 3) := by decide +kernel
theorem dX5_atHand_43 : decode cX5_atHand 43 = .ok (.bipush 31, 2) := by decide +kernel
theorem dX5_atHand_45 : decode cX5_atHand 45 = .ok (.iaload, 1) := by decide +kernel
theorem dX5_atHand_46 : decode cX5_atHand 46 = .ok (.iconst 0, 1) := by decide +kernel
theorem dX5_atHand_47 : decode cX5_atHand 47 = .ok (.iload_n 3, 1) := by decide +kernel
theorem dX5_atHand_48 : decode cX5_atHand 48 = .ok (.invokevirtual 159, 3) := by decide +kernel
theorem dX5_atHand_51 : decode cX5_atHand 51 = .ok (.iload_n 3, 1) := by decide +kernel
theorem dX5_atHand_52 : decode cX5_atHand 52 = .ok (.if_icmp .ne 10, 3) := by decide +kernel
theorem dX5_atHand_55 : decode cX5_atHand 55 = .ok (.aload_n 0, 1) := by decide +kernel
theorem dX5_atHand_56 : decode cX5_atHand 56 = .ok (.getfield 150, 3) := by decide +kernel
theorem dX5_atHand_59 : decode cX5_atHand 59 = .ok (.goto 5, 3) := by decide +kernel
theorem dX5_atHand_62 : decode cX5_atHand 62 = .ok (.bipush (-4), 2) := by decide +kernel
theorem dX5_atHand_64 : decode cX5_atHand 64 = .ok (.ireturn, 1) := by decide +kernel
theorem dX5_bestFor_0 : decode cX5_bestFor 0 = .ok (.iload_n 1, 1) := by decide +kernel
theorem dX5_bestFor_1 : decode cX5_bestFor 1 = .ok (.invokestatic 52, 3) := by decide +kernel
theorem dX5_bestFor_4 : decode cX5_bestFor 4 = .ok (.ifCond .eq 13, 3) := by decide +kernel
theorem dX5_bestFor_7 : decode cX5_bestFor 7 = .ok (.iload_n 2, 1) := by decide +kernel
theorem dX5_bestFor_8 : decode cX5_bestFor 8 = .ok (.iconst 1, 1) := by decide +kernel
theorem dX5_bestFor_9 : decode cX5_bestFor 9 = .ok (.bipush 50, 2) := by decide +kernel
theorem dX5_bestFor_11 : decode cX5_bestFor 11 = .ok (.invokestatic 25, 3) := by decide +kernel
theorem dX5_bestFor_14 : decode cX5_bestFor 14 = .ok (.ifCond .ne 5, 3) := by decide +kernel
theorem dX5_bestFor_17 : decode cX5_bestFor 17 = .ok (.iconst (-1), 1) := by decide +kernel
theorem dX5_bestFor_18 : decode cX5_bestFor 18 = .ok (.ireturn, 1) := by decide +kernel
theorem dX5_bestFor_19 : decode cX5_bestFor 19 = .ok (.bipush (-4), 2) := by decide +kernel
theorem dX5_bestFor_21 : decode cX5_bestFor 21 = .ok (.istore_n 3, 1) := by decide +kernel
theorem dX5_bestFor_22 : decode cX5_bestFor 22 = .ok (.iconst 0, 1) := by decide +kernel
theorem dX5_bestFor_23 : decode cX5_bestFor 23 = .ok (.istore 4, 2) := by decide +kernel
theorem dX5_bestFor_25 : decode cX5_bestFor 25 = .ok (.iload 4, 2) := by decide +kernel
theorem dX5_bestFor_27 : decode cX5_bestFor 27 = .ok (.iconst 4, 1) := by decide +kernel
theorem dX5_bestFor_28 : decode cX5_bestFor 28 = .ok (.if_icmp .ge 68, 3) := by decide +kernel
theorem dX5_bestFor_31 : decode cX5_bestFor 31 = .ok (.aload_n 0, 1) := by decide +kernel
theorem dX5_bestFor_32 : decode cX5_bestFor 32 = .ok (.iload 4, 2) := by decide +kernel
theorem dX5_bestFor_34 : decode cX5_bestFor 34 = .ok (.iload_n 1, 1) := by decide +kernel
theorem dX5_bestFor_35 : decode cX5_bestFor 35 = .ok (.aload_n 0, 1) := by decide +kernel
theorem dX5_bestFor_36 : decode cX5_bestFor 36 = .ok (.getfield 7, 3) := by decide +kernel
theorem dX5_bestFor_39 : decode cX5_bestFor 39 = .ok (.bipush 31, 2) := by decide +kernel
theorem dX5_bestFor_41 : decode cX5_bestFor 41 = .ok (.iaload, 1) := by decide +kernel
theorem dX5_bestFor_42 : decode cX5_bestFor 42 = .ok (.iconst 1, 1) := by decide +kernel
theorem dX5_bestFor_43 : decode cX5_bestFor 43 = .ok (.iload_n 2, 1) := by decide +kernel
theorem dX5_bestFor_44 : decode cX5_bestFor 44 = .ok (.invokevirtual 159, 3) := by decide +kernel
theorem dX5_bestFor_47 : decode cX5_bestFor 47 = .ok (.iload_n 2, 1) := by decide +kernel
theorem dX5_bestFor_48 : decode cX5_bestFor 48 = .ok (.if_icmp .ne 7, 3) := by decide +kernel
theorem dX5_bestFor_51 : decode cX5_bestFor 51 = .ok (.iconst 1, 1) := by decide +kernel
theorem dX5_bestFor_52 : decode cX5_bestFor 52 = .ok (.goto 4, 3) := by decide +kernel
theorem dX5_bestFor_55 : decode cX5_bestFor 55 = .ok (.iconst 0, 1) := by decide +kernel
theorem dX5_bestFor_56 : decode cX5_bestFor 56 = .ok (.istore 5, 2) := by decide +kernel
theorem dX5_bestFor_58 : decode cX5_bestFor 58 = .ok (.iload 5, 2) := by decide +kernel
theorem dX5_bestFor_60 : decode cX5_bestFor 60 = .ok (.ifCond .eq 28, 3) := by decide +kernel
theorem dX5_bestFor_63 : decode cX5_bestFor 63 = .ok (.iload_n 3, 1) := by decide +kernel
theorem dX5_bestFor_64 : decode cX5_bestFor 64 = .ok (.bipush (-4), 2) := by decide +kernel
theorem dX5_bestFor_66 : decode cX5_bestFor 66 = .ok (.if_icmp .eq 17, 3) := by decide +kernel
theorem dX5_bestFor_69 : decode cX5_bestFor 69 = .ok (.aload_n 0, 1) := by decide +kernel
theorem dX5_bestFor_70 : decode cX5_bestFor 70 = .ok (.iload 4, 2) := by decide +kernel
theorem dX5_bestFor_72 : decode cX5_bestFor 72 = .ok (.invokevirtual 37, 3) := by decide +kernel
theorem dX5_bestFor_75 : decode cX5_bestFor 75 = .ok (.aload_n 0, 1) := by decide +kernel
theorem dX5_bestFor_76 : decode cX5_bestFor 76 = .ok (.iload_n 3, 1) := by decide +kernel
theorem dX5_bestFor_77 : decode cX5_bestFor 77 = .ok (.invokevirtual 37, 3) := by decide +kernel
theorem dX5_bestFor_80 : decode cX5_bestFor 80 = .ok (.if_icmp .ge 8, 3) := by decide +kernel
theorem dX5_bestFor_83 : decode cX5_bestFor 83 = .ok (.iload 4, 2) := by decide +kernel
theorem dX5_bestFor_85 : decode cX5_bestFor 85 = .ok (.goto 4, 3) := by decide +kernel
theorem dX5_bestFor_88 : decode cX5_bestFor 88 = .ok (.iload_n 3, 1) := by decide +kernel
theorem dX5_bestFor_89 : decode cX5_bestFor 89 = .ok (.istore_n 3, 1) := by decide +kernel
theorem dX5_bestFor_90 : decode cX5_bestFor 90 = .ok (.iinc 4 1, 3) := by decide +kernel
theorem dX5_bestFor_93 : decode cX5_bestFor 93 = .ok (.goto (-68), 3) := by decide +kernel
theorem dX5_bestFor_96 : decode cX5_bestFor 96 = .ok (.iload_n 3, 1) := by decide +kernel
theorem dX5_bestFor_97 : decode cX5_bestFor 97 = .ok (.ireturn, 1) := by decide +kernel
theorem dX5_darkest_0 : decode cX5_darkest 0 = .ok (.iload_n 1, 1) := by decide +kernel
theorem dX5_darkest_1 : decode cX5_darkest 1 = .ok (.invokestatic 61, 3) := by decide +kernel
theorem dX5_darkest_4 : decode cX5_darkest 4 = .ok (.ifCond .eq 20, 3) := by decide +kernel
theorem dX5_darkest_7 : decode cX5_darkest 7 = .ok (.iload_n 2, 1) := by decide +kernel
theorem dX5_darkest_8 : decode cX5_darkest 8 = .ok (.invokestatic 52, 3) := by decide +kernel
theorem dX5_darkest_11 : decode cX5_darkest 11 = .ok (.ifCond .eq 13, 3) := by decide +kernel
theorem dX5_darkest_14 : decode cX5_darkest 14 = .ok (.iload_n 3, 1) := by decide +kernel
theorem dX5_darkest_15 : decode cX5_darkest 15 = .ok (.iconst 1, 1) := by decide +kernel
theorem dX5_darkest_16 : decode cX5_darkest 16 = .ok (.bipush 50, 2) := by decide +kernel
theorem dX5_darkest_18 : decode cX5_darkest 18 = .ok (.invokestatic 25, 3) := by decide +kernel
theorem dX5_darkest_21 : decode cX5_darkest 21 = .ok (.ifCond .ne 5, 3) := by decide +kernel
theorem dX5_darkest_24 : decode cX5_darkest 24 = .ok (.iconst (-1), 1) := by decide +kernel
theorem dX5_darkest_25 : decode cX5_darkest 25 = .ok (.ireturn, 1) := by decide +kernel
theorem dX5_darkest_26 : decode cX5_darkest 26 = .ok (.bipush (-4), 2) := by decide +kernel
theorem dX5_darkest_28 : decode cX5_darkest 28 = .ok (.istore 4, 2) := by decide +kernel
theorem dX5_darkest_30 : decode cX5_darkest 30 = .ok (.iconst 1, 1) := by decide +kernel
theorem dX5_darkest_31 : decode cX5_darkest 31 = .ok (.istore 5, 2) := by decide +kernel
theorem dX5_darkest_33 : decode cX5_darkest 33 = .ok (.iload 5, 2) := by decide +kernel
theorem dX5_darkest_35 : decode cX5_darkest 35 = .ok (.bipush 6, 2) := by decide +kernel
theorem dX5_darkest_37 : decode cX5_darkest 37 = .ok (.if_icmp .ge 32, 3) := by decide +kernel
theorem dX5_darkest_40 : decode cX5_darkest 40 = .ok (.aload_n 0, 1) := by decide +kernel
theorem dX5_darkest_41 : decode cX5_darkest 41 = .ok (.iload_n 1, 1) := by decide +kernel
theorem dX5_darkest_42 : decode cX5_darkest 42 = .ok (.iload_n 2, 1) := by decide +kernel
theorem dX5_darkest_43 : decode cX5_darkest 43 = .ok (.iload 5, 2) := by decide +kernel
theorem dX5_darkest_45 : decode cX5_darkest 45 = .ok (.iconst 1, 1) := by decide +kernel
theorem dX5_darkest_46 : decode cX5_darkest 46 = .ok (.iload_n 3, 1) := by decide +kernel
theorem dX5_darkest_47 : decode cX5_darkest 47 = .ok (.invokevirtual 159, 3) := by decide +kernel
theorem dX5_darkest_50 : decode cX5_darkest 50 = .ok (.iload_n 3, 1) := by decide +kernel
theorem dX5_darkest_51 : decode cX5_darkest 51 = .ok (.if_icmp .ne 8, 3) := by decide +kernel
theorem dX5_darkest_54 : decode cX5_darkest 54 = .ok (.iload 5, 2) := by decide +kernel
theorem dX5_darkest_56 : decode cX5_darkest 56 = .ok (.goto 5, 3) := by decide +kernel
theorem dX5_darkest_59 : decode cX5_darkest 59 = .ok (.iload 4, 2) := by decide +kernel
theorem dX5_darkest_61 : decode cX5_darkest 61 = .ok (.istore 4, 2) := by decide +kernel
theorem dX5_darkest_63 : decode cX5_darkest 63 = .ok (.iinc 5 1, 3) := by decide +kernel
theorem dX5_darkest_66 : decode cX5_darkest 66 = .ok (.goto (-33), 3) := by decide +kernel
theorem dX5_darkest_69 : decode cX5_darkest 69 = .ok (.iload 4, 2) := by decide +kernel
theorem dX5_darkest_71 : decode cX5_darkest 71 = .ok (.ireturn, 1) := by decide +kernel
theorem dX5_undo_0 : decode cX5_undo 0 = .ok (.aload_n 0, 1) := by decide +kernel
theorem dX5_undo_1 : decode cX5_undo 1 = .ok (.getfield 29, 3) := by decide +kernel
theorem dX5_undo_4 : decode cX5_undo 4 = .ok (.ifCond .ne 6, 3) := by decide +kernel
theorem dX5_undo_7 : decode cX5_undo 7 = .ok (.bipush (-2), 2) := by decide +kernel
theorem dX5_undo_9 : decode cX5_undo 9 = .ok (.ireturn, 1) := by decide +kernel
theorem dX5_undo_10 : decode cX5_undo 10 = .ok (.aload_n 0, 1) := by decide +kernel
theorem dX5_undo_11 : decode cX5_undo 11 = .ok (.dup, 1) := by decide +kernel
theorem dX5_undo_12 : decode cX5_undo 12 = .ok (.getfield 29, 3) := by decide +kernel
theorem dX5_undo_15 : decode cX5_undo 15 = .ok (.iconst 1, 1) := by decide +kernel
theorem dX5_undo_16 : decode cX5_undo 16 = .ok (.isub, 1) := by decide +kernel
theorem dX5_undo_17 : decode cX5_undo 17 = .ok (.putfield 29, 3) := by decide +kernel
theorem dX5_undo_20 : decode cX5_undo 20 = .ok (.iconst 0, 1) := by decide +kernel
theorem dX5_undo_21 : decode cX5_undo 21 = .ok (.istore_n 1, 1) := by decide +kernel
theorem dX5_undo_22 : decode cX5_undo 22 = .ok (.iload_n 1, 1) := by decide +kernel
theorem dX5_undo_23 : decode cX5_undo 23 = .ok (.bipush 35, 2) := by decide +kernel
theorem dX5_undo_25 : decode cX5_undo 25 = .ok (.if_icmp .ge 29, 3) := by decide +kernel
theorem dX5_undo_28 : decode cX5_undo 28 = .ok (.aload_n 0, 1) := by decide +kernel
theorem dX5_undo_29 : decode cX5_undo 29 = .ok (.getfield 7, 3) := by decide +kernel
theorem dX5_undo_32 : decode cX5_undo 32 = .ok (.iload_n 1, 1) := by decide +kernel
theorem dX5_undo_33 : decode cX5_undo 33 = .ok (.aload_n 0, 1) := by decide +kernel
theorem dX5_undo_34 : decode cX5_undo 34 = .ok (.getfield 13, 3) := by decide +kernel
theorem dX5_undo_37 : decode cX5_undo 37 = .ok (.bipush 35, 2) := by decide +kernel
theorem dX5_undo_39 : decode cX5_undo 39 = .ok (.aload_n 0, 1) := by decide +kernel
theorem dX5_undo_40 : decode cX5_undo 40 = .ok (.getfield 29, 3) := by decide +kernel
theorem dX5_undo_43 : decode cX5_undo 43 = .ok (.imul, 1) := by decide +kernel
theorem dX5_undo_44 : decode cX5_undo 44 = .ok (.iload_n 1, 1) := by decide +kernel
theorem dX5_undo_45 : decode cX5_undo 45 = .ok (.iadd, 1) := by decide +kernel
theorem dX5_undo_46 : decode cX5_undo 46 = .ok (.iaload, 1) := by decide +kernel
theorem dX5_undo_47 : decode cX5_undo 47 = .ok (.iastore, 1) := by decide +kernel
theorem dX5_undo_48 : decode cX5_undo 48 = .ok (.iinc 1 1, 3) := by decide +kernel
theorem dX5_undo_51 : decode cX5_undo 51 = .ok (.goto (-29), 3) := by decide +kernel
theorem dX5_undo_54 : decode cX5_undo 54 = .ok (.aload_n 0, 1) := by decide +kernel
theorem dX5_undo_55 : decode cX5_undo 55 = .ok (.getfield 29, 3) := by decide +kernel
theorem dX5_undo_58 : decode cX5_undo 58 = .ok (.ireturn, 1) := by decide +kernel
theorem dX5_save_0 : decode cX5_save 0 = .ok (.iconst 0, 1) := by decide +kernel
theorem dX5_save_1 : decode cX5_save 1 = .ok (.istore_n 1, 1) := by decide +kernel
theorem dX5_save_2 : decode cX5_save 2 = .ok (.iload_n 1, 1) := by decide +kernel
theorem dX5_save_3 : decode cX5_save 3 = .ok (.bipush 35, 2) := by decide +kernel
theorem dX5_save_5 : decode cX5_save 5 = .ok (.if_icmp .ge 21, 3) := by decide +kernel
theorem dX5_save_8 : decode cX5_save 8 = .ok (.aload_n 0, 1) := by decide +kernel
theorem dX5_save_9 : decode cX5_save 9 = .ok (.getfield 16, 3) := by decide +kernel
theorem dX5_save_12 : decode cX5_save 12 = .ok (.iload_n 1, 1) := by decide +kernel
theorem dX5_save_13 : decode cX5_save 13 = .ok (.aload_n 0, 1) := by decide +kernel
theorem dX5_save_14 : decode cX5_save 14 = .ok (.getfield 7, 3) := by decide +kernel
theorem dX5_save_17 : decode cX5_save 17 = .ok (.iload_n 1, 1) := by decide +kernel
theorem dX5_save_18 : decode cX5_save 18 = .ok (.iaload, 1) := by decide +kernel
theorem dX5_save_19 : decode cX5_save 19 = .ok (.iastore, 1) := by decide +kernel
theorem dX5_save_20 : decode cX5_save 20 = .ok (.iinc 1 1, 3) := by decide +kernel
theorem dX5_save_23 : decode cX5_save 23 = .ok (.goto (-21), 3) := by decide +kernel
theorem dX5_save_26 : decode cX5_save 26 = .ok (.aload_n 0, 1) := by decide +kernel
theorem dX5_save_27 : decode cX5_save 27 = .ok (.iconst 1, 1) := by decide +kernel
theorem dX5_save_28 : decode cX5_save 28 = .ok (.putfield 163, 3) := by decide +kernel
theorem dX5_save_31 : decode cX5_save 31 = .ok (.aload_n 0, 1) := by decide +kernel
theorem dX5_save_32 : decode cX5_save 32 = .ok (.invokevirtual 138, 3) := by decide +kernel
theorem dX5_save_35 : decode cX5_save 35 = .ok (.ireturn, 1) := by decide +kernel
theorem dX5_restore_0 : decode cX5_restore 0 = .ok (.aload_n 0, 1) := by decide +kernel
theorem dX5_restore_1 : decode cX5_restore 1 = .ok (.getfield 163, 3) := by decide +kernel
theorem dX5_restore_4 : decode cX5_restore 4 = .ok (.ifCond .ne 6, 3) := by decide +kernel
theorem dX5_restore_7 : decode cX5_restore 7 = .ok (.bipush (-2), 2) := by decide +kernel
theorem dX5_restore_9 : decode cX5_restore 9 = .ok (.ireturn, 1) := by decide +kernel
theorem dX5_restore_10 : decode cX5_restore 10 = .ok (.aload_n 0, 1) := by decide +kernel
theorem dX5_restore_11 : decode cX5_restore 11 = .ok (.invokevirtual 55, 3) := by decide +kernel
theorem dX5_restore_14 : decode cX5_restore 14 = .ok (.iconst 0, 1) := by decide +kernel
theorem dX5_restore_15 : decode cX5_restore 15 = .ok (.istore_n 1, 1) := by decide +kernel
theorem dX5_restore_16 : decode cX5_restore 16 = .ok (.iload_n 1, 1) := by decide +kernel
theorem dX5_restore_17 : decode cX5_restore 17 = .ok (.bipush 35, 2) := by decide +kernel
theorem dX5_restore_19 : decode cX5_restore 19 = .ok (.if_icmp .ge 21, 3) := by decide +kernel
theorem dX5_restore_22 : decode cX5_restore 22 = .ok (.aload_n 0, 1) := by decide +kernel
theorem dX5_restore_23 : decode cX5_restore 23 = .ok (.getfield 7, 3) := by decide +kernel
theorem dX5_restore_26 : decode cX5_restore 26 = .ok (.iload_n 1, 1) := by decide +kernel
theorem dX5_restore_27 : decode cX5_restore 27 = .ok (.aload_n 0, 1) := by decide +kernel
theorem dX5_restore_28 : decode cX5_restore 28 = .ok (.getfield 16, 3) := by decide +kernel
theorem dX5_restore_31 : decode cX5_restore 31 = .ok (.iload_n 1, 1) := by decide +kernel
theorem dX5_restore_32 : decode cX5_restore 32 = .ok (.iaload, 1) := by decide +kernel
theorem dX5_restore_33 : decode cX5_restore 33 = .ok (.iastore, 1) := by decide +kernel
theorem dX5_restore_34 : decode cX5_restore 34 = .ok (.iinc 1 1, 3) := by decide +kernel
theorem dX5_restore_37 : decode cX5_restore 37 = .ok (.goto (-21), 3) := by decide +kernel
theorem dX5_restore_40 : decode cX5_restore 40 = .ok (.aload_n 0, 1) := by decide +kernel
theorem dX5_restore_41 : decode cX5_restore 41 = .ok (.invokevirtual 138, 3) := by decide +kernel
theorem dX5_restore_44 : decode cX5_restore 44 = .ok (.ireturn, 1) := by decide +kernel
theorem dL_law_0 : decode cL_law 0 = .ok (.new 7, 3) := by decide +kernel
theorem dL_law_3 : decode cL_law 3 = .ok (.dup, 1) := by decide +kernel
theorem dL_law_4 : decode cL_law 4 = .ok (.invokespecial 9, 3) := by decide +kernel
theorem dL_law_7 : decode cL_law 7 = .ok (.astore_n 1, 1) := by decide +kernel
theorem dL_law_8 : decode cL_law 8 = .ok (.new 10, 3) := by decide +kernel
theorem dL_law_11 : decode cL_law 11 = .ok (.dup, 1) := by decide +kernel
theorem dL_law_12 : decode cL_law 12 = .ok (.invokespecial 12, 3) := by decide +kernel
theorem dL_law_15 : decode cL_law 15 = .ok (.astore_n 2, 1) := by decide +kernel
theorem dL_law_16 : decode cL_law 16 = .ok (.iconst 0, 1) := by decide +kernel
theorem dL_law_17 : decode cL_law 17 = .ok (.istore_n 3, 1) := by decide +kernel
theorem dL_law_18 : decode cL_law 18 = .ok (.iload_n 3, 1) := by decide +kernel
theorem dL_law_19 : decode cL_law 19 = .ok (.aload_n 0, 1) := by decide +kernel
theorem dL_law_20 : decode cL_law 20 = .ok (.arraylength, 1) := by decide +kernel
theorem dL_law_21 : decode cL_law 21 = .ok (.iconst 5, 1) := by decide +kernel
theorem dL_law_22 : decode cL_law 22 = .ok (.isub, 1) := by decide +kernel
theorem dL_law_23 : decode cL_law 23 = .ok (.if_icmp .gt 813, 3) := by decide +kernel
theorem dL_law_26 : decode cL_law 26 = .ok (.aload_n 0, 1) := by decide +kernel
theorem dL_law_27 : decode cL_law 27 = .ok (.iload_n 3, 1) := by decide +kernel
theorem dL_law_28 : decode cL_law 28 = .ok (.iaload, 1) := by decide +kernel
theorem dL_law_29 : decode cL_law 29 = .ok (.bipush 31, 2) := by decide +kernel
theorem dL_law_31 : decode cL_law 31 = .ok (.iand, 1) := by decide +kernel
theorem dL_law_32 : decode cL_law 32 = .ok (.tableswitch 798 0 23 #[112, 145, 168, 201, 224, 257, 290, 313, 326, 339, 352, 375, 408, 441, 484, 507, 530, 571, 630, 683, 716, 759, 772, 785], 112) := by decide +kernel
theorem dL_law_144 : decode cL_law 144 = .ok (.aload_n 1, 1) := by decide +kernel
theorem dL_law_145 : decode cL_law 145 = .ok (.aload_n 0, 1) := by decide +kernel
theorem dL_law_146 : decode cL_law 146 = .ok (.iload_n 3, 1) := by decide +kernel
theorem dL_law_147 : decode cL_law 147 = .ok (.iconst 1, 1) := by decide +kernel
theorem dL_law_148 : decode cL_law 148 = .ok (.iadd, 1) := by decide +kernel
theorem dL_law_149 : decode cL_law 149 = .ok (.iaload, 1) := by decide +kernel
theorem dL_law_150 : decode cL_law 150 = .ok (.aload_n 0, 1) := by decide +kernel
theorem dL_law_151 : decode cL_law 151 = .ok (.iload_n 3, 1) := by decide +kernel
theorem dL_law_152 : decode cL_law 152 = .ok (.iconst 2, 1) := by decide +kernel
theorem dL_law_153 : decode cL_law 153 = .ok (.iadd, 1) := by decide +kernel
theorem dL_law_154 : decode cL_law 154 = .ok (.iaload, 1) := by decide +kernel
theorem dL_law_155 : decode cL_law 155 = .ok (.invokevirtual 13, 3) := by decide +kernel
theorem dL_law_158 : decode cL_law 158 = .ok (.aload_n 2, 1) := by decide +kernel
theorem dL_law_159 : decode cL_law 159 = .ok (.aload_n 0, 1) := by decide +kernel
theorem dL_law_160 : decode cL_law 160 = .ok (.iload_n 3, 1) := by decide +kernel
theorem dL_law_161 : decode cL_law 161 = .ok (.iconst 1, 1) := by decide +kernel
theorem dL_law_162 : decode cL_law 162 = .ok (.iadd, 1) := by decide +kernel
theorem dL_law_163 : decode cL_law 163 = .ok (.iaload, 1) := by decide +kernel
theorem dL_law_164 : decode cL_law 164 = .ok (.aload_n 0, 1) := by decide +kernel
theorem dL_law_165 : decode cL_law 165 = .ok (.iload_n 3, 1) := by decide +kernel
theorem dL_law_166 : decode cL_law 166 = .ok (.iconst 2, 1) := by decide +kernel
theorem dL_law_167 : decode cL_law 167 = .ok (.iadd, 1) := by decide +kernel
theorem dL_law_168 : decode cL_law 168 = .ok (.iaload, 1) := by decide +kernel
theorem dL_law_169 : decode cL_law 169 = .ok (.invokevirtual 17, 3) := by decide +kernel
theorem dL_law_172 : decode cL_law 172 = .ok (.if_icmp .eq 658, 3) := by decide +kernel
theorem dL_law_175 : decode cL_law 175 = .ok (.iconst 0, 1) := by decide +kernel
theorem dL_law_176 : decode cL_law 176 = .ok (.ireturn, 1) := by decide +kernel
theorem dL_law_177 : decode cL_law 177 = .ok (.aload_n 1, 1) := by decide +kernel
theorem dL_law_178 : decode cL_law 178 = .ok (.aload_n 0, 1) := by decide +kernel
theorem dL_law_179 : decode cL_law 179 = .ok (.iload_n 3, 1) := by decide +kernel
theorem dL_law_180 : decode cL_law 180 = .ok (.iconst 1, 1) := by decide +kernel
theorem dL_law_181 : decode cL_law 181 = .ok (.iadd, 1) := by decide +kernel
theorem dL_law_182 : decode cL_law 182 = .ok (.iaload, 1) := by decide +kernel
theorem dL_law_183 : decode cL_law 183 = .ok (.invokevirtual 18, 3) := by decide +kernel
theorem dL_law_186 : decode cL_law 186 = .ok (.aload_n 2, 1) := by decide +kernel
theorem dL_law_187 : decode cL_law 187 = .ok (.aload_n 0, 1) := by decide +kernel
theorem dL_law_188 : decode cL_law 188 = .ok (.iload_n 3, 1) := by decide +kernel
theorem dL_law_189 : decode cL_law 189 = .ok (.iconst 1, 1) := by decide +kernel
theorem dL_law_190 : decode cL_law 190 = .ok (.iadd, 1) := by decide +kernel
theorem dL_law_191 : decode cL_law 191 = .ok (.iaload, 1) := by decide +kernel
theorem dL_law_192 : decode cL_law 192 = .ok (.invokevirtual 22, 3) := by decide +kernel
theorem dL_law_195 : decode cL_law 195 = .ok (.if_icmp .eq 635, 3) := by decide +kernel
theorem dL_law_198 : decode cL_law 198 = .ok (.iconst 0, 1) := by decide +kernel
theorem dL_law_199 : decode cL_law 199 = .ok (.ireturn, 1) := by decide +kernel
theorem dL_law_200 : decode cL_law 200 = .ok (.aload_n 1, 1) := by decide +kernel
theorem dL_law_201 : decode cL_law 201 = .ok (.aload_n 0, 1) := by decide +kernel
theorem dL_law_202 : decode cL_law 202 = .ok (.iload_n 3, 1) := by decide +kernel
theorem dL_law_203 : decode cL_law 203 = .ok (.iconst 1, 1) := by decide +kernel
theorem dL_law_204 : decode cL_law 204 = .ok (.iadd, 1) := by decide +kernel
theorem dL_law_205 : decode cL_law 205 = .ok (.iaload, 1) := by decide +kernel
theorem dL_law_206 : decode cL_law 206 = .ok (.aload_n 0, 1) := by decide +kernel
theorem dL_law_207 : decode cL_law 207 = .ok (.iload_n 3, 1) := by decide +kernel
theorem dL_law_208 : decode cL_law 208 = .ok (.iconst 2, 1) := by decide +kernel
theorem dL_law_209 : decode cL_law 209 = .ok (.iadd, 1) := by decide +kernel
theorem dL_law_210 : decode cL_law 210 = .ok (.iaload, 1) := by decide +kernel
theorem dL_law_211 : decode cL_law 211 = .ok (.invokevirtual 23, 3) := by decide +kernel
theorem dL_law_214 : decode cL_law 214 = .ok (.aload_n 2, 1) := by decide +kernel
theorem dL_law_215 : decode cL_law 215 = .ok (.aload_n 0, 1) := by decide +kernel
theorem dL_law_216 : decode cL_law 216 = .ok (.iload_n 3, 1) := by decide +kernel
theorem dL_law_217 : decode cL_law 217 = .ok (.iconst 1, 1) := by decide +kernel
theorem dL_law_218 : decode cL_law 218 = .ok (.iadd, 1) := by decide +kernel
theorem dL_law_219 : decode cL_law 219 = .ok (.iaload, 1) := by decide +kernel
theorem dL_law_220 : decode cL_law 220 = .ok (.aload_n 0, 1) := by decide +kernel
theorem dL_law_221 : decode cL_law 221 = .ok (.iload_n 3, 1) := by decide +kernel
theorem dL_law_222 : decode cL_law 222 = .ok (.iconst 2, 1) := by decide +kernel
theorem dL_law_223 : decode cL_law 223 = .ok (.iadd, 1) := by decide +kernel
theorem dL_law_224 : decode cL_law 224 = .ok (.iaload, 1) := by decide +kernel
theorem dL_law_225 : decode cL_law 225 = .ok (.invokevirtual 26, 3) := by decide +kernel
theorem dL_law_228 : decode cL_law 228 = .ok (.if_icmp .eq 602, 3) := by decide +kernel
theorem dL_law_231 : decode cL_law 231 = .ok (.iconst 0, 1) := by decide +kernel
theorem dL_law_232 : decode cL_law 232 = .ok (.ireturn, 1) := by decide +kernel
theorem dL_law_233 : decode cL_law 233 = .ok (.aload_n 1, 1) := by decide +kernel
theorem dL_law_234 : decode cL_law 234 = .ok (.aload_n 0, 1) := by decide +kernel
theorem dL_law_235 : decode cL_law 235 = .ok (.iload_n 3, 1) := by decide +kernel
theorem dL_law_236 : decode cL_law 236 = .ok (.iconst 1, 1) := by decide +kernel
theorem dL_law_237 : decode cL_law 237 = .ok (.iadd, 1) := by decide +kernel
theorem dL_law_238 : decode cL_law 238 = .ok (.iaload, 1) := by decide +kernel
theorem dL_law_239 : decode cL_law 239 = .ok (.invokevirtual 27, 3) := by decide +kernel
theorem dL_law_242 : decode cL_law 242 = .ok (.aload_n 2, 1) := by decide +kernel
theorem dL_law_243 : decode cL_law 243 = .ok (.aload_n 0, 1) := by decide +kernel
theorem dL_law_244 : decode cL_law 244 = .ok (.iload_n 3, 1) := by decide +kernel
theorem dL_law_245 : decode cL_law 245 = .ok (.iconst 1, 1) := by decide +kernel
theorem dL_law_246 : decode cL_law 246 = .ok (.iadd, 1) := by decide +kernel
theorem dL_law_247 : decode cL_law 247 = .ok (.iaload, 1) := by decide +kernel
theorem dL_law_248 : decode cL_law 248 = .ok (.invokevirtual 30, 3) := by decide +kernel
theorem dL_law_251 : decode cL_law 251 = .ok (.if_icmp .eq 579, 3) := by decide +kernel
theorem dL_law_254 : decode cL_law 254 = .ok (.iconst 0, 1) := by decide +kernel
theorem dL_law_255 : decode cL_law 255 = .ok (.ireturn, 1) := by decide +kernel
theorem dL_law_256 : decode cL_law 256 = .ok (.aload_n 1, 1) := by decide +kernel
theorem dL_law_257 : decode cL_law 257 = .ok (.aload_n 0, 1) := by decide +kernel
theorem dL_law_258 : decode cL_law 258 = .ok (.iload_n 3, 1) := by decide +kernel
theorem dL_law_259 : decode cL_law 259 = .ok (.iconst 1, 1) := by decide +kernel
theorem dL_law_260 : decode cL_law 260 = .ok (.iadd, 1) := by decide +kernel
theorem dL_law_261 : decode cL_law 261 = .ok (.iaload, 1) := by decide +kernel
theorem dL_law_262 : decode cL_law 262 = .ok (.aload_n 0, 1) := by decide +kernel
theorem dL_law_263 : decode cL_law 263 = .ok (.iload_n 3, 1) := by decide +kernel
theorem dL_law_264 : decode cL_law 264 = .ok (.iconst 2, 1) := by decide +kernel
theorem dL_law_265 : decode cL_law 265 = .ok (.iadd, 1) := by decide +kernel
theorem dL_law_266 : decode cL_law 266 = .ok (.iaload, 1) := by decide +kernel
theorem dL_law_267 : decode cL_law 267 = .ok (.invokevirtual 31, 3) := by decide +kernel
theorem dL_law_270 : decode cL_law 270 = .ok (.aload_n 2, 1) := by decide +kernel
theorem dL_law_271 : decode cL_law 271 = .ok (.aload_n 0, 1) := by decide +kernel
theorem dL_law_272 : decode cL_law 272 = .ok (.iload_n 3, 1) := by decide +kernel
theorem dL_law_273 : decode cL_law 273 = .ok (.iconst 1, 1) := by decide +kernel
theorem dL_law_274 : decode cL_law 274 = .ok (.iadd, 1) := by decide +kernel
theorem dL_law_275 : decode cL_law 275 = .ok (.iaload, 1) := by decide +kernel
theorem dL_law_276 : decode cL_law 276 = .ok (.aload_n 0, 1) := by decide +kernel
theorem dL_law_277 : decode cL_law 277 = .ok (.iload_n 3, 1) := by decide +kernel
theorem dL_law_278 : decode cL_law 278 = .ok (.iconst 2, 1) := by decide +kernel
theorem dL_law_279 : decode cL_law 279 = .ok (.iadd, 1) := by decide +kernel
theorem dL_law_280 : decode cL_law 280 = .ok (.iaload, 1) := by decide +kernel
theorem dL_law_281 : decode cL_law 281 = .ok (.invokevirtual 34, 3) := by decide +kernel
theorem dL_law_284 : decode cL_law 284 = .ok (.if_icmp .eq 546, 3) := by decide +kernel
theorem dL_law_287 : decode cL_law 287 = .ok (.iconst 0, 1) := by decide +kernel
theorem dL_law_288 : decode cL_law 288 = .ok (.ireturn, 1) := by decide +kernel
theorem dL_law_289 : decode cL_law 289 = .ok (.aload_n 1, 1) := by decide +kernel
theorem dL_law_290 : decode cL_law 290 = .ok (.aload_n 0, 1) := by decide +kernel
theorem dL_law_291 : decode cL_law 291 = .ok (.iload_n 3, 1) := by decide +kernel
theorem dL_law_292 : decode cL_law 292 = .ok (.iconst 1, 1) := by decide +kernel
theorem dL_law_293 : decode cL_law 293 = .ok (.iadd, 1) := by decide +kernel
theorem dL_law_294 : decode cL_law 294 = .ok (.iaload, 1) := by decide +kernel
theorem dL_law_295 : decode cL_law 295 = .ok (.aload_n 0, 1) := by decide +kernel
theorem dL_law_296 : decode cL_law 296 = .ok (.iload_n 3, 1) := by decide +kernel
theorem dL_law_297 : decode cL_law 297 = .ok (.iconst 2, 1) := by decide +kernel
theorem dL_law_298 : decode cL_law 298 = .ok (.iadd, 1) := by decide +kernel
theorem dL_law_299 : decode cL_law 299 = .ok (.iaload, 1) := by decide +kernel
theorem dL_law_300 : decode cL_law 300 = .ok (.invokevirtual 35, 3) := by decide +kernel
theorem dL_law_303 : decode cL_law 303 = .ok (.aload_n 2, 1) := by decide +kernel
theorem dL_law_304 : decode cL_law 304 = .ok (.aload_n 0, 1) := by decide +kernel
theorem dL_law_305 : decode cL_law 305 = .ok (.iload_n 3, 1) := by decide +kernel
theorem dL_law_306 : decode cL_law 306 = .ok (.iconst 1, 1) := by decide +kernel
theorem dL_law_307 : decode cL_law 307 = .ok (.iadd, 1) := by decide +kernel
theorem dL_law_308 : decode cL_law 308 = .ok (.iaload, 1) := by decide +kernel
theorem dL_law_309 : decode cL_law 309 = .ok (.aload_n 0, 1) := by decide +kernel
theorem dL_law_310 : decode cL_law 310 = .ok (.iload_n 3, 1) := by decide +kernel
theorem dL_law_311 : decode cL_law 311 = .ok (.iconst 2, 1) := by decide +kernel
theorem dL_law_312 : decode cL_law 312 = .ok (.iadd, 1) := by decide +kernel
theorem dL_law_313 : decode cL_law 313 = .ok (.iaload, 1) := by decide +kernel
theorem dL_law_314 : decode cL_law 314 = .ok (.invokevirtual 38, 3) := by decide +kernel
theorem dL_law_317 : decode cL_law 317 = .ok (.if_icmp .eq 513, 3) := by decide +kernel
theorem dL_law_320 : decode cL_law 320 = .ok (.iconst 0, 1) := by decide +kernel
theorem dL_law_321 : decode cL_law 321 = .ok (.ireturn, 1) := by decide +kernel
theorem dL_law_322 : decode cL_law 322 = .ok (.aload_n 1, 1) := by decide +kernel
theorem dL_law_323 : decode cL_law 323 = .ok (.aload_n 0, 1) := by decide +kernel
theorem dL_law_324 : decode cL_law 324 = .ok (.iload_n 3, 1) := by decide +kernel
theorem dL_law_325 : decode cL_law 325 = .ok (.iconst 1, 1) := by decide +kernel
theorem dL_law_326 : decode cL_law 326 = .ok (.iadd, 1) := by decide +kernel
theorem dL_law_327 : decode cL_law 327 = .ok (.iaload, 1) := by decide +kernel
theorem dL_law_328 : decode cL_law 328 = .ok (.invokevirtual 39, 3) := by decide +kernel
theorem dL_law_331 : decode cL_law 331 = .ok (.aload_n 2, 1) := by decide +kernel
theorem dL_law_332 : decode cL_law 332 = .ok (.aload_n 0, 1) := by decide +kernel
theorem dL_law_333 : decode cL_law 333 = .ok (.iload_n 3, 1) := by decide +kernel
theorem dL_law_334 : decode cL_law 334 = .ok (.iconst 1, 1) := by decide +kernel
theorem dL_law_335 : decode cL_law 335 = .ok (.iadd, 1) := by decide +kernel
theorem dL_law_336 : decode cL_law 336 = .ok (.iaload, 1) := by decide +kernel
theorem dL_law_337 : decode cL_law 337 = .ok (.invokevirtual 42, 3) := by decide +kernel
theorem dL_law_340 : decode cL_law 340 = .ok (.if_icmp .eq 490, 3) := by decide +kernel
theorem dL_law_343 : decode cL_law 343 = .ok (.iconst 0, 1) := by decide +kernel
theorem dL_law_344 : decode cL_law 344 = .ok (.ireturn, 1) := by decide +kernel
theorem dL_law_345 : decode cL_law 345 = .ok (.aload_n 1, 1) := by decide +kernel
theorem dL_law_346 : decode cL_law 346 = .ok (.invokevirtual 43, 3) := by decide +kernel
theorem dL_law_349 : decode cL_law 349 = .ok (.aload_n 2, 1) := by decide +kernel
theorem dL_law_350 : decode cL_law 350 = .ok (.invokevirtual 47, 3) := by decide +kernel
theorem dL_law_353 : decode cL_law 353 = .ok (.if_icmp .eq 477, 3) := by decide +kernel
theorem dL_law_356 : decode cL_law 356 = .ok (.iconst 0, 1) := by decide +kernel
theorem dL_law_357 : decode cL_law 357 = .ok (.ireturn, 1) := by decide +kernel
theorem dL_law_358 : decode cL_law 358 = .ok (.aload_n 1, 1) := by decide +kernel
theorem dL_law_359 : decode cL_law 359 = .ok (.invokevirtual 48, 3) := by decide +kernel
theorem dL_law_362 : decode cL_law 362 = .ok (.aload_n 2, 1) := by decide +kernel
theorem dL_law_363 : decode cL_law 363 = .ok (.invokevirtual 51, 3) := by decide +kernel
theorem dL_law_366 : decode cL_law 366 = .ok (.if_icmp .eq 464, 3) := by decide +kernel
theorem dL_law_369 : decode cL_law 369 = .ok (.iconst 0, 1) := by decide +kernel
theorem dL_law_370 : decode cL_law 370 = .ok (.ireturn, 1) := by decide +kernel
theorem dL_law_371 : decode cL_law 371 = .ok (.aload_n 1, 1) := by decide +kernel
theorem dL_law_372 : decode cL_law 372 = .ok (.invokevirtual 52, 3) := by decide +kernel
theorem dL_law_375 : decode cL_law 375 = .ok (.aload_n 2, 1) := by decide +kernel
theorem dL_law_376 : decode cL_law 376 = .ok (.invokevirtual 55, 3) := by decide +kernel
theorem dL_law_379 : decode cL_law 379 = .ok (.if_icmp .eq 451, 3) := by decide +kernel
theorem dL_law_382 : decode cL_law 382 = .ok (.iconst 0, 1) := by decide +kernel
theorem dL_law_383 : decode cL_law 383 = .ok (.ireturn, 1) := by decide +kernel
theorem dL_law_384 : decode cL_law 384 = .ok (.aload_n 1, 1) := by decide +kernel
theorem dL_law_385 : decode cL_law 385 = .ok (.aload_n 0, 1) := by decide +kernel
theorem dL_law_386 : decode cL_law 386 = .ok (.iload_n 3, 1) := by decide +kernel
theorem dL_law_387 : decode cL_law 387 = .ok (.iconst 1, 1) := by decide +kernel
theorem dL_law_388 : decode cL_law 388 = .ok (.iadd, 1) := by decide +kernel
theorem dL_law_389 : decode cL_law 389 = .ok (.iaload, 1) := by decide +kernel
theorem dL_law_390 : decode cL_law 390 = .ok (.invokevirtual 56, 3) := by decide +kernel
theorem dL_law_393 : decode cL_law 393 = .ok (.aload_n 2, 1) := by decide +kernel
theorem dL_law_394 : decode cL_law 394 = .ok (.aload_n 0, 1) := by decide +kernel
theorem dL_law_395 : decode cL_law 395 = .ok (.iload_n 3, 1) := by decide +kernel
theorem dL_law_396 : decode cL_law 396 = .ok (.iconst 1, 1) := by decide +kernel
theorem dL_law_397 : decode cL_law 397 = .ok (.iadd, 1) := by decide +kernel
theorem dL_law_398 : decode cL_law 398 = .ok (.iaload, 1) := by decide +kernel
theorem dL_law_399 : decode cL_law 399 = .ok (.invokevirtual 59, 3) := by decide +kernel
theorem dL_law_402 : decode cL_law 402 = .ok (.if_icmp .eq 428, 3) := by decide +kernel
theorem dL_law_405 : decode cL_law 405 = .ok (.iconst 0, 1) := by decide +kernel
theorem dL_law_406 : decode cL_law 406 = .ok (.ireturn, 1) := by decide +kernel
theorem dL_law_407 : decode cL_law 407 = .ok (.aload_n 1, 1) := by decide +kernel
theorem dL_law_408 : decode cL_law 408 = .ok (.aload_n 0, 1) := by decide +kernel
theorem dL_law_409 : decode cL_law 409 = .ok (.iload_n 3, 1) := by decide +kernel
theorem dL_law_410 : decode cL_law 410 = .ok (.iconst 1, 1) := by decide +kernel
theorem dL_law_411 : decode cL_law 411 = .ok (.iadd, 1) := by decide +kernel
theorem dL_law_412 : decode cL_law 412 = .ok (.iaload, 1) := by decide +kernel
theorem dL_law_413 : decode cL_law 413 = .ok (.aload_n 0, 1) := by decide +kernel
theorem dL_law_414 : decode cL_law 414 = .ok (.iload_n 3, 1) := by decide +kernel
theorem dL_law_415 : decode cL_law 415 = .ok (.iconst 2, 1) := by decide +kernel
theorem dL_law_416 : decode cL_law 416 = .ok (.iadd, 1) := by decide +kernel
theorem dL_law_417 : decode cL_law 417 = .ok (.iaload, 1) := by decide +kernel
theorem dL_law_418 : decode cL_law 418 = .ok (.invokevirtual 60, 3) := by decide +kernel
theorem dL_law_421 : decode cL_law 421 = .ok (.aload_n 2, 1) := by decide +kernel
theorem dL_law_422 : decode cL_law 422 = .ok (.aload_n 0, 1) := by decide +kernel
theorem dL_law_423 : decode cL_law 423 = .ok (.iload_n 3, 1) := by decide +kernel
theorem dL_law_424 : decode cL_law 424 = .ok (.iconst 1, 1) := by decide +kernel
theorem dL_law_425 : decode cL_law 425 = .ok (.iadd, 1) := by decide +kernel
theorem dL_law_426 : decode cL_law 426 = .ok (.iaload, 1) := by decide +kernel
theorem dL_law_427 : decode cL_law 427 = .ok (.aload_n 0, 1) := by decide +kernel
theorem dL_law_428 : decode cL_law 428 = .ok (.iload_n 3, 1) := by decide +kernel
theorem dL_law_429 : decode cL_law 429 = .ok (.iconst 2, 1) := by decide +kernel
theorem dL_law_430 : decode cL_law 430 = .ok (.iadd, 1) := by decide +kernel
theorem dL_law_431 : decode cL_law 431 = .ok (.iaload, 1) := by decide +kernel
theorem dL_law_432 : decode cL_law 432 = .ok (.invokevirtual 63, 3) := by decide +kernel
theorem dL_law_435 : decode cL_law 435 = .ok (.if_icmp .eq 395, 3) := by decide +kernel
theorem dL_law_438 : decode cL_law 438 = .ok (.iconst 0, 1) := by decide +kernel
theorem dL_law_439 : decode cL_law 439 = .ok (.ireturn, 1) := by decide +kernel
theorem dL_law_440 : decode cL_law 440 = .ok (.aload_n 1, 1) := by decide +kernel
theorem dL_law_441 : decode cL_law 441 = .ok (.aload_n 0, 1) := by decide +kernel
theorem dL_law_442 : decode cL_law 442 = .ok (.iload_n 3, 1) := by decide +kernel
theorem dL_law_443 : decode cL_law 443 = .ok (.iconst 1, 1) := by decide +kernel
theorem dL_law_444 : decode cL_law 444 = .ok (.iadd, 1) := by decide +kernel
theorem dL_law_445 : decode cL_law 445 = .ok (.iaload, 1) := by decide +kernel
theorem dL_law_446 : decode cL_law 446 = .ok (.aload_n 0, 1) := by decide +kernel
theorem dL_law_447 : decode cL_law 447 = .ok (.iload_n 3, 1) := by decide +kernel
theorem dL_law_448 : decode cL_law 448 = .ok (.iconst 2, 1) := by decide +kernel
theorem dL_law_449 : decode cL_law 449 = .ok (.iadd, 1) := by decide +kernel
theorem dL_law_450 : decode cL_law 450 = .ok (.iaload, 1) := by decide +kernel
theorem dL_law_451 : decode cL_law 451 = .ok (.invokevirtual 64, 3) := by decide +kernel
theorem dL_law_454 : decode cL_law 454 = .ok (.aload_n 2, 1) := by decide +kernel
theorem dL_law_455 : decode cL_law 455 = .ok (.aload_n 0, 1) := by decide +kernel
theorem dL_law_456 : decode cL_law 456 = .ok (.iload_n 3, 1) := by decide +kernel
theorem dL_law_457 : decode cL_law 457 = .ok (.iconst 1, 1) := by decide +kernel
theorem dL_law_458 : decode cL_law 458 = .ok (.iadd, 1) := by decide +kernel
theorem dL_law_459 : decode cL_law 459 = .ok (.iaload, 1) := by decide +kernel
theorem dL_law_460 : decode cL_law 460 = .ok (.aload_n 0, 1) := by decide +kernel
theorem dL_law_461 : decode cL_law 461 = .ok (.iload_n 3, 1) := by decide +kernel
theorem dL_law_462 : decode cL_law 462 = .ok (.iconst 2, 1) := by decide +kernel
theorem dL_law_463 : decode cL_law 463 = .ok (.iadd, 1) := by decide +kernel
theorem dL_law_464 : decode cL_law 464 = .ok (.iaload, 1) := by decide +kernel
theorem dL_law_465 : decode cL_law 465 = .ok (.invokevirtual 67, 3) := by decide +kernel
theorem dL_law_468 : decode cL_law 468 = .ok (.if_icmp .eq 362, 3) := by decide +kernel
theorem dL_law_471 : decode cL_law 471 = .ok (.iconst 0, 1) := by decide +kernel
theorem dL_law_472 : decode cL_law 472 = .ok (.ireturn, 1) := by decide +kernel
theorem dL_law_473 : decode cL_law 473 = .ok (.aload_n 1, 1) := by decide +kernel
theorem dL_law_474 : decode cL_law 474 = .ok (.aload_n 0, 1) := by decide +kernel
theorem dL_law_475 : decode cL_law 475 = .ok (.iload_n 3, 1) := by decide +kernel
theorem dL_law_476 : decode cL_law 476 = .ok (.iconst 1, 1) := by decide +kernel
theorem dL_law_477 : decode cL_law 477 = .ok (.iadd, 1) := by decide +kernel
theorem dL_law_478 : decode cL_law 478 = .ok (.iaload, 1) := by decide +kernel
theorem dL_law_479 : decode cL_law 479 = .ok (.aload_n 0, 1) := by decide +kernel
theorem dL_law_480 : decode cL_law 480 = .ok (.iload_n 3, 1) := by decide +kernel
theorem dL_law_481 : decode cL_law 481 = .ok (.iconst 2, 1) := by decide +kernel
theorem dL_law_482 : decode cL_law 482 = .ok (.iadd, 1) := by decide +kernel
theorem dL_law_483 : decode cL_law 483 = .ok (.iaload, 1) := by decide +kernel
theorem dL_law_484 : decode cL_law 484 = .ok (.aload_n 0, 1) := by decide +kernel
theorem dL_law_485 : decode cL_law 485 = .ok (.iload_n 3, 1) := by decide +kernel
theorem dL_law_486 : decode cL_law 486 = .ok (.iconst 3, 1) := by decide +kernel
theorem dL_law_487 : decode cL_law 487 = .ok (.iadd, 1) := by decide +kernel
theorem dL_law_488 : decode cL_law 488 = .ok (.iaload, 1) := by decide +kernel
theorem dL_law_489 : decode cL_law 489 = .ok (.invokevirtual 68, 3) := by decide +kernel
theorem dL_law_492 : decode cL_law 492 = .ok (.aload_n 2, 1) := by decide +kernel
theorem dL_law_493 : decode cL_law 493 = .ok (.aload_n 0, 1) := by decide +kernel
theorem dL_law_494 : decode cL_law 494 = .ok (.iload_n 3, 1) := by decide +kernel
theorem dL_law_495 : decode cL_law 495 = .ok (.iconst 1, 1) := by decide +kernel
theorem dL_law_496 : decode cL_law 496 = .ok (.iadd, 1) := by decide +kernel
theorem dL_law_497 : decode cL_law 497 = .ok (.iaload, 1) := by decide +kernel
theorem dL_law_498 : decode cL_law 498 = .ok (.aload_n 0, 1) := by decide +kernel
theorem dL_law_499 : decode cL_law 499 = .ok (.iload_n 3, 1) := by decide +kernel
theorem dL_law_500 : decode cL_law 500 = .ok (.iconst 2, 1) := by decide +kernel
theorem dL_law_501 : decode cL_law 501 = .ok (.iadd, 1) := by decide +kernel
theorem dL_law_502 : decode cL_law 502 = .ok (.iaload, 1) := by decide +kernel
theorem dL_law_503 : decode cL_law 503 = .ok (.aload_n 0, 1) := by decide +kernel
theorem dL_law_504 : decode cL_law 504 = .ok (.iload_n 3, 1) := by decide +kernel
theorem dL_law_505 : decode cL_law 505 = .ok (.iconst 3, 1) := by decide +kernel
theorem dL_law_506 : decode cL_law 506 = .ok (.iadd, 1) := by decide +kernel
theorem dL_law_507 : decode cL_law 507 = .ok (.iaload, 1) := by decide +kernel
theorem dL_law_508 : decode cL_law 508 = .ok (.invokevirtual 72, 3) := by decide +kernel
theorem dL_law_511 : decode cL_law 511 = .ok (.if_icmp .eq 319, 3) := by decide +kernel
theorem dL_law_514 : decode cL_law 514 = .ok (.iconst 0, 1) := by decide +kernel
theorem dL_law_515 : decode cL_law 515 = .ok (.ireturn, 1) := by decide +kernel
theorem dL_law_516 : decode cL_law 516 = .ok (.aload_n 1, 1) := by decide +kernel
theorem dL_law_517 : decode cL_law 517 = .ok (.aload_n 0, 1) := by decide +kernel
theorem dL_law_518 : decode cL_law 518 = .ok (.iload_n 3, 1) := by decide +kernel
theorem dL_law_519 : decode cL_law 519 = .ok (.iconst 1, 1) := by decide +kernel
theorem dL_law_520 : decode cL_law 520 = .ok (.iadd, 1) := by decide +kernel
theorem dL_law_521 : decode cL_law 521 = .ok (.iaload, 1) := by decide +kernel
theorem dL_law_522 : decode cL_law 522 = .ok (.invokevirtual 73, 3) := by decide +kernel
theorem dL_law_525 : decode cL_law 525 = .ok (.aload_n 2, 1) := by decide +kernel
theorem dL_law_526 : decode cL_law 526 = .ok (.aload_n 0, 1) := by decide +kernel
theorem dL_law_527 : decode cL_law 527 = .ok (.iload_n 3, 1) := by decide +kernel
theorem dL_law_528 : decode cL_law 528 = .ok (.iconst 1, 1) := by decide +kernel
theorem dL_law_529 : decode cL_law 529 = .ok (.iadd, 1) := by decide +kernel
theorem dL_law_530 : decode cL_law 530 = .ok (.iaload, 1) := by decide +kernel
theorem dL_law_531 : decode cL_law 531 = .ok (.invokevirtual 76, 3) := by decide +kernel
theorem dL_law_534 : decode cL_law 534 = .ok (.if_icmp .eq 296, 3) := by decide +kernel
theorem dL_law_537 : decode cL_law 537 = .ok (.iconst 0, 1) := by decide +kernel
theorem dL_law_538 : decode cL_law 538 = .ok (.ireturn, 1) := by decide +kernel
theorem dL_law_539 : decode cL_law 539 = .ok (.aload_n 1, 1) := by decide +kernel
theorem dL_law_540 : decode cL_law 540 = .ok (.aload_n 0, 1) := by decide +kernel
theorem dL_law_541 : decode cL_law 541 = .ok (.iload_n 3, 1) := by decide +kernel
theorem dL_law_542 : decode cL_law 542 = .ok (.iconst 1, 1) := by decide +kernel
theorem dL_law_543 : decode cL_law 543 = .ok (.iadd, 1) := by decide +kernel
theorem dL_law_544 : decode cL_law 544 = .ok (.iaload, 1) := by decide +kernel
theorem dL_law_545 : decode cL_law 545 = .ok (.invokevirtual 77, 3) := by decide +kernel
theorem dL_law_548 : decode cL_law 548 = .ok (.aload_n 2, 1) := by decide +kernel
theorem dL_law_549 : decode cL_law 549 = .ok (.aload_n 0, 1) := by decide +kernel
theorem dL_law_550 : decode cL_law 550 = .ok (.iload_n 3, 1) := by decide +kernel
theorem dL_law_551 : decode cL_law 551 = .ok (.iconst 1, 1) := by decide +kernel
theorem dL_law_552 : decode cL_law 552 = .ok (.iadd, 1) := by decide +kernel
theorem dL_law_553 : decode cL_law 553 = .ok (.iaload, 1) := by decide +kernel
theorem dL_law_554 : decode cL_law 554 = .ok (.invokevirtual 80, 3) := by decide +kernel
theorem dL_law_557 : decode cL_law 557 = .ok (.if_icmp .eq 273, 3) := by decide +kernel
theorem dL_law_560 : decode cL_law 560 = .ok (.iconst 0, 1) := by decide +kernel
theorem dL_law_561 : decode cL_law 561 = .ok (.ireturn, 1) := by decide +kernel
theorem dL_law_562 : decode cL_law 562 = .ok (.aload_n 1, 1) := by decide +kernel
theorem dL_law_563 : decode cL_law 563 = .ok (.invokevirtual 81, 3) := by decide +kernel
theorem dL_law_566 : decode cL_law 566 = .ok (.dstore 4, 2) := by decide +kernel
theorem dL_law_568 : decode cL_law 568 = .ok (.aload_n 2, 1) := by decide +kernel
theorem dL_law_569 : decode cL_law 569 = .ok (.invokevirtual 85, 3) := by decide +kernel
theorem dL_law_572 : decode cL_law 572 = .ok (.dstore 6, 2) := by decide +kernel
theorem dL_law_574 : decode cL_law 574 = .ok (.dload 4, 2) := by decide +kernel
theorem dL_law_576 : decode cL_law 576 = .ok (.dload 6, 2) := by decide +kernel
theorem dL_law_578 : decode cL_law 578 = .ok (.dcmp .l, 1) := by decide +kernel
theorem dL_law_579 : decode cL_law 579 = .ok (.ifCond .eq 21, 3) := by decide +kernel
theorem dL_law_582 : decode cL_law 582 = .ok (.dload 4, 2) := by decide +kernel
theorem dL_law_584 : decode cL_law 584 = .ok (.dload 4, 2) := by decide +kernel
theorem dL_law_586 : decode cL_law 586 = .ok (.dcmp .l, 1) := by decide +kernel
theorem dL_law_587 : decode cL_law 587 = .ok (.ifCond .eq 11, 3) := by decide +kernel
theorem dL_law_590 : decode cL_law 590 = .ok (.dload 6, 2) := by decide +kernel
theorem dL_law_592 : decode cL_law 592 = .ok (.dload 6, 2) := by decide +kernel
theorem dL_law_594 : decode cL_law 594 = .ok (.dcmp .l, 1) := by decide +kernel
theorem dL_law_595 : decode cL_law 595 = .ok (.ifCond .ne 5, 3) := by decide +kernel
theorem dL_law_598 : decode cL_law 598 = .ok (.iconst 0, 1) := by decide +kernel
theorem dL_law_599 : decode cL_law 599 = .ok (.ireturn, 1) := by decide +kernel
theorem dL_law_600 : decode cL_law 600 = .ok (.goto 230, 3) := by decide +kernel
theorem dL_law_603 : decode cL_law 603 = .ok (.aload_n 1, 1) := by decide +kernel
theorem dL_law_604 : decode cL_law 604 = .ok (.aload_n 0, 1) := by decide +kernel
theorem dL_law_605 : decode cL_law 605 = .ok (.iload_n 3, 1) := by decide +kernel
theorem dL_law_606 : decode cL_law 606 = .ok (.iconst 1, 1) := by decide +kernel
theorem dL_law_607 : decode cL_law 607 = .ok (.iadd, 1) := by decide +kernel
theorem dL_law_608 : decode cL_law 608 = .ok (.iaload, 1) := by decide +kernel
theorem dL_law_609 : decode cL_law 609 = .ok (.aload_n 0, 1) := by decide +kernel
theorem dL_law_610 : decode cL_law 610 = .ok (.iload_n 3, 1) := by decide +kernel
theorem dL_law_611 : decode cL_law 611 = .ok (.iconst 2, 1) := by decide +kernel
theorem dL_law_612 : decode cL_law 612 = .ok (.iadd, 1) := by decide +kernel
theorem dL_law_613 : decode cL_law 613 = .ok (.iaload, 1) := by decide +kernel
theorem dL_law_614 : decode cL_law 614 = .ok (.aload_n 0, 1) := by decide +kernel
theorem dL_law_615 : decode cL_law 615 = .ok (.iload_n 3, 1) := by decide +kernel
theorem dL_law_616 : decode cL_law 616 = .ok (.iconst 3, 1) := by decide +kernel
theorem dL_law_617 : decode cL_law 617 = .ok (.iadd, 1) := by decide +kernel
theorem dL_law_618 : decode cL_law 618 = .ok (.iaload, 1) := by decide +kernel
theorem dL_law_619 : decode cL_law 619 = .ok (.ifCond .eq 7, 3) := by decide +kernel
theorem dL_law_622 : decode cL_law 622 = .ok (.iconst 1, 1) := by decide +kernel
theorem dL_law_623 : decode cL_law 623 = .ok (.goto 4, 3) := by decide +kernel
theorem dL_law_626 : decode cL_law 626 = .ok (.iconst 0, 1) := by decide +kernel
theorem dL_law_627 : decode cL_law 627 = .ok (.invokevirtual 86, 3) := by decide +kernel
theorem dL_law_630 : decode cL_law 630 = .ok (.aload_n 2, 1) := by decide +kernel
theorem dL_law_631 : decode cL_law 631 = .ok (.aload_n 0, 1) := by decide +kernel
theorem dL_law_632 : decode cL_law 632 = .ok (.iload_n 3, 1) := by decide +kernel
theorem dL_law_633 : decode cL_law 633 = .ok (.iconst 1, 1) := by decide +kernel
theorem dL_law_634 : decode cL_law 634 = .ok (.iadd, 1) := by decide +kernel
theorem dL_law_635 : decode cL_law 635 = .ok (.iaload, 1) := by decide +kernel
theorem dL_law_636 : decode cL_law 636 = .ok (.aload_n 0, 1) := by decide +kernel
theorem dL_law_637 : decode cL_law 637 = .ok (.iload_n 3, 1) := by decide +kernel
theorem dL_law_638 : decode cL_law 638 = .ok (.iconst 2, 1) := by decide +kernel
theorem dL_law_639 : decode cL_law 639 = .ok (.iadd, 1) := by decide +kernel
theorem dL_law_640 : decode cL_law 640 = .ok (.iaload, 1) := by decide +kernel
theorem dL_law_641 : decode cL_law 641 = .ok (.aload_n 0, 1) := by decide +kernel
theorem dL_law_642 : decode cL_law 642 = .ok (.iload_n 3, 1) := by decide +kernel
theorem dL_law_643 : decode cL_law 643 = .ok (.iconst 3, 1) := by decide +kernel
theorem dL_law_644 : decode cL_law 644 = .ok (.iadd, 1) := by decide +kernel
theorem dL_law_645 : decode cL_law 645 = .ok (.iaload, 1) := by decide +kernel
theorem dL_law_646 : decode cL_law 646 = .ok (.ifCond .eq 7, 3) := by decide +kernel
theorem dL_law_649 : decode cL_law 649 = .ok (.iconst 1, 1) := by decide +kernel
theorem dL_law_650 : decode cL_law 650 = .ok (.goto 4, 3) := by decide +kernel
theorem dL_law_653 : decode cL_law 653 = .ok (.iconst 0, 1) := by decide +kernel
theorem dL_law_654 : decode cL_law 654 = .ok (.invokevirtual 90, 3) := by decide +kernel
theorem dL_law_657 : decode cL_law 657 = .ok (.if_icmp .eq 173, 3) := by decide +kernel
theorem dL_law_660 : decode cL_law 660 = .ok (.iconst 0, 1) := by decide +kernel
theorem dL_law_661 : decode cL_law 661 = .ok (.ireturn, 1) := by decide +kernel
theorem dL_law_662 : decode cL_law 662 = .ok (.aload_n 1, 1) := by decide +kernel
theorem dL_law_663 : decode cL_law 663 = .ok (.aload_n 0, 1) := by decide +kernel
theorem dL_law_664 : decode cL_law 664 = .ok (.iload_n 3, 1) := by decide +kernel
theorem dL_law_665 : decode cL_law 665 = .ok (.iconst 1, 1) := by decide +kernel
theorem dL_law_666 : decode cL_law 666 = .ok (.iadd, 1) := by decide +kernel
theorem dL_law_667 : decode cL_law 667 = .ok (.iaload, 1) := by decide +kernel
theorem dL_law_668 : decode cL_law 668 = .ok (.aload_n 0, 1) := by decide +kernel
theorem dL_law_669 : decode cL_law 669 = .ok (.iload_n 3, 1) := by decide +kernel
theorem dL_law_670 : decode cL_law 670 = .ok (.iconst 2, 1) := by decide +kernel
theorem dL_law_671 : decode cL_law 671 = .ok (.iadd, 1) := by decide +kernel
theorem dL_law_672 : decode cL_law 672 = .ok (.iaload, 1) := by decide +kernel
theorem dL_law_673 : decode cL_law 673 = .ok (.aload_n 0, 1) := by decide +kernel
theorem dL_law_674 : decode cL_law 674 = .ok (.iload_n 3, 1) := by decide +kernel
theorem dL_law_675 : decode cL_law 675 = .ok (.iconst 3, 1) := by decide +kernel
theorem dL_law_676 : decode cL_law 676 = .ok (.iadd, 1) := by decide +kernel
theorem dL_law_677 : decode cL_law 677 = .ok (.iaload, 1) := by decide +kernel
theorem dL_law_678 : decode cL_law 678 = .ok (.aload_n 0, 1) := by decide +kernel
theorem dL_law_679 : decode cL_law 679 = .ok (.iload_n 3, 1) := by decide +kernel
theorem dL_law_680 : decode cL_law 680 = .ok (.iconst 4, 1) := by decide +kernel
theorem dL_law_681 : decode cL_law 681 = .ok (.iadd, 1) := by decide +kernel
theorem dL_law_682 : decode cL_law 682 = .ok (.iaload, 1) := by decide +kernel
theorem dL_law_683 : decode cL_law 683 = .ok (.invokevirtual 91, 3) := by decide +kernel
theorem dL_law_686 : decode cL_law 686 = .ok (.aload_n 2, 1) := by decide +kernel
theorem dL_law_687 : decode cL_law 687 = .ok (.aload_n 0, 1) := by decide +kernel
theorem dL_law_688 : decode cL_law 688 = .ok (.iload_n 3, 1) := by decide +kernel
theorem dL_law_689 : decode cL_law 689 = .ok (.iconst 1, 1) := by decide +kernel
theorem dL_law_690 : decode cL_law 690 = .ok (.iadd, 1) := by decide +kernel
theorem dL_law_691 : decode cL_law 691 = .ok (.iaload, 1) := by decide +kernel
theorem dL_law_692 : decode cL_law 692 = .ok (.aload_n 0, 1) := by decide +kernel
theorem dL_law_693 : decode cL_law 693 = .ok (.iload_n 3, 1) := by decide +kernel
theorem dL_law_694 : decode cL_law 694 = .ok (.iconst 2, 1) := by decide +kernel
theorem dL_law_695 : decode cL_law 695 = .ok (.iadd, 1) := by decide +kernel
theorem dL_law_696 : decode cL_law 696 = .ok (.iaload, 1) := by decide +kernel
theorem dL_law_697 : decode cL_law 697 = .ok (.aload_n 0, 1) := by decide +kernel
theorem dL_law_698 : decode cL_law 698 = .ok (.iload_n 3, 1) := by decide +kernel
theorem dL_law_699 : decode cL_law 699 = .ok (.iconst 3, 1) := by decide +kernel
theorem dL_law_700 : decode cL_law 700 = .ok (.iadd, 1) := by decide +kernel
theorem dL_law_701 : decode cL_law 701 = .ok (.iaload, 1) := by decide +kernel
theorem dL_law_702 : decode cL_law 702 = .ok (.aload_n 0, 1) := by decide +kernel
theorem dL_law_703 : decode cL_law 703 = .ok (.iload_n 3, 1) := by decide +kernel
theorem dL_law_704 : decode cL_law 704 = .ok (.iconst 4, 1) := by decide +kernel
theorem dL_law_705 : decode cL_law 705 = .ok (.iadd, 1) := by decide +kernel
theorem dL_law_706 : decode cL_law 706 = .ok (.iaload, 1) := by decide +kernel
theorem dL_law_707 : decode cL_law 707 = .ok (.invokevirtual 95, 3) := by decide +kernel
theorem dL_law_710 : decode cL_law 710 = .ok (.if_icmp .eq 120, 3) := by decide +kernel
theorem dL_law_713 : decode cL_law 713 = .ok (.iconst 0, 1) := by decide +kernel
theorem dL_law_714 : decode cL_law 714 = .ok (.ireturn, 1) := by decide +kernel
theorem dL_law_715 : decode cL_law 715 = .ok (.aload_n 1, 1) := by decide +kernel
theorem dL_law_716 : decode cL_law 716 = .ok (.aload_n 0, 1) := by decide +kernel
theorem dL_law_717 : decode cL_law 717 = .ok (.iload_n 3, 1) := by decide +kernel
theorem dL_law_718 : decode cL_law 718 = .ok (.iconst 1, 1) := by decide +kernel
theorem dL_law_719 : decode cL_law 719 = .ok (.iadd, 1) := by decide +kernel
theorem dL_law_720 : decode cL_law 720 = .ok (.iaload, 1) := by decide +kernel
theorem dL_law_721 : decode cL_law 721 = .ok (.aload_n 0, 1) := by decide +kernel
theorem dL_law_722 : decode cL_law 722 = .ok (.iload_n 3, 1) := by decide +kernel
theorem dL_law_723 : decode cL_law 723 = .ok (.iconst 2, 1) := by decide +kernel
theorem dL_law_724 : decode cL_law 724 = .ok (.iadd, 1) := by decide +kernel
theorem dL_law_725 : decode cL_law 725 = .ok (.iaload, 1) := by decide +kernel
theorem dL_law_726 : decode cL_law 726 = .ok (.invokevirtual 96, 3) := by decide +kernel
theorem dL_law_729 : decode cL_law 729 = .ok (.aload_n 2, 1) := by decide +kernel
theorem dL_law_730 : decode cL_law 730 = .ok (.aload_n 0, 1) := by decide +kernel
theorem dL_law_731 : decode cL_law 731 = .ok (.iload_n 3, 1) := by decide +kernel
theorem dL_law_732 : decode cL_law 732 = .ok (.iconst 1, 1) := by decide +kernel
theorem dL_law_733 : decode cL_law 733 = .ok (.iadd, 1) := by decide +kernel
theorem dL_law_734 : decode cL_law 734 = .ok (.iaload, 1) := by decide +kernel
theorem dL_law_735 : decode cL_law 735 = .ok (.aload_n 0, 1) := by decide +kernel
theorem dL_law_736 : decode cL_law 736 = .ok (.iload_n 3, 1) := by decide +kernel
theorem dL_law_737 : decode cL_law 737 = .ok (.iconst 2, 1) := by decide +kernel
theorem dL_law_738 : decode cL_law 738 = .ok (.iadd, 1) := by decide +kernel
theorem dL_law_739 : decode cL_law 739 = .ok (.iaload, 1) := by decide +kernel
theorem dL_law_740 : decode cL_law 740 = .ok (.invokevirtual 99, 3) := by decide +kernel
theorem dL_law_743 : decode cL_law 743 = .ok (.if_icmp .eq 87, 3) := by decide +kernel
theorem dL_law_746 : decode cL_law 746 = .ok (.iconst 0, 1) := by decide +kernel
theorem dL_law_747 : decode cL_law 747 = .ok (.ireturn, 1) := by decide +kernel
theorem dL_law_748 : decode cL_law 748 = .ok (.aload_n 1, 1) := by decide +kernel
theorem dL_law_749 : decode cL_law 749 = .ok (.aload_n 0, 1) := by decide +kernel
theorem dL_law_750 : decode cL_law 750 = .ok (.iload_n 3, 1) := by decide +kernel
theorem dL_law_751 : decode cL_law 751 = .ok (.iconst 1, 1) := by decide +kernel
theorem dL_law_752 : decode cL_law 752 = .ok (.iadd, 1) := by decide +kernel
theorem dL_law_753 : decode cL_law 753 = .ok (.iaload, 1) := by decide +kernel
theorem dL_law_754 : decode cL_law 754 = .ok (.aload_n 0, 1) := by decide +kernel
theorem dL_law_755 : decode cL_law 755 = .ok (.iload_n 3, 1) := by decide +kernel
theorem dL_law_756 : decode cL_law 756 = .ok (.iconst 2, 1) := by decide +kernel
theorem dL_law_757 : decode cL_law 757 = .ok (.iadd, 1) := by decide +kernel
theorem dL_law_758 : decode cL_law 758 = .ok (.iaload, 1) := by decide +kernel
theorem dL_law_759 : decode cL_law 759 = .ok (.aload_n 0, 1) := by decide +kernel
theorem dL_law_760 : decode cL_law 760 = .ok (.iload_n 3, 1) := by decide +kernel
theorem dL_law_761 : decode cL_law 761 = .ok (.iconst 3, 1) := by decide +kernel
theorem dL_law_762 : decode cL_law 762 = .ok (.iadd, 1) := by decide +kernel
theorem dL_law_763 : decode cL_law 763 = .ok (.iaload, 1) := by decide +kernel
theorem dL_law_764 : decode cL_law 764 = .ok (.invokevirtual 100, 3) := by decide +kernel
theorem dL_law_767 : decode cL_law 767 = .ok (.aload_n 2, 1) := by decide +kernel
theorem dL_law_768 : decode cL_law 768 = .ok (.aload_n 0, 1) := by decide +kernel
theorem dL_law_769 : decode cL_law 769 = .ok (.iload_n 3, 1) := by decide +kernel
theorem dL_law_770 : decode cL_law 770 = .ok (.iconst 1, 1) := by decide +kernel
theorem dL_law_771 : decode cL_law 771 = .ok (.iadd, 1) := by decide +kernel
theorem dL_law_772 : decode cL_law 772 = .ok (.iaload, 1) := by decide +kernel
theorem dL_law_773 : decode cL_law 773 = .ok (.aload_n 0, 1) := by decide +kernel
theorem dL_law_774 : decode cL_law 774 = .ok (.iload_n 3, 1) := by decide +kernel
theorem dL_law_775 : decode cL_law 775 = .ok (.iconst 2, 1) := by decide +kernel
theorem dL_law_776 : decode cL_law 776 = .ok (.iadd, 1) := by decide +kernel
theorem dL_law_777 : decode cL_law 777 = .ok (.iaload, 1) := by decide +kernel
theorem dL_law_778 : decode cL_law 778 = .ok (.aload_n 0, 1) := by decide +kernel
theorem dL_law_779 : decode cL_law 779 = .ok (.iload_n 3, 1) := by decide +kernel
theorem dL_law_780 : decode cL_law 780 = .ok (.iconst 3, 1) := by decide +kernel
theorem dL_law_781 : decode cL_law 781 = .ok (.iadd, 1) := by decide +kernel
theorem dL_law_782 : decode cL_law 782 = .ok (.iaload, 1) := by decide +kernel
theorem dL_law_783 : decode cL_law 783 = .ok (.invokevirtual 103, 3) := by decide +kernel
theorem dL_law_786 : decode cL_law 786 = .ok (.if_icmp .eq 44, 3) := by decide +kernel
theorem dL_law_789 : decode cL_law 789 = .ok (.iconst 0, 1) := by decide +kernel
theorem dL_law_790 : decode cL_law 790 = .ok (.ireturn, 1) := by decide +kernel
theorem dL_law_791 : decode cL_law 791 = .ok (.aload_n 1, 1) := by decide +kernel
theorem dL_law_792 : decode cL_law 792 = .ok (.invokevirtual 104, 3) := by decide +kernel
theorem dL_law_795 : decode cL_law 795 = .ok (.aload_n 2, 1) := by decide +kernel
theorem dL_law_796 : decode cL_law 796 = .ok (.invokevirtual 107, 3) := by decide +kernel
theorem dL_law_799 : decode cL_law 799 = .ok (.if_icmp .eq 31, 3) := by decide +kernel
theorem dL_law_802 : decode cL_law 802 = .ok (.iconst 0, 1) := by decide +kernel
theorem dL_law_803 : decode cL_law 803 = .ok (.ireturn, 1) := by decide +kernel
theorem dL_law_804 : decode cL_law 804 = .ok (.aload_n 1, 1) := by decide +kernel
theorem dL_law_805 : decode cL_law 805 = .ok (.invokevirtual 108, 3) := by decide +kernel
theorem dL_law_808 : decode cL_law 808 = .ok (.aload_n 2, 1) := by decide +kernel
theorem dL_law_809 : decode cL_law 809 = .ok (.invokevirtual 111, 3) := by decide +kernel
theorem dL_law_812 : decode cL_law 812 = .ok (.if_icmp .eq 18, 3) := by decide +kernel
theorem dL_law_815 : decode cL_law 815 = .ok (.iconst 0, 1) := by decide +kernel
theorem dL_law_816 : decode cL_law 816 = .ok (.ireturn, 1) := by decide +kernel
theorem dL_law_817 : decode cL_law 817 = .ok (.aload_n 1, 1) := by decide +kernel
theorem dL_law_818 : decode cL_law 818 = .ok (.invokevirtual 112, 3) := by decide +kernel
theorem dL_law_821 : decode cL_law 821 = .ok (.aload_n 2, 1) := by decide +kernel
theorem dL_law_822 : decode cL_law 822 = .ok (.invokevirtual 115, 3) := by decide +kernel
theorem dL_law_825 : decode cL_law 825 = .ok (.if_icmp .eq 5, 3) := by decide +kernel
theorem dL_law_828 : decode cL_law 828 = .ok (.iconst 0, 1) := by decide +kernel
theorem dL_law_829 : decode cL_law 829 = .ok (.ireturn, 1) := by decide +kernel
theorem dL_law_830 : decode cL_law 830 = .ok (.iinc 3 5, 3) := by decide +kernel
theorem dL_law_833 : decode cL_law 833 = .ok (.goto (-815), 3) := by decide +kernel
theorem dL_law_836 : decode cL_law 836 = .ok (.iconst 1, 1) := by decide +kernel
theorem dL_law_837 : decode cL_law 837 = .ok (.ireturn, 1) := by decide +kernel
end
section
/-- all the words that our contracts stand on: those of the tables that a call keeps -/
def lwA : List Cond := lw_tbl.filter goodWord
theorem lwA_mem {w : Cond} (h : w ∈ lw_tbl) (hg : goodWord w = true) : w ∈ lwA := List.mem_filter.mpr ⟨h, hg⟩
theorem lwA_tbl : ∀ w ∈ lwA, w ∈ lw_tbl := fun _ h => (List.mem_filter.mp h).1
theorem lwA_good : ∀ w ∈ lwA, goodWord w = true := fun _ h => (List.mem_filter.mp h).2
theorem gA_cons {w0 w : Cond} (h : w ∈ lwA) : GoodIn (w0 :: lwA) (w :: lwA) := fun x hx => ⟨by rcases List.mem_cons.mp hx with rfl | h1 <;> exact List.mem_cons_of_mem _ (by assumption), good_of_word (by rcases List.mem_cons.mp hx with rfl | h1 <;> exact lwA_good _ (by assumption))⟩
theorem gA {w : Cond} (h : w ∈ lwA) : GoodIn lwA (w :: lwA) := fun x hx => ⟨by rcases List.mem_cons.mp hx with rfl | h1 <;> assumption, good_of_word (by rcases List.mem_cons.mp hx with rfl | h1 <;> exact lwA_good _ (by assumption))⟩
theorem wd_sel_yX1_useToner : (.selects RX1 yX1_useToner yX1_useToner : Cond) ∈ lwA := lwA_mem (List.mem_of_getElem? (i := 0) (by decide +kernel)) (by decide +kernel)
theorem wd_sel_yX1_settleToner : (.selects RX1 yX1_settleToner yX1_settleToner : Cond) ∈ lwA := lwA_mem (List.mem_of_getElem? (i := 1) (by decide +kernel)) (by decide +kernel)
theorem wd_sel_yX2_readDeed : (.selects RX2 yX2_readDeed yX2_readDeed : Cond) ∈ lwA := lwA_mem (List.mem_of_getElem? (i := 2) (by decide +kernel)) (by decide +kernel)
theorem wd_sel_yX2_read : (.selects RX2 yX2_read yX2_read : Cond) ∈ lwA := lwA_mem (List.mem_of_getElem? (i := 3) (by decide +kernel)) (by decide +kernel)
theorem wd_sel_yX2_readPrinting : (.selects RX2 yX2_readPrinting yX2_readPrinting : Cond) ∈ lwA := lwA_mem (List.mem_of_getElem? (i := 4) (by decide +kernel)) (by decide +kernel)
theorem wd_sel_yX2_readBelow : (.selects RX2 yX2_readBelow yX2_readBelow : Cond) ∈ lwA := lwA_mem (List.mem_of_getElem? (i := 5) (by decide +kernel)) (by decide +kernel)
theorem wd_sel_yX2_readNumber : (.selects RX2 yX2_readNumber yX2_readNumber : Cond) ∈ lwA := lwA_mem (List.mem_of_getElem? (i := 6) (by decide +kernel)) (by decide +kernel)
theorem wd_sel_yX2_readShaking : (.selects RX2 yX2_readShaking yX2_readShaking : Cond) ∈ lwA := lwA_mem (List.mem_of_getElem? (i := 7) (by decide +kernel)) (by decide +kernel)
theorem wd_sel_yX2_readMoving : (.selects RX2 yX2_readMoving yX2_readMoving : Cond) ∈ lwA := lwA_mem (List.mem_of_getElem? (i := 8) (by decide +kernel)) (by decide +kernel)
theorem wd_sel_yX4_doDeed : (.selects RX4 yX4_doDeed yX4_doDeed : Cond) ∈ lwA := lwA_mem (List.mem_of_getElem? (i := 9) (by decide +kernel)) (by decide +kernel)
theorem wd_sel_yX4_printPagesOf : (.selects RX4 yX4_printPagesOf yX4_printPagesOf : Cond) ∈ lwA := lwA_mem (List.mem_of_getElem? (i := 10) (by decide +kernel)) (by decide +kernel)
theorem wd_sel_yX5_records : (.selects RX5 yX5_records yX5_records : Cond) ∈ lwA := lwA_mem (List.mem_of_getElem? (i := 11) (by decide +kernel)) (by decide +kernel)
theorem wd_sel_yX5_prints : (.selects RX5 yX5_prints yX5_prints : Cond) ∈ lwA := lwA_mem (List.mem_of_getElem? (i := 12) (by decide +kernel)) (by decide +kernel)
theorem wd_sel_yX5_reason : (.selects RX5 yX5_reason yX5_reason : Cond) ∈ lwA := lwA_mem (List.mem_of_getElem? (i := 13) (by decide +kernel)) (by decide +kernel)
theorem wd_sel_yX5_need : (.selects RX5 yX5_need yX5_need : Cond) ∈ lwA := lwA_mem (List.mem_of_getElem? (i := 14) (by decide +kernel)) (by decide +kernel)
theorem wd_sel_yX5_counted : (.selects RX5 yX5_counted yX5_counted : Cond) ∈ lwA := lwA_mem (List.mem_of_getElem? (i := 15) (by decide +kernel)) (by decide +kernel)
theorem wd_sel_yX5_shakes : (.selects RX5 yX5_shakes yX5_shakes : Cond) ∈ lwA := lwA_mem (List.mem_of_getElem? (i := 16) (by decide +kernel)) (by decide +kernel)
theorem wd_sel_yX5_moves : (.selects RX5 yX5_moves yX5_moves : Cond) ∈ lwA := lwA_mem (List.mem_of_getElem? (i := 17) (by decide +kernel)) (by decide +kernel)
theorem wd_sel_yX5_where : (.selects RX5 yX5_where yX5_where : Cond) ∈ lwA := lwA_mem (List.mem_of_getElem? (i := 18) (by decide +kernel)) (by decide +kernel)
theorem wd_sel_yX5_takes : (.selects RX5 yX5_takes yX5_takes : Cond) ∈ lwA := lwA_mem (List.mem_of_getElem? (i := 19) (by decide +kernel)) (by decide +kernel)
theorem wd_sel_yX5_tonerOf : (.selects RX5 yX5_tonerOf yX5_tonerOf : Cond) ∈ lwA := lwA_mem (List.mem_of_getElem? (i := 20) (by decide +kernel)) (by decide +kernel)
theorem wd_sel_yX5_isJob : (.selects RX5 yX5_isJob yX5_isJob : Cond) ∈ lwA := lwA_mem (List.mem_of_getElem? (i := 21) (by decide +kernel)) (by decide +kernel)
theorem wd_sel_yX5_deed : (.selects RX5 yX5_deed yX5_deed : Cond) ∈ lwA := lwA_mem (List.mem_of_getElem? (i := 22) (by decide +kernel)) (by decide +kernel)
theorem wd_sel_yX5_next : (.selects RX5 yX5_next yX5_next : Cond) ∈ lwA := lwA_mem (List.mem_of_getElem? (i := 23) (by decide +kernel)) (by decide +kernel)
theorem wd_sel_yX5_digit : (.selects RX5 yX5_digit yX5_digit : Cond) ∈ lwA := lwA_mem (List.mem_of_getElem? (i := 24) (by decide +kernel)) (by decide +kernel)
theorem wd_sel_yX5_sign : (.selects RX5 yX5_sign yX5_sign : Cond) ∈ lwA := lwA_mem (List.mem_of_getElem? (i := 25) (by decide +kernel)) (by decide +kernel)
theorem wd_sel_yX5_number : (.selects RX5 yX5_number yX5_number : Cond) ∈ lwA := lwA_mem (List.mem_of_getElem? (i := 26) (by decide +kernel)) (by decide +kernel)
theorem wd_sel_yX5_pages : (.selects RX5 yX5_pages yX5_pages : Cond) ∈ lwA := lwA_mem (List.mem_of_getElem? (i := 27) (by decide +kernel)) (by decide +kernel)
theorem wd_sel_yX5_scale : (.selects RX5 yX5_scale yX5_scale : Cond) ∈ lwA := lwA_mem (List.mem_of_getElem? (i := 28) (by decide +kernel)) (by decide +kernel)
theorem wd_sel_yX5_left : (.selects RX5 yX5_left yX5_left : Cond) ∈ lwA := lwA_mem (List.mem_of_getElem? (i := 29) (by decide +kernel)) (by decide +kernel)
theorem wd_sel_yX5_toner : (.selects RX5 yX5_toner yX5_toner : Cond) ∈ lwA := lwA_mem (List.mem_of_getElem? (i := 30) (by decide +kernel)) (by decide +kernel)
theorem wd_sel_yX5_allPages : (.selects RX5 yX5_allPages yX5_allPages : Cond) ∈ lwA := lwA_mem (List.mem_of_getElem? (i := 31) (by decide +kernel)) (by decide +kernel)
theorem wd_sel_yX5_darkPages : (.selects RX5 yX5_darkPages yX5_darkPages : Cond) ∈ lwA := lwA_mem (List.mem_of_getElem? (i := 32) (by decide +kernel)) (by decide +kernel)
theorem wd_sel_yX5_allLeft : (.selects RX5 yX5_allLeft yX5_allLeft : Cond) ∈ lwA := lwA_mem (List.mem_of_getElem? (i := 33) (by decide +kernel)) (by decide +kernel)
theorem wd_sel_yX5_boasts : (.selects RX5 yX5_boasts yX5_boasts : Cond) ∈ lwA := lwA_mem (List.mem_of_getElem? (i := 34) (by decide +kernel)) (by decide +kernel)
theorem wd_sel_yX5_lastsFor : (.selects RX5 yX5_lastsFor yX5_lastsFor : Cond) ∈ lwA := lwA_mem (List.mem_of_getElem? (i := 35) (by decide +kernel)) (by decide +kernel)
theorem wd_sel_yX5_isDark : (.selects RX5 yX5_isDark yX5_isDark : Cond) ∈ lwA := lwA_mem (List.mem_of_getElem? (i := 36) (by decide +kernel)) (by decide +kernel)
theorem wd_ini_RL : (.initialized RL : Cond) ∈ lwA := lwA_mem (List.mem_of_getElem? (i := 37) (by decide +kernel)) (by decide +kernel)
theorem wd_ini_RX4 : (.initialized RX4 : Cond) ∈ lwA := lwA_mem (List.mem_of_getElem? (i := 38) (by decide +kernel)) (by decide +kernel)
theorem wd_ini_RX1 : (.initialized RX1 : Cond) ∈ lwA := lwA_mem (List.mem_of_getElem? (i := 39) (by decide +kernel)) (by decide +kernel)
theorem wd_ini_RX0 : (.initialized RX0 : Cond) ∈ lwA := lwA_mem (List.mem_of_getElem? (i := 40) (by decide +kernel)) (by decide +kernel)
theorem wd_ini_RX2 : (.initialized RX2 : Cond) ∈ lwA := lwA_mem (List.mem_of_getElem? (i := 41) (by decide +kernel)) (by decide +kernel)
theorem wd_ini_RX3 : (.initialized RX3 : Cond) ∈ lwA := lwA_mem (List.mem_of_getElem? (i := 42) (by decide +kernel)) (by decide +kernel)
theorem wd_ini_RX5 : (.initialized RX5 : Cond) ∈ lwA := lwA_mem (List.mem_of_getElem? (i := 43) (by decide +kernel)) (by decide +kernel)
theorem wd_ini_RJ10 : (.initialized RJ10 : Cond) ∈ lwA := lwA_mem (List.mem_of_getElem? (i := 44) (by decide +kernel)) (by decide +kernel)
theorem wd_cl_RL_7 : (.classLink RL 7 RX4 : Cond) ∈ lwA := lwA_mem (List.mem_of_getElem? (i := 45) (by decide +kernel)) (by decide +kernel)
theorem wd_inst_RX4 : (.instantiable RX4 6 : Cond) ∈ lwA := lwA_mem (List.mem_of_getElem? (i := 46) (by decide +kernel)) (by decide +kernel)
theorem wd_ml_RL_9 : (.methodLink RL 9 yX4_init : Cond) ∈ lwA := lwA_mem (List.mem_of_getElem? (i := 47) (by decide +kernel)) (by decide +kernel)
theorem wd_im_yX4_init : (.instanceMethod yX4_init : Cond) ∈ lwA := lwA_mem (List.mem_of_getElem? (i := 48) (by decide +kernel)) (by decide +kernel)
theorem wd_code_yX4_init : (.code yX4_init cX4_init 1 none : Cond) ∈ lwA := lwA_mem (List.mem_of_getElem? (i := 49) (by decide +kernel)) (by decide +kernel)
theorem wd_ml_RX4_1 : (.methodLink RX4 1 objectInit : Cond) ∈ lwA := lwA_mem (List.mem_of_getElem? (i := 50) (by decide +kernel)) (by decide +kernel)
theorem wd_im_objectInit : (.instanceMethod objectInit : Cond) ∈ lwA := lwA_mem (List.mem_of_getElem? (i := 51) (by decide +kernel)) (by decide +kernel)
theorem wd_code_objectInit : (.code objectInit ⟨#[0xb1]⟩ 1 none : Cond) ∈ lwA := lwA_mem (List.mem_of_getElem? (i := 52) (by decide +kernel)) (by decide +kernel)
theorem wd_cl_RX4_7 : (.classLink RX4 7 RX1 : Cond) ∈ lwA := lwA_mem (List.mem_of_getElem? (i := 53) (by decide +kernel)) (by decide +kernel)
theorem wd_inst_RX1 : (.instantiable RX1 14 : Cond) ∈ lwA := lwA_mem (List.mem_of_getElem? (i := 54) (by decide +kernel)) (by decide +kernel)
theorem wd_im_yX1_init : (.instanceMethod yX1_init : Cond) ∈ lwA := lwA_mem (List.mem_of_getElem? (i := 56) (by decide +kernel)) (by decide +kernel)
theorem wd_code_yX1_init : (.code yX1_init cX1_init 1 none : Cond) ∈ lwA := lwA_mem (List.mem_of_getElem? (i := 57) (by decide +kernel)) (by decide +kernel)
theorem wd_ml_RX1_3 : (.methodLink RX1 3 objectInit : Cond) ∈ lwA := lwA_mem (List.mem_of_getElem? (i := 58) (by decide +kernel)) (by decide +kernel)
theorem wd_fl_RX1_9 : (.fieldLink RX1 9 "DotToner$Machine" "settings" "[I" : Cond) ∈ lwA := lwA_mem (List.mem_of_getElem? (i := 59) (by decide +kernel)) (by decide +kernel)
theorem wd_fl_RX4_92 : (.fieldLink RX4 92 "DotToner$Machine" "settings" "[I" : Cond) ∈ lwA := lwA_mem (List.mem_of_getElem? (i := 60) (by decide +kernel)) (by decide +kernel)
theorem wd_fl_RX1_15 : (.fieldLink RX1 15 "DotToner$Machine" "kinds" "[I" : Cond) ∈ lwA := lwA_mem (List.mem_of_getElem? (i := 61) (by decide +kernel)) (by decide +kernel)
theorem wd_fl_RX4_138 : (.fieldLink RX4 138 "DotToner$Machine" "kinds" "[I" : Cond) ∈ lwA := lwA_mem (List.mem_of_getElem? (i := 62) (by decide +kernel)) (by decide +kernel)
theorem wd_fl_RX1_18 : (.fieldLink RX1 18 "DotToner$Machine" "hand" "[I" : Cond) ∈ lwA := lwA_mem (List.mem_of_getElem? (i := 63) (by decide +kernel)) (by decide +kernel)
theorem wd_fl_RX4_141 : (.fieldLink RX4 141 "DotToner$Machine" "hand" "[I" : Cond) ∈ lwA := lwA_mem (List.mem_of_getElem? (i := 64) (by decide +kernel)) (by decide +kernel)
theorem wd_fl_RX1_21 : (.fieldLink RX1 21 "DotToner$Machine" "settled" "[I" : Cond) ∈ lwA := lwA_mem (List.mem_of_getElem? (i := 65) (by decide +kernel)) (by decide +kernel)
theorem wd_fl_RX4_144 : (.fieldLink RX4 144 "DotToner$Machine" "settled" "[I" : Cond) ∈ lwA := lwA_mem (List.mem_of_getElem? (i := 66) (by decide +kernel)) (by decide +kernel)
theorem wd_fl_RX1_24 : (.fieldLink RX1 24 "DotToner$Machine" "chips" "[I" : Cond) ∈ lwA := lwA_mem (List.mem_of_getElem? (i := 67) (by decide +kernel)) (by decide +kernel)
theorem wd_fl_RX4_147 : (.fieldLink RX4 147 "DotToner$Machine" "chips" "[I" : Cond) ∈ lwA := lwA_mem (List.mem_of_getElem? (i := 68) (by decide +kernel)) (by decide +kernel)
theorem wd_fl_RX1_27 : (.fieldLink RX1 27 "DotToner$Machine" "cupIn" "[I" : Cond) ∈ lwA := lwA_mem (List.mem_of_getElem? (i := 69) (by decide +kernel)) (by decide +kernel)
theorem wd_fl_RX4_69 : (.fieldLink RX4 69 "DotToner$Machine" "cupIn" "[I" : Cond) ∈ lwA := lwA_mem (List.mem_of_getElem? (i := 70) (by decide +kernel)) (by decide +kernel)
theorem wd_fl_RX1_30 : (.fieldLink RX1 30 "DotToner$Machine" "darkPages" "[I" : Cond) ∈ lwA := lwA_mem (List.mem_of_getElem? (i := 71) (by decide +kernel)) (by decide +kernel)
theorem wd_fl_RX4_157 : (.fieldLink RX4 157 "DotToner$Machine" "darkPages" "[I" : Cond) ∈ lwA := lwA_mem (List.mem_of_getElem? (i := 72) (by decide +kernel)) (by decide +kernel)
theorem wd_fl_RX1_33 : (.fieldLink RX1 33 "DotToner$Machine" "lightPages" "[I" : Cond) ∈ lwA := lwA_mem (List.mem_of_getElem? (i := 73) (by decide +kernel)) (by decide +kernel)
theorem wd_fl_RX4_160 : (.fieldLink RX4 160 "DotToner$Machine" "lightPages" "[I" : Cond) ∈ lwA := lwA_mem (List.mem_of_getElem? (i := 74) (by decide +kernel)) (by decide +kernel)
theorem wd_fl_RX1_36 : (.fieldLink RX1 36 "DotToner$Machine" "refusedPages" "[I" : Cond) ∈ lwA := lwA_mem (List.mem_of_getElem? (i := 75) (by decide +kernel)) (by decide +kernel)
theorem wd_fl_RX4_163 : (.fieldLink RX4 163 "DotToner$Machine" "refusedPages" "[I" : Cond) ∈ lwA := lwA_mem (List.mem_of_getElem? (i := 76) (by decide +kernel)) (by decide +kernel)
theorem wd_fl_RX1_39 : (.fieldLink RX1 39 "DotToner$Machine" "dotsPrinted" "[I" : Cond) ∈ lwA := lwA_mem (List.mem_of_getElem? (i := 77) (by decide +kernel)) (by decide +kernel)
theorem wd_fl_RX4_166 : (.fieldLink RX4 166 "DotToner$Machine" "dotsPrinted" "[I" : Cond) ∈ lwA := lwA_mem (List.mem_of_getElem? (i := 78) (by decide +kernel)) (by decide +kernel)
theorem wd_fl_RX1_42 : (.fieldLink RX1 42 "DotToner$Machine" "latest" "[I" : Cond) ∈ lwA := lwA_mem (List.mem_of_getElem? (i := 79) (by decide +kernel)) (by decide +kernel)
theorem wd_fl_RX4_169 : (.fieldLink RX4 169 "DotToner$Machine" "latest" "[I" : Cond) ∈ lwA := lwA_mem (List.mem_of_getElem? (i := 80) (by decide +kernel)) (by decide +kernel)
theorem wd_fl_RX1_45 : (.fieldLink RX1 45 "DotToner$Machine" "used" "I" : Cond) ∈ lwA := lwA_mem (List.mem_of_getElem? (i := 81) (by decide +kernel)) (by decide +kernel)
theorem wd_fl_RX4_185 : (.fieldLink RX4 185 "DotToner$Machine" "used" "I" : Cond) ∈ lwA := lwA_mem (List.mem_of_getElem? (i := 82) (by decide +kernel)) (by decide +kernel)
theorem wd_fl_RX1_49 : (.fieldLink RX1 49 "DotToner$Machine" "spilt" "I" : Cond) ∈ lwA := lwA_mem (List.mem_of_getElem? (i := 83) (by decide +kernel)) (by decide +kernel)
theorem wd_fl_RX4_188 : (.fieldLink RX4 188 "DotToner$Machine" "spilt" "I" : Cond) ∈ lwA := lwA_mem (List.mem_of_getElem? (i := 84) (by decide +kernel)) (by decide +kernel)
theorem wd_fl_RX1_52 : (.fieldLink RX1 52 "DotToner$Machine" "refilled" "I" : Cond) ∈ lwA := lwA_mem (List.mem_of_getElem? (i := 85) (by decide +kernel)) (by decide +kernel)
theorem wd_fl_RX4_191 : (.fieldLink RX4 191 "DotToner$Machine" "refilled" "I" : Cond) ∈ lwA := lwA_mem (List.mem_of_getElem? (i := 86) (by decide +kernel)) (by decide +kernel)
theorem wd_ac_int : (.arrayClass .int : Cond) ∈ lwA := lwA_mem (List.mem_of_getElem? (i := 116) (by decide +kernel)) (by decide +kernel)
theorem wd_cl_RX4_23 : (.classLink RX4 23 RX0 : Cond) ∈ lwA := lwA_mem (List.mem_of_getElem? (i := 117) (by decide +kernel)) (by decide +kernel)
theorem wd_inst_RX0 : (.instantiable RX0 3 : Cond) ∈ lwA := lwA_mem (List.mem_of_getElem? (i := 118) (by decide +kernel)) (by decide +kernel)
theorem wd_im_yX0_init : (.instanceMethod yX0_init : Cond) ∈ lwA := lwA_mem (List.mem_of_getElem? (i := 120) (by decide +kernel)) (by decide +kernel)
theorem wd_code_yX0_init : (.code yX0_init cX0_init 1 none : Cond) ∈ lwA := lwA_mem (List.mem_of_getElem? (i := 121) (by decide +kernel)) (by decide +kernel)
theorem wd_ml_RX0_1 : (.methodLink RX0 1 objectInit : Cond) ∈ lwA := lwA_mem (List.mem_of_getElem? (i := 122) (by decide +kernel)) (by decide +kernel)
theorem wd_cl_RX0_7 : (.classLink RX0 7 RX1 : Cond) ∈ lwA := lwA_mem (List.mem_of_getElem? (i := 123) (by decide +kernel)) (by decide +kernel)
theorem wd_fl_RX0_10 : (.fieldLink RX0 10 "DotToner$History" "states" "[LDotToner$Machine;" : Cond) ∈ lwA := lwA_mem (List.mem_of_getElem? (i := 126) (by decide +kernel)) (by decide +kernel)
theorem wd_fl_RX0_16 : (.fieldLink RX0 16 "DotToner$History" "oldest" "I" : Cond) ∈ lwA := lwA_mem (List.mem_of_getElem? (i := 127) (by decide +kernel)) (by decide +kernel)
theorem wd_fl_RX0_20 : (.fieldLink RX0 20 "DotToner$History" "size" "I" : Cond) ∈ lwA := lwA_mem (List.mem_of_getElem? (i := 128) (by decide +kernel)) (by decide +kernel)
theorem wd_fl_RX4_209 : (.fieldLink RX4 209 "DotToner$History" "size" "I" : Cond) ∈ lwA := lwA_mem (List.mem_of_getElem? (i := 129) (by decide +kernel)) (by decide +kernel)
theorem wd_cl_RX4_30 : (.classLink RX4 30 RX2 : Cond) ∈ lwA := lwA_mem (List.mem_of_getElem? (i := 137) (by decide +kernel)) (by decide +kernel)
theorem wd_inst_RX2 : (.instantiable RX2 9 : Cond) ∈ lwA := lwA_mem (List.mem_of_getElem? (i := 138) (by decide +kernel)) (by decide +kernel)
theorem wd_im_yX2_init : (.instanceMethod yX2_init : Cond) ∈ lwA := lwA_mem (List.mem_of_getElem? (i := 140) (by decide +kernel)) (by decide +kernel)
theorem wd_code_yX2_init : (.code yX2_init cX2_init 1 none : Cond) ∈ lwA := lwA_mem (List.mem_of_getElem? (i := 141) (by decide +kernel)) (by decide +kernel)
theorem wd_ml_RX2_3 : (.methodLink RX2 3 objectInit : Cond) ∈ lwA := lwA_mem (List.mem_of_getElem? (i := 142) (by decide +kernel)) (by decide +kernel)
theorem wd_fl_RX2_11 : (.fieldLink RX2 11 "DotToner$Pad" "signs" "[C" : Cond) ∈ lwA := lwA_mem (List.mem_of_getElem? (i := 143) (by decide +kernel)) (by decide +kernel)
theorem wd_fl_RX2_15 : (.fieldLink RX2 15 "DotToner$Pad" "length" "I" : Cond) ∈ lwA := lwA_mem (List.mem_of_getElem? (i := 144) (by decide +kernel)) (by decide +kernel)
theorem wd_fl_RX4_103 : (.fieldLink RX4 103 "DotToner$Pad" "length" "I" : Cond) ∈ lwA := lwA_mem (List.mem_of_getElem? (i := 145) (by decide +kernel)) (by decide +kernel)
theorem wd_fl_RX2_19 : (.fieldLink RX2 19 "DotToner$Pad" "at" "I" : Cond) ∈ lwA := lwA_mem (List.mem_of_getElem? (i := 146) (by decide +kernel)) (by decide +kernel)
theorem wd_fl_RX2_22 : (.fieldLink RX2 22 "DotToner$Pad" "deeds" "I" : Cond) ∈ lwA := lwA_mem (List.mem_of_getElem? (i := 147) (by decide +kernel)) (by decide +kernel)
theorem wd_fl_RX4_117 : (.fieldLink RX4 117 "DotToner$Pad" "deeds" "I" : Cond) ∈ lwA := lwA_mem (List.mem_of_getElem? (i := 148) (by decide +kernel)) (by decide +kernel)
theorem wd_fl_RX2_25 : (.fieldLink RX2 25 "DotToner$Pad" "letters" "[C" : Cond) ∈ lwA := lwA_mem (List.mem_of_getElem? (i := 149) (by decide +kernel)) (by decide +kernel)
theorem wd_fl_RX4_235 : (.fieldLink RX4 235 "DotToner$Pad" "letters" "[C" : Cond) ∈ lwA := lwA_mem (List.mem_of_getElem? (i := 150) (by decide +kernel)) (by decide +kernel)
theorem wd_fl_RX2_28 : (.fieldLink RX2 28 "DotToner$Pad" "places" "[I" : Cond) ∈ lwA := lwA_mem (List.mem_of_getElem? (i := 151) (by decide +kernel)) (by decide +kernel)
theorem wd_fl_RX4_251 : (.fieldLink RX4 251 "DotToner$Pad" "places" "[I" : Cond) ∈ lwA := lwA_mem (List.mem_of_getElem? (i := 152) (by decide +kernel)) (by decide +kernel)
theorem wd_fl_RX2_32 : (.fieldLink RX2 32 "DotToner$Pad" "firsts" "[I" : Cond) ∈ lwA := lwA_mem (List.mem_of_getElem? (i := 153) (by decide +kernel)) (by decide +kernel)
theorem wd_fl_RX4_242 : (.fieldLink RX4 242 "DotToner$Pad" "firsts" "[I" : Cond) ∈ lwA := lwA_mem (List.mem_of_getElem? (i := 154) (by decide +kernel)) (by decide +kernel)
theorem wd_fl_RX2_35 : (.fieldLink RX2 35 "DotToner$Pad" "seconds" "[I" : Cond) ∈ lwA := lwA_mem (List.mem_of_getElem? (i := 155) (by decide +kernel)) (by decide +kernel)
theorem wd_fl_RX4_245 : (.fieldLink RX4 245 "DotToner$Pad" "seconds" "[I" : Cond) ∈ lwA := lwA_mem (List.mem_of_getElem? (i := 156) (by decide +kernel)) (by decide +kernel)
theorem wd_fl_RX2_38 : (.fieldLink RX2 38 "DotToner$Pad" "times" "[I" : Cond) ∈ lwA := lwA_mem (List.mem_of_getElem? (i := 157) (by decide +kernel)) (by decide +kernel)
theorem wd_fl_RX4_248 : (.fieldLink RX4 248 "DotToner$Pad" "times" "[I" : Cond) ∈ lwA := lwA_mem (List.mem_of_getElem? (i := 158) (by decide +kernel)) (by decide +kernel)
theorem wd_ac_char : (.arrayClass .char : Cond) ∈ lwA := lwA_mem (List.mem_of_getElem? (i := 178) (by decide +kernel)) (by decide +kernel)
theorem wd_cl_RX4_37 : (.classLink RX4 37 RX3 : Cond) ∈ lwA := lwA_mem (List.mem_of_getElem? (i := 179) (by decide +kernel)) (by decide +kernel)
theorem wd_inst_RX3 : (.instantiable RX3 4 : Cond) ∈ lwA := lwA_mem (List.mem_of_getElem? (i := 180) (by decide +kernel)) (by decide +kernel)
theorem wd_im_yX3_init : (.instanceMethod yX3_init : Cond) ∈ lwA := lwA_mem (List.mem_of_getElem? (i := 182) (by decide +kernel)) (by decide +kernel)
theorem wd_code_yX3_init : (.code yX3_init cX3_init 1 none : Cond) ∈ lwA := lwA_mem (List.mem_of_getElem? (i := 183) (by decide +kernel)) (by decide +kernel)
theorem wd_ml_RX3_3 : (.methodLink RX3 3 objectInit : Cond) ∈ lwA := lwA_mem (List.mem_of_getElem? (i := 184) (by decide +kernel)) (by decide +kernel)
theorem wd_fl_RX3_9 : (.fieldLink RX3 9 "DotToner$Stop" "reason" "I" : Cond) ∈ lwA := lwA_mem (List.mem_of_getElem? (i := 185) (by decide +kernel)) (by decide +kernel)
theorem wd_fl_RX4_126 : (.fieldLink RX4 126 "DotToner$Stop" "reason" "I" : Cond) ∈ lwA := lwA_mem (List.mem_of_getElem? (i := 186) (by decide +kernel)) (by decide +kernel)
theorem wd_fl_RX3_15 : (.fieldLink RX3 15 "DotToner$Stop" "deed" "I" : Cond) ∈ lwA := lwA_mem (List.mem_of_getElem? (i := 187) (by decide +kernel)) (by decide +kernel)
theorem wd_fl_RX4_129 : (.fieldLink RX4 129 "DotToner$Stop" "deed" "I" : Cond) ∈ lwA := lwA_mem (List.mem_of_getElem? (i := 188) (by decide +kernel)) (by decide +kernel)
theorem wd_fl_RX3_18 : (.fieldLink RX3 18 "DotToner$Stop" "place" "I" : Cond) ∈ lwA := lwA_mem (List.mem_of_getElem? (i := 189) (by decide +kernel)) (by decide +kernel)
theorem wd_fl_RX4_132 : (.fieldLink RX4 132 "DotToner$Stop" "place" "I" : Cond) ∈ lwA := lwA_mem (List.mem_of_getElem? (i := 190) (by decide +kernel)) (by decide +kernel)
theorem wd_fl_RX3_21 : (.fieldLink RX3 21 "DotToner$Stop" "pages" "I" : Cond) ∈ lwA := lwA_mem (List.mem_of_getElem? (i := 191) (by decide +kernel)) (by decide +kernel)
theorem wd_fl_RX4_135 : (.fieldLink RX4 135 "DotToner$Stop" "pages" "I" : Cond) ∈ lwA := lwA_mem (List.mem_of_getElem? (i := 192) (by decide +kernel)) (by decide +kernel)
theorem wd_fl_RX4_10 : (.fieldLink RX4 10 "DotToner" "now" "LDotToner$Machine;" : Cond) ∈ lwA := lwA_mem (List.mem_of_getElem? (i := 202) (by decide +kernel)) (by decide +kernel)
theorem wd_fl_RX4_16 : (.fieldLink RX4 16 "DotToner" "snapshot" "LDotToner$Machine;" : Cond) ∈ lwA := lwA_mem (List.mem_of_getElem? (i := 203) (by decide +kernel)) (by decide +kernel)
theorem wd_fl_RX4_19 : (.fieldLink RX4 19 "DotToner" "snapshotTaken" "Z" : Cond) ∈ lwA := lwA_mem (List.mem_of_getElem? (i := 204) (by decide +kernel)) (by decide +kernel)
theorem wd_fl_RX4_26 : (.fieldLink RX4 26 "DotToner" "history" "LDotToner$History;" : Cond) ∈ lwA := lwA_mem (List.mem_of_getElem? (i := 205) (by decide +kernel)) (by decide +kernel)
theorem wd_fl_RX4_33 : (.fieldLink RX4 33 "DotToner" "pad" "LDotToner$Pad;" : Cond) ∈ lwA := lwA_mem (List.mem_of_getElem? (i := 206) (by decide +kernel)) (by decide +kernel)
theorem wd_fl_RX4_40 : (.fieldLink RX4 40 "DotToner" "stop" "LDotToner$Stop;" : Cond) ∈ lwA := lwA_mem (List.mem_of_getElem? (i := 207) (by decide +kernel)) (by decide +kernel)
theorem wd_ml_RL_13 : (.methodLink RL 13 yX4_print : Cond) ∈ lwA := lwA_mem (List.mem_of_getElem? (i := 221) (by decide +kernel)) (by decide +kernel)
theorem wd_im_yX4_print : (.instanceMethod yX4_print : Cond) ∈ lwA := lwA_mem (List.mem_of_getElem? (i := 222) (by decide +kernel)) (by decide +kernel)
theorem wd_sel_yX4_print : (.selects RX4 yX4_print yX4_print : Cond) ∈ lwA := lwA_mem (List.mem_of_getElem? (i := 223) (by decide +kernel)) (by decide +kernel)
theorem wd_code_yX4_print : (.code yX4_print cX4_print 3 (some .int) : Cond) ∈ lwA := lwA_mem (List.mem_of_getElem? (i := 224) (by decide +kernel)) (by decide +kernel)
theorem wd_ml_RX4_44 : (.methodLink RX4 44 yX4_isPrinter : Cond) ∈ lwA := lwA_mem (List.mem_of_getElem? (i := 225) (by decide +kernel)) (by decide +kernel)
theorem wd_st_yX4_isPrinter : (.static yX4_isPrinter : Cond) ∈ lwA := lwA_mem (List.mem_of_getElem? (i := 226) (by decide +kernel)) (by decide +kernel)
theorem wd_code_yX4_isPrinter : (.code yX4_isPrinter cX4_isPrinter 1 (some .boolean) : Cond) ∈ lwA := lwA_mem (List.mem_of_getElem? (i := 227) (by decide +kernel)) (by decide +kernel)
theorem wd_ml_RX4_48 : (.methodLink RX4 48 yX4_isDots : Cond) ∈ lwA := lwA_mem (List.mem_of_getElem? (i := 228) (by decide +kernel)) (by decide +kernel)
theorem wd_st_yX4_isDots : (.static yX4_isDots : Cond) ∈ lwA := lwA_mem (List.mem_of_getElem? (i := 229) (by decide +kernel)) (by decide +kernel)
theorem wd_code_yX4_isDots : (.code yX4_isDots cX4_isDots 1 (some .boolean) : Cond) ∈ lwA := lwA_mem (List.mem_of_getElem? (i := 230) (by decide +kernel)) (by decide +kernel)
theorem wd_ml_RX4_51 : (.methodLink RX4 51 yX0_keep : Cond) ∈ lwA := lwA_mem (List.mem_of_getElem? (i := 231) (by decide +kernel)) (by decide +kernel)
theorem wd_im_yX0_keep : (.instanceMethod yX0_keep : Cond) ∈ lwA := lwA_mem (List.mem_of_getElem? (i := 232) (by decide +kernel)) (by decide +kernel)
theorem wd_sel_yX0_keep : (.selects RX0 yX0_keep yX0_keep : Cond) ∈ lwA := lwA_mem (List.mem_of_getElem? (i := 233) (by decide +kernel)) (by decide +kernel)
theorem wd_code_yX0_keep : (.code yX0_keep cX0_keep 2 none : Cond) ∈ lwA := lwA_mem (List.mem_of_getElem? (i := 234) (by decide +kernel)) (by decide +kernel)
theorem wd_ml_RX0_23 : (.methodLink RX0 23 yX1_becomeLike : Cond) ∈ lwA := lwA_mem (List.mem_of_getElem? (i := 235) (by decide +kernel)) (by decide +kernel)
theorem wd_im_yX1_becomeLike : (.instanceMethod yX1_becomeLike : Cond) ∈ lwA := lwA_mem (List.mem_of_getElem? (i := 236) (by decide +kernel)) (by decide +kernel)
theorem wd_sel_yX1_becomeLike : (.selects RX1 yX1_becomeLike yX1_becomeLike : Cond) ∈ lwA := lwA_mem (List.mem_of_getElem? (i := 237) (by decide +kernel)) (by decide +kernel)
theorem wd_code_yX1_becomeLike : (.code yX1_becomeLike cX1_becomeLike 2 none : Cond) ∈ lwA := lwA_mem (List.mem_of_getElem? (i := 238) (by decide +kernel)) (by decide +kernel)
theorem wd_ml_RX1_55 : (.methodLink RX1 55 arraycopyName : Cond) ∈ lwA := lwA_mem (List.mem_of_getElem? (i := 239) (by decide +kernel)) (by decide +kernel)
theorem wd_st_arraycopyName : (.static arraycopyName : Cond) ∈ lwA := lwA_mem (List.mem_of_getElem? (i := 240) (by decide +kernel)) (by decide +kernel)
theorem wd_nat_arraycopyName : (.native arraycopyName : Cond) ∈ lwA := lwA_mem (List.mem_of_getElem? (i := 241) (by decide +kernel)) (by decide +kernel)
theorem wd_ml_RX4_55 : (.methodLink RX4 55 yX1_printPage : Cond) ∈ lwA := lwA_mem (List.mem_of_getElem? (i := 242) (by decide +kernel)) (by decide +kernel)
theorem wd_im_yX1_printPage : (.instanceMethod yX1_printPage : Cond) ∈ lwA := lwA_mem (List.mem_of_getElem? (i := 243) (by decide +kernel)) (by decide +kernel)
theorem wd_sel_yX1_printPage : (.selects RX1 yX1_printPage yX1_printPage : Cond) ∈ lwA := lwA_mem (List.mem_of_getElem? (i := 244) (by decide +kernel)) (by decide +kernel)
theorem wd_code_yX1_printPage : (.code yX1_printPage cX1_printPage 7 (some .int) : Cond) ∈ lwA := lwA_mem (List.mem_of_getElem? (i := 245) (by decide +kernel)) (by decide +kernel)
theorem wd_ml_RX1_69 : (.methodLink RX1 69 yX1_refusal : Cond) ∈ lwA := lwA_mem (List.mem_of_getElem? (i := 246) (by decide +kernel)) (by decide +kernel)
theorem wd_im_yX1_refusal : (.instanceMethod yX1_refusal : Cond) ∈ lwA := lwA_mem (List.mem_of_getElem? (i := 247) (by decide +kernel)) (by decide +kernel)
theorem wd_sel_yX1_refusal : (.selects RX1 yX1_refusal yX1_refusal : Cond) ∈ lwA := lwA_mem (List.mem_of_getElem? (i := 248) (by decide +kernel)) (by decide +kernel)
theorem wd_code_yX1_refusal : (.code yX1_refusal cX1_refusal 2 (some .int) : Cond) ∈ lwA := lwA_mem (List.mem_of_getElem? (i := 249) (by decide +kernel)) (by decide +kernel)
theorem wd_st_yX4_isCup : (.static yX4_isCup : Cond) ∈ lwA := lwA_mem (List.mem_of_getElem? (i := 251) (by decide +kernel)) (by decide +kernel)
theorem wd_code_yX4_isCup : (.code yX4_isCup cX4_isCup 1 (some .boolean) : Cond) ∈ lwA := lwA_mem (List.mem_of_getElem? (i := 252) (by decide +kernel)) (by decide +kernel)
theorem wd_ml_RX1_61 : (.methodLink RX1 61 yX1_tonerFor : Cond) ∈ lwA := lwA_mem (List.mem_of_getElem? (i := 253) (by decide +kernel)) (by decide +kernel)
theorem wd_im_yX1_tonerFor : (.instanceMethod yX1_tonerFor : Cond) ∈ lwA := lwA_mem (List.mem_of_getElem? (i := 254) (by decide +kernel)) (by decide +kernel)
theorem wd_sel_yX1_tonerFor : (.selects RX1 yX1_tonerFor yX1_tonerFor : Cond) ∈ lwA := lwA_mem (List.mem_of_getElem? (i := 255) (by decide +kernel)) (by decide +kernel)
theorem wd_code_yX1_tonerFor : (.code yX1_tonerFor cX1_tonerFor 5 (some .int) : Cond) ∈ lwA := lwA_mem (List.mem_of_getElem? (i := 256) (by decide +kernel)) (by decide +kernel)
theorem wd_ml_RX1_73 : (.methodLink RX1 73 yX1_useToner : Cond) ∈ lwA := lwA_mem (List.mem_of_getElem? (i := 257) (by decide +kernel)) (by decide +kernel)
theorem wd_im_yX1_useToner : (.instanceMethod yX1_useToner : Cond) ∈ lwA := lwA_mem (List.mem_of_getElem? (i := 259) (by decide +kernel)) (by decide +kernel)
theorem wd_code_yX1_useToner : (.code yX1_useToner cX1_useToner 4 (some .int) : Cond) ∈ lwA := lwA_mem (List.mem_of_getElem? (i := 260) (by decide +kernel)) (by decide +kernel)
theorem wd_st_yX4_share : (.static yX4_share : Cond) ∈ lwA := lwA_mem (List.mem_of_getElem? (i := 262) (by decide +kernel)) (by decide +kernel)
theorem wd_code_yX4_share : (.code yX4_share cX4_share 2 (some .int) : Cond) ∈ lwA := lwA_mem (List.mem_of_getElem? (i := 263) (by decide +kernel)) (by decide +kernel)
theorem wd_ml_RX1_77 : (.methodLink RX1 77 yX1_chipFor : Cond) ∈ lwA := lwA_mem (List.mem_of_getElem? (i := 264) (by decide +kernel)) (by decide +kernel)
theorem wd_im_yX1_chipFor : (.instanceMethod yX1_chipFor : Cond) ∈ lwA := lwA_mem (List.mem_of_getElem? (i := 265) (by decide +kernel)) (by decide +kernel)
theorem wd_sel_yX1_chipFor : (.selects RX1 yX1_chipFor yX1_chipFor : Cond) ∈ lwA := lwA_mem (List.mem_of_getElem? (i := 266) (by decide +kernel)) (by decide +kernel)
theorem wd_code_yX1_chipFor : (.code yX1_chipFor cX1_chipFor 4 (some .int) : Cond) ∈ lwA := lwA_mem (List.mem_of_getElem? (i := 267) (by decide +kernel)) (by decide +kernel)
theorem wd_ml_RX1_80 : (.methodLink RX1 80 yX1_settleToner : Cond) ∈ lwA := lwA_mem (List.mem_of_getElem? (i := 268) (by decide +kernel)) (by decide +kernel)
theorem wd_im_yX1_settleToner : (.instanceMethod yX1_settleToner : Cond) ∈ lwA := lwA_mem (List.mem_of_getElem? (i := 270) (by decide +kernel)) (by decide +kernel)
theorem wd_code_yX1_settleToner : (.code yX1_settleToner cX1_settleToner 3 none : Cond) ∈ lwA := lwA_mem (List.mem_of_getElem? (i := 271) (by decide +kernel)) (by decide +kernel)
theorem wd_ml_RL_18 : (.methodLink RL 18 yX4_shake : Cond) ∈ lwA := lwA_mem (List.mem_of_getElem? (i := 272) (by decide +kernel)) (by decide +kernel)
theorem wd_im_yX4_shake : (.instanceMethod yX4_shake : Cond) ∈ lwA := lwA_mem (List.mem_of_getElem? (i := 273) (by decide +kernel)) (by decide +kernel)
theorem wd_sel_yX4_shake : (.selects RX4 yX4_shake yX4_shake : Cond) ∈ lwA := lwA_mem (List.mem_of_getElem? (i := 274) (by decide +kernel)) (by decide +kernel)
theorem wd_code_yX4_shake : (.code yX4_shake cX4_shake 2 (some .int) : Cond) ∈ lwA := lwA_mem (List.mem_of_getElem? (i := 275) (by decide +kernel)) (by decide +kernel)
theorem wd_ml_RX4_59 : (.methodLink RX4 59 yX4_isCup : Cond) ∈ lwA := lwA_mem (List.mem_of_getElem? (i := 276) (by decide +kernel)) (by decide +kernel)
theorem wd_ml_RX4_62 : (.methodLink RX4 62 yX1_shakeCup : Cond) ∈ lwA := lwA_mem (List.mem_of_getElem? (i := 277) (by decide +kernel)) (by decide +kernel)
theorem wd_im_yX1_shakeCup : (.instanceMethod yX1_shakeCup : Cond) ∈ lwA := lwA_mem (List.mem_of_getElem? (i := 278) (by decide +kernel)) (by decide +kernel)
theorem wd_sel_yX1_shakeCup : (.selects RX1 yX1_shakeCup yX1_shakeCup : Cond) ∈ lwA := lwA_mem (List.mem_of_getElem? (i := 279) (by decide +kernel)) (by decide +kernel)
theorem wd_code_yX1_shakeCup : (.code yX1_shakeCup cX1_shakeCup 3 (some .int) : Cond) ∈ lwA := lwA_mem (List.mem_of_getElem? (i := 280) (by decide +kernel)) (by decide +kernel)
theorem wd_ml_RL_23 : (.methodLink RL 23 yX4_move : Cond) ∈ lwA := lwA_mem (List.mem_of_getElem? (i := 281) (by decide +kernel)) (by decide +kernel)
theorem wd_im_yX4_move : (.instanceMethod yX4_move : Cond) ∈ lwA := lwA_mem (List.mem_of_getElem? (i := 282) (by decide +kernel)) (by decide +kernel)
theorem wd_sel_yX4_move : (.selects RX4 yX4_move yX4_move : Cond) ∈ lwA := lwA_mem (List.mem_of_getElem? (i := 283) (by decide +kernel)) (by decide +kernel)
theorem wd_code_yX4_move : (.code yX4_move cX4_move 3 (some .int) : Cond) ∈ lwA := lwA_mem (List.mem_of_getElem? (i := 284) (by decide +kernel)) (by decide +kernel)
theorem wd_ml_RX4_66 : (.methodLink RX4 66 yX1_moveCup : Cond) ∈ lwA := lwA_mem (List.mem_of_getElem? (i := 285) (by decide +kernel)) (by decide +kernel)
theorem wd_im_yX1_moveCup : (.instanceMethod yX1_moveCup : Cond) ∈ lwA := lwA_mem (List.mem_of_getElem? (i := 286) (by decide +kernel)) (by decide +kernel)
theorem wd_sel_yX1_moveCup : (.selects RX1 yX1_moveCup yX1_moveCup : Cond) ∈ lwA := lwA_mem (List.mem_of_getElem? (i := 287) (by decide +kernel)) (by decide +kernel)
theorem wd_code_yX1_moveCup : (.code yX1_moveCup cX1_moveCup 5 (some .int) : Cond) ∈ lwA := lwA_mem (List.mem_of_getElem? (i := 288) (by decide +kernel)) (by decide +kernel)
theorem wd_ml_RX1_87 : (.methodLink RX1 87 yX1_printerOf : Cond) ∈ lwA := lwA_mem (List.mem_of_getElem? (i := 289) (by decide +kernel)) (by decide +kernel)
theorem wd_im_yX1_printerOf : (.instanceMethod yX1_printerOf : Cond) ∈ lwA := lwA_mem (List.mem_of_getElem? (i := 290) (by decide +kernel)) (by decide +kernel)
theorem wd_sel_yX1_printerOf : (.selects RX1 yX1_printerOf yX1_printerOf : Cond) ∈ lwA := lwA_mem (List.mem_of_getElem? (i := 291) (by decide +kernel)) (by decide +kernel)
theorem wd_code_yX1_printerOf : (.code yX1_printerOf cX1_printerOf 3 (some .int) : Cond) ∈ lwA := lwA_mem (List.mem_of_getElem? (i := 292) (by decide +kernel)) (by decide +kernel)
theorem wd_ml_RX1_93 : (.methodLink RX1 93 yX1_empty : Cond) ∈ lwA := lwA_mem (List.mem_of_getElem? (i := 294) (by decide +kernel)) (by decide +kernel)
theorem wd_im_yX1_empty : (.instanceMethod yX1_empty : Cond) ∈ lwA := lwA_mem (List.mem_of_getElem? (i := 295) (by decide +kernel)) (by decide +kernel)
theorem wd_sel_yX1_empty : (.selects RX1 yX1_empty yX1_empty : Cond) ∈ lwA := lwA_mem (List.mem_of_getElem? (i := 296) (by decide +kernel)) (by decide +kernel)
theorem wd_code_yX1_empty : (.code yX1_empty cX1_empty 4 none : Cond) ∈ lwA := lwA_mem (List.mem_of_getElem? (i := 297) (by decide +kernel)) (by decide +kernel)
theorem wd_ml_RL_27 : (.methodLink RL 27 yX4_takeOut : Cond) ∈ lwA := lwA_mem (List.mem_of_getElem? (i := 298) (by decide +kernel)) (by decide +kernel)
theorem wd_im_yX4_takeOut : (.instanceMethod yX4_takeOut : Cond) ∈ lwA := lwA_mem (List.mem_of_getElem? (i := 299) (by decide +kernel)) (by decide +kernel)
theorem wd_sel_yX4_takeOut : (.selects RX4 yX4_takeOut yX4_takeOut : Cond) ∈ lwA := lwA_mem (List.mem_of_getElem? (i := 300) (by decide +kernel)) (by decide +kernel)
theorem wd_code_yX4_takeOut : (.code yX4_takeOut cX4_takeOut 3 (some .int) : Cond) ∈ lwA := lwA_mem (List.mem_of_getElem? (i := 301) (by decide +kernel)) (by decide +kernel)
theorem wd_ml_RX4_73 : (.methodLink RX4 73 yX1_empty : Cond) ∈ lwA := lwA_mem (List.mem_of_getElem? (i := 302) (by decide +kernel)) (by decide +kernel)
theorem wd_ml_RL_31 : (.methodLink RL 31 yX4_refill : Cond) ∈ lwA := lwA_mem (List.mem_of_getElem? (i := 303) (by decide +kernel)) (by decide +kernel)
theorem wd_im_yX4_refill : (.instanceMethod yX4_refill : Cond) ∈ lwA := lwA_mem (List.mem_of_getElem? (i := 304) (by decide +kernel)) (by decide +kernel)
theorem wd_sel_yX4_refill : (.selects RX4 yX4_refill yX4_refill : Cond) ∈ lwA := lwA_mem (List.mem_of_getElem? (i := 305) (by decide +kernel)) (by decide +kernel)
theorem wd_code_yX4_refill : (.code yX4_refill cX4_refill 3 (some .int) : Cond) ∈ lwA := lwA_mem (List.mem_of_getElem? (i := 306) (by decide +kernel)) (by decide +kernel)
theorem wd_ml_RX4_77 : (.methodLink RX4 77 yX1_printerOf : Cond) ∈ lwA := lwA_mem (List.mem_of_getElem? (i := 307) (by decide +kernel)) (by decide +kernel)
theorem wd_ml_RX4_80 : (.methodLink RX4 80 yX1_toner : Cond) ∈ lwA := lwA_mem (List.mem_of_getElem? (i := 308) (by decide +kernel)) (by decide +kernel)
theorem wd_im_yX1_toner : (.instanceMethod yX1_toner : Cond) ∈ lwA := lwA_mem (List.mem_of_getElem? (i := 309) (by decide +kernel)) (by decide +kernel)
theorem wd_sel_yX1_toner : (.selects RX1 yX1_toner yX1_toner : Cond) ∈ lwA := lwA_mem (List.mem_of_getElem? (i := 310) (by decide +kernel)) (by decide +kernel)
theorem wd_code_yX1_toner : (.code yX1_toner cX1_toner 2 (some .int) : Cond) ∈ lwA := lwA_mem (List.mem_of_getElem? (i := 311) (by decide +kernel)) (by decide +kernel)
theorem wd_ml_RX4_83 : (.methodLink RX4 83 yX1_fillCup : Cond) ∈ lwA := lwA_mem (List.mem_of_getElem? (i := 312) (by decide +kernel)) (by decide +kernel)
theorem wd_im_yX1_fillCup : (.instanceMethod yX1_fillCup : Cond) ∈ lwA := lwA_mem (List.mem_of_getElem? (i := 313) (by decide +kernel)) (by decide +kernel)
theorem wd_sel_yX1_fillCup : (.selects RX1 yX1_fillCup yX1_fillCup : Cond) ∈ lwA := lwA_mem (List.mem_of_getElem? (i := 314) (by decide +kernel)) (by decide +kernel)
theorem wd_code_yX1_fillCup : (.code yX1_fillCup cX1_fillCup 5 (some .int) : Cond) ∈ lwA := lwA_mem (List.mem_of_getElem? (i := 315) (by decide +kernel)) (by decide +kernel)
theorem wd_ml_RX1_96 : (.methodLink RX1 96 yX1_toner : Cond) ∈ lwA := lwA_mem (List.mem_of_getElem? (i := 316) (by decide +kernel)) (by decide +kernel)
theorem wd_ml_RL_35 : (.methodLink RL 35 yX4_set : Cond) ∈ lwA := lwA_mem (List.mem_of_getElem? (i := 317) (by decide +kernel)) (by decide +kernel)
theorem wd_im_yX4_set : (.instanceMethod yX4_set : Cond) ∈ lwA := lwA_mem (List.mem_of_getElem? (i := 318) (by decide +kernel)) (by decide +kernel)
theorem wd_sel_yX4_set : (.selects RX4 yX4_set yX4_set : Cond) ∈ lwA := lwA_mem (List.mem_of_getElem? (i := 319) (by decide +kernel)) (by decide +kernel)
theorem wd_code_yX4_set : (.code yX4_set cX4_set 4 (some .int) : Cond) ∈ lwA := lwA_mem (List.mem_of_getElem? (i := 320) (by decide +kernel)) (by decide +kernel)
theorem wd_fl_RX4_86 : (.fieldLink RX4 86 "DotToner" "LOWEST" "[I" : Cond) ∈ lwA := lwA_mem (List.mem_of_getElem? (i := 321) (by decide +kernel)) (by decide +kernel)
theorem wd_fl_RX4_89 : (.fieldLink RX4 89 "DotToner" "HIGHEST" "[I" : Cond) ∈ lwA := lwA_mem (List.mem_of_getElem? (i := 323) (by decide +kernel)) (by decide +kernel)
theorem wd_ml_RL_39 : (.methodLink RL 39 yX4_append : Cond) ∈ lwA := lwA_mem (List.mem_of_getElem? (i := 325) (by decide +kernel)) (by decide +kernel)
theorem wd_im_yX4_append : (.instanceMethod yX4_append : Cond) ∈ lwA := lwA_mem (List.mem_of_getElem? (i := 326) (by decide +kernel)) (by decide +kernel)
theorem wd_sel_yX4_append : (.selects RX4 yX4_append yX4_append : Cond) ∈ lwA := lwA_mem (List.mem_of_getElem? (i := 327) (by decide +kernel)) (by decide +kernel)
theorem wd_code_yX4_append : (.code yX4_append cX4_append 2 (some .int) : Cond) ∈ lwA := lwA_mem (List.mem_of_getElem? (i := 328) (by decide +kernel)) (by decide +kernel)
theorem wd_ml_RX4_95 : (.methodLink RX4 95 yX2_hasRoom : Cond) ∈ lwA := lwA_mem (List.mem_of_getElem? (i := 329) (by decide +kernel)) (by decide +kernel)
theorem wd_im_yX2_hasRoom : (.instanceMethod yX2_hasRoom : Cond) ∈ lwA := lwA_mem (List.mem_of_getElem? (i := 330) (by decide +kernel)) (by decide +kernel)
theorem wd_sel_yX2_hasRoom : (.selects RX2 yX2_hasRoom yX2_hasRoom : Cond) ∈ lwA := lwA_mem (List.mem_of_getElem? (i := 331) (by decide +kernel)) (by decide +kernel)
theorem wd_code_yX2_hasRoom : (.code yX2_hasRoom cX2_hasRoom 1 (some .boolean) : Cond) ∈ lwA := lwA_mem (List.mem_of_getElem? (i := 332) (by decide +kernel)) (by decide +kernel)
theorem wd_ml_RX4_99 : (.methodLink RX4 99 yX2_add : Cond) ∈ lwA := lwA_mem (List.mem_of_getElem? (i := 333) (by decide +kernel)) (by decide +kernel)
theorem wd_im_yX2_add : (.instanceMethod yX2_add : Cond) ∈ lwA := lwA_mem (List.mem_of_getElem? (i := 334) (by decide +kernel)) (by decide +kernel)
theorem wd_sel_yX2_add : (.selects RX2 yX2_add yX2_add : Cond) ∈ lwA := lwA_mem (List.mem_of_getElem? (i := 335) (by decide +kernel)) (by decide +kernel)
theorem wd_code_yX2_add : (.code yX2_add cX2_add 2 none : Cond) ∈ lwA := lwA_mem (List.mem_of_getElem? (i := 336) (by decide +kernel)) (by decide +kernel)
theorem wd_ml_RX2_41 : (.methodLink RX2 41 yX2_hasRoom : Cond) ∈ lwA := lwA_mem (List.mem_of_getElem? (i := 337) (by decide +kernel)) (by decide +kernel)
theorem wd_ml_RL_43 : (.methodLink RL 43 yX4_clear : Cond) ∈ lwA := lwA_mem (List.mem_of_getElem? (i := 338) (by decide +kernel)) (by decide +kernel)
theorem wd_im_yX4_clear : (.instanceMethod yX4_clear : Cond) ∈ lwA := lwA_mem (List.mem_of_getElem? (i := 339) (by decide +kernel)) (by decide +kernel)
theorem wd_sel_yX4_clear : (.selects RX4 yX4_clear yX4_clear : Cond) ∈ lwA := lwA_mem (List.mem_of_getElem? (i := 340) (by decide +kernel)) (by decide +kernel)
theorem wd_code_yX4_clear : (.code yX4_clear cX4_clear 2 (some .int) : Cond) ∈ lwA := lwA_mem (List.mem_of_getElem? (i := 341) (by decide +kernel)) (by decide +kernel)
theorem wd_ml_RX4_107 : (.methodLink RX4 107 yX2_wipe : Cond) ∈ lwA := lwA_mem (List.mem_of_getElem? (i := 342) (by decide +kernel)) (by decide +kernel)
theorem wd_im_yX2_wipe : (.instanceMethod yX2_wipe : Cond) ∈ lwA := lwA_mem (List.mem_of_getElem? (i := 343) (by decide +kernel)) (by decide +kernel)
theorem wd_sel_yX2_wipe : (.selects RX2 yX2_wipe yX2_wipe : Cond) ∈ lwA := lwA_mem (List.mem_of_getElem? (i := 344) (by decide +kernel)) (by decide +kernel)
theorem wd_code_yX2_wipe : (.code yX2_wipe cX2_wipe 1 none : Cond) ∈ lwA := lwA_mem (List.mem_of_getElem? (i := 345) (by decide +kernel)) (by decide +kernel)
theorem wd_ml_RL_48 : (.methodLink RL 48 yX4_fault : Cond) ∈ lwA := lwA_mem (List.mem_of_getElem? (i := 346) (by decide +kernel)) (by decide +kernel)
theorem wd_im_yX4_fault : (.instanceMethod yX4_fault : Cond) ∈ lwA := lwA_mem (List.mem_of_getElem? (i := 347) (by decide +kernel)) (by decide +kernel)
theorem wd_sel_yX4_fault : (.selects RX4 yX4_fault yX4_fault : Cond) ∈ lwA := lwA_mem (List.mem_of_getElem? (i := 348) (by decide +kernel)) (by decide +kernel)
theorem wd_code_yX4_fault : (.code yX4_fault cX4_fault 1 (some .int) : Cond) ∈ lwA := lwA_mem (List.mem_of_getElem? (i := 349) (by decide +kernel)) (by decide +kernel)
theorem wd_ml_RX4_110 : (.methodLink RX4 110 yX2_findFault : Cond) ∈ lwA := lwA_mem (List.mem_of_getElem? (i := 350) (by decide +kernel)) (by decide +kernel)
theorem wd_im_yX2_findFault : (.instanceMethod yX2_findFault : Cond) ∈ lwA := lwA_mem (List.mem_of_getElem? (i := 351) (by decide +kernel)) (by decide +kernel)
theorem wd_sel_yX2_findFault : (.selects RX2 yX2_findFault yX2_findFault : Cond) ∈ lwA := lwA_mem (List.mem_of_getElem? (i := 352) (by decide +kernel)) (by decide +kernel)
theorem wd_code_yX2_findFault : (.code yX2_findFault cX2_findFault 3 (some .int) : Cond) ∈ lwA := lwA_mem (List.mem_of_getElem? (i := 353) (by decide +kernel)) (by decide +kernel)
theorem wd_ml_RX2_45 : (.methodLink RX2 45 yX2_readDeed : Cond) ∈ lwA := lwA_mem (List.mem_of_getElem? (i := 354) (by decide +kernel)) (by decide +kernel)
theorem wd_im_yX2_readDeed : (.instanceMethod yX2_readDeed : Cond) ∈ lwA := lwA_mem (List.mem_of_getElem? (i := 356) (by decide +kernel)) (by decide +kernel)
theorem wd_code_yX2_readDeed : (.code yX2_readDeed cX2_readDeed 2 (some .boolean) : Cond) ∈ lwA := lwA_mem (List.mem_of_getElem? (i := 357) (by decide +kernel)) (by decide +kernel)
theorem wd_ml_RX2_48 : (.methodLink RX2 48 yX2_read : Cond) ∈ lwA := lwA_mem (List.mem_of_getElem? (i := 358) (by decide +kernel)) (by decide +kernel)
theorem wd_im_yX2_read : (.instanceMethod yX2_read : Cond) ∈ lwA := lwA_mem (List.mem_of_getElem? (i := 360) (by decide +kernel)) (by decide +kernel)
theorem wd_code_yX2_read : (.code yX2_read cX2_read 2 (some .boolean) : Cond) ∈ lwA := lwA_mem (List.mem_of_getElem? (i := 361) (by decide +kernel)) (by decide +kernel)
theorem wd_ml_RX2_52 : (.methodLink RX2 52 yX2_readPrinting : Cond) ∈ lwA := lwA_mem (List.mem_of_getElem? (i := 362) (by decide +kernel)) (by decide +kernel)
theorem wd_im_yX2_readPrinting : (.instanceMethod yX2_readPrinting : Cond) ∈ lwA := lwA_mem (List.mem_of_getElem? (i := 364) (by decide +kernel)) (by decide +kernel)
theorem wd_code_yX2_readPrinting : (.code yX2_readPrinting cX2_readPrinting 4 (some .boolean) : Cond) ∈ lwA := lwA_mem (List.mem_of_getElem? (i := 365) (by decide +kernel)) (by decide +kernel)
theorem wd_ml_RX2_61 : (.methodLink RX2 61 yX2_readBelow : Cond) ∈ lwA := lwA_mem (List.mem_of_getElem? (i := 366) (by decide +kernel)) (by decide +kernel)
theorem wd_im_yX2_readBelow : (.instanceMethod yX2_readBelow : Cond) ∈ lwA := lwA_mem (List.mem_of_getElem? (i := 368) (by decide +kernel)) (by decide +kernel)
theorem wd_code_yX2_readBelow : (.code yX2_readBelow cX2_readBelow 3 (some .int) : Cond) ∈ lwA := lwA_mem (List.mem_of_getElem? (i := 369) (by decide +kernel)) (by decide +kernel)
theorem wd_ml_RX2_65 : (.methodLink RX2 65 yX2_readNumber : Cond) ∈ lwA := lwA_mem (List.mem_of_getElem? (i := 370) (by decide +kernel)) (by decide +kernel)
theorem wd_im_yX2_readNumber : (.instanceMethod yX2_readNumber : Cond) ∈ lwA := lwA_mem (List.mem_of_getElem? (i := 372) (by decide +kernel)) (by decide +kernel)
theorem wd_code_yX2_readNumber : (.code yX2_readNumber cX2_readNumber 7 (some .int) : Cond) ∈ lwA := lwA_mem (List.mem_of_getElem? (i := 373) (by decide +kernel)) (by decide +kernel)
theorem wd_ml_RX2_55 : (.methodLink RX2 55 yX2_readShaking : Cond) ∈ lwA := lwA_mem (List.mem_of_getElem? (i := 374) (by decide +kernel)) (by decide +kernel)
theorem wd_im_yX2_readShaking : (.instanceMethod yX2_readShaking : Cond) ∈ lwA := lwA_mem (List.mem_of_getElem? (i := 376) (by decide +kernel)) (by decide +kernel)
theorem wd_code_yX2_readShaking : (.code yX2_readShaking cX2_readShaking 2 (some .boolean) : Cond) ∈ lwA := lwA_mem (List.mem_of_getElem? (i := 377) (by decide +kernel)) (by decide +kernel)
theorem wd_ml_RX2_58 : (.methodLink RX2 58 yX2_readMoving : Cond) ∈ lwA := lwA_mem (List.mem_of_getElem? (i := 378) (by decide +kernel)) (by decide +kernel)
theorem wd_im_yX2_readMoving : (.instanceMethod yX2_readMoving : Cond) ∈ lwA := lwA_mem (List.mem_of_getElem? (i := 380) (by decide +kernel)) (by decide +kernel)
theorem wd_code_yX2_readMoving : (.code yX2_readMoving cX2_readMoving 3 (some .boolean) : Cond) ∈ lwA := lwA_mem (List.mem_of_getElem? (i := 381) (by decide +kernel)) (by decide +kernel)
theorem wd_ml_RL_52 : (.methodLink RL 52 yX4_run : Cond) ∈ lwA := lwA_mem (List.mem_of_getElem? (i := 382) (by decide +kernel)) (by decide +kernel)
theorem wd_im_yX4_run : (.instanceMethod yX4_run : Cond) ∈ lwA := lwA_mem (List.mem_of_getElem? (i := 383) (by decide +kernel)) (by decide +kernel)
theorem wd_sel_yX4_run : (.selects RX4 yX4_run yX4_run : Cond) ∈ lwA := lwA_mem (List.mem_of_getElem? (i := 384) (by decide +kernel)) (by decide +kernel)
theorem wd_code_yX4_run : (.code yX4_run cX4_run 3 (some .int) : Cond) ∈ lwA := lwA_mem (List.mem_of_getElem? (i := 385) (by decide +kernel)) (by decide +kernel)
theorem wd_ml_RX4_114 : (.methodLink RX4 114 yX3_forget : Cond) ∈ lwA := lwA_mem (List.mem_of_getElem? (i := 386) (by decide +kernel)) (by decide +kernel)
theorem wd_im_yX3_forget : (.instanceMethod yX3_forget : Cond) ∈ lwA := lwA_mem (List.mem_of_getElem? (i := 387) (by decide +kernel)) (by decide +kernel)
theorem wd_sel_yX3_forget : (.selects RX3 yX3_forget yX3_forget : Cond) ∈ lwA := lwA_mem (List.mem_of_getElem? (i := 388) (by decide +kernel)) (by decide +kernel)
theorem wd_code_yX3_forget : (.code yX3_forget cX3_forget 1 none : Cond) ∈ lwA := lwA_mem (List.mem_of_getElem? (i := 389) (by decide +kernel)) (by decide +kernel)
theorem wd_ml_RX3_24 : (.methodLink RX3 24 yX3_note : Cond) ∈ lwA := lwA_mem (List.mem_of_getElem? (i := 390) (by decide +kernel)) (by decide +kernel)
theorem wd_im_yX3_note : (.instanceMethod yX3_note : Cond) ∈ lwA := lwA_mem (List.mem_of_getElem? (i := 391) (by decide +kernel)) (by decide +kernel)
theorem wd_sel_yX3_note : (.selects RX3 yX3_note yX3_note : Cond) ∈ lwA := lwA_mem (List.mem_of_getElem? (i := 392) (by decide +kernel)) (by decide +kernel)
theorem wd_code_yX3_note : (.code yX3_note cX3_note 5 none : Cond) ∈ lwA := lwA_mem (List.mem_of_getElem? (i := 393) (by decide +kernel)) (by decide +kernel)
theorem wd_ml_RX4_120 : (.methodLink RX4 120 yX3_known : Cond) ∈ lwA := lwA_mem (List.mem_of_getElem? (i := 394) (by decide +kernel)) (by decide +kernel)
theorem wd_im_yX3_known : (.instanceMethod yX3_known : Cond) ∈ lwA := lwA_mem (List.mem_of_getElem? (i := 395) (by decide +kernel)) (by decide +kernel)
theorem wd_sel_yX3_known : (.selects RX3 yX3_known yX3_known : Cond) ∈ lwA := lwA_mem (List.mem_of_getElem? (i := 396) (by decide +kernel)) (by decide +kernel)
theorem wd_code_yX3_known : (.code yX3_known cX3_known 1 (some .boolean) : Cond) ∈ lwA := lwA_mem (List.mem_of_getElem? (i := 397) (by decide +kernel)) (by decide +kernel)
theorem wd_ml_RX4_123 : (.methodLink RX4 123 yX4_doDeed : Cond) ∈ lwA := lwA_mem (List.mem_of_getElem? (i := 398) (by decide +kernel)) (by decide +kernel)
theorem wd_im_yX4_doDeed : (.instanceMethod yX4_doDeed : Cond) ∈ lwA := lwA_mem (List.mem_of_getElem? (i := 400) (by decide +kernel)) (by decide +kernel)
theorem wd_code_yX4_doDeed : (.code yX4_doDeed cX4_doDeed 3 (some .int) : Cond) ∈ lwA := lwA_mem (List.mem_of_getElem? (i := 401) (by decide +kernel)) (by decide +kernel)
theorem wd_ml_RX4_239 : (.methodLink RX4 239 yX4_printPagesOf : Cond) ∈ lwA := lwA_mem (List.mem_of_getElem? (i := 402) (by decide +kernel)) (by decide +kernel)
theorem wd_im_yX4_printPagesOf : (.instanceMethod yX4_printPagesOf : Cond) ∈ lwA := lwA_mem (List.mem_of_getElem? (i := 404) (by decide +kernel)) (by decide +kernel)
theorem wd_code_yX4_printPagesOf : (.code yX4_printPagesOf cX4_printPagesOf 5 (some .int) : Cond) ∈ lwA := lwA_mem (List.mem_of_getElem? (i := 405) (by decide +kernel)) (by decide +kernel)
theorem wd_ml_RX4_254 : (.methodLink RX4 254 yX3_note : Cond) ∈ lwA := lwA_mem (List.mem_of_getElem? (i := 406) (by decide +kernel)) (by decide +kernel)
theorem wd_ml_RL_56 : (.methodLink RL 56 yX4_why : Cond) ∈ lwA := lwA_mem (List.mem_of_getElem? (i := 407) (by decide +kernel)) (by decide +kernel)
theorem wd_im_yX4_why : (.instanceMethod yX4_why : Cond) ∈ lwA := lwA_mem (List.mem_of_getElem? (i := 408) (by decide +kernel)) (by decide +kernel)
theorem wd_sel_yX4_why : (.selects RX4 yX4_why yX4_why : Cond) ∈ lwA := lwA_mem (List.mem_of_getElem? (i := 409) (by decide +kernel)) (by decide +kernel)
theorem wd_code_yX4_why : (.code yX4_why cX4_why 2 (some .int) : Cond) ∈ lwA := lwA_mem (List.mem_of_getElem? (i := 410) (by decide +kernel)) (by decide +kernel)
theorem wd_ml_RL_60 : (.methodLink RL 60 yX4_cup : Cond) ∈ lwA := lwA_mem (List.mem_of_getElem? (i := 411) (by decide +kernel)) (by decide +kernel)
theorem wd_im_yX4_cup : (.instanceMethod yX4_cup : Cond) ∈ lwA := lwA_mem (List.mem_of_getElem? (i := 412) (by decide +kernel)) (by decide +kernel)
theorem wd_sel_yX4_cup : (.selects RX4 yX4_cup yX4_cup : Cond) ∈ lwA := lwA_mem (List.mem_of_getElem? (i := 413) (by decide +kernel)) (by decide +kernel)
theorem wd_code_yX4_cup : (.code yX4_cup cX4_cup 3 (some .int) : Cond) ∈ lwA := lwA_mem (List.mem_of_getElem? (i := 414) (by decide +kernel)) (by decide +kernel)
theorem wd_ml_RX4_150 : (.methodLink RX4 150 yX1_scaleTells : Cond) ∈ lwA := lwA_mem (List.mem_of_getElem? (i := 415) (by decide +kernel)) (by decide +kernel)
theorem wd_im_yX1_scaleTells : (.instanceMethod yX1_scaleTells : Cond) ∈ lwA := lwA_mem (List.mem_of_getElem? (i := 416) (by decide +kernel)) (by decide +kernel)
theorem wd_sel_yX1_scaleTells : (.selects RX1 yX1_scaleTells yX1_scaleTells : Cond) ∈ lwA := lwA_mem (List.mem_of_getElem? (i := 417) (by decide +kernel)) (by decide +kernel)
theorem wd_code_yX1_scaleTells : (.code yX1_scaleTells cX1_scaleTells 2 (some .int) : Cond) ∈ lwA := lwA_mem (List.mem_of_getElem? (i := 418) (by decide +kernel)) (by decide +kernel)
theorem wd_ml_RX4_153 : (.methodLink RX4 153 yX1_toldLeft : Cond) ∈ lwA := lwA_mem (List.mem_of_getElem? (i := 419) (by decide +kernel)) (by decide +kernel)
theorem wd_im_yX1_toldLeft : (.instanceMethod yX1_toldLeft : Cond) ∈ lwA := lwA_mem (List.mem_of_getElem? (i := 420) (by decide +kernel)) (by decide +kernel)
theorem wd_sel_yX1_toldLeft : (.selects RX1 yX1_toldLeft yX1_toldLeft : Cond) ∈ lwA := lwA_mem (List.mem_of_getElem? (i := 421) (by decide +kernel)) (by decide +kernel)
theorem wd_code_yX1_toldLeft : (.code yX1_toldLeft cX1_toldLeft 2 (some .int) : Cond) ∈ lwA := lwA_mem (List.mem_of_getElem? (i := 422) (by decide +kernel)) (by decide +kernel)
theorem wd_ml_RX1_99 : (.methodLink RX1 99 yX1_scaleTells : Cond) ∈ lwA := lwA_mem (List.mem_of_getElem? (i := 423) (by decide +kernel)) (by decide +kernel)
theorem wd_con_RX4_156 : (.constant RX4 156 100000 : Cond) ∈ lwA := lwA_mem (List.mem_of_getElem? (i := 424) (by decide +kernel)) (by decide +kernel)
theorem wd_ml_RL_64 : (.methodLink RL 64 yX4_printer : Cond) ∈ lwA := lwA_mem (List.mem_of_getElem? (i := 425) (by decide +kernel)) (by decide +kernel)
theorem wd_im_yX4_printer : (.instanceMethod yX4_printer : Cond) ∈ lwA := lwA_mem (List.mem_of_getElem? (i := 426) (by decide +kernel)) (by decide +kernel)
theorem wd_sel_yX4_printer : (.selects RX4 yX4_printer yX4_printer : Cond) ∈ lwA := lwA_mem (List.mem_of_getElem? (i := 427) (by decide +kernel)) (by decide +kernel)
theorem wd_code_yX4_printer : (.code yX4_printer cX4_printer 3 (some .int) : Cond) ∈ lwA := lwA_mem (List.mem_of_getElem? (i := 428) (by decide +kernel)) (by decide +kernel)
theorem wd_ml_RL_68 : (.methodLink RL 68 yX4_needs : Cond) ∈ lwA := lwA_mem (List.mem_of_getElem? (i := 429) (by decide +kernel)) (by decide +kernel)
theorem wd_im_yX4_needs : (.instanceMethod yX4_needs : Cond) ∈ lwA := lwA_mem (List.mem_of_getElem? (i := 430) (by decide +kernel)) (by decide +kernel)
theorem wd_sel_yX4_needs : (.selects RX4 yX4_needs yX4_needs : Cond) ∈ lwA := lwA_mem (List.mem_of_getElem? (i := 431) (by decide +kernel)) (by decide +kernel)
theorem wd_code_yX4_needs : (.code yX4_needs cX4_needs 4 (some .int) : Cond) ∈ lwA := lwA_mem (List.mem_of_getElem? (i := 432) (by decide +kernel)) (by decide +kernel)
theorem wd_ml_RX4_172 : (.methodLink RX4 172 yX1_tonerFor : Cond) ∈ lwA := lwA_mem (List.mem_of_getElem? (i := 433) (by decide +kernel)) (by decide +kernel)
theorem wd_ml_RX4_176 : (.methodLink RX4 176 yX1_chipFor : Cond) ∈ lwA := lwA_mem (List.mem_of_getElem? (i := 434) (by decide +kernel)) (by decide +kernel)
theorem wd_ml_RL_73 : (.methodLink RL 73 yX4_whyNot : Cond) ∈ lwA := lwA_mem (List.mem_of_getElem? (i := 435) (by decide +kernel)) (by decide +kernel)
theorem wd_im_yX4_whyNot : (.instanceMethod yX4_whyNot : Cond) ∈ lwA := lwA_mem (List.mem_of_getElem? (i := 436) (by decide +kernel)) (by decide +kernel)
theorem wd_sel_yX4_whyNot : (.selects RX4 yX4_whyNot yX4_whyNot : Cond) ∈ lwA := lwA_mem (List.mem_of_getElem? (i := 437) (by decide +kernel)) (by decide +kernel)
theorem wd_code_yX4_whyNot : (.code yX4_whyNot cX4_whyNot 2 (some .int) : Cond) ∈ lwA := lwA_mem (List.mem_of_getElem? (i := 438) (by decide +kernel)) (by decide +kernel)
theorem wd_ml_RX4_179 : (.methodLink RX4 179 yX1_refusal : Cond) ∈ lwA := lwA_mem (List.mem_of_getElem? (i := 439) (by decide +kernel)) (by decide +kernel)
theorem wd_ml_RL_77 : (.methodLink RL 77 yX4_count : Cond) ∈ lwA := lwA_mem (List.mem_of_getElem? (i := 440) (by decide +kernel)) (by decide +kernel)
theorem wd_im_yX4_count : (.instanceMethod yX4_count : Cond) ∈ lwA := lwA_mem (List.mem_of_getElem? (i := 441) (by decide +kernel)) (by decide +kernel)
theorem wd_sel_yX4_count : (.selects RX4 yX4_count yX4_count : Cond) ∈ lwA := lwA_mem (List.mem_of_getElem? (i := 442) (by decide +kernel)) (by decide +kernel)
theorem wd_code_yX4_count : (.code yX4_count cX4_count 2 (some .int) : Cond) ∈ lwA := lwA_mem (List.mem_of_getElem? (i := 443) (by decide +kernel)) (by decide +kernel)
theorem wd_ml_RX4_182 : (.methodLink RX4 182 yX1_allToner : Cond) ∈ lwA := lwA_mem (List.mem_of_getElem? (i := 444) (by decide +kernel)) (by decide +kernel)
theorem wd_im_yX1_allToner : (.instanceMethod yX1_allToner : Cond) ∈ lwA := lwA_mem (List.mem_of_getElem? (i := 445) (by decide +kernel)) (by decide +kernel)
theorem wd_sel_yX1_allToner : (.selects RX1 yX1_allToner yX1_allToner : Cond) ∈ lwA := lwA_mem (List.mem_of_getElem? (i := 446) (by decide +kernel)) (by decide +kernel)
theorem wd_code_yX1_allToner : (.code yX1_allToner cX1_allToner 3 (some .int) : Cond) ∈ lwA := lwA_mem (List.mem_of_getElem? (i := 447) (by decide +kernel)) (by decide +kernel)
theorem wd_ml_RX4_194 : (.methodLink RX4 194 yX1_darkOfAll : Cond) ∈ lwA := lwA_mem (List.mem_of_getElem? (i := 448) (by decide +kernel)) (by decide +kernel)
theorem wd_im_yX1_darkOfAll : (.instanceMethod yX1_darkOfAll : Cond) ∈ lwA := lwA_mem (List.mem_of_getElem? (i := 449) (by decide +kernel)) (by decide +kernel)
theorem wd_sel_yX1_darkOfAll : (.selects RX1 yX1_darkOfAll yX1_darkOfAll : Cond) ∈ lwA := lwA_mem (List.mem_of_getElem? (i := 450) (by decide +kernel)) (by decide +kernel)
theorem wd_code_yX1_darkOfAll : (.code yX1_darkOfAll cX1_darkOfAll 1 (some .int) : Cond) ∈ lwA := lwA_mem (List.mem_of_getElem? (i := 451) (by decide +kernel)) (by decide +kernel)
theorem wd_ml_RX4_197 : (.methodLink RX4 197 yX1_lightOfAll : Cond) ∈ lwA := lwA_mem (List.mem_of_getElem? (i := 452) (by decide +kernel)) (by decide +kernel)
theorem wd_im_yX1_lightOfAll : (.instanceMethod yX1_lightOfAll : Cond) ∈ lwA := lwA_mem (List.mem_of_getElem? (i := 453) (by decide +kernel)) (by decide +kernel)
theorem wd_sel_yX1_lightOfAll : (.selects RX1 yX1_lightOfAll yX1_lightOfAll : Cond) ∈ lwA := lwA_mem (List.mem_of_getElem? (i := 454) (by decide +kernel)) (by decide +kernel)
theorem wd_code_yX1_lightOfAll : (.code yX1_lightOfAll cX1_lightOfAll 1 (some .int) : Cond) ∈ lwA := lwA_mem (List.mem_of_getElem? (i := 455) (by decide +kernel)) (by decide +kernel)
theorem wd_ml_RX4_200 : (.methodLink RX4 200 yX1_cupsInside : Cond) ∈ lwA := lwA_mem (List.mem_of_getElem? (i := 456) (by decide +kernel)) (by decide +kernel)
theorem wd_im_yX1_cupsInside : (.instanceMethod yX1_cupsInside : Cond) ∈ lwA := lwA_mem (List.mem_of_getElem? (i := 457) (by decide +kernel)) (by decide +kernel)
theorem wd_sel_yX1_cupsInside : (.selects RX1 yX1_cupsInside yX1_cupsInside : Cond) ∈ lwA := lwA_mem (List.mem_of_getElem? (i := 458) (by decide +kernel)) (by decide +kernel)
theorem wd_code_yX1_cupsInside : (.code yX1_cupsInside cX1_cupsInside 3 (some .int) : Cond) ∈ lwA := lwA_mem (List.mem_of_getElem? (i := 459) (by decide +kernel)) (by decide +kernel)
theorem wd_ml_RX4_203 : (.methodLink RX4 203 yX1_allToldLeft : Cond) ∈ lwA := lwA_mem (List.mem_of_getElem? (i := 460) (by decide +kernel)) (by decide +kernel)
theorem wd_im_yX1_allToldLeft : (.instanceMethod yX1_allToldLeft : Cond) ∈ lwA := lwA_mem (List.mem_of_getElem? (i := 461) (by decide +kernel)) (by decide +kernel)
theorem wd_sel_yX1_allToldLeft : (.selects RX1 yX1_allToldLeft yX1_allToldLeft : Cond) ∈ lwA := lwA_mem (List.mem_of_getElem? (i := 462) (by decide +kernel)) (by decide +kernel)
theorem wd_code_yX1_allToldLeft : (.code yX1_allToldLeft cX1_allToldLeft 3 (some .int) : Cond) ∈ lwA := lwA_mem (List.mem_of_getElem? (i := 463) (by decide +kernel)) (by decide +kernel)
theorem wd_ml_RX1_102 : (.methodLink RX1 102 yX1_toldLeft : Cond) ∈ lwA := lwA_mem (List.mem_of_getElem? (i := 464) (by decide +kernel)) (by decide +kernel)
theorem wd_ml_RX4_206 : (.methodLink RX4 206 yX1_cupsOvertold : Cond) ∈ lwA := lwA_mem (List.mem_of_getElem? (i := 465) (by decide +kernel)) (by decide +kernel)
theorem wd_im_yX1_cupsOvertold : (.instanceMethod yX1_cupsOvertold : Cond) ∈ lwA := lwA_mem (List.mem_of_getElem? (i := 466) (by decide +kernel)) (by decide +kernel)
theorem wd_sel_yX1_cupsOvertold : (.selects RX1 yX1_cupsOvertold yX1_cupsOvertold : Cond) ∈ lwA := lwA_mem (List.mem_of_getElem? (i := 467) (by decide +kernel)) (by decide +kernel)
theorem wd_code_yX1_cupsOvertold : (.code yX1_cupsOvertold cX1_cupsOvertold 3 (some .int) : Cond) ∈ lwA := lwA_mem (List.mem_of_getElem? (i := 468) (by decide +kernel)) (by decide +kernel)
theorem wd_ml_RL_81 : (.methodLink RL 81 yX4_darkness : Cond) ∈ lwA := lwA_mem (List.mem_of_getElem? (i := 469) (by decide +kernel)) (by decide +kernel)
theorem wd_im_yX4_darkness : (.instanceMethod yX4_darkness : Cond) ∈ lwA := lwA_mem (List.mem_of_getElem? (i := 470) (by decide +kernel)) (by decide +kernel)
theorem wd_sel_yX4_darkness : (.selects RX4 yX4_darkness yX4_darkness : Cond) ∈ lwA := lwA_mem (List.mem_of_getElem? (i := 471) (by decide +kernel)) (by decide +kernel)
theorem wd_code_yX4_darkness : (.code yX4_darkness cX4_darkness 3 (some .double) : Cond) ∈ lwA := lwA_mem (List.mem_of_getElem? (i := 472) (by decide +kernel)) (by decide +kernel)
theorem wd_ml_RL_86 : (.methodLink RL 86 yX4_lasts : Cond) ∈ lwA := lwA_mem (List.mem_of_getElem? (i := 473) (by decide +kernel)) (by decide +kernel)
theorem wd_im_yX4_lasts : (.instanceMethod yX4_lasts : Cond) ∈ lwA := lwA_mem (List.mem_of_getElem? (i := 474) (by decide +kernel)) (by decide +kernel)
theorem wd_sel_yX4_lasts : (.selects RX4 yX4_lasts yX4_lasts : Cond) ∈ lwA := lwA_mem (List.mem_of_getElem? (i := 475) (by decide +kernel)) (by decide +kernel)
theorem wd_code_yX4_lasts : (.code yX4_lasts cX4_lasts 5 (some .int) : Cond) ∈ lwA := lwA_mem (List.mem_of_getElem? (i := 476) (by decide +kernel)) (by decide +kernel)
theorem wd_ml_RX4_212 : (.methodLink RX4 212 yX1_pagesLasting : Cond) ∈ lwA := lwA_mem (List.mem_of_getElem? (i := 477) (by decide +kernel)) (by decide +kernel)
theorem wd_im_yX1_pagesLasting : (.instanceMethod yX1_pagesLasting : Cond) ∈ lwA := lwA_mem (List.mem_of_getElem? (i := 478) (by decide +kernel)) (by decide +kernel)
theorem wd_sel_yX1_pagesLasting : (.selects RX1 yX1_pagesLasting yX1_pagesLasting : Cond) ∈ lwA := lwA_mem (List.mem_of_getElem? (i := 479) (by decide +kernel)) (by decide +kernel)
theorem wd_code_yX1_pagesLasting : (.code yX1_pagesLasting cX1_pagesLasting 9 (some .int) : Cond) ∈ lwA := lwA_mem (List.mem_of_getElem? (i := 480) (by decide +kernel)) (by decide +kernel)
theorem wd_ml_RX1_105 : (.methodLink RX1 105 yX1_wouldBeDark : Cond) ∈ lwA := lwA_mem (List.mem_of_getElem? (i := 481) (by decide +kernel)) (by decide +kernel)
theorem wd_st_yX1_wouldBeDark : (.static yX1_wouldBeDark : Cond) ∈ lwA := lwA_mem (List.mem_of_getElem? (i := 482) (by decide +kernel)) (by decide +kernel)
theorem wd_code_yX1_wouldBeDark : (.code yX1_wouldBeDark cX1_wouldBeDark 2 (some .boolean) : Cond) ∈ lwA := lwA_mem (List.mem_of_getElem? (i := 483) (by decide +kernel)) (by decide +kernel)
theorem wd_ml_RL_91 : (.methodLink RL 91 yX4_atHand : Cond) ∈ lwA := lwA_mem (List.mem_of_getElem? (i := 484) (by decide +kernel)) (by decide +kernel)
theorem wd_im_yX4_atHand : (.instanceMethod yX4_atHand : Cond) ∈ lwA := lwA_mem (List.mem_of_getElem? (i := 485) (by decide +kernel)) (by decide +kernel)
theorem wd_sel_yX4_atHand : (.selects RX4 yX4_atHand yX4_atHand : Cond) ∈ lwA := lwA_mem (List.mem_of_getElem? (i := 486) (by decide +kernel)) (by decide +kernel)
theorem wd_code_yX4_atHand : (.code yX4_atHand cX4_atHand 6 (some .int) : Cond) ∈ lwA := lwA_mem (List.mem_of_getElem? (i := 487) (by decide +kernel)) (by decide +kernel)
theorem wd_ml_RX4_216 : (.methodLink RX4 216 yX1_handPageByPage : Cond) ∈ lwA := lwA_mem (List.mem_of_getElem? (i := 488) (by decide +kernel)) (by decide +kernel)
theorem wd_im_yX1_handPageByPage : (.instanceMethod yX1_handPageByPage : Cond) ∈ lwA := lwA_mem (List.mem_of_getElem? (i := 489) (by decide +kernel)) (by decide +kernel)
theorem wd_sel_yX1_handPageByPage : (.selects RX1 yX1_handPageByPage yX1_handPageByPage : Cond) ∈ lwA := lwA_mem (List.mem_of_getElem? (i := 490) (by decide +kernel)) (by decide +kernel)
theorem wd_code_yX1_handPageByPage : (.code yX1_handPageByPage cX1_handPageByPage 6 (some .int) : Cond) ∈ lwA := lwA_mem (List.mem_of_getElem? (i := 491) (by decide +kernel)) (by decide +kernel)
theorem wd_ml_RX4_219 : (.methodLink RX4 219 yX1_handAddedUp : Cond) ∈ lwA := lwA_mem (List.mem_of_getElem? (i := 492) (by decide +kernel)) (by decide +kernel)
theorem wd_im_yX1_handAddedUp : (.instanceMethod yX1_handAddedUp : Cond) ∈ lwA := lwA_mem (List.mem_of_getElem? (i := 493) (by decide +kernel)) (by decide +kernel)
theorem wd_sel_yX1_handAddedUp : (.selects RX1 yX1_handAddedUp yX1_handAddedUp : Cond) ∈ lwA := lwA_mem (List.mem_of_getElem? (i := 494) (by decide +kernel)) (by decide +kernel)
theorem wd_code_yX1_handAddedUp : (.code yX1_handAddedUp cX1_handAddedUp 8 (some .int) : Cond) ∈ lwA := lwA_mem (List.mem_of_getElem? (i := 495) (by decide +kernel)) (by decide +kernel)
theorem wd_ml_RL_96 : (.methodLink RL 96 yX4_bestFor : Cond) ∈ lwA := lwA_mem (List.mem_of_getElem? (i := 496) (by decide +kernel)) (by decide +kernel)
theorem wd_im_yX4_bestFor : (.instanceMethod yX4_bestFor : Cond) ∈ lwA := lwA_mem (List.mem_of_getElem? (i := 497) (by decide +kernel)) (by decide +kernel)
theorem wd_sel_yX4_bestFor : (.selects RX4 yX4_bestFor yX4_bestFor : Cond) ∈ lwA := lwA_mem (List.mem_of_getElem? (i := 498) (by decide +kernel)) (by decide +kernel)
theorem wd_code_yX4_bestFor : (.code yX4_bestFor cX4_bestFor 7 (some .int) : Cond) ∈ lwA := lwA_mem (List.mem_of_getElem? (i := 499) (by decide +kernel)) (by decide +kernel)
theorem wd_ml_RX4_222 : (.methodLink RX4 222 yX4_isJobLength : Cond) ∈ lwA := lwA_mem (List.mem_of_getElem? (i := 500) (by decide +kernel)) (by decide +kernel)
theorem wd_st_yX4_isJobLength : (.static yX4_isJobLength : Cond) ∈ lwA := lwA_mem (List.mem_of_getElem? (i := 501) (by decide +kernel)) (by decide +kernel)
theorem wd_code_yX4_isJobLength : (.code yX4_isJobLength cX4_isJobLength 1 (some .boolean) : Cond) ∈ lwA := lwA_mem (List.mem_of_getElem? (i := 502) (by decide +kernel)) (by decide +kernel)
theorem wd_ml_RX4_225 : (.methodLink RX4 225 yX1_lastsShaken : Cond) ∈ lwA := lwA_mem (List.mem_of_getElem? (i := 503) (by decide +kernel)) (by decide +kernel)
theorem wd_im_yX1_lastsShaken : (.instanceMethod yX1_lastsShaken : Cond) ∈ lwA := lwA_mem (List.mem_of_getElem? (i := 504) (by decide +kernel)) (by decide +kernel)
theorem wd_sel_yX1_lastsShaken : (.selects RX1 yX1_lastsShaken yX1_lastsShaken : Cond) ∈ lwA := lwA_mem (List.mem_of_getElem? (i := 505) (by decide +kernel)) (by decide +kernel)
theorem wd_code_yX1_lastsShaken : (.code yX1_lastsShaken cX1_lastsShaken 5 (some .boolean) : Cond) ∈ lwA := lwA_mem (List.mem_of_getElem? (i := 506) (by decide +kernel)) (by decide +kernel)
theorem wd_ml_RX1_109 : (.methodLink RX1 109 yX1_pagesLasting : Cond) ∈ lwA := lwA_mem (List.mem_of_getElem? (i := 507) (by decide +kernel)) (by decide +kernel)
theorem wd_ml_RL_100 : (.methodLink RL 100 yX4_darkest : Cond) ∈ lwA := lwA_mem (List.mem_of_getElem? (i := 508) (by decide +kernel)) (by decide +kernel)
theorem wd_im_yX4_darkest : (.instanceMethod yX4_darkest : Cond) ∈ lwA := lwA_mem (List.mem_of_getElem? (i := 509) (by decide +kernel)) (by decide +kernel)
theorem wd_sel_yX4_darkest : (.selects RX4 yX4_darkest yX4_darkest : Cond) ∈ lwA := lwA_mem (List.mem_of_getElem? (i := 510) (by decide +kernel)) (by decide +kernel)
theorem wd_code_yX4_darkest : (.code yX4_darkest cX4_darkest 5 (some .int) : Cond) ∈ lwA := lwA_mem (List.mem_of_getElem? (i := 511) (by decide +kernel)) (by decide +kernel)
theorem wd_ml_RL_104 : (.methodLink RL 104 yX4_undo : Cond) ∈ lwA := lwA_mem (List.mem_of_getElem? (i := 512) (by decide +kernel)) (by decide +kernel)
theorem wd_im_yX4_undo : (.instanceMethod yX4_undo : Cond) ∈ lwA := lwA_mem (List.mem_of_getElem? (i := 513) (by decide +kernel)) (by decide +kernel)
theorem wd_sel_yX4_undo : (.selects RX4 yX4_undo yX4_undo : Cond) ∈ lwA := lwA_mem (List.mem_of_getElem? (i := 514) (by decide +kernel)) (by decide +kernel)
theorem wd_code_yX4_undo : (.code yX4_undo cX4_undo 1 (some .int) : Cond) ∈ lwA := lwA_mem (List.mem_of_getElem? (i := 515) (by decide +kernel)) (by decide +kernel)
theorem wd_ml_RX4_229 : (.methodLink RX4 229 yX0_takeBack : Cond) ∈ lwA := lwA_mem (List.mem_of_getElem? (i := 516) (by decide +kernel)) (by decide +kernel)
theorem wd_im_yX0_takeBack : (.instanceMethod yX0_takeBack : Cond) ∈ lwA := lwA_mem (List.mem_of_getElem? (i := 517) (by decide +kernel)) (by decide +kernel)
theorem wd_sel_yX0_takeBack : (.selects RX0 yX0_takeBack yX0_takeBack : Cond) ∈ lwA := lwA_mem (List.mem_of_getElem? (i := 518) (by decide +kernel)) (by decide +kernel)
theorem wd_code_yX0_takeBack : (.code yX0_takeBack cX0_takeBack 2 none : Cond) ∈ lwA := lwA_mem (List.mem_of_getElem? (i := 519) (by decide +kernel)) (by decide +kernel)
theorem wd_ml_RL_108 : (.methodLink RL 108 yX4_save : Cond) ∈ lwA := lwA_mem (List.mem_of_getElem? (i := 520) (by decide +kernel)) (by decide +kernel)
theorem wd_im_yX4_save : (.instanceMethod yX4_save : Cond) ∈ lwA := lwA_mem (List.mem_of_getElem? (i := 521) (by decide +kernel)) (by decide +kernel)
theorem wd_sel_yX4_save : (.selects RX4 yX4_save yX4_save : Cond) ∈ lwA := lwA_mem (List.mem_of_getElem? (i := 522) (by decide +kernel)) (by decide +kernel)
theorem wd_code_yX4_save : (.code yX4_save cX4_save 1 (some .int) : Cond) ∈ lwA := lwA_mem (List.mem_of_getElem? (i := 523) (by decide +kernel)) (by decide +kernel)
theorem wd_ml_RX4_232 : (.methodLink RX4 232 yX1_becomeLike : Cond) ∈ lwA := lwA_mem (List.mem_of_getElem? (i := 524) (by decide +kernel)) (by decide +kernel)
theorem wd_ml_RL_112 : (.methodLink RL 112 yX4_restore : Cond) ∈ lwA := lwA_mem (List.mem_of_getElem? (i := 525) (by decide +kernel)) (by decide +kernel)
theorem wd_im_yX4_restore : (.instanceMethod yX4_restore : Cond) ∈ lwA := lwA_mem (List.mem_of_getElem? (i := 526) (by decide +kernel)) (by decide +kernel)
theorem wd_sel_yX4_restore : (.selects RX4 yX4_restore yX4_restore : Cond) ∈ lwA := lwA_mem (List.mem_of_getElem? (i := 527) (by decide +kernel)) (by decide +kernel)
theorem wd_code_yX4_restore : (.code yX4_restore cX4_restore 1 (some .int) : Cond) ∈ lwA := lwA_mem (List.mem_of_getElem? (i := 528) (by decide +kernel)) (by decide +kernel)
theorem wd_cl_RL_10 : (.classLink RL 10 RX5 : Cond) ∈ lwA := lwA_mem (List.mem_of_getElem? (i := 529) (by decide +kernel)) (by decide +kernel)
theorem wd_inst_RX5 : (.instantiable RX5 16 : Cond) ∈ lwA := lwA_mem (List.mem_of_getElem? (i := 530) (by decide +kernel)) (by decide +kernel)
theorem wd_ml_RL_12 : (.methodLink RL 12 yX5_init : Cond) ∈ lwA := lwA_mem (List.mem_of_getElem? (i := 531) (by decide +kernel)) (by decide +kernel)
theorem wd_im_yX5_init : (.instanceMethod yX5_init : Cond) ∈ lwA := lwA_mem (List.mem_of_getElem? (i := 532) (by decide +kernel)) (by decide +kernel)
theorem wd_code_yX5_init : (.code yX5_init cX5_init 2 none : Cond) ∈ lwA := lwA_mem (List.mem_of_getElem? (i := 533) (by decide +kernel)) (by decide +kernel)
theorem wd_ml_RX5_1 : (.methodLink RX5 1 objectInit : Cond) ∈ lwA := lwA_mem (List.mem_of_getElem? (i := 534) (by decide +kernel)) (by decide +kernel)
theorem wd_fl_RX5_7 : (.fieldLink RX5 7 "DotTonerModel" "s" "[I" : Cond) ∈ lwA := lwA_mem (List.mem_of_getElem? (i := 535) (by decide +kernel)) (by decide +kernel)
theorem wd_fl_RX5_13 : (.fieldLink RX5 13 "DotTonerModel" "past" "[I" : Cond) ∈ lwA := lwA_mem (List.mem_of_getElem? (i := 536) (by decide +kernel)) (by decide +kernel)
theorem wd_fl_RX5_29 : (.fieldLink RX5 29 "DotTonerModel" "pasts" "I" : Cond) ∈ lwA := lwA_mem (List.mem_of_getElem? (i := 537) (by decide +kernel)) (by decide +kernel)
theorem wd_fl_RX5_16 : (.fieldLink RX5 16 "DotTonerModel" "snapshot" "[I" : Cond) ∈ lwA := lwA_mem (List.mem_of_getElem? (i := 538) (by decide +kernel)) (by decide +kernel)
theorem wd_fl_RX5_163 : (.fieldLink RX5 163 "DotTonerModel" "isKept" "Z" : Cond) ∈ lwA := lwA_mem (List.mem_of_getElem? (i := 539) (by decide +kernel)) (by decide +kernel)
theorem wd_fl_RX5_19 : (.fieldLink RX5 19 "DotTonerModel" "pad" "[I" : Cond) ∈ lwA := lwA_mem (List.mem_of_getElem? (i := 540) (by decide +kernel)) (by decide +kernel)
theorem wd_fl_RX5_82 : (.fieldLink RX5 82 "DotTonerModel" "length" "I" : Cond) ∈ lwA := lwA_mem (List.mem_of_getElem? (i := 541) (by decide +kernel)) (by decide +kernel)
theorem wd_fl_RX5_22 : (.fieldLink RX5 22 "DotTonerModel" "stop" "[I" : Cond) ∈ lwA := lwA_mem (List.mem_of_getElem? (i := 542) (by decide +kernel)) (by decide +kernel)
theorem wd_fl_RX5_85 : (.fieldLink RX5 85 "DotTonerModel" "spot" "I" : Cond) ∈ lwA := lwA_mem (List.mem_of_getElem? (i := 543) (by decide +kernel)) (by decide +kernel)
theorem wd_fl_RX5_88 : (.fieldLink RX5 88 "DotTonerModel" "isWrong" "Z" : Cond) ∈ lwA := lwA_mem (List.mem_of_getElem? (i := 544) (by decide +kernel)) (by decide +kernel)
theorem wd_fl_RX5_99 : (.fieldLink RX5 99 "DotTonerModel" "letter" "I" : Cond) ∈ lwA := lwA_mem (List.mem_of_getElem? (i := 545) (by decide +kernel)) (by decide +kernel)
theorem wd_fl_RX5_105 : (.fieldLink RX5 105 "DotTonerModel" "first" "I" : Cond) ∈ lwA := lwA_mem (List.mem_of_getElem? (i := 546) (by decide +kernel)) (by decide +kernel)
theorem wd_fl_RX5_115 : (.fieldLink RX5 115 "DotTonerModel" "second" "I" : Cond) ∈ lwA := lwA_mem (List.mem_of_getElem? (i := 547) (by decide +kernel)) (by decide +kernel)
theorem wd_fl_RX5_102 : (.fieldLink RX5 102 "DotTonerModel" "times" "I" : Cond) ∈ lwA := lwA_mem (List.mem_of_getElem? (i := 548) (by decide +kernel)) (by decide +kernel)
theorem wd_fl_RX5_150 : (.fieldLink RX5 150 "DotTonerModel" "hand" "I" : Cond) ∈ lwA := lwA_mem (List.mem_of_getElem? (i := 549) (by decide +kernel)) (by decide +kernel)
theorem wd_fl_RX5_153 : (.fieldLink RX5 153 "DotTonerModel" "settled" "I" : Cond) ∈ lwA := lwA_mem (List.mem_of_getElem? (i := 550) (by decide +kernel)) (by decide +kernel)
theorem wd_ml_RL_17 : (.methodLink RL 17 yX5_print : Cond) ∈ lwA := lwA_mem (List.mem_of_getElem? (i := 584) (by decide +kernel)) (by decide +kernel)
theorem wd_im_yX5_print : (.instanceMethod yX5_print : Cond) ∈ lwA := lwA_mem (List.mem_of_getElem? (i := 585) (by decide +kernel)) (by decide +kernel)
theorem wd_sel_yX5_print : (.selects RX5 yX5_print yX5_print : Cond) ∈ lwA := lwA_mem (List.mem_of_getElem? (i := 586) (by decide +kernel)) (by decide +kernel)
theorem wd_code_yX5_print : (.code yX5_print cX5_print 3 (some .int) : Cond) ∈ lwA := lwA_mem (List.mem_of_getElem? (i := 587) (by decide +kernel)) (by decide +kernel)
theorem wd_ml_RX5_48 : (.methodLink RX5 48 yX5_isPrinter : Cond) ∈ lwA := lwA_mem (List.mem_of_getElem? (i := 588) (by decide +kernel)) (by decide +kernel)
theorem wd_st_yX5_isPrinter : (.static yX5_isPrinter : Cond) ∈ lwA := lwA_mem (List.mem_of_getElem? (i := 589) (by decide +kernel)) (by decide +kernel)
theorem wd_code_yX5_isPrinter : (.code yX5_isPrinter cX5_isPrinter 1 (some .boolean) : Cond) ∈ lwA := lwA_mem (List.mem_of_getElem? (i := 590) (by decide +kernel)) (by decide +kernel)
theorem wd_ml_RX5_25 : (.methodLink RX5 25 yX5_in : Cond) ∈ lwA := lwA_mem (List.mem_of_getElem? (i := 591) (by decide +kernel)) (by decide +kernel)
theorem wd_st_yX5_in : (.static yX5_in : Cond) ∈ lwA := lwA_mem (List.mem_of_getElem? (i := 592) (by decide +kernel)) (by decide +kernel)
theorem wd_code_yX5_in : (.code yX5_in cX5_in 3 (some .boolean) : Cond) ∈ lwA := lwA_mem (List.mem_of_getElem? (i := 593) (by decide +kernel)) (by decide +kernel)
theorem wd_ml_RX5_52 : (.methodLink RX5 52 yX5_areDots : Cond) ∈ lwA := lwA_mem (List.mem_of_getElem? (i := 594) (by decide +kernel)) (by decide +kernel)
theorem wd_st_yX5_areDots : (.static yX5_areDots : Cond) ∈ lwA := lwA_mem (List.mem_of_getElem? (i := 595) (by decide +kernel)) (by decide +kernel)
theorem wd_code_yX5_areDots : (.code yX5_areDots cX5_areDots 1 (some .boolean) : Cond) ∈ lwA := lwA_mem (List.mem_of_getElem? (i := 596) (by decide +kernel)) (by decide +kernel)
theorem wd_ml_RX5_55 : (.methodLink RX5 55 yX5_records : Cond) ∈ lwA := lwA_mem (List.mem_of_getElem? (i := 597) (by decide +kernel)) (by decide +kernel)
theorem wd_im_yX5_records : (.instanceMethod yX5_records : Cond) ∈ lwA := lwA_mem (List.mem_of_getElem? (i := 599) (by decide +kernel)) (by decide +kernel)
theorem wd_code_yX5_records : (.code yX5_records cX5_records 2 none : Cond) ∈ lwA := lwA_mem (List.mem_of_getElem? (i := 600) (by decide +kernel)) (by decide +kernel)
theorem wd_ml_RX5_58 : (.methodLink RX5 58 yX5_prints : Cond) ∈ lwA := lwA_mem (List.mem_of_getElem? (i := 601) (by decide +kernel)) (by decide +kernel)
theorem wd_im_yX5_prints : (.instanceMethod yX5_prints : Cond) ∈ lwA := lwA_mem (List.mem_of_getElem? (i := 603) (by decide +kernel)) (by decide +kernel)
theorem wd_code_yX5_prints : (.code yX5_prints cX5_prints 10 (some .int) : Cond) ∈ lwA := lwA_mem (List.mem_of_getElem? (i := 604) (by decide +kernel)) (by decide +kernel)
theorem wd_ml_RX5_41 : (.methodLink RX5 41 yX5_reason : Cond) ∈ lwA := lwA_mem (List.mem_of_getElem? (i := 605) (by decide +kernel)) (by decide +kernel)
theorem wd_im_yX5_reason : (.instanceMethod yX5_reason : Cond) ∈ lwA := lwA_mem (List.mem_of_getElem? (i := 607) (by decide +kernel)) (by decide +kernel)
theorem wd_code_yX5_reason : (.code yX5_reason cX5_reason 3 (some .int) : Cond) ∈ lwA := lwA_mem (List.mem_of_getElem? (i := 608) (by decide +kernel)) (by decide +kernel)
theorem wd_ml_RX5_33 : (.methodLink RX5 33 yX5_need : Cond) ∈ lwA := lwA_mem (List.mem_of_getElem? (i := 609) (by decide +kernel)) (by decide +kernel)
theorem wd_im_yX5_need : (.instanceMethod yX5_need : Cond) ∈ lwA := lwA_mem (List.mem_of_getElem? (i := 611) (by decide +kernel)) (by decide +kernel)
theorem wd_code_yX5_need : (.code yX5_need cX5_need 5 (some .int) : Cond) ∈ lwA := lwA_mem (List.mem_of_getElem? (i := 612) (by decide +kernel)) (by decide +kernel)
theorem wd_ml_RX5_44 : (.methodLink RX5 44 yX5_counted : Cond) ∈ lwA := lwA_mem (List.mem_of_getElem? (i := 613) (by decide +kernel)) (by decide +kernel)
theorem wd_im_yX5_counted : (.instanceMethod yX5_counted : Cond) ∈ lwA := lwA_mem (List.mem_of_getElem? (i := 615) (by decide +kernel)) (by decide +kernel)
theorem wd_code_yX5_counted : (.code yX5_counted cX5_counted 3 (some .int) : Cond) ∈ lwA := lwA_mem (List.mem_of_getElem? (i := 616) (by decide +kernel)) (by decide +kernel)
theorem wd_ml_RL_22 : (.methodLink RL 22 yX5_shake : Cond) ∈ lwA := lwA_mem (List.mem_of_getElem? (i := 617) (by decide +kernel)) (by decide +kernel)
theorem wd_im_yX5_shake : (.instanceMethod yX5_shake : Cond) ∈ lwA := lwA_mem (List.mem_of_getElem? (i := 618) (by decide +kernel)) (by decide +kernel)
theorem wd_sel_yX5_shake : (.selects RX5 yX5_shake yX5_shake : Cond) ∈ lwA := lwA_mem (List.mem_of_getElem? (i := 619) (by decide +kernel)) (by decide +kernel)
theorem wd_code_yX5_shake : (.code yX5_shake cX5_shake 2 (some .int) : Cond) ∈ lwA := lwA_mem (List.mem_of_getElem? (i := 620) (by decide +kernel)) (by decide +kernel)
theorem wd_ml_RX5_61 : (.methodLink RX5 61 yX5_isCup : Cond) ∈ lwA := lwA_mem (List.mem_of_getElem? (i := 621) (by decide +kernel)) (by decide +kernel)
theorem wd_st_yX5_isCup : (.static yX5_isCup : Cond) ∈ lwA := lwA_mem (List.mem_of_getElem? (i := 622) (by decide +kernel)) (by decide +kernel)
theorem wd_code_yX5_isCup : (.code yX5_isCup cX5_isCup 1 (some .boolean) : Cond) ∈ lwA := lwA_mem (List.mem_of_getElem? (i := 623) (by decide +kernel)) (by decide +kernel)
theorem wd_ml_RX5_64 : (.methodLink RX5 64 yX5_shakes : Cond) ∈ lwA := lwA_mem (List.mem_of_getElem? (i := 624) (by decide +kernel)) (by decide +kernel)
theorem wd_im_yX5_shakes : (.instanceMethod yX5_shakes : Cond) ∈ lwA := lwA_mem (List.mem_of_getElem? (i := 626) (by decide +kernel)) (by decide +kernel)
theorem wd_code_yX5_shakes : (.code yX5_shakes cX5_shakes 3 (some .int) : Cond) ∈ lwA := lwA_mem (List.mem_of_getElem? (i := 627) (by decide +kernel)) (by decide +kernel)
theorem wd_ml_RL_26 : (.methodLink RL 26 yX5_move : Cond) ∈ lwA := lwA_mem (List.mem_of_getElem? (i := 628) (by decide +kernel)) (by decide +kernel)
theorem wd_im_yX5_move : (.instanceMethod yX5_move : Cond) ∈ lwA := lwA_mem (List.mem_of_getElem? (i := 629) (by decide +kernel)) (by decide +kernel)
theorem wd_sel_yX5_move : (.selects RX5 yX5_move yX5_move : Cond) ∈ lwA := lwA_mem (List.mem_of_getElem? (i := 630) (by decide +kernel)) (by decide +kernel)
theorem wd_code_yX5_move : (.code yX5_move cX5_move 3 (some .int) : Cond) ∈ lwA := lwA_mem (List.mem_of_getElem? (i := 631) (by decide +kernel)) (by decide +kernel)
theorem wd_ml_RX5_73 : (.methodLink RX5 73 yX5_moves : Cond) ∈ lwA := lwA_mem (List.mem_of_getElem? (i := 632) (by decide +kernel)) (by decide +kernel)
theorem wd_im_yX5_moves : (.instanceMethod yX5_moves : Cond) ∈ lwA := lwA_mem (List.mem_of_getElem? (i := 634) (by decide +kernel)) (by decide +kernel)
theorem wd_code_yX5_moves : (.code yX5_moves cX5_moves 5 (some .int) : Cond) ∈ lwA := lwA_mem (List.mem_of_getElem? (i := 635) (by decide +kernel)) (by decide +kernel)
theorem wd_ml_RX5_67 : (.methodLink RX5 67 yX5_where : Cond) ∈ lwA := lwA_mem (List.mem_of_getElem? (i := 636) (by decide +kernel)) (by decide +kernel)
theorem wd_im_yX5_where : (.instanceMethod yX5_where : Cond) ∈ lwA := lwA_mem (List.mem_of_getElem? (i := 638) (by decide +kernel)) (by decide +kernel)
theorem wd_code_yX5_where : (.code yX5_where cX5_where 2 (some .int) : Cond) ∈ lwA := lwA_mem (List.mem_of_getElem? (i := 639) (by decide +kernel)) (by decide +kernel)
theorem wd_ml_RX5_70 : (.methodLink RX5 70 yX5_takes : Cond) ∈ lwA := lwA_mem (List.mem_of_getElem? (i := 640) (by decide +kernel)) (by decide +kernel)
theorem wd_im_yX5_takes : (.instanceMethod yX5_takes : Cond) ∈ lwA := lwA_mem (List.mem_of_getElem? (i := 642) (by decide +kernel)) (by decide +kernel)
theorem wd_code_yX5_takes : (.code yX5_takes cX5_takes 4 (some .int) : Cond) ∈ lwA := lwA_mem (List.mem_of_getElem? (i := 643) (by decide +kernel)) (by decide +kernel)
theorem wd_ml_RL_30 : (.methodLink RL 30 yX5_takeOut : Cond) ∈ lwA := lwA_mem (List.mem_of_getElem? (i := 644) (by decide +kernel)) (by decide +kernel)
theorem wd_im_yX5_takeOut : (.instanceMethod yX5_takeOut : Cond) ∈ lwA := lwA_mem (List.mem_of_getElem? (i := 645) (by decide +kernel)) (by decide +kernel)
theorem wd_sel_yX5_takeOut : (.selects RX5 yX5_takeOut yX5_takeOut : Cond) ∈ lwA := lwA_mem (List.mem_of_getElem? (i := 646) (by decide +kernel)) (by decide +kernel)
theorem wd_code_yX5_takeOut : (.code yX5_takeOut cX5_takeOut 4 (some .int) : Cond) ∈ lwA := lwA_mem (List.mem_of_getElem? (i := 647) (by decide +kernel)) (by decide +kernel)
theorem wd_ml_RL_34 : (.methodLink RL 34 yX5_refill : Cond) ∈ lwA := lwA_mem (List.mem_of_getElem? (i := 648) (by decide +kernel)) (by decide +kernel)
theorem wd_im_yX5_refill : (.instanceMethod yX5_refill : Cond) ∈ lwA := lwA_mem (List.mem_of_getElem? (i := 649) (by decide +kernel)) (by decide +kernel)
theorem wd_sel_yX5_refill : (.selects RX5 yX5_refill yX5_refill : Cond) ∈ lwA := lwA_mem (List.mem_of_getElem? (i := 650) (by decide +kernel)) (by decide +kernel)
theorem wd_code_yX5_refill : (.code yX5_refill cX5_refill 5 (some .int) : Cond) ∈ lwA := lwA_mem (List.mem_of_getElem? (i := 651) (by decide +kernel)) (by decide +kernel)
theorem wd_ml_RX5_37 : (.methodLink RX5 37 yX5_tonerOf : Cond) ∈ lwA := lwA_mem (List.mem_of_getElem? (i := 652) (by decide +kernel)) (by decide +kernel)
theorem wd_im_yX5_tonerOf : (.instanceMethod yX5_tonerOf : Cond) ∈ lwA := lwA_mem (List.mem_of_getElem? (i := 654) (by decide +kernel)) (by decide +kernel)
theorem wd_code_yX5_tonerOf : (.code yX5_tonerOf cX5_tonerOf 2 (some .int) : Cond) ∈ lwA := lwA_mem (List.mem_of_getElem? (i := 655) (by decide +kernel)) (by decide +kernel)
theorem wd_ml_RL_38 : (.methodLink RL 38 yX5_set : Cond) ∈ lwA := lwA_mem (List.mem_of_getElem? (i := 656) (by decide +kernel)) (by decide +kernel)
theorem wd_im_yX5_set : (.instanceMethod yX5_set : Cond) ∈ lwA := lwA_mem (List.mem_of_getElem? (i := 657) (by decide +kernel)) (by decide +kernel)
theorem wd_sel_yX5_set : (.selects RX5 yX5_set yX5_set : Cond) ∈ lwA := lwA_mem (List.mem_of_getElem? (i := 658) (by decide +kernel)) (by decide +kernel)
theorem wd_code_yX5_set : (.code yX5_set cX5_set 4 (some .int) : Cond) ∈ lwA := lwA_mem (List.mem_of_getElem? (i := 659) (by decide +kernel)) (by decide +kernel)
theorem wd_ml_RX5_76 : (.methodLink RX5 76 yX5_lowest : Cond) ∈ lwA := lwA_mem (List.mem_of_getElem? (i := 660) (by decide +kernel)) (by decide +kernel)
theorem wd_st_yX5_lowest : (.static yX5_lowest : Cond) ∈ lwA := lwA_mem (List.mem_of_getElem? (i := 661) (by decide +kernel)) (by decide +kernel)
theorem wd_code_yX5_lowest : (.code yX5_lowest cX5_lowest 1 (some .int) : Cond) ∈ lwA := lwA_mem (List.mem_of_getElem? (i := 662) (by decide +kernel)) (by decide +kernel)
theorem wd_ml_RX5_79 : (.methodLink RX5 79 yX5_highest : Cond) ∈ lwA := lwA_mem (List.mem_of_getElem? (i := 663) (by decide +kernel)) (by decide +kernel)
theorem wd_st_yX5_highest : (.static yX5_highest : Cond) ∈ lwA := lwA_mem (List.mem_of_getElem? (i := 664) (by decide +kernel)) (by decide +kernel)
theorem wd_code_yX5_highest : (.code yX5_highest cX5_highest 1 (some .int) : Cond) ∈ lwA := lwA_mem (List.mem_of_getElem? (i := 665) (by decide +kernel)) (by decide +kernel)
theorem wd_ml_RL_42 : (.methodLink RL 42 yX5_append : Cond) ∈ lwA := lwA_mem (List.mem_of_getElem? (i := 666) (by decide +kernel)) (by decide +kernel)
theorem wd_im_yX5_append : (.instanceMethod yX5_append : Cond) ∈ lwA := lwA_mem (List.mem_of_getElem? (i := 667) (by decide +kernel)) (by decide +kernel)
theorem wd_sel_yX5_append : (.selects RX5 yX5_append yX5_append : Cond) ∈ lwA := lwA_mem (List.mem_of_getElem? (i := 668) (by decide +kernel)) (by decide +kernel)
theorem wd_code_yX5_append : (.code yX5_append cX5_append 2 (some .int) : Cond) ∈ lwA := lwA_mem (List.mem_of_getElem? (i := 669) (by decide +kernel)) (by decide +kernel)
theorem wd_ml_RL_47 : (.methodLink RL 47 yX5_clear : Cond) ∈ lwA := lwA_mem (List.mem_of_getElem? (i := 670) (by decide +kernel)) (by decide +kernel)
theorem wd_im_yX5_clear : (.instanceMethod yX5_clear : Cond) ∈ lwA := lwA_mem (List.mem_of_getElem? (i := 671) (by decide +kernel)) (by decide +kernel)
theorem wd_sel_yX5_clear : (.selects RX5 yX5_clear yX5_clear : Cond) ∈ lwA := lwA_mem (List.mem_of_getElem? (i := 672) (by decide +kernel)) (by decide +kernel)
theorem wd_code_yX5_clear : (.code yX5_clear cX5_clear 2 (some .int) : Cond) ∈ lwA := lwA_mem (List.mem_of_getElem? (i := 673) (by decide +kernel)) (by decide +kernel)
theorem wd_ml_RL_51 : (.methodLink RL 51 yX5_fault : Cond) ∈ lwA := lwA_mem (List.mem_of_getElem? (i := 674) (by decide +kernel)) (by decide +kernel)
theorem wd_im_yX5_fault : (.instanceMethod yX5_fault : Cond) ∈ lwA := lwA_mem (List.mem_of_getElem? (i := 675) (by decide +kernel)) (by decide +kernel)
theorem wd_sel_yX5_fault : (.selects RX5 yX5_fault yX5_fault : Cond) ∈ lwA := lwA_mem (List.mem_of_getElem? (i := 676) (by decide +kernel)) (by decide +kernel)
theorem wd_code_yX5_fault : (.code yX5_fault cX5_fault 1 (some .int) : Cond) ∈ lwA := lwA_mem (List.mem_of_getElem? (i := 677) (by decide +kernel)) (by decide +kernel)
theorem wd_ml_RX5_121 : (.methodLink RX5 121 yX5_isJob : Cond) ∈ lwA := lwA_mem (List.mem_of_getElem? (i := 678) (by decide +kernel)) (by decide +kernel)
theorem wd_im_yX5_isJob : (.instanceMethod yX5_isJob : Cond) ∈ lwA := lwA_mem (List.mem_of_getElem? (i := 680) (by decide +kernel)) (by decide +kernel)
theorem wd_code_yX5_isJob : (.code yX5_isJob cX5_isJob 2 (some .boolean) : Cond) ∈ lwA := lwA_mem (List.mem_of_getElem? (i := 681) (by decide +kernel)) (by decide +kernel)
theorem wd_ml_RX5_118 : (.methodLink RX5 118 yX5_deed : Cond) ∈ lwA := lwA_mem (List.mem_of_getElem? (i := 682) (by decide +kernel)) (by decide +kernel)
theorem wd_im_yX5_deed : (.instanceMethod yX5_deed : Cond) ∈ lwA := lwA_mem (List.mem_of_getElem? (i := 684) (by decide +kernel)) (by decide +kernel)
theorem wd_code_yX5_deed : (.code yX5_deed cX5_deed 1 none : Cond) ∈ lwA := lwA_mem (List.mem_of_getElem? (i := 685) (by decide +kernel)) (by decide +kernel)
theorem wd_ml_RX5_92 : (.methodLink RX5 92 yX5_next : Cond) ∈ lwA := lwA_mem (List.mem_of_getElem? (i := 686) (by decide +kernel)) (by decide +kernel)
theorem wd_im_yX5_next : (.instanceMethod yX5_next : Cond) ∈ lwA := lwA_mem (List.mem_of_getElem? (i := 688) (by decide +kernel)) (by decide +kernel)
theorem wd_code_yX5_next : (.code yX5_next cX5_next 1 (some .int) : Cond) ∈ lwA := lwA_mem (List.mem_of_getElem? (i := 689) (by decide +kernel)) (by decide +kernel)
theorem wd_ml_RX5_96 : (.methodLink RX5 96 yX5_digit : Cond) ∈ lwA := lwA_mem (List.mem_of_getElem? (i := 690) (by decide +kernel)) (by decide +kernel)
theorem wd_im_yX5_digit : (.instanceMethod yX5_digit : Cond) ∈ lwA := lwA_mem (List.mem_of_getElem? (i := 692) (by decide +kernel)) (by decide +kernel)
theorem wd_code_yX5_digit : (.code yX5_digit cX5_digit 4 (some .int) : Cond) ∈ lwA := lwA_mem (List.mem_of_getElem? (i := 693) (by decide +kernel)) (by decide +kernel)
theorem wd_ml_RX5_108 : (.methodLink RX5 108 yX5_sign : Cond) ∈ lwA := lwA_mem (List.mem_of_getElem? (i := 694) (by decide +kernel)) (by decide +kernel)
theorem wd_im_yX5_sign : (.instanceMethod yX5_sign : Cond) ∈ lwA := lwA_mem (List.mem_of_getElem? (i := 696) (by decide +kernel)) (by decide +kernel)
theorem wd_code_yX5_sign : (.code yX5_sign cX5_sign 2 none : Cond) ∈ lwA := lwA_mem (List.mem_of_getElem? (i := 697) (by decide +kernel)) (by decide +kernel)
theorem wd_ml_RX5_112 : (.methodLink RX5 112 yX5_number : Cond) ∈ lwA := lwA_mem (List.mem_of_getElem? (i := 698) (by decide +kernel)) (by decide +kernel)
theorem wd_im_yX5_number : (.instanceMethod yX5_number : Cond) ∈ lwA := lwA_mem (List.mem_of_getElem? (i := 700) (by decide +kernel)) (by decide +kernel)
theorem wd_code_yX5_number : (.code yX5_number cX5_number 5 (some .int) : Cond) ∈ lwA := lwA_mem (List.mem_of_getElem? (i := 701) (by decide +kernel)) (by decide +kernel)
theorem wd_ml_RL_55 : (.methodLink RL 55 yX5_run : Cond) ∈ lwA := lwA_mem (List.mem_of_getElem? (i := 702) (by decide +kernel)) (by decide +kernel)
theorem wd_im_yX5_run : (.instanceMethod yX5_run : Cond) ∈ lwA := lwA_mem (List.mem_of_getElem? (i := 703) (by decide +kernel)) (by decide +kernel)
theorem wd_sel_yX5_run : (.selects RX5 yX5_run yX5_run : Cond) ∈ lwA := lwA_mem (List.mem_of_getElem? (i := 704) (by decide +kernel)) (by decide +kernel)
theorem wd_code_yX5_run : (.code yX5_run cX5_run 5 (some .int) : Cond) ∈ lwA := lwA_mem (List.mem_of_getElem? (i := 705) (by decide +kernel)) (by decide +kernel)
theorem wd_ml_RX5_125 : (.methodLink RX5 125 yX5_pages : Cond) ∈ lwA := lwA_mem (List.mem_of_getElem? (i := 706) (by decide +kernel)) (by decide +kernel)
theorem wd_im_yX5_pages : (.instanceMethod yX5_pages : Cond) ∈ lwA := lwA_mem (List.mem_of_getElem? (i := 708) (by decide +kernel)) (by decide +kernel)
theorem wd_code_yX5_pages : (.code yX5_pages cX5_pages 4 (some .int) : Cond) ∈ lwA := lwA_mem (List.mem_of_getElem? (i := 709) (by decide +kernel)) (by decide +kernel)
theorem wd_ml_RL_59 : (.methodLink RL 59 yX5_why : Cond) ∈ lwA := lwA_mem (List.mem_of_getElem? (i := 710) (by decide +kernel)) (by decide +kernel)
theorem wd_im_yX5_why : (.instanceMethod yX5_why : Cond) ∈ lwA := lwA_mem (List.mem_of_getElem? (i := 711) (by decide +kernel)) (by decide +kernel)
theorem wd_sel_yX5_why : (.selects RX5 yX5_why yX5_why : Cond) ∈ lwA := lwA_mem (List.mem_of_getElem? (i := 712) (by decide +kernel)) (by decide +kernel)
theorem wd_code_yX5_why : (.code yX5_why cX5_why 2 (some .int) : Cond) ∈ lwA := lwA_mem (List.mem_of_getElem? (i := 713) (by decide +kernel)) (by decide +kernel)
theorem wd_ml_RL_63 : (.methodLink RL 63 yX5_cup : Cond) ∈ lwA := lwA_mem (List.mem_of_getElem? (i := 714) (by decide +kernel)) (by decide +kernel)
theorem wd_im_yX5_cup : (.instanceMethod yX5_cup : Cond) ∈ lwA := lwA_mem (List.mem_of_getElem? (i := 715) (by decide +kernel)) (by decide +kernel)
theorem wd_sel_yX5_cup : (.selects RX5 yX5_cup yX5_cup : Cond) ∈ lwA := lwA_mem (List.mem_of_getElem? (i := 716) (by decide +kernel)) (by decide +kernel)
theorem wd_code_yX5_cup : (.code yX5_cup cX5_cup 3 (some .int) : Cond) ∈ lwA := lwA_mem (List.mem_of_getElem? (i := 717) (by decide +kernel)) (by decide +kernel)
theorem wd_ml_RX5_128 : (.methodLink RX5 128 yX5_scale : Cond) ∈ lwA := lwA_mem (List.mem_of_getElem? (i := 718) (by decide +kernel)) (by decide +kernel)
theorem wd_im_yX5_scale : (.instanceMethod yX5_scale : Cond) ∈ lwA := lwA_mem (List.mem_of_getElem? (i := 720) (by decide +kernel)) (by decide +kernel)
theorem wd_code_yX5_scale : (.code yX5_scale cX5_scale 2 (some .int) : Cond) ∈ lwA := lwA_mem (List.mem_of_getElem? (i := 721) (by decide +kernel)) (by decide +kernel)
theorem wd_ml_RX5_131 : (.methodLink RX5 131 yX5_left : Cond) ∈ lwA := lwA_mem (List.mem_of_getElem? (i := 722) (by decide +kernel)) (by decide +kernel)
theorem wd_im_yX5_left : (.instanceMethod yX5_left : Cond) ∈ lwA := lwA_mem (List.mem_of_getElem? (i := 724) (by decide +kernel)) (by decide +kernel)
theorem wd_code_yX5_left : (.code yX5_left cX5_left 2 (some .int) : Cond) ∈ lwA := lwA_mem (List.mem_of_getElem? (i := 725) (by decide +kernel)) (by decide +kernel)
theorem wd_con_RX5_134 : (.constant RX5 134 100000 : Cond) ∈ lwA := lwA_mem (List.mem_of_getElem? (i := 726) (by decide +kernel)) (by decide +kernel)
theorem wd_ml_RL_67 : (.methodLink RL 67 yX5_printer : Cond) ∈ lwA := lwA_mem (List.mem_of_getElem? (i := 727) (by decide +kernel)) (by decide +kernel)
theorem wd_im_yX5_printer : (.instanceMethod yX5_printer : Cond) ∈ lwA := lwA_mem (List.mem_of_getElem? (i := 728) (by decide +kernel)) (by decide +kernel)
theorem wd_sel_yX5_printer : (.selects RX5 yX5_printer yX5_printer : Cond) ∈ lwA := lwA_mem (List.mem_of_getElem? (i := 729) (by decide +kernel)) (by decide +kernel)
theorem wd_code_yX5_printer : (.code yX5_printer cX5_printer 3 (some .int) : Cond) ∈ lwA := lwA_mem (List.mem_of_getElem? (i := 730) (by decide +kernel)) (by decide +kernel)
theorem wd_ml_RL_72 : (.methodLink RL 72 yX5_needs : Cond) ∈ lwA := lwA_mem (List.mem_of_getElem? (i := 731) (by decide +kernel)) (by decide +kernel)
theorem wd_im_yX5_needs : (.instanceMethod yX5_needs : Cond) ∈ lwA := lwA_mem (List.mem_of_getElem? (i := 732) (by decide +kernel)) (by decide +kernel)
theorem wd_sel_yX5_needs : (.selects RX5 yX5_needs yX5_needs : Cond) ∈ lwA := lwA_mem (List.mem_of_getElem? (i := 733) (by decide +kernel)) (by decide +kernel)
theorem wd_code_yX5_needs : (.code yX5_needs cX5_needs 4 (some .int) : Cond) ∈ lwA := lwA_mem (List.mem_of_getElem? (i := 734) (by decide +kernel)) (by decide +kernel)
theorem wd_ml_RL_76 : (.methodLink RL 76 yX5_whyNot : Cond) ∈ lwA := lwA_mem (List.mem_of_getElem? (i := 735) (by decide +kernel)) (by decide +kernel)
theorem wd_im_yX5_whyNot : (.instanceMethod yX5_whyNot : Cond) ∈ lwA := lwA_mem (List.mem_of_getElem? (i := 736) (by decide +kernel)) (by decide +kernel)
theorem wd_sel_yX5_whyNot : (.selects RX5 yX5_whyNot yX5_whyNot : Cond) ∈ lwA := lwA_mem (List.mem_of_getElem? (i := 737) (by decide +kernel)) (by decide +kernel)
theorem wd_code_yX5_whyNot : (.code yX5_whyNot cX5_whyNot 2 (some .int) : Cond) ∈ lwA := lwA_mem (List.mem_of_getElem? (i := 738) (by decide +kernel)) (by decide +kernel)
theorem wd_ml_RL_80 : (.methodLink RL 80 yX5_count : Cond) ∈ lwA := lwA_mem (List.mem_of_getElem? (i := 739) (by decide +kernel)) (by decide +kernel)
theorem wd_im_yX5_count : (.instanceMethod yX5_count : Cond) ∈ lwA := lwA_mem (List.mem_of_getElem? (i := 740) (by decide +kernel)) (by decide +kernel)
theorem wd_sel_yX5_count : (.selects RX5 yX5_count yX5_count : Cond) ∈ lwA := lwA_mem (List.mem_of_getElem? (i := 741) (by decide +kernel)) (by decide +kernel)
theorem wd_code_yX5_count : (.code yX5_count cX5_count 2 (some .int) : Cond) ∈ lwA := lwA_mem (List.mem_of_getElem? (i := 742) (by decide +kernel)) (by decide +kernel)
theorem wd_ml_RX5_138 : (.methodLink RX5 138 yX5_toner : Cond) ∈ lwA := lwA_mem (List.mem_of_getElem? (i := 743) (by decide +kernel)) (by decide +kernel)
theorem wd_im_yX5_toner : (.instanceMethod yX5_toner : Cond) ∈ lwA := lwA_mem (List.mem_of_getElem? (i := 745) (by decide +kernel)) (by decide +kernel)
theorem wd_code_yX5_toner : (.code yX5_toner cX5_toner 3 (some .int) : Cond) ∈ lwA := lwA_mem (List.mem_of_getElem? (i := 746) (by decide +kernel)) (by decide +kernel)
theorem wd_ml_RX5_141 : (.methodLink RX5 141 yX5_allPages : Cond) ∈ lwA := lwA_mem (List.mem_of_getElem? (i := 747) (by decide +kernel)) (by decide +kernel)
theorem wd_im_yX5_allPages : (.instanceMethod yX5_allPages : Cond) ∈ lwA := lwA_mem (List.mem_of_getElem? (i := 749) (by decide +kernel)) (by decide +kernel)
theorem wd_code_yX5_allPages : (.code yX5_allPages cX5_allPages 1 (some .int) : Cond) ∈ lwA := lwA_mem (List.mem_of_getElem? (i := 750) (by decide +kernel)) (by decide +kernel)
theorem wd_ml_RX5_135 : (.methodLink RX5 135 yX5_darkPages : Cond) ∈ lwA := lwA_mem (List.mem_of_getElem? (i := 751) (by decide +kernel)) (by decide +kernel)
theorem wd_im_yX5_darkPages : (.instanceMethod yX5_darkPages : Cond) ∈ lwA := lwA_mem (List.mem_of_getElem? (i := 753) (by decide +kernel)) (by decide +kernel)
theorem wd_code_yX5_darkPages : (.code yX5_darkPages cX5_darkPages 1 (some .int) : Cond) ∈ lwA := lwA_mem (List.mem_of_getElem? (i := 754) (by decide +kernel)) (by decide +kernel)
theorem wd_ml_RX5_144 : (.methodLink RX5 144 yX5_allLeft : Cond) ∈ lwA := lwA_mem (List.mem_of_getElem? (i := 755) (by decide +kernel)) (by decide +kernel)
theorem wd_im_yX5_allLeft : (.instanceMethod yX5_allLeft : Cond) ∈ lwA := lwA_mem (List.mem_of_getElem? (i := 757) (by decide +kernel)) (by decide +kernel)
theorem wd_code_yX5_allLeft : (.code yX5_allLeft cX5_allLeft 3 (some .int) : Cond) ∈ lwA := lwA_mem (List.mem_of_getElem? (i := 758) (by decide +kernel)) (by decide +kernel)
theorem wd_ml_RX5_147 : (.methodLink RX5 147 yX5_boasts : Cond) ∈ lwA := lwA_mem (List.mem_of_getElem? (i := 759) (by decide +kernel)) (by decide +kernel)
theorem wd_im_yX5_boasts : (.instanceMethod yX5_boasts : Cond) ∈ lwA := lwA_mem (List.mem_of_getElem? (i := 761) (by decide +kernel)) (by decide +kernel)
theorem wd_code_yX5_boasts : (.code yX5_boasts cX5_boasts 3 (some .int) : Cond) ∈ lwA := lwA_mem (List.mem_of_getElem? (i := 762) (by decide +kernel)) (by decide +kernel)
theorem wd_ml_RL_85 : (.methodLink RL 85 yX5_darkness : Cond) ∈ lwA := lwA_mem (List.mem_of_getElem? (i := 763) (by decide +kernel)) (by decide +kernel)
theorem wd_im_yX5_darkness : (.instanceMethod yX5_darkness : Cond) ∈ lwA := lwA_mem (List.mem_of_getElem? (i := 764) (by decide +kernel)) (by decide +kernel)
theorem wd_sel_yX5_darkness : (.selects RX5 yX5_darkness yX5_darkness : Cond) ∈ lwA := lwA_mem (List.mem_of_getElem? (i := 765) (by decide +kernel)) (by decide +kernel)
theorem wd_code_yX5_darkness : (.code yX5_darkness cX5_darkness 1 (some .double) : Cond) ∈ lwA := lwA_mem (List.mem_of_getElem? (i := 766) (by decide +kernel)) (by decide +kernel)
theorem wd_ml_RL_90 : (.methodLink RL 90 yX5_lasts : Cond) ∈ lwA := lwA_mem (List.mem_of_getElem? (i := 767) (by decide +kernel)) (by decide +kernel)
theorem wd_im_yX5_lasts : (.instanceMethod yX5_lasts : Cond) ∈ lwA := lwA_mem (List.mem_of_getElem? (i := 768) (by decide +kernel)) (by decide +kernel)
theorem wd_sel_yX5_lasts : (.selects RX5 yX5_lasts yX5_lasts : Cond) ∈ lwA := lwA_mem (List.mem_of_getElem? (i := 769) (by decide +kernel)) (by decide +kernel)
theorem wd_code_yX5_lasts : (.code yX5_lasts cX5_lasts 4 (some .int) : Cond) ∈ lwA := lwA_mem (List.mem_of_getElem? (i := 770) (by decide +kernel)) (by decide +kernel)
theorem wd_ml_RX5_159 : (.methodLink RX5 159 yX5_lastsFor : Cond) ∈ lwA := lwA_mem (List.mem_of_getElem? (i := 771) (by decide +kernel)) (by decide +kernel)
theorem wd_im_yX5_lastsFor : (.instanceMethod yX5_lastsFor : Cond) ∈ lwA := lwA_mem (List.mem_of_getElem? (i := 773) (by decide +kernel)) (by decide +kernel)
theorem wd_code_yX5_lastsFor : (.code yX5_lastsFor cX5_lastsFor 10 (some .int) : Cond) ∈ lwA := lwA_mem (List.mem_of_getElem? (i := 774) (by decide +kernel)) (by decide +kernel)
theorem wd_ml_RX5_156 : (.methodLink RX5 156 yX5_isDark : Cond) ∈ lwA := lwA_mem (List.mem_of_getElem? (i := 775) (by decide +kernel)) (by decide +kernel)
theorem wd_im_yX5_isDark : (.instanceMethod yX5_isDark : Cond) ∈ lwA := lwA_mem (List.mem_of_getElem? (i := 777) (by decide +kernel)) (by decide +kernel)
theorem wd_code_yX5_isDark : (.code yX5_isDark cX5_isDark 2 (some .boolean) : Cond) ∈ lwA := lwA_mem (List.mem_of_getElem? (i := 778) (by decide +kernel)) (by decide +kernel)
theorem wd_ml_RL_95 : (.methodLink RL 95 yX5_atHand : Cond) ∈ lwA := lwA_mem (List.mem_of_getElem? (i := 779) (by decide +kernel)) (by decide +kernel)
theorem wd_im_yX5_atHand : (.instanceMethod yX5_atHand : Cond) ∈ lwA := lwA_mem (List.mem_of_getElem? (i := 780) (by decide +kernel)) (by decide +kernel)
theorem wd_sel_yX5_atHand : (.selects RX5 yX5_atHand yX5_atHand : Cond) ∈ lwA := lwA_mem (List.mem_of_getElem? (i := 781) (by decide +kernel)) (by decide +kernel)
theorem wd_code_yX5_atHand : (.code yX5_atHand cX5_atHand 5 (some .int) : Cond) ∈ lwA := lwA_mem (List.mem_of_getElem? (i := 782) (by decide +kernel)) (by decide +kernel)
theorem wd_ml_RL_99 : (.methodLink RL 99 yX5_bestFor : Cond) ∈ lwA := lwA_mem (List.mem_of_getElem? (i := 783) (by decide +kernel)) (by decide +kernel)
theorem wd_im_yX5_bestFor : (.instanceMethod yX5_bestFor : Cond) ∈ lwA := lwA_mem (List.mem_of_getElem? (i := 784) (by decide +kernel)) (by decide +kernel)
theorem wd_sel_yX5_bestFor : (.selects RX5 yX5_bestFor yX5_bestFor : Cond) ∈ lwA := lwA_mem (List.mem_of_getElem? (i := 785) (by decide +kernel)) (by decide +kernel)
theorem wd_code_yX5_bestFor : (.code yX5_bestFor cX5_bestFor 6 (some .int) : Cond) ∈ lwA := lwA_mem (List.mem_of_getElem? (i := 786) (by decide +kernel)) (by decide +kernel)
theorem wd_ml_RL_103 : (.methodLink RL 103 yX5_darkest : Cond) ∈ lwA := lwA_mem (List.mem_of_getElem? (i := 787) (by decide +kernel)) (by decide +kernel)
theorem wd_im_yX5_darkest : (.instanceMethod yX5_darkest : Cond) ∈ lwA := lwA_mem (List.mem_of_getElem? (i := 788) (by decide +kernel)) (by decide +kernel)
theorem wd_sel_yX5_darkest : (.selects RX5 yX5_darkest yX5_darkest : Cond) ∈ lwA := lwA_mem (List.mem_of_getElem? (i := 789) (by decide +kernel)) (by decide +kernel)
theorem wd_code_yX5_darkest : (.code yX5_darkest cX5_darkest 6 (some .int) : Cond) ∈ lwA := lwA_mem (List.mem_of_getElem? (i := 790) (by decide +kernel)) (by decide +kernel)
theorem wd_ml_RL_107 : (.methodLink RL 107 yX5_undo : Cond) ∈ lwA := lwA_mem (List.mem_of_getElem? (i := 791) (by decide +kernel)) (by decide +kernel)
theorem wd_im_yX5_undo : (.instanceMethod yX5_undo : Cond) ∈ lwA := lwA_mem (List.mem_of_getElem? (i := 792) (by decide +kernel)) (by decide +kernel)
theorem wd_sel_yX5_undo : (.selects RX5 yX5_undo yX5_undo : Cond) ∈ lwA := lwA_mem (List.mem_of_getElem? (i := 793) (by decide +kernel)) (by decide +kernel)
theorem wd_code_yX5_undo : (.code yX5_undo cX5_undo 2 (some .int) : Cond) ∈ lwA := lwA_mem (List.mem_of_getElem? (i := 794) (by decide +kernel)) (by decide +kernel)
theorem wd_ml_RL_111 : (.methodLink RL 111 yX5_save : Cond) ∈ lwA := lwA_mem (List.mem_of_getElem? (i := 795) (by decide +kernel)) (by decide +kernel)
theorem wd_im_yX5_save : (.instanceMethod yX5_save : Cond) ∈ lwA := lwA_mem (List.mem_of_getElem? (i := 796) (by decide +kernel)) (by decide +kernel)
theorem wd_sel_yX5_save : (.selects RX5 yX5_save yX5_save : Cond) ∈ lwA := lwA_mem (List.mem_of_getElem? (i := 797) (by decide +kernel)) (by decide +kernel)
theorem wd_code_yX5_save : (.code yX5_save cX5_save 2 (some .int) : Cond) ∈ lwA := lwA_mem (List.mem_of_getElem? (i := 798) (by decide +kernel)) (by decide +kernel)
theorem wd_ml_RL_115 : (.methodLink RL 115 yX5_restore : Cond) ∈ lwA := lwA_mem (List.mem_of_getElem? (i := 799) (by decide +kernel)) (by decide +kernel)
theorem wd_im_yX5_restore : (.instanceMethod yX5_restore : Cond) ∈ lwA := lwA_mem (List.mem_of_getElem? (i := 800) (by decide +kernel)) (by decide +kernel)
theorem wd_sel_yX5_restore : (.selects RX5 yX5_restore yX5_restore : Cond) ∈ lwA := lwA_mem (List.mem_of_getElem? (i := 801) (by decide +kernel)) (by decide +kernel)
theorem wd_code_yX5_restore : (.code yX5_restore cX5_restore 2 (some .int) : Cond) ∈ lwA := lwA_mem (List.mem_of_getElem? (i := 802) (by decide +kernel)) (by decide +kernel)
theorem inA0 : ∀ w ∈ u_ws RX0 TX0 3, w ∈ lwA := fun w h => lwA_mem ((by decide +kernel : ∀ w ∈ u_ws RX0 TX0 3, w ∈ lw_tbl) w h) (List.all_eq_true.mp (by decide +kernel : (u_ws RX0 TX0 3).all goodWord = true) w h)
theorem inA1 : ∀ w ∈ u_ws RX1 TX1 14, w ∈ lwA := fun w h => lwA_mem ((by decide +kernel : ∀ w ∈ u_ws RX1 TX1 14, w ∈ lw_tbl) w h) (List.all_eq_true.mp (by decide +kernel : (u_ws RX1 TX1 14).all goodWord = true) w h)
theorem inA2 : ∀ w ∈ u_ws RX2 TX2 9, w ∈ lwA := fun w h => lwA_mem ((by decide +kernel : ∀ w ∈ u_ws RX2 TX2 9, w ∈ lw_tbl) w h) (List.all_eq_true.mp (by decide +kernel : (u_ws RX2 TX2 9).all goodWord = true) w h)
theorem inA3 : ∀ w ∈ u_ws RX3 TX3 4, w ∈ lwA := fun w h => lwA_mem ((by decide +kernel : ∀ w ∈ u_ws RX3 TX3 4, w ∈ lw_tbl) w h) (List.all_eq_true.mp (by decide +kernel : (u_ws RX3 TX3 4).all goodWord = true) w h)
theorem inA4 : ∀ w ∈ u_ws RX4 TX4 6, w ∈ lwA := fun w h => lwA_mem ((by decide +kernel : ∀ w ∈ u_ws RX4 TX4 6, w ∈ lw_tbl) w h) (List.all_eq_true.mp (by decide +kernel : (u_ws RX4 TX4 6).all goodWord = true) w h)
theorem inA5 : ∀ w ∈ u_ws RX5 TX5 16, w ∈ lwA := fun w h => lwA_mem ((by decide +kernel : ∀ w ∈ u_ws RX5 TX5 16, w ∈ lw_tbl) w h) (List.all_eq_true.mp (by decide +kernel : (u_ws RX5 TX5 16).all goodWord = true) w h)
/-- links to private members of nest mates, and the array class over Machine: they stand apart -/
def lwN : List Cond := [.methodLinkNest RX4 9 yX1_init RX4, .methodLinkNest RX4 25 yX0_init RX4, .methodLinkNest RX0 9 yX1_init RX4, .methodLinkNest RX4 32 yX2_init RX4, .methodLinkNest RX4 39 yX3_init RX4, .methodLinkNest RX1 65 yX4_isCup RX4, .methodLinkNest RX1 84 yX4_share RX4, .methodLinkNest RX1 90 yX4_isPrinter RX4]
theorem wn_nl_RX4_9 : (.methodLinkNest RX4 9 yX1_init RX4 : Cond) ∈ lwN := List.mem_of_getElem? (i := 0) rfl
theorem wt_nl_RX4_9 : (.methodLinkNest RX4 9 yX1_init RX4 : Cond) ∈ lw_tbl := List.mem_of_getElem? (i := 55) (by decide +kernel)
theorem wn_nl_RX4_25 : (.methodLinkNest RX4 25 yX0_init RX4 : Cond) ∈ lwN := List.mem_of_getElem? (i := 1) rfl
theorem wt_nl_RX4_25 : (.methodLinkNest RX4 25 yX0_init RX4 : Cond) ∈ lw_tbl := List.mem_of_getElem? (i := 119) (by decide +kernel)
theorem wn_nl_RX0_9 : (.methodLinkNest RX0 9 yX1_init RX4 : Cond) ∈ lwN := List.mem_of_getElem? (i := 2) rfl
theorem wt_nl_RX0_9 : (.methodLinkNest RX0 9 yX1_init RX4 : Cond) ∈ lw_tbl := List.mem_of_getElem? (i := 125) (by decide +kernel)
theorem wn_nl_RX4_32 : (.methodLinkNest RX4 32 yX2_init RX4 : Cond) ∈ lwN := List.mem_of_getElem? (i := 3) rfl
theorem wt_nl_RX4_32 : (.methodLinkNest RX4 32 yX2_init RX4 : Cond) ∈ lw_tbl := List.mem_of_getElem? (i := 139) (by decide +kernel)
theorem wn_nl_RX4_39 : (.methodLinkNest RX4 39 yX3_init RX4 : Cond) ∈ lwN := List.mem_of_getElem? (i := 4) rfl
theorem wt_nl_RX4_39 : (.methodLinkNest RX4 39 yX3_init RX4 : Cond) ∈ lw_tbl := List.mem_of_getElem? (i := 181) (by decide +kernel)
theorem wn_nl_RX1_65 : (.methodLinkNest RX1 65 yX4_isCup RX4 : Cond) ∈ lwN := List.mem_of_getElem? (i := 5) rfl
theorem wt_nl_RX1_65 : (.methodLinkNest RX1 65 yX4_isCup RX4 : Cond) ∈ lw_tbl := List.mem_of_getElem? (i := 250) (by decide +kernel)
theorem wn_nl_RX1_84 : (.methodLinkNest RX1 84 yX4_share RX4 : Cond) ∈ lwN := List.mem_of_getElem? (i := 6) rfl
theorem wt_nl_RX1_84 : (.methodLinkNest RX1 84 yX4_share RX4 : Cond) ∈ lw_tbl := List.mem_of_getElem? (i := 261) (by decide +kernel)
theorem wn_nl_RX1_90 : (.methodLinkNest RX1 90 yX4_isPrinter RX4 : Cond) ∈ lwN := List.mem_of_getElem? (i := 7) rfl
theorem wt_nl_RX1_90 : (.methodLinkNest RX1 90 yX4_isPrinter RX4 : Cond) ∈ lw_tbl := List.mem_of_getElem? (i := 293) (by decide +kernel)
end
section
section KR0
variable {D : va_G} {cl : List vw_C} {H H0 H1 : Heap} {A A0 : Nat → Prop} {X Y C C1 : va_W}
theorem kg_l {i : Nat} {q : Nat × va_E} (h : X[i]? = some q) : (X ++ Y)[i]? = some q := by
  rw [List.getElem?_append_left (List.getElem?_eq_some_iff.mp h).1]; exact h
theorem kg_r {i : Nat} {q : Nat × va_E} (h : Y[i]? = some q) : (X ++ Y)[X.length + i]? = some q := by
  rw [List.getElem?_append_right (Nat.le_add_right _ _), Nat.add_sub_cancel_left]; exact h
theorem kg_lt {i : Nat} {q : Nat × va_E} (h : X[i]? = some q) : i < X.length := (List.getElem?_eq_some_iff.mp h).1
theorem pa_l (h : va_P D cl (X ++ Y) H) : va_P D cl X H := fun k q hk => h k q (kg_l hk)
theorem pa_r (h : va_P D cl (X ++ Y) H) : va_P D cl Y H := fun k q hk => h (X.length + k) q (kg_r hk)
theorem da_l (h : va_D A (X ++ Y)) : va_D A X := ⟨fun i j p q hi hj e => h.1 i j p q (kg_l hi) (kg_l hj) e, fun k q hk => h.2 k q (kg_l hk)⟩
theorem da_r (h : va_D A (X ++ Y)) : va_D A Y := ⟨fun i j p q hi hj e => by
  have := h.1 _ _ p q (kg_r (X := X) hi) (kg_r (X := X) hj) e
  omega, fun k q hk => h.2 _ q (kg_r hk)⟩
theorem da_x (h : va_D A (X ++ Y)) {i j : Nat} {p q : Nat × va_E} (hi : X[i]? = some p) (hj : Y[j]? = some q) : p.1 ≠ q.1 := fun e => by
  have h1 := h.1 _ _ p q (kg_l hi) (kg_r (X := X) hj) e
  have h2 := kg_lt hi
  omega
/-- behind a call: what lies before and behind the callee's cells stays -/
theorem k_mid (hP : va_P D cl (X ++ (C ++ Y)) H) (hD : va_D A0 (X ++ (C ++ Y))) (hk : ∀ q : Nat, q < H.size → ¬ va_A C H.size q → H1[q]? = H[q]?) (hF : ∀ q, va_A C H.size q → A0 q) (hP1 : va_P D cl C1 H1) (hD1 : va_D (va_A C H.size) C1) : va_P D cl (X ++ (C1 ++ Y)) H1 ∧ va_D A0 (X ++ (C1 ++ Y)) := by
  have aX : ∀ (k : Nat) (q : Nat × va_E), X[k]? = some q → q.1 < H.size ∧ ¬ va_A C H.size q.1 := fun k q hq => by
    have hl := (pa_l hP k q hq).lt
    refine ⟨hl, fun h => ?_⟩
    rcases h with ⟨k2, e, h⟩ | h
    · exact da_x hD hq (kg_l h) rfl
    · omega
  have aY : ∀ (k : Nat) (q : Nat × va_E), Y[k]? = some q → q.1 < H.size ∧ ¬ va_A C H.size q.1 := fun k q hq => by
    have hl := (pa_r (pa_r hP) k q hq).lt
    refine ⟨hl, fun h => ?_⟩
    rcases h with ⟨k2, e, h⟩ | h
    · exact da_x (da_r hD) h hq rfl
    · omega
  have dC1 : va_D A0 C1 := hD1.weaken (fun k q _ h => hF q.1 h)
  refine ⟨va_P.app (fun k q hq => ?_) (va_P.app hP1 (fun k q hq => ?_)), va_D.app (da_l hD) (va_D.app dC1 (da_r (da_r hD)) (fun i j p q hp hq e => ?_)) (fun i j p q hp hq e => ?_)⟩
  · exact (pa_l hP k q hq).kept (hk q.1 (aX k q hq).1 (aX k q hq).2)
  · exact (pa_r (pa_r hP) k q hq).kept (hk q.1 (aY k q hq).1 (aY k q hq).2)
  · exact (aY j q hq).2 (by rw [← e]; exact hD1.2 i p hp)
  · rcases Nat.lt_or_ge j C1.length with hj | hj
    · rw [List.getElem?_append_left hj] at hq
      exact (aX i p hp).2 (by rw [e]; exact hD1.2 j q hq)
    · rw [List.getElem?_append_right hj] at hq
      exact da_x hD hp (kg_r (X := C) hq) e
theorem k_self (h : va_P D cl C H) : va_P D cl ([] ++ (C ++ [])) H := by rw [List.append_nil]; exact h
theorem k_selfD (h : va_D A C) : va_D A ([] ++ (C ++ [])) := by rw [List.append_nil]; exact h
theorem k_unP (h : va_P D cl ([] ++ (C ++ [])) H) : va_P D cl C H := by rw [List.append_nil] at h; exact h
theorem k_unD (h : va_D A ([] ++ (C ++ []))) : va_D A C := by rw [List.append_nil] at h; exact h
theorem k_freeC (hD : va_D A0 (X ++ (C ++ Y))) (hz : H0.size ≤ H.size) (hA : ∀ q, H0.size ≤ q → A0 q) : ∀ q, va_A C H.size q → A0 q := fun q h => by
  rcases h with ⟨k, e, h⟩ | h
  · exact (da_l (da_r hD)).2 k (q, e) h
  · exact hA q (Nat.le_trans hz h)
end KR0
/-- what the links to nest mates' private members and the array class over Machine say: kept by calls -/
def nbW (U : State) : Prop := (∀ w ∈ lwN, va_Nw w U) ∧ va_AO RX1 U
theorem lwN_form : ∀ w ∈ lwN, ∃ a i x h, w = Cond.methodLinkNest a i x h := by
  intro w hw
  simp only [lwN, List.mem_cons, List.not_mem_nil, or_false] at hw
  rcases hw with rfl | rfl | rfl | rfl | rfl | rfl | rfl | rfl <;> exact ⟨_, _, _, _, rfl⟩
theorem nbW.warm {s U : State} (hW : s.WarmedH U.vm) (h : nbW s) : nbW U := ⟨fun w hw => by
  obtain ⟨a, i, x, y, rfl⟩ := lwN_form w hw
  exact va_Nw.warmM hW (h.1 _ hw), h.2.moved hW.alike⟩
theorem nbW.same {u U : State} (hv : u.vm = U.vm) (h : nbW u) : nbW U := ⟨fun w hw => by
  obtain ⟨a, i, x, y, rfl⟩ := lwN_form w hw
  exact va_Nw.same rfl hv (h.1 _ hw), h.2.moved (by rw [hv]; exact Vm.Alike.refl U.vm)⟩
/-- a method's start: its cells, apart, at a heap of sz cells -/
def inW (D : va_G) (tys : List (ClassId × FieldType)) (ws : va_W) (sz : Nat) (U : State) : Prop := U.heap.size = sz ∧ va_P D vwCl ws U.heap ∧ va_K D vwCl tys U ∧ va_D (fun _ => True) ws ∧ nbW U
/-- its end -/
def atW (D : va_G) (tys : List (ClassId × FieldType)) (A : Nat → Prop) (ws : va_W) (t : State) : Prop := va_P D vwCl ws t.heap ∧ va_K D vwCl tys t ∧ va_D A ws
abbrev TYS (cI cC cQ : ClassId) : List (ClassId × FieldType) := [(cI, .int), (cC, .char), (cQ, .object RX1)]
theorem in_blind {av : List Value} {D : va_G} {tys : List (ClassId × FieldType)} {ws : va_W} {sz : Nat} : FrameBlind (va_Pc av (inW D tys ws sz)) := fun a U g mk q => by
  obtain ⟨q0, q1, qP, qK, qD, qN⟩ := q
  exact ⟨q0, q1, qP, va_K.moved (u := U) (U := U.calling g mk a) (Vm.Alike.refl U.vm) qK, qD, nbW.same (u := U) (U := U.calling g mk a) rfl qN⟩
/-- the words of a method: its own code, and all that stand -/
abbrev wsO (y : MethodName) (cc : ByteArray) (n : Nat) (ret : Option FieldType) : List Cond := .code y cc n ret :: lwA
section KMET
variable {l : Launch} {y : MethodName} {rm : Room} {cc : ByteArray} {maxL : Nat} {ret : Option FieldType} {av : List Value} {D : va_G} {tys : List (ClassId × FieldType)} {C : va_W} {sz : Nat} {mc ms : Nat}
theorem k_met {Qc : (Nat → Prop) → Array Value → State → Outcome → State → Prop} (hy : plainName y.cls = true) (hn : (lg_sl av).length ≤ maxL)
    (body : ∀ (p : Program) (e : Env) (s : State) (m : MethodId) (below : List Frame) (meth : Method) (c : Code) (A : Nat → Prop) (ls : Array Slot),
      p.tables.exec = Jvm.exec → c.code = cc → meth.sig.returnType = ret → (∀ w ∈ lwA, w.before av.toArray s = true) → s.vm.findClass y.cls = some m.cls → meth.locks = false → c.maxLocals = maxL → meth.name = y.name → nbW s →
      (∀ q : Nat, s.heap.size ≤ q → A q) → va_S A s.heap s.heap [] → va_P D vwCl C s.heap → va_K D vwCl tys s → va_D A C → lv_has ls maxL (lv_args 0 av) →
      W p l e rm s m av.toArray below meth c s.heap [] 0 0 (MQ below (Qc A) av.toArray s mc ms A) (F0 m 0 ls [])) :
    Met l y (wsO y cc maxL ret) rm (va_Pc av (inW D tys C sz)) (Qc (va_A C sz)) mc ms (va_A C sz) := by
  refine Met.ofW (cc := cc) (maxL := maxL) (ret := ret) hy rfl ?_
  intro p e s m args below meth c s₁ B hml hv
  obtain ⟨rfl, hsz, hP, hK, hD0, hN⟩ := hv
  have hts := atoms_spec (ws := wsO y cc maxL ret) B.pre
  have hl := lv_entry av (n := maxL) hn
  rw [lg_entry_eq]
  subst hsz
  exact body p e s m below meth c _ _ B.exec B.bytes B.returns (fun w h => hts w (List.mem_cons_of_mem _ h)) (findClass_of_methodNamed B.named) B.notSynchronized hml (name_of_methodNamed B.named B.method).1 hN (fun q h => Or.inr h) va_S.rf hP hK hD0.self hl
/-- a method that answers an int (or a boolean, a char): its start, and its end as one hypothesis -/
theorem k_meti {S : Type} {post : Int32 → S → Prop} {C' : S → va_W} (ty : FieldType) (hret : ret = some ty) (hy : plainName y.cls = true) (hn : (lg_sl av).length ≤ maxL)
    (body : ∀ (p : Program) (e : Env) (s : State) (m : MethodId) (args : Array Value) (below : List Frame) (meth : Method) (c : Code) (A : Nat → Prop) (ls : Array Slot) (Q : State → Prop) (H : Heap) (locs : List Loc), args = av.toArray →
      (∀ (pc : Nat) (ls : Array Slot) (H : Heap) (locs : List Loc) (v : Int32) (u : S), decode cc pc = .ok (.ireturn, 1) → narrow ty (.int v) = .int v → post v u → va_P D vwCl (C' u) H → va_D A (C' u) → va_S A s.heap H locs → W p l e rm s m args below meth c H locs mc ms Q (F0 m pc ls [.int v])) →
      p.tables.exec = Jvm.exec → c.code = cc → (∀ w ∈ lwA, w.before args s = true) → s.vm.findClass y.cls = some m.cls → c.maxLocals = maxL → meth.name = y.name → nbW s →
      (∀ q : Nat, s.heap.size ≤ q → A q) → va_S A s.heap H locs → va_P D vwCl C H → va_K D vwCl tys s → va_D A C → lv_has ls maxL (lv_args 0 av) →
      W p l e rm s m args below meth c H locs 0 0 Q (F0 m 0 ls [])) :
    Met l y (wsO y cc maxL ret) rm (va_Pc av (inW D tys C sz)) (va_Qi post (fun u => atW D tys (va_A C sz) (C' u)) (va_A C sz)) mc ms (va_A C sz) := by
  refine k_met (Qc := fun A => va_Qi post (fun u => atW D tys A (C' u)) A) hy hn ?_
  intro p e s m below meth c A ls hx hb hr hts hown hlocks hml hname hN hA hS hP hK hD hl
  refine body p e s m _ below meth c A ls _ _ _ rfl ?_ hx hb hts hown hml hname hN hA hS hP hK hD hl
  intro pc ls H locs v u hdg hnar hpost hP hD hS
  exact W.zret (v := v) hx hb (by rw [hr, hret]) hnar (fun t ht hW => ⟨⟨v, u, rfl, hpost, by rw [ht]; exact hP, va_K.moved hW.alike hK, hD⟩, hS.F ht⟩) hS.2.2 hdg
theorem k_metv {S : Type} {post : S → Prop} {C' : S → va_W} (hret : ret = none) (hy : plainName y.cls = true) (hn : (lg_sl av).length ≤ maxL)
    (body : ∀ (p : Program) (e : Env) (s : State) (m : MethodId) (args : Array Value) (below : List Frame) (meth : Method) (c : Code) (A : Nat → Prop) (ls : Array Slot) (Q : State → Prop) (H : Heap) (locs : List Loc), args = av.toArray →
      (∀ (pc : Nat) (ls : Array Slot) (H : Heap) (locs : List Loc) (u : S), decode cc pc = .ok (.return_, 1) → post u → va_P D vwCl (C' u) H → va_D A (C' u) → va_S A s.heap H locs → W p l e rm s m args below meth c H locs mc ms Q (F0 m pc ls [])) →
      p.tables.exec = Jvm.exec → c.code = cc → (∀ w ∈ lwA, w.before args s = true) → s.vm.findClass y.cls = some m.cls → c.maxLocals = maxL → meth.name = y.name → nbW s →
      (∀ q : Nat, s.heap.size ≤ q → A q) → va_S A s.heap H locs → va_P D vwCl C H → va_K D vwCl tys s → va_D A C → lv_has ls maxL (lv_args 0 av) →
      W p l e rm s m args below meth c H locs 0 0 Q (F0 m 0 ls [])) :
    Met l y (wsO y cc maxL ret) rm (va_Pc av (inW D tys C sz)) (va_Qv post (fun u => atW D tys (va_A C sz) (C' u)) (va_A C sz)) mc ms (va_A C sz) := by
  refine k_met (Qc := fun A => va_Qv post (fun u => atW D tys A (C' u)) A) hy hn ?_
  intro p e s m below meth c A ls hx hb hr hts hown hlocks hml hname hN hA hS hP hK hD hl
  refine body p e s m _ below meth c A ls _ _ _ rfl ?_ hx hb hts hown hml hname hN hA hS hP hK hD hl
  intro pc ls H locs u hdg hpost hP hD hS
  exact W.vret hx hb (by rw [hr, hret]) (fun t ht hW => ⟨⟨u, rfl, hpost, by rw [ht]; exact hP, va_K.moved hW.alike hK, hD⟩, hS.F ht⟩) hS.2.2 hdg
end KMET
section KCW
variable {R : Room} {s : State} {args : Array Value} {own Cn host : String} {index : Nat} {y : MethodName} {bytes : ByteArray} {maxL mc ms : Nat} {ret : Option FieldType} {rm : Room}
abbrev hdT (y : MethodName) (n : Nat) : Prop := y.cls ≠ "java/lang/invoke/MethodHandle" ∧ y.cls ≠ "java/lang/invoke/VarHandle" ∧ (parseMethodDescriptor y.desc).map (fun d => d.parameters.length) = some n
theorem gA_ws {pre : List Cond} {w : Cond} (hp : ∀ x ∈ pre, x ∈ lwA) (h : w ∈ lwA) : GoodIn lwA (pre ++ (w :: lwA)) := fun x hx => by
  rcases List.mem_append.mp hx with h1 | h1
  · exact ⟨hp x h1, good_of_word (lwA_good x (hp x h1))⟩
  · exact gA h x h1
theorem kcwV {n : Nat} (hts : ∀ w ∈ lwA, w.before args s = true) (h1 : Cond.methodLink own index y ∈ lwA) (h2 : Cond.instanceMethod y ∈ lwA) (h3 : Cond.selects Cn y y ∈ lwA) (h4 : Cond.initialized Cn ∈ lwA) (h5 : Cond.code y bytes maxL ret ∈ lwA) (hrc : rm.cells = mc) (hrs : rm.slots = ms) (hc : y.cls = Cn) (hd : hdT y n) (hR : rm.frames + 1 ≤ R.frames ∧ 8 + (maxL + 11) + rm.locals ≤ R.locals) : CallW R s args own Cn index y bytes maxL ret (wsO y bytes maxL ret) rm mc ms n :=
  cwV n hts (gA_ws (fun x hx => by
    simp only [List.mem_cons, List.not_mem_nil, or_false] at hx
    rcases hx with rfl | rfl | rfl | rfl <;> assumption) h5) rfl hrc hrs ⟨hc, hd⟩ hR
theorem kcwS {n : Nat} (hts : ∀ w ∈ lwA, w.before args s = true) (h1 : Cond.methodLink own index y ∈ lwA) (h2 : Cond.static y ∈ lwA) (h4 : Cond.initialized y.cls ∈ lwA) (h5 : Cond.code y bytes maxL ret ∈ lwA) (hrc : rm.cells = mc) (hrs : rm.slots = ms) (hd : hdT y n) (hR : rm.frames + 1 ≤ R.frames ∧ 8 + (maxL + 11) + rm.locals ≤ R.locals) : CallB R s args own index y bytes maxL ret (wsO y bytes maxL ret) rm mc ms n ∧ (Cond.static y).before args s = true :=
  va_cwS n hts (gA_ws (fun x hx => by
    simp only [List.mem_cons, List.not_mem_nil, or_false] at hx
    rcases hx with rfl | rfl | rfl <;> assumption) h5) rfl hrc hrs hd hR
theorem kcwI {n : Nat} (hts : ∀ w ∈ lwA, w.before args s = true) (h1 : Cond.methodLink own index y ∈ lwA) (h2 : Cond.instanceMethod y ∈ lwA) (h4 : Cond.initialized y.cls ∈ lwA) (h5 : Cond.code y bytes maxL none ∈ lwA) (hrc : rm.cells = mc) (hrs : rm.slots = ms) (hy : y.name = "<init>") (hd : hdT y n) (hR : rm.frames + 1 ≤ R.frames ∧ 8 + (maxL + 11) + rm.locals ≤ R.locals) : CallB R s args own index y bytes maxL none (wsO y bytes maxL none) rm mc ms n ∧ y.name = "<init>" ∧ (Cond.instanceMethod y).before args s = true :=
  cwI n hts (gA h5) rfl hrc hrs (hts _ h4) (hts _ h1) (hts _ h2) hy hd hR
theorem kcnB {n : Nat} (hts : ∀ w ∈ lwA, w.before args s = true) (hN : nbW s) (h1 : Cond.methodLinkNest own index y host ∈ lwN) (h4 : Cond.initialized y.cls ∈ lwA) (h5 : Cond.code y bytes maxL ret ∈ lwA) (hrc : rm.cells = mc) (hrs : rm.slots = ms) (hd : hdT y n) (hR : rm.frames + 1 ≤ R.frames ∧ 8 + (maxL + 11) + rm.locals ≤ R.locals) : va_CN R s args own index y host bytes maxL ret (wsO y bytes maxL ret) rm mc ms n :=
  va_cnB n hts (gA h5) rfl hrc hrs (hN.1 _ h1) (hts _ h4) hd hR
end KCW
section KCALL
variable {p : Program} {l : Launch} {e : Env} {R : Room} {s : State} {m : MethodId} {args : Array Value} {below : List Frame} {meth : Method} {c : Code} {H : Heap} {locs : List Loc} {cells slots : Nat} {Q : State → Prop} {ls : Array Slot} {pc : Nat} {st0 rest : List Value} {cc : ByteArray} {D : va_G} {tys : List (ClassId × FieldType)} {A : Nat → Prop} {X Y C : va_W}
variable {y : MethodName} {bytes : ByteArray} {maxL nL n index : Nat} {ret : Option FieldType} {rm : Room} {own Cn host : String} {b : Addr} {As : List Value}
theorem k_pre (hK : va_K D vwCl tys s) (hP : va_P D vwCl C H) (hD : va_D A C) (hN : nbW s) {av : List Value} : ∀ U : State, U.heap = H → s.WarmedH U.vm → va_Pc av (inW D tys C H.size) av.toArray U := fun U hU hW => ⟨rfl, by rw [hU], by rw [hU]; exact hP, va_K.moved hW.alike hK, hD.weaken (fun _ _ _ _ => trivial), hN.warm hW⟩
/-- behind a call of an int method -/
theorem k_behi {S : Type} {post : Int32 → S → Prop} {C' : S → va_W} {a : Array Value} (hr : va_Run p l e R s m args below meth c H locs cells slots 0 0 (F0 m pc ls st0) rest (va_Qi post (fun u => atW D tys (va_A C H.size) (C' u)) (va_A C H.size) a) (va_A C H.size))
    (hP : va_P D vwCl (X ++ (C ++ Y)) H) (hD : va_D A (X ++ (C ++ Y))) (hS : va_S A s.heap H locs) (hA : ∀ q : Nat, s.heap.size ≤ q → A q)
    (kk : ∀ (r : Int32) (u : S) (H : Heap) (locs : List Loc), post r u → va_P D vwCl (X ++ (C' u ++ Y)) H → va_D A (X ++ (C' u ++ Y)) → va_S A s.heap H locs → W p l e R s m args below meth c H locs cells slots Q (F0 m (pc + 3) ls (.int r :: rest))) : W p l e R s m args below meth c H locs cells slots Q (F0 m pc ls st0) := by
  have hF := k_freeC hD hS.1 hA
  refine va_calli hr hS (fun q _ h => hF q h) hF (fun r u t H1 locs1 ht hvm hw hB hz1 hk1 hS => ?_)
  obtain ⟨hP1, hK1, hD1⟩ := hB
  rw [ht] at hP1
  obtain ⟨hP, hD⟩ := k_mid hP hD hk1 hF hP1 hD1
  exact kk r u H1 locs1 hw hP hD hS
theorem k_behv {S : Type} {post : S → Prop} {C' : S → va_W} {a : Array Value} (hr : va_Run p l e R s m args below meth c H locs cells slots 0 0 (F0 m pc ls st0) rest (va_Qv post (fun u => atW D tys (va_A C H.size) (C' u)) (va_A C H.size) a) (va_A C H.size))
    (hP : va_P D vwCl (X ++ (C ++ Y)) H) (hD : va_D A (X ++ (C ++ Y))) (hS : va_S A s.heap H locs) (hA : ∀ q : Nat, s.heap.size ≤ q → A q)
    (kk : ∀ (u : S) (H : Heap) (locs : List Loc), post u → va_P D vwCl (X ++ (C' u ++ Y)) H → va_D A (X ++ (C' u ++ Y)) → va_S A s.heap H locs → W p l e R s m args below meth c H locs cells slots Q (F0 m (pc + 3) ls rest)) : W p l e R s m args below meth c H locs cells slots Q (F0 m pc ls st0) := by
  have hF := k_freeC hD hS.1 hA
  refine va_callv hr hS (fun q _ h => hF q h) hF (fun u t H1 locs1 ht hvm hw hB hz1 hk1 hS => ?_)
  obtain ⟨hP1, hK1, hD1⟩ := hB
  rw [ht] at hP1
  obtain ⟨hP, hD⟩ := k_mid hP hD hk1 hF hP1 hD1
  exact kk u H1 locs1 hw hP hD hS
end KCALL
end
section
def kb {α β : Type} (x : α) (f : α → β) : β := f x
theorem k_in {i : Int32} {n : Nat} (h : ¬ (i < 0 ∨ n ≤ i.toNatClampNeg)) : vp_in i n := h
theorem vp_mono {x : Int32} {n N : Nat} (h : vp_in x n) (h1 : n ≤ N) (h2 : N < 2 ^ 31) : vp_in x N := by
  rw [vp_in_iff] at h ⊢
  omega
theorem vp_add {x k : Int32} {n N : Nat} (h : vp_in x n) (h0 : 0 ≤ k.toInt) (h1 : k.toInt + n ≤ N) (h2 : N < 2 ^ 31) : vp_in (k + x) N := by
  rw [vp_in_iff] at h ⊢
  have e : (k + x).toInt = k.toInt + x.toInt := by
    rw [Int32.toInt_add]
    exact Int.bmod_eq_of_le (by omega) (by omega)
  omega
theorem vp_of_le {x : Int32} {n : Nat} {N : Int32} (h0 : ¬ x < 0) (h1 : ¬ N ≤ x) (hN : N.toInt = n) : vp_in x n := by
  rw [vp_in_iff]
  rw [Int32.lt_iff_toInt_lt] at h0
  rw [Int32.le_iff_toInt_le] at h1
  have : (0 : Int32).toInt = 0 := rfl
  omega
theorem k_ne {x k : Int32} (h : ¬ x = k) : ¬ x.toInt = k.toInt := fun e => h (Int32.toInt_inj.mp e)
theorem k_out4 {x : Int32} (h0 : ¬ x = 0) (h1 : ¬ x = 1) (h2 : ¬ x = 2) (h3 : ¬ x = 3) : x.toInt < 0 ∨ 3 < x.toInt := by
  have := k_ne h0; have := k_ne h1; have := k_ne h2; have := k_ne h3
  simp only [show (0 : Int32).toInt = 0 from rfl, show (1 : Int32).toInt = 1 from rfl, show (2 : Int32).toInt = 2 from rfl, show (3 : Int32).toInt = 3 from rfl] at *
  omega
theorem k_out6 {x : Int32} (h0 : ¬ x = 0) (h1 : ¬ x = 1) (h2 : ¬ x = 2) (h3 : ¬ x = 3) (h4 : ¬ x = 4) (h5 : ¬ x = 5) : x.toInt < 0 ∨ 5 < x.toInt := by
  have := k_out4 h0 h1 h2 h3; have := k_ne h4; have := k_ne h5
  simp only [show (4 : Int32).toInt = 4 from rfl, show (5 : Int32).toInt = 5 from rfl] at *
  omega
theorem k_out8 {x : Int32} (h0 : ¬ x = 0) (h1 : ¬ x = 1) (h2 : ¬ x = 2) (h3 : ¬ x = 3) (h4 : ¬ x = 4) (h5 : ¬ x = 5) (h6 : ¬ x = 6) (h7 : ¬ x = 7) : x.toInt < 0 ∨ 7 < x.toInt := by
  have := k_out6 h0 h1 h2 h3 h4 h5; have := k_ne h6; have := k_ne h7
  simp only [show (6 : Int32).toInt = 6 from rfl, show (7 : Int32).toInt = 7 from rfl] at *
  omega
theorem k_out14 {x : Int32} (h0 : ¬ x = 0) (h1 : ¬ x = 1) (h2 : ¬ x = 2) (h3 : ¬ x = 3) (h4 : ¬ x = 4) (h5 : ¬ x = 5) (h6 : ¬ x = 6) (h7 : ¬ x = 7) (h8 : ¬ x = 8) (h9 : ¬ x = 9) (h10 : ¬ x = 10) (h11 : ¬ x = 11) (h12 : ¬ x = 12) (h13 : ¬ x = 13) : x.toInt < 0 ∨ 13 < x.toInt := by
  have := k_out8 h0 h1 h2 h3 h4 h5 h6 h7; have := k_ne h8; have := k_ne h9; have := k_ne h10; have := k_ne h11; have := k_ne h12; have := k_ne h13
  simp only [show (8 : Int32).toInt = 8 from rfl, show (9 : Int32).toInt = 9 from rfl, show (10 : Int32).toInt = 10 from rfl, show (11 : Int32).toInt = 11 from rfl, show (12 : Int32).toInt = 12 from rfl, show (13 : Int32).toInt = 13 from rfl] at *
  omega
theorem k_lk2 {x : Int32} {o1 o2 dflt : Int} (h1 : ¬ x = 1) (h2 : ¬ x = 2) : Op.lookupswitch.offset [(1, o1), (2, o2)] dflt x.toInt = dflt := by
  have := k_ne h1; have := k_ne h2
  simp only [show (1 : Int32).toInt = 1 from rfl, show (2 : Int32).toInt = 2 from rfl] at *
  simp [Op.lookupswitch.offset, *]
  try omega
/-- the cells of a Machine -/
abbrev MW (cI : ClassId) (h0 : Nat) (a : Nat → Nat) (se ki ha sl ch ci dk li re dt la : Nat → Int32) (us sp rf : Int32) : va_W := [(h0, .inr (1, [.ref (a 0), .ref (a 1), .ref (a 2), .ref (a 3), .ref (a 4), .ref (a 5), .ref (a 6), .ref (a 7), .ref (a 8), .ref (a 9), .ref (a 10), .int us, .int sp, .int rf])), (a 0, .inl (cI, 4, .inl se)), (a 1, .inl (cI, 4, .inl ki)), (a 2, .inl (cI, 4, .inl ha)), (a 3, .inl (cI, 4, .inl sl)), (a 4, .inl (cI, 4, .inl ch)), (a 5, .inl (cI, 2, .inl ci)), (a 6, .inl (cI, 2, .inl dk)), (a 7, .inl (cI, 2, .inl li)), (a 8, .inl (cI, 2, .inl re)), (a 9, .inl (cI, 2, .inl dt)), (a 10, .inl (cI, 2, .inl la))]

def sh_X4_isCup (x1 : Int32) : Int32 := (if x1 < 0 then 0 else (if 4 ≤ x1 then 0 else 1))
abbrev rm_X4_isCup : Room := { frames := 0, cells := 0, slots := 0, locals := 0 }
theorem hd_X4_isCup : hdT yX4_isCup 1 := by decide +kernel
set_option maxHeartbeats 4000000 in
set_option maxRecDepth 100000 in
theorem c_X4_isCup (l : Launch) (D : va_G) (cI cC cQ : ClassId) (sz : Nat)  (x1 : Int32)  : Met l yX4_isCup (wsO yX4_isCup cX4_isCup 1 (some .boolean)) rm_X4_isCup (va_Pc [.int x1] (inW D (TYS cI cC cQ) [] sz)) (va_Qi (fun (r : Int32) (_ : Unit) => r = sh_X4_isCup x1) (fun (u : Unit) => atW D (TYS cI cC cQ) (va_A [] sz) []) (va_A [] sz)) 0 0 (va_A [] sz) := by
  refine k_meti .boolean rfl (by decide) (Nat.le_of_ble_eq_true rfl) ?_
  intro p e s m args below meth c A ls Q H locs hargs hret hx hb hts hown hml hname hN hA hS hP hK hD hl
  have hl : lv_has ls 1 [(0, .int x1)] := hl
  obtain ⟨Xq, hX⟩ : ∃ Xq, Xq = sh_X4_isCup x1 := ⟨_, rfl⟩
  have hq : Xq = (if x1 < 0 then 0 else (if 4 ≤ x1 then 0 else 1)) := hX
  refine lv_iload_n hx hb dX4_isCup_0 rfl (lv_at hl 0 rfl) ?_
  refine lv_if_lt (tgt := 13) hx hb dX4_isCup_1 (by decide) (fun c1 => ?_) (fun c1 => ?_)
  · have hq : Xq = 0 := hq.trans (if_pos c1)
    refine lv_iconst (v := 0) hx hb dX4_isCup_13 (by decide) ?_
    exact hret _ _ _ _ (0) () dX4_isCup_14 rfl (hq.symm.trans hX) hP hD hS
  · have hq : Xq = (if 4 ≤ x1 then 0 else 1) := hq.trans (if_neg c1)
    refine lv_iload_n hx hb dX4_isCup_4 rfl (lv_at hl 0 rfl) ?_
    refine lv_iconst (v := 4) hx hb dX4_isCup_5 (by decide) ?_
    refine lv_icmp_ge (tgt := 13) hx hb dX4_isCup_6 (by decide) (fun c2 => ?_) (fun c2 => ?_)
    · have hq : Xq = 0 := hq.trans (if_pos c2)
      refine lv_iconst (v := 0) hx hb dX4_isCup_13 (by decide) ?_
      exact hret _ _ _ _ (0) () dX4_isCup_14 rfl (hq.symm.trans hX) hP hD hS
    · have hq : Xq = 1 := hq.trans (if_neg c2)
      refine lv_iconst (v := 1) hx hb dX4_isCup_9 (by decide) ?_
      refine lv_goto (tgt := 14) hx hb dX4_isCup_10 (by decide) ?_
      exact hret _ _ _ _ (1) () dX4_isCup_14 rfl (hq.symm.trans hX) hP hD hS
def sh_X4_isPrinter (x1 : Int32) : Int32 := (if x1 < 0 then 0 else (if 2 ≤ x1 then 0 else 1))
abbrev rm_X4_isPrinter : Room := { frames := 0, cells := 0, slots := 0, locals := 0 }
theorem hd_X4_isPrinter : hdT yX4_isPrinter 1 := by decide +kernel
set_option maxHeartbeats 4000000 in
set_option maxRecDepth 100000 in
theorem c_X4_isPrinter (l : Launch) (D : va_G) (cI cC cQ : ClassId) (sz : Nat)  (x1 : Int32)  : Met l yX4_isPrinter (wsO yX4_isPrinter cX4_isPrinter 1 (some .boolean)) rm_X4_isPrinter (va_Pc [.int x1] (inW D (TYS cI cC cQ) [] sz)) (va_Qi (fun (r : Int32) (_ : Unit) => r = sh_X4_isPrinter x1) (fun (u : Unit) => atW D (TYS cI cC cQ) (va_A [] sz) []) (va_A [] sz)) 0 0 (va_A [] sz) := by
  refine k_meti .boolean rfl (by decide) (Nat.le_of_ble_eq_true rfl) ?_
  intro p e s m args below meth c A ls Q H locs hargs hret hx hb hts hown hml hname hN hA hS hP hK hD hl
  have hl : lv_has ls 1 [(0, .int x1)] := hl
  obtain ⟨Xq, hX⟩ : ∃ Xq, Xq = sh_X4_isPrinter x1 := ⟨_, rfl⟩
  have hq : Xq = (if x1 < 0 then 0 else (if 2 ≤ x1 then 0 else 1)) := hX
  refine lv_iload_n hx hb dX4_isPrinter_0 rfl (lv_at hl 0 rfl) ?_
  refine lv_if_lt (tgt := 13) hx hb dX4_isPrinter_1 (by decide) (fun c1 => ?_) (fun c1 => ?_)
  · have hq : Xq = 0 := hq.trans (if_pos c1)
    refine lv_iconst (v := 0) hx hb dX4_isPrinter_13 (by decide) ?_
    exact hret _ _ _ _ (0) () dX4_isPrinter_14 rfl (hq.symm.trans hX) hP hD hS
  · have hq : Xq = (if 2 ≤ x1 then 0 else 1) := hq.trans (if_neg c1)
    refine lv_iload_n hx hb dX4_isPrinter_4 rfl (lv_at hl 0 rfl) ?_
    refine lv_iconst (v := 2) hx hb dX4_isPrinter_5 (by decide) ?_
    refine lv_icmp_ge (tgt := 13) hx hb dX4_isPrinter_6 (by decide) (fun c2 => ?_) (fun c2 => ?_)
    · have hq : Xq = 0 := hq.trans (if_pos c2)
      refine lv_iconst (v := 0) hx hb dX4_isPrinter_13 (by decide) ?_
      exact hret _ _ _ _ (0) () dX4_isPrinter_14 rfl (hq.symm.trans hX) hP hD hS
    · have hq : Xq = 1 := hq.trans (if_neg c2)
      refine lv_iconst (v := 1) hx hb dX4_isPrinter_9 (by decide) ?_
      refine lv_goto (tgt := 14) hx hb dX4_isPrinter_10 (by decide) ?_
      exact hret _ _ _ _ (1) () dX4_isPrinter_14 rfl (hq.symm.trans hX) hP hD hS
def sh_X4_isDots (x1 : Int32) : Int32 := (if x1 < 1 then 0 else (if 999 < x1 then 0 else 1))
abbrev rm_X4_isDots : Room := { frames := 0, cells := 0, slots := 0, locals := 0 }
theorem hd_X4_isDots : hdT yX4_isDots 1 := by decide +kernel
set_option maxHeartbeats 4000000 in
set_option maxRecDepth 100000 in
theorem c_X4_isDots (l : Launch) (D : va_G) (cI cC cQ : ClassId) (sz : Nat)  (x1 : Int32)  : Met l yX4_isDots (wsO yX4_isDots cX4_isDots 1 (some .boolean)) rm_X4_isDots (va_Pc [.int x1] (inW D (TYS cI cC cQ) [] sz)) (va_Qi (fun (r : Int32) (_ : Unit) => r = sh_X4_isDots x1) (fun (u : Unit) => atW D (TYS cI cC cQ) (va_A [] sz) []) (va_A [] sz)) 0 0 (va_A [] sz) := by
  refine k_meti .boolean rfl (by decide) (Nat.le_of_ble_eq_true rfl) ?_
  intro p e s m args below meth c A ls Q H locs hargs hret hx hb hts hown hml hname hN hA hS hP hK hD hl
  have hl : lv_has ls 1 [(0, .int x1)] := hl
  obtain ⟨Xq, hX⟩ : ∃ Xq, Xq = sh_X4_isDots x1 := ⟨_, rfl⟩
  have hq : Xq = (if x1 < 1 then 0 else (if 999 < x1 then 0 else 1)) := hX
  refine lv_iload_n hx hb dX4_isDots_0 rfl (lv_at hl 0 rfl) ?_
  refine lv_iconst (v := 1) hx hb dX4_isDots_1 (by decide) ?_
  refine lv_icmp_lt (tgt := 16) hx hb dX4_isDots_2 (by decide) (fun c1 => ?_) (fun c1 => ?_)
  · have hq : Xq = 0 := hq.trans (if_pos c1)
    refine lv_iconst (v := 0) hx hb dX4_isDots_16 (by decide) ?_
    exact hret _ _ _ _ (0) () dX4_isDots_17 rfl (hq.symm.trans hX) hP hD hS
  · have hq : Xq = (if 999 < x1 then 0 else 1) := hq.trans (if_neg c1)
    refine lv_iload_n hx hb dX4_isDots_5 rfl (lv_at hl 0 rfl) ?_
    refine lv_sipush (v := 999) hx hb dX4_isDots_6 (by decide) ?_
    refine lv_icmp_gt (tgt := 16) hx hb dX4_isDots_9 (by decide) (fun c2 => ?_) (fun c2 => ?_)
    · have hq : Xq = 0 := hq.trans (if_pos c2)
      refine lv_iconst (v := 0) hx hb dX4_isDots_16 (by decide) ?_
      exact hret _ _ _ _ (0) () dX4_isDots_17 rfl (hq.symm.trans hX) hP hD hS
    · have hq : Xq = 1 := hq.trans (if_neg c2)
      refine lv_iconst (v := 1) hx hb dX4_isDots_12 (by decide) ?_
      refine lv_goto (tgt := 17) hx hb dX4_isDots_13 (by decide) ?_
      exact hret _ _ _ _ (1) () dX4_isDots_17 rfl (hq.symm.trans hX) hP hD hS
def sh_X4_isJobLength (x1 : Int32) : Int32 := (if x1 < 1 then 0 else (if 50 < x1 then 0 else 1))
abbrev rm_X4_isJobLength : Room := { frames := 0, cells := 0, slots := 0, locals := 0 }
theorem hd_X4_isJobLength : hdT yX4_isJobLength 1 := by decide +kernel
set_option maxHeartbeats 4000000 in
set_option maxRecDepth 100000 in
theorem c_X4_isJobLength (l : Launch) (D : va_G) (cI cC cQ : ClassId) (sz : Nat)  (x1 : Int32)  : Met l yX4_isJobLength (wsO yX4_isJobLength cX4_isJobLength 1 (some .boolean)) rm_X4_isJobLength (va_Pc [.int x1] (inW D (TYS cI cC cQ) [] sz)) (va_Qi (fun (r : Int32) (_ : Unit) => r = sh_X4_isJobLength x1) (fun (u : Unit) => atW D (TYS cI cC cQ) (va_A [] sz) []) (va_A [] sz)) 0 0 (va_A [] sz) := by
  refine k_meti .boolean rfl (by decide) (Nat.le_of_ble_eq_true rfl) ?_
  intro p e s m args below meth c A ls Q H locs hargs hret hx hb hts hown hml hname hN hA hS hP hK hD hl
  have hl : lv_has ls 1 [(0, .int x1)] := hl
  obtain ⟨Xq, hX⟩ : ∃ Xq, Xq = sh_X4_isJobLength x1 := ⟨_, rfl⟩
  have hq : Xq = (if x1 < 1 then 0 else (if 50 < x1 then 0 else 1)) := hX
  refine lv_iload_n hx hb dX4_isJobLength_0 rfl (lv_at hl 0 rfl) ?_
  refine lv_iconst (v := 1) hx hb dX4_isJobLength_1 (by decide) ?_
  refine lv_icmp_lt (tgt := 15) hx hb dX4_isJobLength_2 (by decide) (fun c1 => ?_) (fun c1 => ?_)
  · have hq : Xq = 0 := hq.trans (if_pos c1)
    refine lv_iconst (v := 0) hx hb dX4_isJobLength_15 (by decide) ?_
    exact hret _ _ _ _ (0) () dX4_isJobLength_16 rfl (hq.symm.trans hX) hP hD hS
  · have hq : Xq = (if 50 < x1 then 0 else 1) := hq.trans (if_neg c1)
    refine lv_iload_n hx hb dX4_isJobLength_5 rfl (lv_at hl 0 rfl) ?_
    refine lv_bipush (v := 50) hx hb dX4_isJobLength_6 (by decide) ?_
    refine lv_icmp_gt (tgt := 15) hx hb dX4_isJobLength_8 (by decide) (fun c2 => ?_) (fun c2 => ?_)
    · have hq : Xq = 0 := hq.trans (if_pos c2)
      refine lv_iconst (v := 0) hx hb dX4_isJobLength_15 (by decide) ?_
      exact hret _ _ _ _ (0) () dX4_isJobLength_16 rfl (hq.symm.trans hX) hP hD hS
    · have hq : Xq = 1 := hq.trans (if_neg c2)
      refine lv_iconst (v := 1) hx hb dX4_isJobLength_11 (by decide) ?_
      refine lv_goto (tgt := 16) hx hb dX4_isJobLength_12 (by decide) ?_
      exact hret _ _ _ _ (1) () dX4_isJobLength_16 rfl (hq.symm.trans hX) hP hD hS
def sh_X1_wouldBeDark (x1 : Int32) (x2 : Int32) : Int32 := (if x1 ≤ 0 then 0 else (if x1 < x2 then 0 else 1))
abbrev rm_X1_wouldBeDark : Room := { frames := 0, cells := 0, slots := 0, locals := 0 }
theorem hd_X1_wouldBeDark : hdT yX1_wouldBeDark 2 := by decide +kernel
set_option maxHeartbeats 4000000 in
set_option maxRecDepth 100000 in
theorem c_X1_wouldBeDark (l : Launch) (D : va_G) (cI cC cQ : ClassId) (sz : Nat)  (x1 : Int32) (x2 : Int32)  : Met l yX1_wouldBeDark (wsO yX1_wouldBeDark cX1_wouldBeDark 2 (some .boolean)) rm_X1_wouldBeDark (va_Pc [.int x1, .int x2] (inW D (TYS cI cC cQ) [] sz)) (va_Qi (fun (r : Int32) (_ : Unit) => r = sh_X1_wouldBeDark x1 x2) (fun (u : Unit) => atW D (TYS cI cC cQ) (va_A [] sz) []) (va_A [] sz)) 0 0 (va_A [] sz) := by
  refine k_meti .boolean rfl (by decide) (Nat.le_of_ble_eq_true rfl) ?_
  intro p e s m args below meth c A ls Q H locs hargs hret hx hb hts hown hml hname hN hA hS hP hK hD hl
  have hl : lv_has ls 2 [(0, .int x1), (1, .int x2)] := hl
  obtain ⟨Xq, hX⟩ : ∃ Xq, Xq = sh_X1_wouldBeDark x1 x2 := ⟨_, rfl⟩
  have hq : Xq = (if x1 ≤ 0 then 0 else (if x1 < x2 then 0 else 1)) := hX
  refine lv_iload_n hx hb dX1_wouldBeDark_0 rfl (lv_at hl 0 rfl) ?_
  refine lv_if_le (tgt := 13) hx hb dX1_wouldBeDark_1 (by decide) (fun c1 => ?_) (fun c1 => ?_)
  · have hq : Xq = 0 := hq.trans (if_pos c1)
    refine lv_iconst (v := 0) hx hb dX1_wouldBeDark_13 (by decide) ?_
    exact hret _ _ _ _ (0) () dX1_wouldBeDark_14 rfl (hq.symm.trans hX) hP hD hS
  · have hq : Xq = (if x1 < x2 then 0 else 1) := hq.trans (if_neg c1)
    refine lv_iload_n hx hb dX1_wouldBeDark_4 rfl (lv_at hl 0 rfl) ?_
    refine lv_iload_n hx hb dX1_wouldBeDark_5 rfl (lv_at hl 1 rfl) ?_
    refine lv_icmp_lt (tgt := 13) hx hb dX1_wouldBeDark_6 (by decide) (fun c2 => ?_) (fun c2 => ?_)
    · have hq : Xq = 0 := hq.trans (if_pos c2)
      refine lv_iconst (v := 0) hx hb dX1_wouldBeDark_13 (by decide) ?_
      exact hret _ _ _ _ (0) () dX1_wouldBeDark_14 rfl (hq.symm.trans hX) hP hD hS
    · have hq : Xq = 1 := hq.trans (if_neg c2)
      refine lv_iconst (v := 1) hx hb dX1_wouldBeDark_9 (by decide) ?_
      refine lv_goto (tgt := 14) hx hb dX1_wouldBeDark_10 (by decide) ?_
      exact hret _ _ _ _ (1) () dX1_wouldBeDark_14 rfl (hq.symm.trans hX) hP hD hS
theorem isIn4 {x : Int32} (h : ¬ sh_X4_isCup x = 0) : vp_in x 4 := by
  unfold sh_X4_isCup at h
  split at h
  · exact absurd rfl h
  · split at h
    · exact absurd rfl h
    · exact vp_of_le (N := 4) (by assumption) (by assumption) rfl
theorem isIn2 {x : Int32} (h : ¬ sh_X4_isPrinter x = 0) : vp_in x 2 := by
  unfold sh_X4_isPrinter at h
  split at h
  · exact absurd rfl h
  · split at h
    · exact absurd rfl h
    · exact vp_of_le (N := 2) (by assumption) (by assumption) rfl
theorem k_pos {x : Int32} (h : ¬ x ≤ 0) : ¬ x = 0 := fun e => h (by rw [e]; decide)
def sh_X4_share (x1 : Int32) (x2 : Int32) : Int32 := (if x2 ≤ 0 then 0 else (x1 / x2))
abbrev rm_X4_share : Room := { frames := 0, cells := 0, slots := 0, locals := 0 }
theorem hd_X4_share : hdT yX4_share 2 := by decide +kernel
set_option maxHeartbeats 4000000 in
set_option maxRecDepth 100000 in
theorem c_X4_share (l : Launch) (D : va_G) (cI cC cQ : ClassId) (sz : Nat)  (x1 : Int32) (x2 : Int32)  : Met l yX4_share (wsO yX4_share cX4_share 2 (some .int)) rm_X4_share (va_Pc [.int x1, .int x2] (inW D (TYS cI cC cQ) [] sz)) (va_Qi (fun (r : Int32) (_ : Unit) => r = sh_X4_share x1 x2) (fun (u : Unit) => atW D (TYS cI cC cQ) (va_A [] sz) []) (va_A [] sz)) 0 0 (va_A [] sz) := by
  refine k_meti .int rfl (by decide) (Nat.le_of_ble_eq_true rfl) ?_
  intro p e s m args below meth c A ls Q H locs hargs hret hx hb hts hown hml hname hN hA hS hP hK hD hl
  have hl : lv_has ls 2 [(0, .int x1), (1, .int x2)] := hl
  obtain ⟨Xq, hX⟩ : ∃ Xq, Xq = sh_X4_share x1 x2 := ⟨_, rfl⟩
  have hq : Xq = (if x2 ≤ 0 then 0 else (x1 / x2)) := hX
  refine lv_iload_n hx hb dX4_share_0 rfl (lv_at hl 1 rfl) ?_
  refine lv_if_le (tgt := 10) hx hb dX4_share_1 (by decide) (fun c1 => ?_) (fun c1 => ?_)
  · have hq : Xq = 0 := hq.trans (if_pos c1)
    refine lv_iconst (v := 0) hx hb dX4_share_10 (by decide) ?_
    exact hret _ _ _ _ (0) () dX4_share_11 rfl (hq.symm.trans hX) hP hD hS
  · have hq : Xq = (x1 / x2) := hq.trans (if_neg c1)
    refine lv_iload_n hx hb dX4_share_4 rfl (lv_at hl 0 rfl) ?_
    refine lv_iload_n hx hb dX4_share_5 rfl (lv_at hl 1 rfl) ?_
    refine lv_idiv hx hb dX4_share_6 (k_pos c1) ?_
    refine lv_goto (tgt := 11) hx hb dX4_share_7 (by decide) ?_
    exact hret _ _ _ _ ((x1 / x2)) () dX4_share_11 rfl (hq.symm.trans hX) hP hD hS
end
section
def sh_X1_tonerFor (ki : Nat → Int32) (x1 : Int32) (x2 : Int32) (x3 : Int32) : Int32 := (if (ki x1.toNatClampNeg) = 1 then (((x2 * x3) * 3) / 4) else (if (ki x1.toNatClampNeg) = 2 then (((x2 * x3) * 9) / 8) else (x2 * x3)))
abbrev rm_X1_tonerFor : Room := { frames := 0, cells := 0, slots := 0, locals := 0 }
theorem hd_X1_tonerFor : hdT yX1_tonerFor 3 := by decide +kernel
set_option maxHeartbeats 4000000 in
set_option maxRecDepth 100000 in
theorem c_X1_tonerFor (l : Launch) (D : va_G) (cI cC cQ : ClassId) (sz : Nat) (h0 : Nat) (a : Nat → Nat) (se : Nat → Int32) (ki : Nat → Int32) (ha : Nat → Int32) (sl : Nat → Int32) (ch : Nat → Int32) (ci : Nat → Int32) (dk : Nat → Int32) (li : Nat → Int32) (re : Nat → Int32) (dt : Nat → Int32) (la : Nat → Int32) (us : Int32) (sp : Int32) (rf : Int32) (x1 : Int32) (x2 : Int32) (x3 : Int32) (hi_x1 : vp_in x1 4) : Met l yX1_tonerFor (wsO yX1_tonerFor cX1_tonerFor 5 (some .int)) rm_X1_tonerFor (va_Pc [.ref h0, .int x1, .int x2, .int x3] (inW D (TYS cI cC cQ) (MW cI h0 a se ki ha sl ch ci dk li re dt la us sp rf) sz)) (va_Qi (fun (r : Int32) (_ : Unit) => r = sh_X1_tonerFor ki x1 x2 x3) (fun (u : Unit) => atW D (TYS cI cC cQ) (va_A (MW cI h0 a se ki ha sl ch ci dk li re dt la us sp rf) sz) (MW cI h0 a se ki ha sl ch ci dk li re dt la us sp rf)) (va_A (MW cI h0 a se ki ha sl ch ci dk li re dt la us sp rf) sz)) 0 0 (va_A (MW cI h0 a se ki ha sl ch ci dk li re dt la us sp rf) sz) := by
  refine k_meti .int rfl (by decide) (Nat.le_of_ble_eq_true rfl) ?_
  intro p e s m args below meth c A ls Q H locs hargs hret hx hb hts hown hml hname hN hA hS hP hK hD hl
  have hl : lv_has ls 5 [(0, .ref h0), (1, .int x1), (2, .int x2), (3, .int x3)] := hl
  obtain ⟨Xq, hX⟩ : ∃ Xq, Xq = sh_X1_tonerFor ki x1 x2 x3 := ⟨_, rfl⟩
  have hq : Xq = (if (ki x1.toNatClampNeg) = 1 then (((x2 * x3) * 3) / 4) else (if (ki x1.toNatClampNeg) = 2 then (((x2 * x3) * 9) / 8) else (x2 * x3))) := hX
  refine lv_iload_n hx hb dX1_tonerFor_0 rfl (lv_at hl 2 rfl) ?_
  refine lv_iload_n hx hb dX1_tonerFor_1 rfl (lv_at hl 3 rfl) ?_
  refine lv_imul hx hb dX1_tonerFor_2 ?_
  refine lv_istore (lv' := [(4, .int (x2 * x3)), (0, .ref h0), (1, .int x1), (2, .int x2), (3, .int x3)]) hx hb dX1_tonerFor_3 hl (by decide) rfl (fun ls hl => ?_)
  refine lv_aload_n hx hb dX1_tonerFor_5 rfl (lv_at hl 1 rfl) ?_
  refine va_get (D := D) (ci := 1) (v := .ref (a 1)) (C := RX1) (T := TX1) (N := 14) hx hb hts inA1 hown hK hP 0 rfl rfl 1 (by decide) (hts _ wd_fl_RX1_15) (fun _ h9 => h9) rfl dX1_tonerFor_6 ?_
  refine lv_iload_n hx hb dX1_tonerFor_9 rfl (lv_at hl 2 rfl) ?_
  refine va_iald hx hb hK hP 2 0 rfl rfl hi_x1 dX1_tonerFor_10 ?_
  by_cases c1 : (ki x1.toNatClampNeg) = 1
  · have hq : Xq = (((x2 * x3) * 3) / 4) := hq.trans (if_pos c1)
    refine lv_lookup (tgt := 36) hx hb dX1_tonerFor_11 (by decide) (by rw [c1] <;> rfl) (by decide) ?_
    refine lv_iload hx hb dX1_tonerFor_36 (lv_at hl 0 rfl) ?_
    refine lv_iconst (v := 3) hx hb dX1_tonerFor_38 (by decide) ?_
    refine lv_imul hx hb dX1_tonerFor_39 ?_
    refine lv_iconst (v := 4) hx hb dX1_tonerFor_40 (by decide) ?_
    refine lv_idiv hx hb dX1_tonerFor_41 (by decide) ?_
    exact hret _ _ _ _ ((((x2 * x3) * 3) / 4)) () dX1_tonerFor_42 rfl (hq.symm.trans hX) hP hD hS
  have hq : Xq = (if (ki x1.toNatClampNeg) = 2 then (((x2 * x3) * 9) / 8) else (x2 * x3)) := hq.trans (if_neg c1)
  by_cases c2 : (ki x1.toNatClampNeg) = 2
  · have hq : Xq = (((x2 * x3) * 9) / 8) := hq.trans (if_pos c2)
    refine lv_lookup (tgt := 43) hx hb dX1_tonerFor_11 (by decide) (by rw [c2] <;> rfl) (by decide) ?_
    refine lv_iload hx hb dX1_tonerFor_43 (lv_at hl 0 rfl) ?_
    refine lv_bipush (v := 9) hx hb dX1_tonerFor_45 (by decide) ?_
    refine lv_imul hx hb dX1_tonerFor_47 ?_
    refine lv_bipush (v := 8) hx hb dX1_tonerFor_48 (by decide) ?_
    refine lv_idiv hx hb dX1_tonerFor_50 (by decide) ?_
    exact hret _ _ _ _ ((((x2 * x3) * 9) / 8)) () dX1_tonerFor_51 rfl (hq.symm.trans hX) hP hD hS
  have hq : Xq = (x2 * x3) := hq.trans (if_neg c2)
  refine lv_lookup (tgt := 52) hx hb dX1_tonerFor_11 (by decide) (k_lk2 c1 c2) (by decide) ?_
  refine lv_iload hx hb dX1_tonerFor_52 (lv_at hl 0 rfl) ?_
  exact hret _ _ _ _ ((x2 * x3)) () dX1_tonerFor_54 rfl (hq.symm.trans hX) hP hD hS
def sh_X1_chipFor (ki : Nat → Int32) (x1 : Int32) (x2 : Int32) (x3 : Int32) : Int32 := (kb (if (ki x1.toNatClampNeg) = 2 then (x2 * x3) else (sh_X1_tonerFor ki x1 x2 x3)) (fun z_v6 => z_v6))
abbrev rm_X1_chipFor : Room := { frames := 1, cells := 0, slots := 0, locals := 24 }
theorem hd_X1_chipFor : hdT yX1_chipFor 3 := by decide +kernel
set_option maxHeartbeats 4000000 in
set_option maxRecDepth 100000 in
theorem c_X1_chipFor (l : Launch) (D : va_G) (cI cC cQ : ClassId) (sz : Nat) (h0 : Nat) (a : Nat → Nat) (se : Nat → Int32) (ki : Nat → Int32) (ha : Nat → Int32) (sl : Nat → Int32) (ch : Nat → Int32) (ci : Nat → Int32) (dk : Nat → Int32) (li : Nat → Int32) (re : Nat → Int32) (dt : Nat → Int32) (la : Nat → Int32) (us : Int32) (sp : Int32) (rf : Int32) (x1 : Int32) (x2 : Int32) (x3 : Int32) (hi_x1 : vp_in x1 4) : Met l yX1_chipFor (wsO yX1_chipFor cX1_chipFor 4 (some .int)) rm_X1_chipFor (va_Pc [.ref h0, .int x1, .int x2, .int x3] (inW D (TYS cI cC cQ) (MW cI h0 a se ki ha sl ch ci dk li re dt la us sp rf) sz)) (va_Qi (fun (r : Int32) (_ : Unit) => r = sh_X1_chipFor ki x1 x2 x3) (fun (u : Unit) => atW D (TYS cI cC cQ) (va_A (MW cI h0 a se ki ha sl ch ci dk li re dt la us sp rf) sz) (MW cI h0 a se ki ha sl ch ci dk li re dt la us sp rf)) (va_A (MW cI h0 a se ki ha sl ch ci dk li re dt la us sp rf) sz)) 0 0 (va_A (MW cI h0 a se ki ha sl ch ci dk li re dt la us sp rf) sz) := by
  refine k_meti .int rfl (by decide) (Nat.le_of_ble_eq_true rfl) ?_
  intro p e s m args below meth c A ls Q H locs hargs hret hx hb hts hown hml hname hN hA hS hP hK hD hl
  have hl : lv_has ls 4 [(0, .ref h0), (1, .int x1), (2, .int x2), (3, .int x3)] := hl
  obtain ⟨Xq, hX⟩ : ∃ Xq, Xq = sh_X1_chipFor ki x1 x2 x3 := ⟨_, rfl⟩
  have hq : Xq = (kb (if (ki x1.toNatClampNeg) = 2 then (x2 * x3) else (sh_X1_tonerFor ki x1 x2 x3)) (fun z_v6 => z_v6)) := hX
  refine lv_aload_n hx hb dX1_chipFor_0 rfl (lv_at hl 0 rfl) ?_
  refine va_get (D := D) (ci := 1) (v := .ref (a 1)) (C := RX1) (T := TX1) (N := 14) hx hb hts inA1 hown hK hP 0 rfl rfl 1 (by decide) (hts _ wd_fl_RX1_15) (fun _ h9 => h9) rfl dX1_chipFor_1 ?_
  refine lv_iload_n hx hb dX1_chipFor_4 rfl (lv_at hl 1 rfl) ?_
  refine va_iald hx hb hK hP 2 0 rfl rfl hi_x1 dX1_chipFor_5 ?_
  refine lv_iconst (v := 2) hx hb dX1_chipFor_6 (by decide) ?_
  have K : ∀ (v6 : Int32) (H : Heap) (locs : List Loc) (ls : Array Slot), v6 = (if (ki x1.toNatClampNeg) = 2 then (x2 * x3) else (sh_X1_tonerFor ki x1 x2 x3)) → va_P D vwCl (MW cI h0 a se ki ha sl ch ci dk li re dt la us sp rf) H → va_D A (MW cI h0 a se ki ha sl ch ci dk li re dt la us sp rf) → va_S A s.heap H locs → lv_has ls 4 [(0, .ref h0), (1, .int x1), (2, .int x2), (3, .int x3)] → W p l e rm_X1_chipFor s m args below meth c H locs 0 0 Q (F0 m 23 ls [.int v6]) := by
    intro v6 H locs ls hv5 hP hD hS hl
    have hq : Xq = v6 := by rw [← hv5] at hq; exact hq
    exact hret _ _ _ _ (v6) () dX1_chipFor_23 rfl (hq.symm.trans hX) hP hD hS
  refine lv_icmp_ne (tgt := 16) hx hb dX1_chipFor_7 (by decide) (fun c1 => ?_) (fun c1 => ?_)
  · skip
    refine lv_aload_n hx hb dX1_chipFor_16 rfl (lv_at hl 0 rfl) ?_
    refine lv_iload_n hx hb dX1_chipFor_17 rfl (lv_at hl 1 rfl) ?_
    refine lv_iload_n hx hb dX1_chipFor_18 rfl (lv_at hl 2 rfl) ?_
    refine lv_iload_n hx hb dX1_chipFor_19 rfl (lv_at hl 3 rfl) ?_
    have hPs := k_self hP
    have hDs := k_selfD hD
    refine k_behi (X := []) (Y := []) (va_runV (As := [.int x1, .int x2, .int x3]) (rest := []) ⟨hx, hb, hml, hown, hts⟩ (c_X1_tonerFor l D cI cC cQ H.size h0 a se ki ha sl ch ci dk li re dt la us sp rf x1 x2 x3 (hi_x1)) (kcwV hts wd_ml_RX1_61 wd_im_yX1_tonerFor wd_sel_yX1_tonerFor wd_ini_RX1 wd_code_yX1_tonerFor rfl rfl rfl hd_X1_tonerFor ⟨Nat.le_of_ble_eq_true rfl, Nat.le_of_ble_eq_true rfl⟩) ⟨in_blind, va_recv hK (pa_l (pa_r hPs)) (ci := 1) (q0 := 0) rfl rfl, k_pre hK (pa_l (pa_r hPs)) (da_l (da_r hDs)) hN⟩ rfl rfl hl.1 rfl (lv_room (Nat.le_of_ble_eq_true rfl)) dX1_chipFor_20 ⟨Nat.le_of_ble_eq_true rfl, Nat.le_of_ble_eq_true rfl⟩) hPs hDs hS hA (fun r2 u3 H locs hw4 hP hD hS => ?_)
    have hP := k_unP hP
    have hD := k_unD hD
    have hP : va_P D vwCl (MW cI h0 a se ki ha sl ch ci dk li re dt la us sp rf) H := hP
    have hD : va_D A (MW cI h0 a se ki ha sl ch ci dk li re dt la us sp rf) := hD
    have hw4 : r2 = (sh_X1_tonerFor ki x1 x2 x3) := hw4
    subst hw4
    exact K ((sh_X1_tonerFor ki x1 x2 x3)) _ _ _ (by rw [if_neg c1]) hP hD hS (lv_sub hl [0, 1, 2, 3] rfl)
  · skip
    refine lv_iload_n hx hb dX1_chipFor_10 rfl (lv_at hl 2 rfl) ?_
    refine lv_iload_n hx hb dX1_chipFor_11 rfl (lv_at hl 3 rfl) ?_
    refine lv_imul hx hb dX1_chipFor_12 ?_
    refine lv_goto (tgt := 23) hx hb dX1_chipFor_13 (by decide) ?_
    exact K ((x2 * x3)) _ _ _ (by rw [if_pos c1]) hP hD hS (lv_sub hl [0, 1, 2, 3] rfl)
def sh_X1_refusal (se : Nat → Int32) (ha : Nat → Int32) (ch : Nat → Int32) (x1 : Int32) : Int32 := (if (sh_X4_isCup x1) = 0 then 1 else (if (ch x1.toNatClampNeg) = 0 then (if (se (2 : Int32).toNatClampNeg) = 1 then 2 else (if (ha x1.toNatClampNeg) = 0 then 3 else 0)) else (if (ha x1.toNatClampNeg) = 0 then 3 else 0)))
abbrev rm_X1_refusal : Room := { frames := 1, cells := 0, slots := 0, locals := 20 }
theorem hd_X1_refusal : hdT yX1_refusal 1 := by decide +kernel
set_option maxHeartbeats 4000000 in
set_option maxRecDepth 100000 in
theorem c_X1_refusal (l : Launch) (D : va_G) (cI cC cQ : ClassId) (sz : Nat) (h0 : Nat) (a : Nat → Nat) (se : Nat → Int32) (ki : Nat → Int32) (ha : Nat → Int32) (sl : Nat → Int32) (ch : Nat → Int32) (ci : Nat → Int32) (dk : Nat → Int32) (li : Nat → Int32) (re : Nat → Int32) (dt : Nat → Int32) (la : Nat → Int32) (us : Int32) (sp : Int32) (rf : Int32) (x1 : Int32)  : Met l yX1_refusal (wsO yX1_refusal cX1_refusal 2 (some .int)) rm_X1_refusal (va_Pc [.ref h0, .int x1] (inW D (TYS cI cC cQ) (MW cI h0 a se ki ha sl ch ci dk li re dt la us sp rf) sz)) (va_Qi (fun (r : Int32) (_ : Unit) => r = sh_X1_refusal se ha ch x1) (fun (u : Unit) => atW D (TYS cI cC cQ) (va_A (MW cI h0 a se ki ha sl ch ci dk li re dt la us sp rf) sz) (MW cI h0 a se ki ha sl ch ci dk li re dt la us sp rf)) (va_A (MW cI h0 a se ki ha sl ch ci dk li re dt la us sp rf) sz)) 0 0 (va_A (MW cI h0 a se ki ha sl ch ci dk li re dt la us sp rf) sz) := by
  refine k_meti .int rfl (by decide) (Nat.le_of_ble_eq_true rfl) ?_
  intro p e s m args below meth c A ls Q H locs hargs hret hx hb hts hown hml hname hN hA hS hP hK hD hl
  have hl : lv_has ls 2 [(0, .ref h0), (1, .int x1)] := hl
  obtain ⟨Xq, hX⟩ : ∃ Xq, Xq = sh_X1_refusal se ha ch x1 := ⟨_, rfl⟩
  have hq : Xq = (if (sh_X4_isCup x1) = 0 then 1 else (if (ch x1.toNatClampNeg) = 0 then (if (se (2 : Int32).toNatClampNeg) = 1 then 2 else (if (ha x1.toNatClampNeg) = 0 then 3 else 0)) else (if (ha x1.toNatClampNeg) = 0 then 3 else 0))) := hX
  refine lv_iload_n hx hb dX1_refusal_0 rfl (lv_at hl 1 rfl) ?_
  have hPs : va_P D vwCl ([] ++ ([] ++ (MW cI h0 a se ki ha sl ch ci dk li re dt la us sp rf))) H := hP
  have hDs : va_D A ([] ++ ([] ++ (MW cI h0 a se ki ha sl ch ci dk li re dt la us sp rf))) := hD
  refine k_behi (X := []) (Y := (MW cI h0 a se ki ha sl ch ci dk li re dt la us sp rf)) (va_runSN (As := [.int x1]) (rest := []) ⟨hx, hb, hml, hown, hts⟩ (c_X4_isCup l D cI cC cQ H.size x1) ⟨kcnB hts hN wn_nl_RX1_65 wd_ini_RX4 wd_code_yX4_isCup rfl rfl hd_X4_isCup ⟨Nat.le_of_ble_eq_true rfl, Nat.le_of_ble_eq_true rfl⟩, hts _ wd_st_yX4_isCup, trivial⟩ ⟨in_blind, k_pre hK (pa_l (pa_r hPs)) (da_l (da_r hDs)) hN⟩ rfl rfl hl.1 rfl (lv_room (Nat.le_of_ble_eq_true rfl)) dX1_refusal_1 ⟨Nat.le_of_ble_eq_true rfl, Nat.le_of_ble_eq_true rfl⟩) hPs hDs hS hA (fun r1 u2 H locs hw3 hP hD hS => ?_)
  have hP : va_P D vwCl (MW cI h0 a se ki ha sl ch ci dk li re dt la us sp rf) H := hP
  have hD : va_D A (MW cI h0 a se ki ha sl ch ci dk li re dt la us sp rf) := hD
  have hw3 : r1 = (sh_X4_isCup x1) := hw3
  subst hw3
  refine lv_if_ne (tgt := 9) hx hb dX1_refusal_4 (by decide) (fun c4 => ?_) (fun c4 => ?_)
  · have hq : Xq = (if (ch x1.toNatClampNeg) = 0 then (if (se (2 : Int32).toNatClampNeg) = 1 then 2 else (if (ha x1.toNatClampNeg) = 0 then 3 else 0)) else (if (ha x1.toNatClampNeg) = 0 then 3 else 0)) := hq.trans (if_neg c4)
    refine lv_aload_n hx hb dX1_refusal_9 rfl (lv_at hl 0 rfl) ?_
    refine va_get (D := D) (ci := 1) (v := .ref (a 4)) (C := RX1) (T := TX1) (N := 14) hx hb hts inA1 hown hK hP 0 rfl rfl 4 (by decide) (hts _ wd_fl_RX1_24) (fun _ h9 => h9) rfl dX1_refusal_10 ?_
    refine lv_iload_n hx hb dX1_refusal_13 rfl (lv_at hl 1 rfl) ?_
    refine va_iald hx hb hK hP 5 0 rfl rfl (isIn4 c4) dX1_refusal_14 ?_
    refine lv_if_ne (tgt := 30) hx hb dX1_refusal_15 (by decide) (fun c5 => ?_) (fun c5 => ?_)
    · have hq : Xq = (if (ha x1.toNatClampNeg) = 0 then 3 else 0) := hq.trans (if_neg c5)
      refine lv_aload_n hx hb dX1_refusal_30 rfl (lv_at hl 0 rfl) ?_
      refine va_get (D := D) (ci := 1) (v := .ref (a 2)) (C := RX1) (T := TX1) (N := 14) hx hb hts inA1 hown hK hP 0 rfl rfl 2 (by decide) (hts _ wd_fl_RX1_18) (fun _ h9 => h9) rfl dX1_refusal_31 ?_
      refine lv_iload_n hx hb dX1_refusal_34 rfl (lv_at hl 1 rfl) ?_
      refine va_iald hx hb hK hP 3 0 rfl rfl (isIn4 c4) dX1_refusal_35 ?_
      refine lv_if_ne (tgt := 43) hx hb dX1_refusal_36 (by decide) (fun c6 => ?_) (fun c6 => ?_)
      · have hq : Xq = 0 := hq.trans (if_neg c6)
        refine lv_iconst (v := 0) hx hb dX1_refusal_43 (by decide) ?_
        exact hret _ _ _ _ (0) () dX1_refusal_44 rfl (hq.symm.trans hX) hP hD hS
      · have hq : Xq = 3 := hq.trans (if_pos c6)
        refine lv_iconst (v := 3) hx hb dX1_refusal_39 (by decide) ?_
        refine lv_goto (tgt := 44) hx hb dX1_refusal_40 (by decide) ?_
        exact hret _ _ _ _ (3) () dX1_refusal_44 rfl (hq.symm.trans hX) hP hD hS
    · have hq : Xq = (if (se (2 : Int32).toNatClampNeg) = 1 then 2 else (if (ha x1.toNatClampNeg) = 0 then 3 else 0)) := hq.trans (if_pos c5)
      refine lv_aload_n hx hb dX1_refusal_18 rfl (lv_at hl 0 rfl) ?_
      refine va_get (D := D) (ci := 1) (v := .ref (a 0)) (C := RX1) (T := TX1) (N := 14) hx hb hts inA1 hown hK hP 0 rfl rfl 0 (by decide) (hts _ wd_fl_RX1_9) (fun _ h9 => h9) rfl dX1_refusal_19 ?_
      refine lv_iconst (v := 2) hx hb dX1_refusal_22 (by decide) ?_
      refine va_iald hx hb hK hP 1 0 rfl rfl (k_in (by decide)) dX1_refusal_23 ?_
      refine lv_iconst (v := 1) hx hb dX1_refusal_24 (by decide) ?_
      refine lv_icmp_ne (tgt := 30) hx hb dX1_refusal_25 (by decide) (fun c7 => ?_) (fun c7 => ?_)
      · have hq : Xq = (if (ha x1.toNatClampNeg) = 0 then 3 else 0) := hq.trans (if_neg c7)
        refine lv_aload_n hx hb dX1_refusal_30 rfl (lv_at hl 0 rfl) ?_
        refine va_get (D := D) (ci := 1) (v := .ref (a 2)) (C := RX1) (T := TX1) (N := 14) hx hb hts inA1 hown hK hP 0 rfl rfl 2 (by decide) (hts _ wd_fl_RX1_18) (fun _ h9 => h9) rfl dX1_refusal_31 ?_
        refine lv_iload_n hx hb dX1_refusal_34 rfl (lv_at hl 1 rfl) ?_
        refine va_iald hx hb hK hP 3 0 rfl rfl (isIn4 c4) dX1_refusal_35 ?_
        refine lv_if_ne (tgt := 43) hx hb dX1_refusal_36 (by decide) (fun c8 => ?_) (fun c8 => ?_)
        · have hq : Xq = 0 := hq.trans (if_neg c8)
          refine lv_iconst (v := 0) hx hb dX1_refusal_43 (by decide) ?_
          exact hret _ _ _ _ (0) () dX1_refusal_44 rfl (hq.symm.trans hX) hP hD hS
        · have hq : Xq = 3 := hq.trans (if_pos c8)
          refine lv_iconst (v := 3) hx hb dX1_refusal_39 (by decide) ?_
          refine lv_goto (tgt := 44) hx hb dX1_refusal_40 (by decide) ?_
          exact hret _ _ _ _ (3) () dX1_refusal_44 rfl (hq.symm.trans hX) hP hD hS
      · have hq : Xq = 2 := hq.trans (if_pos c7)
        refine lv_iconst (v := 2) hx hb dX1_refusal_28 (by decide) ?_
        exact hret _ _ _ _ (2) () dX1_refusal_29 rfl (hq.symm.trans hX) hP hD hS
  · have hq : Xq = 1 := hq.trans (if_pos c4)
    refine lv_iconst (v := 1) hx hb dX1_refusal_7 (by decide) ?_
    exact hret _ _ _ _ (1) () dX1_refusal_8 rfl (hq.symm.trans hX) hP hD hS
theorem refIn {se ha ch : Nat → Int32} {x : Int32} (h : sh_X1_refusal se ha ch x = 0) : vp_in x 4 := by
  unfold sh_X1_refusal at h
  split at h
  · exact absurd h (by decide)
  · exact isIn4 (by assumption)
def sh_X1_useToner (ha : Nat → Int32) (us : Int32) (x1 : Int32) (x2 : Int32) : Int32 × (Nat → Int32) × (Int32) := (kb (if x2 ≤ (ha x1.toNatClampNeg) then x2 else (ha x1.toNatClampNeg)) (fun z_v3 => (kb (if z_v3 = x2 then 100 else (sh_X4_share (z_v3 * 100) x2)) (fun z_v9 => (z_v9, (upd ha x1.toNatClampNeg ((ha x1.toNatClampNeg) - z_v3)), (us + z_v3))))))
abbrev rm_X1_useToner : Room := { frames := 1, cells := 0, slots := 0, locals := 21 }
theorem hd_X1_useToner : hdT yX1_useToner 2 := by decide +kernel
set_option maxHeartbeats 4000000 in
set_option maxRecDepth 100000 in
theorem c_X1_useToner (l : Launch) (D : va_G) (cI cC cQ : ClassId) (sz : Nat) (h0 : Nat) (a : Nat → Nat) (se : Nat → Int32) (ki : Nat → Int32) (ha : Nat → Int32) (sl : Nat → Int32) (ch : Nat → Int32) (ci : Nat → Int32) (dk : Nat → Int32) (li : Nat → Int32) (re : Nat → Int32) (dt : Nat → Int32) (la : Nat → Int32) (us : Int32) (sp : Int32) (rf : Int32) (x1 : Int32) (x2 : Int32) (hi_x1 : vp_in x1 4) : Met l yX1_useToner (wsO yX1_useToner cX1_useToner 4 (some .int)) rm_X1_useToner (va_Pc [.ref h0, .int x1, .int x2] (inW D (TYS cI cC cQ) (MW cI h0 a se ki ha sl ch ci dk li re dt la us sp rf) sz)) (va_Qi (fun (r : Int32) (u : (Nat → Int32) × (Int32)) => (r, u) = sh_X1_useToner ha us x1 x2) (fun (u : (Nat → Int32) × (Int32)) => atW D (TYS cI cC cQ) (va_A (MW cI h0 a se ki ha sl ch ci dk li re dt la us sp rf) sz) (MW cI h0 a se ki u.1 sl ch ci dk li re dt la u.2 sp rf)) (va_A (MW cI h0 a se ki ha sl ch ci dk li re dt la us sp rf) sz)) 0 0 (va_A (MW cI h0 a se ki ha sl ch ci dk li re dt la us sp rf) sz) := by
  refine k_meti .int rfl (by decide) (Nat.le_of_ble_eq_true rfl) ?_
  intro p e s m args below meth c A ls Q H locs hargs hret hx hb hts hown hml hname hN hA hS hP hK hD hl
  have hl : lv_has ls 4 [(0, .ref h0), (1, .int x1), (2, .int x2)] := hl
  obtain ⟨Xq, hX⟩ : ∃ Xq, Xq = sh_X1_useToner ha us x1 x2 := ⟨_, rfl⟩
  have hq : Xq = (kb (if x2 ≤ (ha x1.toNatClampNeg) then x2 else (ha x1.toNatClampNeg)) (fun z_v3 => (kb (if z_v3 = x2 then 100 else (sh_X4_share (z_v3 * 100) x2)) (fun z_v9 => (z_v9, (upd ha x1.toNatClampNeg ((ha x1.toNatClampNeg) - z_v3)), (us + z_v3)))))) := hX
  refine lv_aload_n hx hb dX1_useToner_0 rfl (lv_at hl 0 rfl) ?_
  refine va_get (D := D) (ci := 1) (v := .ref (a 2)) (C := RX1) (T := TX1) (N := 14) hx hb hts inA1 hown hK hP 0 rfl rfl 2 (by decide) (hts _ wd_fl_RX1_18) (fun _ h9 => h9) rfl dX1_useToner_1 ?_
  refine lv_iload_n hx hb dX1_useToner_4 rfl (lv_at hl 1 rfl) ?_
  refine va_iald hx hb hK hP 3 0 rfl rfl hi_x1 dX1_useToner_5 ?_
  refine lv_iload_n hx hb dX1_useToner_6 rfl (lv_at hl 2 rfl) ?_
  have K : ∀ (v3 : Int32) (H : Heap) (locs : List Loc) (ls : Array Slot), v3 = (if x2 ≤ (ha x1.toNatClampNeg) then x2 else (ha x1.toNatClampNeg)) → va_P D vwCl (MW cI h0 a se ki ha sl ch ci dk li re dt la us sp rf) H → va_D A (MW cI h0 a se ki ha sl ch ci dk li re dt la us sp rf) → va_S A s.heap H locs → lv_has ls 4 [(0, .ref h0), (1, .int x1), (2, .int x2)] → W p l e rm_X1_useToner s m args below meth c H locs 0 0 Q (F0 m 20 ls [.int v3]) := by
    intro v3 H locs ls hv2 hP hD hS hl
    have hq : Xq = (kb (if v3 = x2 then 100 else (sh_X4_share (v3 * 100) x2)) (fun z_v9 => (z_v9, (upd ha x1.toNatClampNeg ((ha x1.toNatClampNeg) - v3)), (us + v3)))) := by rw [← hv2] at hq; exact hq
    refine lv_istore_n (lv' := [(3, .int v3), (0, .ref h0), (1, .int x1), (2, .int x2)]) hx hb dX1_useToner_20 rfl hl (by decide) rfl (fun ls hl => ?_)
    refine lv_aload_n hx hb dX1_useToner_21 rfl (lv_at hl 1 rfl) ?_
    refine va_get (D := D) (ci := 1) (v := .ref (a 2)) (C := RX1) (T := TX1) (N := 14) hx hb hts inA1 hown hK hP 0 rfl rfl 2 (by decide) (hts _ wd_fl_RX1_18) (fun _ h9 => h9) rfl dX1_useToner_22 ?_
    refine lv_iload_n hx hb dX1_useToner_25 rfl (lv_at hl 2 rfl) ?_
    refine lv_dup2_11 hx hb dX1_useToner_26 rfl rfl ?_
    refine va_iald hx hb hK hP 3 0 rfl rfl hi_x1 dX1_useToner_27 ?_
    refine lv_iload_n hx hb dX1_useToner_28 rfl (lv_at hl 0 rfl) ?_
    refine lv_isub hx hb dX1_useToner_29 ?_
    refine va_iast hx hb hK hP hD hS 3 0 rfl rfl hi_x1 dX1_useToner_30 (fun H locs hP hD hS => ?_)
    have hP : va_P D vwCl (MW cI h0 a se ki (upd ha x1.toNatClampNeg ((ha x1.toNatClampNeg) - v3)) sl ch ci dk li re dt la us sp rf) H := hP
    have hD : va_D A (MW cI h0 a se ki (upd ha x1.toNatClampNeg ((ha x1.toNatClampNeg) - v3)) sl ch ci dk li re dt la us sp rf) := hD
    refine lv_aload_n hx hb dX1_useToner_31 rfl (lv_at hl 1 rfl) ?_
    refine lv_dup hx hb dX1_useToner_32 rfl ?_
    refine va_get (D := D) (ci := 1) (v := .int us) (C := RX1) (T := TX1) (N := 14) hx hb hts inA1 hown hK hP 0 rfl rfl 11 (by decide) (hts _ wd_fl_RX1_45) (fun _ h9 => h9) rfl dX1_useToner_33 ?_
    refine lv_iload_n hx hb dX1_useToner_36 rfl (lv_at hl 0 rfl) ?_
    refine lv_iadd hx hb dX1_useToner_37 ?_
    refine va_put (D := D) (ci := 1) (v := .int (us + v3)) (ty := .int) (C := RX1) (T := TX1) (N := 14) hx hb hts inA1 tyX1 tyX1_ok nmX1 hown hK hP hD hS 0 rfl rfl 11 (by decide) (hts _ wd_fl_RX1_45) (fun _ h9 => h9) rfl (by decide +kernel) rfl rfl (Nat.le_of_ble_eq_true rfl) dX1_useToner_38 (fun H locs hP hD hS => ?_)
    have hP : va_P D vwCl (MW cI h0 a se ki (upd ha x1.toNatClampNeg ((ha x1.toNatClampNeg) - v3)) sl ch ci dk li re dt la (us + v3) sp rf) H := hP
    have hD : va_D A (MW cI h0 a se ki (upd ha x1.toNatClampNeg ((ha x1.toNatClampNeg) - v3)) sl ch ci dk li re dt la (us + v3) sp rf) := hD
    refine lv_iload_n hx hb dX1_useToner_41 rfl (lv_at hl 0 rfl) ?_
    refine lv_iload_n hx hb dX1_useToner_42 rfl (lv_at hl 3 rfl) ?_
    have K : ∀ (v9 : Int32) (H : Heap) (locs : List Loc) (ls : Array Slot), v9 = (if v3 = x2 then 100 else (sh_X4_share (v3 * 100) x2)) → va_P D vwCl (MW cI h0 a se ki (upd ha x1.toNatClampNeg ((ha x1.toNatClampNeg) - v3)) sl ch ci dk li re dt la (us + v3) sp rf) H → va_D A (MW cI h0 a se ki (upd ha x1.toNatClampNeg ((ha x1.toNatClampNeg) - v3)) sl ch ci dk li re dt la (us + v3) sp rf) → va_S A s.heap H locs → lv_has ls 4 [(0, .ref h0), (1, .int x1), (2, .int x2), (3, .int v3)] → W p l e rm_X1_useToner s m args below meth c H locs 0 0 Q (F0 m 59 ls [.int v9]) := by
      intro v9 H locs ls hv8 hP hD hS hl
      have hq : Xq = (v9, (upd ha x1.toNatClampNeg ((ha x1.toNatClampNeg) - v3)), (us + v3)) := by rw [← hv8] at hq; exact hq
      exact hret _ _ _ _ (v9) ((upd ha x1.toNatClampNeg ((ha x1.toNatClampNeg) - v3)), (us + v3)) dX1_useToner_59 rfl (hq.symm.trans hX) hP hD hS
    refine lv_icmp_ne (tgt := 51) hx hb dX1_useToner_43 (by decide) (fun c4 => ?_) (fun c4 => ?_)
    · skip
      refine lv_iload_n hx hb dX1_useToner_51 rfl (lv_at hl 0 rfl) ?_
      refine lv_bipush (v := 100) hx hb dX1_useToner_52 (by decide) ?_
      refine lv_imul hx hb dX1_useToner_54 ?_
      refine lv_iload_n hx hb dX1_useToner_55 rfl (lv_at hl 3 rfl) ?_
      have hPs : va_P D vwCl ([] ++ ([] ++ (MW cI h0 a se ki (upd ha x1.toNatClampNeg ((ha x1.toNatClampNeg) - v3)) sl ch ci dk li re dt la (us + v3) sp rf))) H := hP
      have hDs : va_D A ([] ++ ([] ++ (MW cI h0 a se ki (upd ha x1.toNatClampNeg ((ha x1.toNatClampNeg) - v3)) sl ch ci dk li re dt la (us + v3) sp rf))) := hD
      refine k_behi (X := []) (Y := (MW cI h0 a se ki (upd ha x1.toNatClampNeg ((ha x1.toNatClampNeg) - v3)) sl ch ci dk li re dt la (us + v3) sp rf)) (va_runSN (As := [.int (v3 * 100), .int x2]) (rest := []) ⟨hx, hb, hml, hown, hts⟩ (c_X4_share l D cI cC cQ H.size (v3 * 100) x2) ⟨kcnB hts hN wn_nl_RX1_84 wd_ini_RX4 wd_code_yX4_share rfl rfl hd_X4_share ⟨Nat.le_of_ble_eq_true rfl, Nat.le_of_ble_eq_true rfl⟩, hts _ wd_st_yX4_share, trivial⟩ ⟨in_blind, k_pre hK (pa_l (pa_r hPs)) (da_l (da_r hDs)) hN⟩ rfl rfl hl.1 rfl (lv_room (Nat.le_of_ble_eq_true rfl)) dX1_useToner_56 ⟨Nat.le_of_ble_eq_true rfl, Nat.le_of_ble_eq_true rfl⟩) hPs hDs hS hA (fun r5 u6 H locs hw7 hP hD hS => ?_)
      have hP : va_P D vwCl (MW cI h0 a se ki (upd ha x1.toNatClampNeg ((ha x1.toNatClampNeg) - v3)) sl ch ci dk li re dt la (us + v3) sp rf) H := hP
      have hD : va_D A (MW cI h0 a se ki (upd ha x1.toNatClampNeg ((ha x1.toNatClampNeg) - v3)) sl ch ci dk li re dt la (us + v3) sp rf) := hD
      have hw7 : r5 = (sh_X4_share (v3 * 100) x2) := hw7
      subst hw7
      exact K ((sh_X4_share (v3 * 100) x2)) _ _ _ (by rw [if_neg c4]) hP hD hS (lv_sub hl [1, 2, 3, 0] rfl)
    · skip
      refine lv_bipush (v := 100) hx hb dX1_useToner_46 (by decide) ?_
      refine lv_goto (tgt := 59) hx hb dX1_useToner_48 (by decide) ?_
      exact K (100) _ _ _ (by rw [if_pos c4]) hP hD hS (lv_sub hl [1, 2, 3, 0] rfl)
  refine lv_icmp_ge (tgt := 19) hx hb dX1_useToner_7 (by decide) (fun c1 => ?_) (fun c1 => ?_)
  · skip
    refine lv_iload_n hx hb dX1_useToner_19 rfl (lv_at hl 2 rfl) ?_
    exact K (x2) _ _ _ (by rw [if_pos c1]) hP hD hS (lv_sub hl [0, 1, 2] rfl)
  · skip
    refine lv_aload_n hx hb dX1_useToner_10 rfl (lv_at hl 0 rfl) ?_
    refine va_get (D := D) (ci := 1) (v := .ref (a 2)) (C := RX1) (T := TX1) (N := 14) hx hb hts inA1 hown hK hP 0 rfl rfl 2 (by decide) (hts _ wd_fl_RX1_18) (fun _ h9 => h9) rfl dX1_useToner_11 ?_
    refine lv_iload_n hx hb dX1_useToner_14 rfl (lv_at hl 1 rfl) ?_
    refine va_iald hx hb hK hP 3 0 rfl rfl hi_x1 dX1_useToner_15 ?_
    refine lv_goto (tgt := 20) hx hb dX1_useToner_16 (by decide) ?_
    exact K ((ha x1.toNatClampNeg)) _ _ _ (by rw [if_neg c1]) hP hD hS (lv_sub hl [0, 1, 2] rfl)
def sh_X1_settleToner (se : Nat → Int32) (ha : Nat → Int32) (sl : Nat → Int32) (x1 : Int32) : (Nat → Int32) × (Nat → Int32) := ((upd ha x1.toNatClampNeg ((ha x1.toNatClampNeg) - (sh_X4_share (ha x1.toNatClampNeg) (se (1 : Int32).toNatClampNeg)))), (upd sl x1.toNatClampNeg ((sl x1.toNatClampNeg) + (sh_X4_share (ha x1.toNatClampNeg) (se (1 : Int32).toNatClampNeg)))))
abbrev rm_X1_settleToner : Room := { frames := 1, cells := 0, slots := 0, locals := 21 }
theorem hd_X1_settleToner : hdT yX1_settleToner 1 := by decide +kernel
set_option maxHeartbeats 4000000 in
set_option maxRecDepth 100000 in
theorem c_X1_settleToner (l : Launch) (D : va_G) (cI cC cQ : ClassId) (sz : Nat) (h0 : Nat) (a : Nat → Nat) (se : Nat → Int32) (ki : Nat → Int32) (ha : Nat → Int32) (sl : Nat → Int32) (ch : Nat → Int32) (ci : Nat → Int32) (dk : Nat → Int32) (li : Nat → Int32) (re : Nat → Int32) (dt : Nat → Int32) (la : Nat → Int32) (us : Int32) (sp : Int32) (rf : Int32) (x1 : Int32) (hi_x1 : vp_in x1 4) : Met l yX1_settleToner (wsO yX1_settleToner cX1_settleToner 3 none) rm_X1_settleToner (va_Pc [.ref h0, .int x1] (inW D (TYS cI cC cQ) (MW cI h0 a se ki ha sl ch ci dk li re dt la us sp rf) sz)) (va_Qv (fun (u : (Nat → Int32) × (Nat → Int32)) => u = sh_X1_settleToner se ha sl x1) (fun (u : (Nat → Int32) × (Nat → Int32)) => atW D (TYS cI cC cQ) (va_A (MW cI h0 a se ki ha sl ch ci dk li re dt la us sp rf) sz) (MW cI h0 a se ki u.1 u.2 ch ci dk li re dt la us sp rf)) (va_A (MW cI h0 a se ki ha sl ch ci dk li re dt la us sp rf) sz)) 0 0 (va_A (MW cI h0 a se ki ha sl ch ci dk li re dt la us sp rf) sz) := by
  refine k_metv rfl (by decide) (Nat.le_of_ble_eq_true rfl) ?_
  intro p e s m args below meth c A ls Q H locs hargs hret hx hb hts hown hml hname hN hA hS hP hK hD hl
  have hl : lv_has ls 3 [(0, .ref h0), (1, .int x1)] := hl
  obtain ⟨Xq, hX⟩ : ∃ Xq, Xq = sh_X1_settleToner se ha sl x1 := ⟨_, rfl⟩
  have hq : Xq = ((upd ha x1.toNatClampNeg ((ha x1.toNatClampNeg) - (sh_X4_share (ha x1.toNatClampNeg) (se (1 : Int32).toNatClampNeg)))), (upd sl x1.toNatClampNeg ((sl x1.toNatClampNeg) + (sh_X4_share (ha x1.toNatClampNeg) (se (1 : Int32).toNatClampNeg))))) := hX
  refine lv_aload_n hx hb dX1_settleToner_0 rfl (lv_at hl 0 rfl) ?_
  refine va_get (D := D) (ci := 1) (v := .ref (a 2)) (C := RX1) (T := TX1) (N := 14) hx hb hts inA1 hown hK hP 0 rfl rfl 2 (by decide) (hts _ wd_fl_RX1_18) (fun _ h9 => h9) rfl dX1_settleToner_1 ?_
  refine lv_iload_n hx hb dX1_settleToner_4 rfl (lv_at hl 1 rfl) ?_
  refine va_iald hx hb hK hP 3 0 rfl rfl hi_x1 dX1_settleToner_5 ?_
  refine lv_aload_n hx hb dX1_settleToner_6 rfl (lv_at hl 0 rfl) ?_
  refine va_get (D := D) (ci := 1) (v := .ref (a 0)) (C := RX1) (T := TX1) (N := 14) hx hb hts inA1 hown hK hP 0 rfl rfl 0 (by decide) (hts _ wd_fl_RX1_9) (fun _ h9 => h9) rfl dX1_settleToner_7 ?_
  refine lv_iconst (v := 1) hx hb dX1_settleToner_10 (by decide) ?_
  refine va_iald hx hb hK hP 1 0 rfl rfl (k_in (by decide)) dX1_settleToner_11 ?_
  have hPs : va_P D vwCl ([] ++ ([] ++ (MW cI h0 a se ki ha sl ch ci dk li re dt la us sp rf))) H := hP
  have hDs : va_D A ([] ++ ([] ++ (MW cI h0 a se ki ha sl ch ci dk li re dt la us sp rf))) := hD
  refine k_behi (X := []) (Y := (MW cI h0 a se ki ha sl ch ci dk li re dt la us sp rf)) (va_runSN (As := [.int (ha x1.toNatClampNeg), .int (se (1 : Int32).toNatClampNeg)]) (rest := []) ⟨hx, hb, hml, hown, hts⟩ (c_X4_share l D cI cC cQ H.size (ha x1.toNatClampNeg) (se (1 : Int32).toNatClampNeg)) ⟨kcnB hts hN wn_nl_RX1_84 wd_ini_RX4 wd_code_yX4_share rfl rfl hd_X4_share ⟨Nat.le_of_ble_eq_true rfl, Nat.le_of_ble_eq_true rfl⟩, hts _ wd_st_yX4_share, trivial⟩ ⟨in_blind, k_pre hK (pa_l (pa_r hPs)) (da_l (da_r hDs)) hN⟩ rfl rfl hl.1 rfl (lv_room (Nat.le_of_ble_eq_true rfl)) dX1_settleToner_12 ⟨Nat.le_of_ble_eq_true rfl, Nat.le_of_ble_eq_true rfl⟩) hPs hDs hS hA (fun r1 u2 H locs hw3 hP hD hS => ?_)
  have hP : va_P D vwCl (MW cI h0 a se ki ha sl ch ci dk li re dt la us sp rf) H := hP
  have hD : va_D A (MW cI h0 a se ki ha sl ch ci dk li re dt la us sp rf) := hD
  have hw3 : r1 = (sh_X4_share (ha x1.toNatClampNeg) (se (1 : Int32).toNatClampNeg)) := hw3
  subst hw3
  refine lv_istore_n (lv' := [(2, .int (sh_X4_share (ha x1.toNatClampNeg) (se (1 : Int32).toNatClampNeg))), (0, .ref h0), (1, .int x1)]) hx hb dX1_settleToner_15 rfl hl (by decide) rfl (fun ls hl => ?_)
  refine lv_aload_n hx hb dX1_settleToner_16 rfl (lv_at hl 1 rfl) ?_
  refine va_get (D := D) (ci := 1) (v := .ref (a 2)) (C := RX1) (T := TX1) (N := 14) hx hb hts inA1 hown hK hP 0 rfl rfl 2 (by decide) (hts _ wd_fl_RX1_18) (fun _ h9 => h9) rfl dX1_settleToner_17 ?_
  refine lv_iload_n hx hb dX1_settleToner_20 rfl (lv_at hl 2 rfl) ?_
  refine lv_dup2_11 hx hb dX1_settleToner_21 rfl rfl ?_
  refine va_iald hx hb hK hP 3 0 rfl rfl hi_x1 dX1_settleToner_22 ?_
  refine lv_iload_n hx hb dX1_settleToner_23 rfl (lv_at hl 0 rfl) ?_
  refine lv_isub hx hb dX1_settleToner_24 ?_
  refine va_iast hx hb hK hP hD hS 3 0 rfl rfl hi_x1 dX1_settleToner_25 (fun H locs hP hD hS => ?_)
  have hP : va_P D vwCl (MW cI h0 a se ki (upd ha x1.toNatClampNeg ((ha x1.toNatClampNeg) - (sh_X4_share (ha x1.toNatClampNeg) (se (1 : Int32).toNatClampNeg)))) sl ch ci dk li re dt la us sp rf) H := hP
  have hD : va_D A (MW cI h0 a se ki (upd ha x1.toNatClampNeg ((ha x1.toNatClampNeg) - (sh_X4_share (ha x1.toNatClampNeg) (se (1 : Int32).toNatClampNeg)))) sl ch ci dk li re dt la us sp rf) := hD
  refine lv_aload_n hx hb dX1_settleToner_26 rfl (lv_at hl 1 rfl) ?_
  refine va_get (D := D) (ci := 1) (v := .ref (a 3)) (C := RX1) (T := TX1) (N := 14) hx hb hts inA1 hown hK hP 0 rfl rfl 3 (by decide) (hts _ wd_fl_RX1_21) (fun _ h9 => h9) rfl dX1_settleToner_27 ?_
  refine lv_iload_n hx hb dX1_settleToner_30 rfl (lv_at hl 2 rfl) ?_
  refine lv_dup2_11 hx hb dX1_settleToner_31 rfl rfl ?_
  refine va_iald hx hb hK hP 4 0 rfl rfl hi_x1 dX1_settleToner_32 ?_
  refine lv_iload_n hx hb dX1_settleToner_33 rfl (lv_at hl 0 rfl) ?_
  refine lv_iadd hx hb dX1_settleToner_34 ?_
  refine va_iast hx hb hK hP hD hS 4 0 rfl rfl hi_x1 dX1_settleToner_35 (fun H locs hP hD hS => ?_)
  have hP : va_P D vwCl (MW cI h0 a se ki (upd ha x1.toNatClampNeg ((ha x1.toNatClampNeg) - (sh_X4_share (ha x1.toNatClampNeg) (se (1 : Int32).toNatClampNeg)))) (upd sl x1.toNatClampNeg ((sl x1.toNatClampNeg) + (sh_X4_share (ha x1.toNatClampNeg) (se (1 : Int32).toNatClampNeg)))) ch ci dk li re dt la us sp rf) H := hP
  have hD : va_D A (MW cI h0 a se ki (upd ha x1.toNatClampNeg ((ha x1.toNatClampNeg) - (sh_X4_share (ha x1.toNatClampNeg) (se (1 : Int32).toNatClampNeg)))) (upd sl x1.toNatClampNeg ((sl x1.toNatClampNeg) + (sh_X4_share (ha x1.toNatClampNeg) (se (1 : Int32).toNatClampNeg)))) ch ci dk li re dt la us sp rf) := hD
  exact hret _ _ _ _ ((upd ha x1.toNatClampNeg ((ha x1.toNatClampNeg) - (sh_X4_share (ha x1.toNatClampNeg) (se (1 : Int32).toNatClampNeg)))), (upd sl x1.toNatClampNeg ((sl x1.toNatClampNeg) + (sh_X4_share (ha x1.toNatClampNeg) (se (1 : Int32).toNatClampNeg))))) dX1_settleToner_36 (hq.symm.trans hX) hP hD hS
def sh_X1_shakeCup (ha : Nat → Int32) (sl : Nat → Int32) (x1 : Int32) : Int32 × (Nat → Int32) × (Nat → Int32) := (((sl x1.toNatClampNeg) / 2), (upd ha x1.toNatClampNeg ((ha x1.toNatClampNeg) + ((sl x1.toNatClampNeg) / 2))), (upd sl x1.toNatClampNeg ((sl x1.toNatClampNeg) - ((sl x1.toNatClampNeg) / 2))))
abbrev rm_X1_shakeCup : Room := { frames := 0, cells := 0, slots := 0, locals := 0 }
theorem hd_X1_shakeCup : hdT yX1_shakeCup 1 := by decide +kernel
set_option maxHeartbeats 4000000 in
set_option maxRecDepth 100000 in
theorem c_X1_shakeCup (l : Launch) (D : va_G) (cI cC cQ : ClassId) (sz : Nat) (h0 : Nat) (a : Nat → Nat) (se : Nat → Int32) (ki : Nat → Int32) (ha : Nat → Int32) (sl : Nat → Int32) (ch : Nat → Int32) (ci : Nat → Int32) (dk : Nat → Int32) (li : Nat → Int32) (re : Nat → Int32) (dt : Nat → Int32) (la : Nat → Int32) (us : Int32) (sp : Int32) (rf : Int32) (x1 : Int32) (hi_x1 : vp_in x1 4) : Met l yX1_shakeCup (wsO yX1_shakeCup cX1_shakeCup 3 (some .int)) rm_X1_shakeCup (va_Pc [.ref h0, .int x1] (inW D (TYS cI cC cQ) (MW cI h0 a se ki ha sl ch ci dk li re dt la us sp rf) sz)) (va_Qi (fun (r : Int32) (u : (Nat → Int32) × (Nat → Int32)) => (r, u) = sh_X1_shakeCup ha sl x1) (fun (u : (Nat → Int32) × (Nat → Int32)) => atW D (TYS cI cC cQ) (va_A (MW cI h0 a se ki ha sl ch ci dk li re dt la us sp rf) sz) (MW cI h0 a se ki u.1 u.2 ch ci dk li re dt la us sp rf)) (va_A (MW cI h0 a se ki ha sl ch ci dk li re dt la us sp rf) sz)) 0 0 (va_A (MW cI h0 a se ki ha sl ch ci dk li re dt la us sp rf) sz) := by
  refine k_meti .int rfl (by decide) (Nat.le_of_ble_eq_true rfl) ?_
  intro p e s m args below meth c A ls Q H locs hargs hret hx hb hts hown hml hname hN hA hS hP hK hD hl
  have hl : lv_has ls 3 [(0, .ref h0), (1, .int x1)] := hl
  obtain ⟨Xq, hX⟩ : ∃ Xq, Xq = sh_X1_shakeCup ha sl x1 := ⟨_, rfl⟩
  have hq : Xq = (((sl x1.toNatClampNeg) / 2), (upd ha x1.toNatClampNeg ((ha x1.toNatClampNeg) + ((sl x1.toNatClampNeg) / 2))), (upd sl x1.toNatClampNeg ((sl x1.toNatClampNeg) - ((sl x1.toNatClampNeg) / 2)))) := hX
  refine lv_aload_n hx hb dX1_shakeCup_0 rfl (lv_at hl 0 rfl) ?_
  refine va_get (D := D) (ci := 1) (v := .ref (a 3)) (C := RX1) (T := TX1) (N := 14) hx hb hts inA1 hown hK hP 0 rfl rfl 3 (by decide) (hts _ wd_fl_RX1_21) (fun _ h9 => h9) rfl dX1_shakeCup_1 ?_
  refine lv_iload_n hx hb dX1_shakeCup_4 rfl (lv_at hl 1 rfl) ?_
  refine va_iald hx hb hK hP 4 0 rfl rfl hi_x1 dX1_shakeCup_5 ?_
  refine lv_iconst (v := 2) hx hb dX1_shakeCup_6 (by decide) ?_
  refine lv_idiv hx hb dX1_shakeCup_7 (by decide) ?_
  refine lv_istore_n (lv' := [(2, .int ((sl x1.toNatClampNeg) / 2)), (0, .ref h0), (1, .int x1)]) hx hb dX1_shakeCup_8 rfl hl (by decide) rfl (fun ls hl => ?_)
  refine lv_aload_n hx hb dX1_shakeCup_9 rfl (lv_at hl 1 rfl) ?_
  refine va_get (D := D) (ci := 1) (v := .ref (a 3)) (C := RX1) (T := TX1) (N := 14) hx hb hts inA1 hown hK hP 0 rfl rfl 3 (by decide) (hts _ wd_fl_RX1_21) (fun _ h9 => h9) rfl dX1_shakeCup_10 ?_
  refine lv_iload_n hx hb dX1_shakeCup_13 rfl (lv_at hl 2 rfl) ?_
  refine lv_dup2_11 hx hb dX1_shakeCup_14 rfl rfl ?_
  refine va_iald hx hb hK hP 4 0 rfl rfl hi_x1 dX1_shakeCup_15 ?_
  refine lv_iload_n hx hb dX1_shakeCup_16 rfl (lv_at hl 0 rfl) ?_
  refine lv_isub hx hb dX1_shakeCup_17 ?_
  refine va_iast hx hb hK hP hD hS 4 0 rfl rfl hi_x1 dX1_shakeCup_18 (fun H locs hP hD hS => ?_)
  have hP : va_P D vwCl (MW cI h0 a se ki ha (upd sl x1.toNatClampNeg ((sl x1.toNatClampNeg) - ((sl x1.toNatClampNeg) / 2))) ch ci dk li re dt la us sp rf) H := hP
  have hD : va_D A (MW cI h0 a se ki ha (upd sl x1.toNatClampNeg ((sl x1.toNatClampNeg) - ((sl x1.toNatClampNeg) / 2))) ch ci dk li re dt la us sp rf) := hD
  refine lv_aload_n hx hb dX1_shakeCup_19 rfl (lv_at hl 1 rfl) ?_
  refine va_get (D := D) (ci := 1) (v := .ref (a 2)) (C := RX1) (T := TX1) (N := 14) hx hb hts inA1 hown hK hP 0 rfl rfl 2 (by decide) (hts _ wd_fl_RX1_18) (fun _ h9 => h9) rfl dX1_shakeCup_20 ?_
  refine lv_iload_n hx hb dX1_shakeCup_23 rfl (lv_at hl 2 rfl) ?_
  refine lv_dup2_11 hx hb dX1_shakeCup_24 rfl rfl ?_
  refine va_iald hx hb hK hP 3 0 rfl rfl hi_x1 dX1_shakeCup_25 ?_
  refine lv_iload_n hx hb dX1_shakeCup_26 rfl (lv_at hl 0 rfl) ?_
  refine lv_iadd hx hb dX1_shakeCup_27 ?_
  refine va_iast hx hb hK hP hD hS 3 0 rfl rfl hi_x1 dX1_shakeCup_28 (fun H locs hP hD hS => ?_)
  have hP : va_P D vwCl (MW cI h0 a se ki (upd ha x1.toNatClampNeg ((ha x1.toNatClampNeg) + ((sl x1.toNatClampNeg) / 2))) (upd sl x1.toNatClampNeg ((sl x1.toNatClampNeg) - ((sl x1.toNatClampNeg) / 2))) ch ci dk li re dt la us sp rf) H := hP
  have hD : va_D A (MW cI h0 a se ki (upd ha x1.toNatClampNeg ((ha x1.toNatClampNeg) + ((sl x1.toNatClampNeg) / 2))) (upd sl x1.toNatClampNeg ((sl x1.toNatClampNeg) - ((sl x1.toNatClampNeg) / 2))) ch ci dk li re dt la us sp rf) := hD
  refine lv_iload_n hx hb dX1_shakeCup_29 rfl (lv_at hl 0 rfl) ?_
  exact hret _ _ _ _ (((sl x1.toNatClampNeg) / 2)) ((upd ha x1.toNatClampNeg ((ha x1.toNatClampNeg) + ((sl x1.toNatClampNeg) / 2))), (upd sl x1.toNatClampNeg ((sl x1.toNatClampNeg) - ((sl x1.toNatClampNeg) / 2)))) dX1_shakeCup_30 rfl (hq.symm.trans hX) hP hD hS
def sh_X1_printerOf (ci : Nat → Int32) (x1 : Int32) : Int32 := (if (ci (0 : Int32).toNatClampNeg) = x1 then 0 else (if (ci (1 : Int32).toNatClampNeg) = x1 then 1 else (-4)))
abbrev rm_X1_printerOf : Room := { frames := 0, cells := 0, slots := 0, locals := 0 }
theorem hd_X1_printerOf : hdT yX1_printerOf 1 := by decide +kernel
set_option maxHeartbeats 4000000 in
set_option maxRecDepth 100000 in
theorem c_X1_printerOf (l : Launch) (D : va_G) (cI cC cQ : ClassId) (sz : Nat) (h0 : Nat) (a : Nat → Nat) (se : Nat → Int32) (ki : Nat → Int32) (ha : Nat → Int32) (sl : Nat → Int32) (ch : Nat → Int32) (ci : Nat → Int32) (dk : Nat → Int32) (li : Nat → Int32) (re : Nat → Int32) (dt : Nat → Int32) (la : Nat → Int32) (us : Int32) (sp : Int32) (rf : Int32) (x1 : Int32)  : Met l yX1_printerOf (wsO yX1_printerOf cX1_printerOf 3 (some .int)) rm_X1_printerOf (va_Pc [.ref h0, .int x1] (inW D (TYS cI cC cQ) (MW cI h0 a se ki ha sl ch ci dk li re dt la us sp rf) sz)) (va_Qi (fun (r : Int32) (_ : Unit) => r = sh_X1_printerOf ci x1) (fun (u : Unit) => atW D (TYS cI cC cQ) (va_A (MW cI h0 a se ki ha sl ch ci dk li re dt la us sp rf) sz) (MW cI h0 a se ki ha sl ch ci dk li re dt la us sp rf)) (va_A (MW cI h0 a se ki ha sl ch ci dk li re dt la us sp rf) sz)) 0 0 (va_A (MW cI h0 a se ki ha sl ch ci dk li re dt la us sp rf) sz) := by
  refine k_meti .int rfl (by decide) (Nat.le_of_ble_eq_true rfl) ?_
  intro p e s m args below meth c A ls Q H locs hargs hret hx hb hts hown hml hname hN hA hS hP hK hD hl
  have hl : lv_has ls 3 [(0, .ref h0), (1, .int x1)] := hl
  obtain ⟨Xq, hX⟩ : ∃ Xq, Xq = sh_X1_printerOf ci x1 := ⟨_, rfl⟩
  have hq : Xq = (if (ci (0 : Int32).toNatClampNeg) = x1 then 0 else (if (ci (1 : Int32).toNatClampNeg) = x1 then 1 else (-4))) := hX
  refine lv_iconst (v := 0) hx hb dX1_printerOf_0 (by decide) ?_
  refine lv_istore_n (lv' := [(2, .int 0), (0, .ref h0), (1, .int x1)]) hx hb dX1_printerOf_1 rfl hl (by decide) rfl (fun ls hl => ?_)
  refine lv_iload_n hx hb dX1_printerOf_2 rfl (lv_at hl 0 rfl) ?_
  refine lv_iconst (v := 2) hx hb dX1_printerOf_3 (by decide) ?_
  refine lv_icmp_ge (tgt := 25) hx hb dX1_printerOf_4 (by decide) (fun c9 => absurd c9 (by decide)) (fun _ => ?_)
  refine lv_aload_n hx hb dX1_printerOf_7 rfl (lv_at hl 1 rfl) ?_
  refine va_get (D := D) (ci := 1) (v := .ref (a 5)) (C := RX1) (T := TX1) (N := 14) hx hb hts inA1 hown hK hP 0 rfl rfl 5 (by decide) (hts _ wd_fl_RX1_27) (fun _ h9 => h9) rfl dX1_printerOf_8 ?_
  refine lv_iload_n hx hb dX1_printerOf_11 rfl (lv_at hl 0 rfl) ?_
  refine va_iald hx hb hK hP 6 0 rfl rfl (k_in (by decide)) dX1_printerOf_12 ?_
  refine lv_iload_n hx hb dX1_printerOf_13 rfl (lv_at hl 2 rfl) ?_
  refine lv_icmp_ne (tgt := 19) hx hb dX1_printerOf_14 (by decide) (fun c1 => ?_) (fun c1 => ?_)
  · have hq : Xq = (if (ci (1 : Int32).toNatClampNeg) = x1 then 1 else (-4)) := hq.trans (if_neg c1)
    refine lv_iinc (v := 1) (lv' := [(2, .int 1), (0, .ref h0), (1, .int x1)]) hx hb dX1_printerOf_19 hl (k := 0) rfl (by decide) (by decide) rfl (fun ls hl => ?_)
    refine lv_goto (tgt := 2) hx hb dX1_printerOf_22 (by decide) ?_
    refine lv_iload_n hx hb dX1_printerOf_2 rfl (lv_at hl 0 rfl) ?_
    refine lv_iconst (v := 2) hx hb dX1_printerOf_3 (by decide) ?_
    refine lv_icmp_ge (tgt := 25) hx hb dX1_printerOf_4 (by decide) (fun c9 => absurd c9 (by decide)) (fun _ => ?_)
    refine lv_aload_n hx hb dX1_printerOf_7 rfl (lv_at hl 1 rfl) ?_
    refine va_get (D := D) (ci := 1) (v := .ref (a 5)) (C := RX1) (T := TX1) (N := 14) hx hb hts inA1 hown hK hP 0 rfl rfl 5 (by decide) (hts _ wd_fl_RX1_27) (fun _ h9 => h9) rfl dX1_printerOf_8 ?_
    refine lv_iload_n hx hb dX1_printerOf_11 rfl (lv_at hl 0 rfl) ?_
    refine va_iald hx hb hK hP 6 0 rfl rfl (k_in (by decide)) dX1_printerOf_12 ?_
    refine lv_iload_n hx hb dX1_printerOf_13 rfl (lv_at hl 2 rfl) ?_
    refine lv_icmp_ne (tgt := 19) hx hb dX1_printerOf_14 (by decide) (fun c2 => ?_) (fun c2 => ?_)
    · have hq : Xq = (-4) := hq.trans (if_neg c2)
      refine lv_iinc (v := 2) (lv' := [(2, .int 2), (0, .ref h0), (1, .int x1)]) hx hb dX1_printerOf_19 hl (k := 0) rfl (by decide) (by decide) rfl (fun ls hl => ?_)
      refine lv_goto (tgt := 2) hx hb dX1_printerOf_22 (by decide) ?_
      refine lv_iload_n hx hb dX1_printerOf_2 rfl (lv_at hl 0 rfl) ?_
      refine lv_iconst (v := 2) hx hb dX1_printerOf_3 (by decide) ?_
      refine lv_icmp_ge (tgt := 25) hx hb dX1_printerOf_4 (by decide) (fun _ => ?_) (fun c9 => absurd c9 (by decide))
      refine lv_bipush (v := (-4)) hx hb dX1_printerOf_25 (by decide) ?_
      exact hret _ _ _ _ ((-4)) () dX1_printerOf_27 rfl (hq.symm.trans hX) hP hD hS
    · have hq : Xq = 1 := hq.trans (if_pos c2)
      refine lv_iload_n hx hb dX1_printerOf_17 rfl (lv_at hl 0 rfl) ?_
      exact hret _ _ _ _ (1) () dX1_printerOf_18 rfl (hq.symm.trans hX) hP hD hS
  · have hq : Xq = 0 := hq.trans (if_pos c1)
    refine lv_iload_n hx hb dX1_printerOf_17 rfl (lv_at hl 0 rfl) ?_
    exact hret _ _ _ _ (0) () dX1_printerOf_18 rfl (hq.symm.trans hX) hP hD hS
def sh_X1_toner (ha : Nat → Int32) (sl : Nat → Int32) (x1 : Int32) : Int32 := ((ha x1.toNatClampNeg) + (sl x1.toNatClampNeg))
abbrev rm_X1_toner : Room := { frames := 0, cells := 0, slots := 0, locals := 0 }
theorem hd_X1_toner : hdT yX1_toner 1 := by decide +kernel
set_option maxHeartbeats 4000000 in
set_option maxRecDepth 100000 in
theorem c_X1_toner (l : Launch) (D : va_G) (cI cC cQ : ClassId) (sz : Nat) (h0 : Nat) (a : Nat → Nat) (se : Nat → Int32) (ki : Nat → Int32) (ha : Nat → Int32) (sl : Nat → Int32) (ch : Nat → Int32) (ci : Nat → Int32) (dk : Nat → Int32) (li : Nat → Int32) (re : Nat → Int32) (dt : Nat → Int32) (la : Nat → Int32) (us : Int32) (sp : Int32) (rf : Int32) (x1 : Int32) (hi_x1 : vp_in x1 4) : Met l yX1_toner (wsO yX1_toner cX1_toner 2 (some .int)) rm_X1_toner (va_Pc [.ref h0, .int x1] (inW D (TYS cI cC cQ) (MW cI h0 a se ki ha sl ch ci dk li re dt la us sp rf) sz)) (va_Qi (fun (r : Int32) (_ : Unit) => r = sh_X1_toner ha sl x1) (fun (u : Unit) => atW D (TYS cI cC cQ) (va_A (MW cI h0 a se ki ha sl ch ci dk li re dt la us sp rf) sz) (MW cI h0 a se ki ha sl ch ci dk li re dt la us sp rf)) (va_A (MW cI h0 a se ki ha sl ch ci dk li re dt la us sp rf) sz)) 0 0 (va_A (MW cI h0 a se ki ha sl ch ci dk li re dt la us sp rf) sz) := by
  refine k_meti .int rfl (by decide) (Nat.le_of_ble_eq_true rfl) ?_
  intro p e s m args below meth c A ls Q H locs hargs hret hx hb hts hown hml hname hN hA hS hP hK hD hl
  have hl : lv_has ls 2 [(0, .ref h0), (1, .int x1)] := hl
  obtain ⟨Xq, hX⟩ : ∃ Xq, Xq = sh_X1_toner ha sl x1 := ⟨_, rfl⟩
  have hq : Xq = ((ha x1.toNatClampNeg) + (sl x1.toNatClampNeg)) := hX
  refine lv_aload_n hx hb dX1_toner_0 rfl (lv_at hl 0 rfl) ?_
  refine va_get (D := D) (ci := 1) (v := .ref (a 2)) (C := RX1) (T := TX1) (N := 14) hx hb hts inA1 hown hK hP 0 rfl rfl 2 (by decide) (hts _ wd_fl_RX1_18) (fun _ h9 => h9) rfl dX1_toner_1 ?_
  refine lv_iload_n hx hb dX1_toner_4 rfl (lv_at hl 1 rfl) ?_
  refine va_iald hx hb hK hP 3 0 rfl rfl hi_x1 dX1_toner_5 ?_
  refine lv_aload_n hx hb dX1_toner_6 rfl (lv_at hl 0 rfl) ?_
  refine va_get (D := D) (ci := 1) (v := .ref (a 3)) (C := RX1) (T := TX1) (N := 14) hx hb hts inA1 hown hK hP 0 rfl rfl 3 (by decide) (hts _ wd_fl_RX1_21) (fun _ h9 => h9) rfl dX1_toner_7 ?_
  refine lv_iload_n hx hb dX1_toner_10 rfl (lv_at hl 1 rfl) ?_
  refine va_iald hx hb hK hP 4 0 rfl rfl hi_x1 dX1_toner_11 ?_
  refine lv_iadd hx hb dX1_toner_12 ?_
  exact hret _ _ _ _ (((ha x1.toNatClampNeg) + (sl x1.toNatClampNeg))) () dX1_toner_13 rfl (hq.symm.trans hX) hP hD hS
def sh_X1_empty (ha : Nat → Int32) (ci : Nat → Int32) (sp : Int32) (x1 : Int32) : (Nat → Int32) × (Nat → Int32) × (Int32) := (if (sh_X4_isCup (ci x1.toNatClampNeg)) = 0 then (ha, ci, sp) else ((upd ha (ci x1.toNatClampNeg).toNatClampNeg ((ha (ci x1.toNatClampNeg).toNatClampNeg) - ((ha (ci x1.toNatClampNeg).toNatClampNeg) / 50))), (upd ci x1.toNatClampNeg (-4)), (sp + ((ha (ci x1.toNatClampNeg).toNatClampNeg) / 50))))
abbrev rm_X1_empty : Room := { frames := 1, cells := 0, slots := 0, locals := 20 }
theorem hd_X1_empty : hdT yX1_empty 1 := by decide +kernel
set_option maxHeartbeats 4000000 in
set_option maxRecDepth 100000 in
theorem c_X1_empty (l : Launch) (D : va_G) (cI cC cQ : ClassId) (sz : Nat) (h0 : Nat) (a : Nat → Nat) (se : Nat → Int32) (ki : Nat → Int32) (ha : Nat → Int32) (sl : Nat → Int32) (ch : Nat → Int32) (ci : Nat → Int32) (dk : Nat → Int32) (li : Nat → Int32) (re : Nat → Int32) (dt : Nat → Int32) (la : Nat → Int32) (us : Int32) (sp : Int32) (rf : Int32) (x1 : Int32) (hi_x1 : vp_in x1 2) : Met l yX1_empty (wsO yX1_empty cX1_empty 4 none) rm_X1_empty (va_Pc [.ref h0, .int x1] (inW D (TYS cI cC cQ) (MW cI h0 a se ki ha sl ch ci dk li re dt la us sp rf) sz)) (va_Qv (fun (u : (Nat → Int32) × (Nat → Int32) × (Int32)) => u = sh_X1_empty ha ci sp x1) (fun (u : (Nat → Int32) × (Nat → Int32) × (Int32)) => atW D (TYS cI cC cQ) (va_A (MW cI h0 a se ki ha sl ch ci dk li re dt la us sp rf) sz) (MW cI h0 a se ki u.1 sl ch u.2.1 dk li re dt la us u.2.2 rf)) (va_A (MW cI h0 a se ki ha sl ch ci dk li re dt la us sp rf) sz)) 0 0 (va_A (MW cI h0 a se ki ha sl ch ci dk li re dt la us sp rf) sz) := by
  refine k_metv rfl (by decide) (Nat.le_of_ble_eq_true rfl) ?_
  intro p e s m args below meth c A ls Q H locs hargs hret hx hb hts hown hml hname hN hA hS hP hK hD hl
  have hl : lv_has ls 4 [(0, .ref h0), (1, .int x1)] := hl
  obtain ⟨Xq, hX⟩ : ∃ Xq, Xq = sh_X1_empty ha ci sp x1 := ⟨_, rfl⟩
  have hq : Xq = (if (sh_X4_isCup (ci x1.toNatClampNeg)) = 0 then (ha, ci, sp) else ((upd ha (ci x1.toNatClampNeg).toNatClampNeg ((ha (ci x1.toNatClampNeg).toNatClampNeg) - ((ha (ci x1.toNatClampNeg).toNatClampNeg) / 50))), (upd ci x1.toNatClampNeg (-4)), (sp + ((ha (ci x1.toNatClampNeg).toNatClampNeg) / 50)))) := hX
  refine lv_aload_n hx hb dX1_empty_0 rfl (lv_at hl 0 rfl) ?_
  refine va_get (D := D) (ci := 1) (v := .ref (a 5)) (C := RX1) (T := TX1) (N := 14) hx hb hts inA1 hown hK hP 0 rfl rfl 5 (by decide) (hts _ wd_fl_RX1_27) (fun _ h9 => h9) rfl dX1_empty_1 ?_
  refine lv_iload_n hx hb dX1_empty_4 rfl (lv_at hl 1 rfl) ?_
  refine va_iald hx hb hK hP 6 0 rfl rfl hi_x1 dX1_empty_5 ?_
  refine lv_istore_n (lv' := [(2, .int (ci x1.toNatClampNeg)), (0, .ref h0), (1, .int x1)]) hx hb dX1_empty_6 rfl hl (by decide) rfl (fun ls hl => ?_)
  refine lv_iload_n hx hb dX1_empty_7 rfl (lv_at hl 0 rfl) ?_
  have hPs : va_P D vwCl ([] ++ ([] ++ (MW cI h0 a se ki ha sl ch ci dk li re dt la us sp rf))) H := hP
  have hDs : va_D A ([] ++ ([] ++ (MW cI h0 a se ki ha sl ch ci dk li re dt la us sp rf))) := hD
  refine k_behi (X := []) (Y := (MW cI h0 a se ki ha sl ch ci dk li re dt la us sp rf)) (va_runSN (As := [.int (ci x1.toNatClampNeg)]) (rest := []) ⟨hx, hb, hml, hown, hts⟩ (c_X4_isCup l D cI cC cQ H.size (ci x1.toNatClampNeg)) ⟨kcnB hts hN wn_nl_RX1_65 wd_ini_RX4 wd_code_yX4_isCup rfl rfl hd_X4_isCup ⟨Nat.le_of_ble_eq_true rfl, Nat.le_of_ble_eq_true rfl⟩, hts _ wd_st_yX4_isCup, trivial⟩ ⟨in_blind, k_pre hK (pa_l (pa_r hPs)) (da_l (da_r hDs)) hN⟩ rfl rfl hl.1 rfl (lv_room (Nat.le_of_ble_eq_true rfl)) dX1_empty_8 ⟨Nat.le_of_ble_eq_true rfl, Nat.le_of_ble_eq_true rfl⟩) hPs hDs hS hA (fun r1 u2 H locs hw3 hP hD hS => ?_)
  have hP : va_P D vwCl (MW cI h0 a se ki ha sl ch ci dk li re dt la us sp rf) H := hP
  have hD : va_D A (MW cI h0 a se ki ha sl ch ci dk li re dt la us sp rf) := hD
  have hw3 : r1 = (sh_X4_isCup (ci x1.toNatClampNeg)) := hw3
  subst hw3
  refine lv_if_ne (tgt := 15) hx hb dX1_empty_11 (by decide) (fun c4 => ?_) (fun c4 => ?_)
  · have hq : Xq = ((upd ha (ci x1.toNatClampNeg).toNatClampNeg ((ha (ci x1.toNatClampNeg).toNatClampNeg) - ((ha (ci x1.toNatClampNeg).toNatClampNeg) / 50))), (upd ci x1.toNatClampNeg (-4)), (sp + ((ha (ci x1.toNatClampNeg).toNatClampNeg) / 50))) := hq.trans (if_neg c4)
    refine lv_aload_n hx hb dX1_empty_15 rfl (lv_at hl 1 rfl) ?_
    refine va_get (D := D) (ci := 1) (v := .ref (a 2)) (C := RX1) (T := TX1) (N := 14) hx hb hts inA1 hown hK hP 0 rfl rfl 2 (by decide) (hts _ wd_fl_RX1_18) (fun _ h9 => h9) rfl dX1_empty_16 ?_
    refine lv_iload_n hx hb dX1_empty_19 rfl (lv_at hl 0 rfl) ?_
    refine va_iald hx hb hK hP 3 0 rfl rfl (isIn4 c4) dX1_empty_20 ?_
    refine lv_bipush (v := 50) hx hb dX1_empty_21 (by decide) ?_
    refine lv_idiv hx hb dX1_empty_23 (by decide) ?_
    refine lv_istore_n (lv' := [(3, .int ((ha (ci x1.toNatClampNeg).toNatClampNeg) / 50)), (2, .int (ci x1.toNatClampNeg)), (0, .ref h0), (1, .int x1)]) hx hb dX1_empty_24 rfl hl (by decide) rfl (fun ls hl => ?_)
    refine lv_aload_n hx hb dX1_empty_25 rfl (lv_at hl 2 rfl) ?_
    refine va_get (D := D) (ci := 1) (v := .ref (a 2)) (C := RX1) (T := TX1) (N := 14) hx hb hts inA1 hown hK hP 0 rfl rfl 2 (by decide) (hts _ wd_fl_RX1_18) (fun _ h9 => h9) rfl dX1_empty_26 ?_
    refine lv_iload_n hx hb dX1_empty_29 rfl (lv_at hl 1 rfl) ?_
    refine lv_dup2_11 hx hb dX1_empty_30 rfl rfl ?_
    refine va_iald hx hb hK hP 3 0 rfl rfl (isIn4 c4) dX1_empty_31 ?_
    refine lv_iload_n hx hb dX1_empty_32 rfl (lv_at hl 0 rfl) ?_
    refine lv_isub hx hb dX1_empty_33 ?_
    refine va_iast hx hb hK hP hD hS 3 0 rfl rfl (isIn4 c4) dX1_empty_34 (fun H locs hP hD hS => ?_)
    have hP : va_P D vwCl (MW cI h0 a se ki (upd ha (ci x1.toNatClampNeg).toNatClampNeg ((ha (ci x1.toNatClampNeg).toNatClampNeg) - ((ha (ci x1.toNatClampNeg).toNatClampNeg) / 50))) sl ch ci dk li re dt la us sp rf) H := hP
    have hD : va_D A (MW cI h0 a se ki (upd ha (ci x1.toNatClampNeg).toNatClampNeg ((ha (ci x1.toNatClampNeg).toNatClampNeg) - ((ha (ci x1.toNatClampNeg).toNatClampNeg) / 50))) sl ch ci dk li re dt la us sp rf) := hD
    refine lv_aload_n hx hb dX1_empty_35 rfl (lv_at hl 2 rfl) ?_
    refine lv_dup hx hb dX1_empty_36 rfl ?_
    refine va_get (D := D) (ci := 1) (v := .int sp) (C := RX1) (T := TX1) (N := 14) hx hb hts inA1 hown hK hP 0 rfl rfl 12 (by decide) (hts _ wd_fl_RX1_49) (fun _ h9 => h9) rfl dX1_empty_37 ?_
    refine lv_iload_n hx hb dX1_empty_40 rfl (lv_at hl 0 rfl) ?_
    refine lv_iadd hx hb dX1_empty_41 ?_
    refine va_put (D := D) (ci := 1) (v := .int (sp + ((ha (ci x1.toNatClampNeg).toNatClampNeg) / 50))) (ty := .int) (C := RX1) (T := TX1) (N := 14) hx hb hts inA1 tyX1 tyX1_ok nmX1 hown hK hP hD hS 0 rfl rfl 12 (by decide) (hts _ wd_fl_RX1_49) (fun _ h9 => h9) rfl (by decide +kernel) rfl rfl (Nat.le_of_ble_eq_true rfl) dX1_empty_42 (fun H locs hP hD hS => ?_)
    have hP : va_P D vwCl (MW cI h0 a se ki (upd ha (ci x1.toNatClampNeg).toNatClampNeg ((ha (ci x1.toNatClampNeg).toNatClampNeg) - ((ha (ci x1.toNatClampNeg).toNatClampNeg) / 50))) sl ch ci dk li re dt la us (sp + ((ha (ci x1.toNatClampNeg).toNatClampNeg) / 50)) rf) H := hP
    have hD : va_D A (MW cI h0 a se ki (upd ha (ci x1.toNatClampNeg).toNatClampNeg ((ha (ci x1.toNatClampNeg).toNatClampNeg) - ((ha (ci x1.toNatClampNeg).toNatClampNeg) / 50))) sl ch ci dk li re dt la us (sp + ((ha (ci x1.toNatClampNeg).toNatClampNeg) / 50)) rf) := hD
    refine lv_aload_n hx hb dX1_empty_45 rfl (lv_at hl 2 rfl) ?_
    refine va_get (D := D) (ci := 1) (v := .ref (a 5)) (C := RX1) (T := TX1) (N := 14) hx hb hts inA1 hown hK hP 0 rfl rfl 5 (by decide) (hts _ wd_fl_RX1_27) (fun _ h9 => h9) rfl dX1_empty_46 ?_
    refine lv_iload_n hx hb dX1_empty_49 rfl (lv_at hl 3 rfl) ?_
    refine lv_bipush (v := (-4)) hx hb dX1_empty_50 (by decide) ?_
    refine va_iast hx hb hK hP hD hS 6 0 rfl rfl hi_x1 dX1_empty_52 (fun H locs hP hD hS => ?_)
    have hP : va_P D vwCl (MW cI h0 a se ki (upd ha (ci x1.toNatClampNeg).toNatClampNeg ((ha (ci x1.toNatClampNeg).toNatClampNeg) - ((ha (ci x1.toNatClampNeg).toNatClampNeg) / 50))) sl ch (upd ci x1.toNatClampNeg (-4)) dk li re dt la us (sp + ((ha (ci x1.toNatClampNeg).toNatClampNeg) / 50)) rf) H := hP
    have hD : va_D A (MW cI h0 a se ki (upd ha (ci x1.toNatClampNeg).toNatClampNeg ((ha (ci x1.toNatClampNeg).toNatClampNeg) - ((ha (ci x1.toNatClampNeg).toNatClampNeg) / 50))) sl ch (upd ci x1.toNatClampNeg (-4)) dk li re dt la us (sp + ((ha (ci x1.toNatClampNeg).toNatClampNeg) / 50)) rf) := hD
    exact hret _ _ _ _ ((upd ha (ci x1.toNatClampNeg).toNatClampNeg ((ha (ci x1.toNatClampNeg).toNatClampNeg) - ((ha (ci x1.toNatClampNeg).toNatClampNeg) / 50))), (upd ci x1.toNatClampNeg (-4)), (sp + ((ha (ci x1.toNatClampNeg).toNatClampNeg) / 50))) dX1_empty_53 (hq.symm.trans hX) hP hD hS
  · have hq : Xq = (ha, ci, sp) := hq.trans (if_pos c4)
    exact hret _ _ _ _ (ha, ci, sp) dX1_empty_14 (hq.symm.trans hX) hP hD hS
def sh_X1_fillCup (ki : Nat → Int32) (ha : Nat → Int32) (sl : Nat → Int32) (rf : Int32) (x1 : Int32) (x2 : Int32) : Int32 × (Nat → Int32) × (Nat → Int32) × (Int32) := (kb (if (6000 - (sh_X1_toner ha sl x1)) ≤ x2 then (6000 - (sh_X1_toner ha sl x1)) else x2) (fun z_v6 => (z_v6, (upd ki x1.toNatClampNeg 2), (upd sl x1.toNatClampNeg ((sl x1.toNatClampNeg) + z_v6)), (rf + z_v6))))
abbrev rm_X1_fillCup : Room := { frames := 1, cells := 0, slots := 0, locals := 21 }
theorem hd_X1_fillCup : hdT yX1_fillCup 2 := by decide +kernel
set_option maxHeartbeats 4000000 in
set_option maxRecDepth 100000 in
theorem c_X1_fillCup (l : Launch) (D : va_G) (cI cC cQ : ClassId) (sz : Nat) (h0 : Nat) (a : Nat → Nat) (se : Nat → Int32) (ki : Nat → Int32) (ha : Nat → Int32) (sl : Nat → Int32) (ch : Nat → Int32) (ci : Nat → Int32) (dk : Nat → Int32) (li : Nat → Int32) (re : Nat → Int32) (dt : Nat → Int32) (la : Nat → Int32) (us : Int32) (sp : Int32) (rf : Int32) (x1 : Int32) (x2 : Int32) (hi_x1 : vp_in x1 4) : Met l yX1_fillCup (wsO yX1_fillCup cX1_fillCup 5 (some .int)) rm_X1_fillCup (va_Pc [.ref h0, .int x1, .int x2] (inW D (TYS cI cC cQ) (MW cI h0 a se ki ha sl ch ci dk li re dt la us sp rf) sz)) (va_Qi (fun (r : Int32) (u : (Nat → Int32) × (Nat → Int32) × (Int32)) => (r, u) = sh_X1_fillCup ki ha sl rf x1 x2) (fun (u : (Nat → Int32) × (Nat → Int32) × (Int32)) => atW D (TYS cI cC cQ) (va_A (MW cI h0 a se ki ha sl ch ci dk li re dt la us sp rf) sz) (MW cI h0 a se u.1 ha u.2.1 ch ci dk li re dt la us sp u.2.2)) (va_A (MW cI h0 a se ki ha sl ch ci dk li re dt la us sp rf) sz)) 0 0 (va_A (MW cI h0 a se ki ha sl ch ci dk li re dt la us sp rf) sz) := by
  refine k_meti .int rfl (by decide) (Nat.le_of_ble_eq_true rfl) ?_
  intro p e s m args below meth c A ls Q H locs hargs hret hx hb hts hown hml hname hN hA hS hP hK hD hl
  have hl : lv_has ls 5 [(0, .ref h0), (1, .int x1), (2, .int x2)] := hl
  obtain ⟨Xq, hX⟩ : ∃ Xq, Xq = sh_X1_fillCup ki ha sl rf x1 x2 := ⟨_, rfl⟩
  have hq : Xq = (kb (if (6000 - (sh_X1_toner ha sl x1)) ≤ x2 then (6000 - (sh_X1_toner ha sl x1)) else x2) (fun z_v6 => (z_v6, (upd ki x1.toNatClampNeg 2), (upd sl x1.toNatClampNeg ((sl x1.toNatClampNeg) + z_v6)), (rf + z_v6)))) := hX
  refine lv_sipush (v := 6000) hx hb dX1_fillCup_0 (by decide) ?_
  refine lv_aload_n hx hb dX1_fillCup_3 rfl (lv_at hl 0 rfl) ?_
  refine lv_iload_n hx hb dX1_fillCup_4 rfl (lv_at hl 1 rfl) ?_
  have hPs := k_self hP
  have hDs := k_selfD hD
  refine k_behi (X := []) (Y := []) (va_runV (As := [.int x1]) (rest := [.int 6000]) ⟨hx, hb, hml, hown, hts⟩ (c_X1_toner l D cI cC cQ H.size h0 a se ki ha sl ch ci dk li re dt la us sp rf x1 (hi_x1)) (kcwV hts wd_ml_RX1_96 wd_im_yX1_toner wd_sel_yX1_toner wd_ini_RX1 wd_code_yX1_toner rfl rfl rfl hd_X1_toner ⟨Nat.le_of_ble_eq_true rfl, Nat.le_of_ble_eq_true rfl⟩) ⟨in_blind, va_recv hK (pa_l (pa_r hPs)) (ci := 1) (q0 := 0) rfl rfl, k_pre hK (pa_l (pa_r hPs)) (da_l (da_r hDs)) hN⟩ rfl rfl hl.1 rfl (lv_room (Nat.le_of_ble_eq_true rfl)) dX1_fillCup_5 ⟨Nat.le_of_ble_eq_true rfl, Nat.le_of_ble_eq_true rfl⟩) hPs hDs hS hA (fun r1 u2 H locs hw3 hP hD hS => ?_)
  have hP := k_unP hP
  have hD := k_unD hD
  have hP : va_P D vwCl (MW cI h0 a se ki ha sl ch ci dk li re dt la us sp rf) H := hP
  have hD : va_D A (MW cI h0 a se ki ha sl ch ci dk li re dt la us sp rf) := hD
  have hw3 : r1 = (sh_X1_toner ha sl x1) := hw3
  subst hw3
  refine lv_isub hx hb dX1_fillCup_8 ?_
  refine lv_istore_n (lv' := [(3, .int (6000 - (sh_X1_toner ha sl x1))), (0, .ref h0), (1, .int x1), (2, .int x2)]) hx hb dX1_fillCup_9 rfl hl (by decide) rfl (fun ls hl => ?_)
  refine lv_iload_n hx hb dX1_fillCup_10 rfl (lv_at hl 3 rfl) ?_
  refine lv_iload_n hx hb dX1_fillCup_11 rfl (lv_at hl 0 rfl) ?_
  have K : ∀ (v6 : Int32) (H : Heap) (locs : List Loc) (ls : Array Slot), v6 = (if (6000 - (sh_X1_toner ha sl x1)) ≤ x2 then (6000 - (sh_X1_toner ha sl x1)) else x2) → va_P D vwCl (MW cI h0 a se ki ha sl ch ci dk li re dt la us sp rf) H → va_D A (MW cI h0 a se ki ha sl ch ci dk li re dt la us sp rf) → va_S A s.heap H locs → lv_has ls 5 [(0, .ref h0), (1, .int x1), (2, .int x2), (3, .int (6000 - (sh_X1_toner ha sl x1)))] → W p l e rm_X1_fillCup s m args below meth c H locs 0 0 Q (F0 m 20 ls [.int v6]) := by
    intro v6 H locs ls hv5 hP hD hS hl
    have hq : Xq = (v6, (upd ki x1.toNatClampNeg 2), (upd sl x1.toNatClampNeg ((sl x1.toNatClampNeg) + v6)), (rf + v6)) := by rw [← hv5] at hq; exact hq
    refine lv_istore (lv' := [(4, .int v6), (0, .ref h0), (1, .int x1), (2, .int x2), (3, .int (6000 - (sh_X1_toner ha sl x1)))]) hx hb dX1_fillCup_20 hl (by decide) rfl (fun ls hl => ?_)
    refine lv_aload_n hx hb dX1_fillCup_22 rfl (lv_at hl 1 rfl) ?_
    refine va_get (D := D) (ci := 1) (v := .ref (a 3)) (C := RX1) (T := TX1) (N := 14) hx hb hts inA1 hown hK hP 0 rfl rfl 3 (by decide) (hts _ wd_fl_RX1_21) (fun _ h9 => h9) rfl dX1_fillCup_23 ?_
    refine lv_iload_n hx hb dX1_fillCup_26 rfl (lv_at hl 2 rfl) ?_
    refine lv_dup2_11 hx hb dX1_fillCup_27 rfl rfl ?_
    refine va_iald hx hb hK hP 4 0 rfl rfl hi_x1 dX1_fillCup_28 ?_
    refine lv_iload hx hb dX1_fillCup_29 (lv_at hl 0 rfl) ?_
    refine lv_iadd hx hb dX1_fillCup_31 ?_
    refine va_iast hx hb hK hP hD hS 4 0 rfl rfl hi_x1 dX1_fillCup_32 (fun H locs hP hD hS => ?_)
    have hP : va_P D vwCl (MW cI h0 a se ki ha (upd sl x1.toNatClampNeg ((sl x1.toNatClampNeg) + v6)) ch ci dk li re dt la us sp rf) H := hP
    have hD : va_D A (MW cI h0 a se ki ha (upd sl x1.toNatClampNeg ((sl x1.toNatClampNeg) + v6)) ch ci dk li re dt la us sp rf) := hD
    refine lv_aload_n hx hb dX1_fillCup_33 rfl (lv_at hl 1 rfl) ?_
    refine lv_dup hx hb dX1_fillCup_34 rfl ?_
    refine va_get (D := D) (ci := 1) (v := .int rf) (C := RX1) (T := TX1) (N := 14) hx hb hts inA1 hown hK hP 0 rfl rfl 13 (by decide) (hts _ wd_fl_RX1_52) (fun _ h9 => h9) rfl dX1_fillCup_35 ?_
    refine lv_iload hx hb dX1_fillCup_38 (lv_at hl 0 rfl) ?_
    refine lv_iadd hx hb dX1_fillCup_40 ?_
    refine va_put (D := D) (ci := 1) (v := .int (rf + v6)) (ty := .int) (C := RX1) (T := TX1) (N := 14) hx hb hts inA1 tyX1 tyX1_ok nmX1 hown hK hP hD hS 0 rfl rfl 13 (by decide) (hts _ wd_fl_RX1_52) (fun _ h9 => h9) rfl (by decide +kernel) rfl rfl (Nat.le_of_ble_eq_true rfl) dX1_fillCup_41 (fun H locs hP hD hS => ?_)
    have hP : va_P D vwCl (MW cI h0 a se ki ha (upd sl x1.toNatClampNeg ((sl x1.toNatClampNeg) + v6)) ch ci dk li re dt la us sp (rf + v6)) H := hP
    have hD : va_D A (MW cI h0 a se ki ha (upd sl x1.toNatClampNeg ((sl x1.toNatClampNeg) + v6)) ch ci dk li re dt la us sp (rf + v6)) := hD
    refine lv_aload_n hx hb dX1_fillCup_44 rfl (lv_at hl 1 rfl) ?_
    refine va_get (D := D) (ci := 1) (v := .ref (a 1)) (C := RX1) (T := TX1) (N := 14) hx hb hts inA1 hown hK hP 0 rfl rfl 1 (by decide) (hts _ wd_fl_RX1_15) (fun _ h9 => h9) rfl dX1_fillCup_45 ?_
    refine lv_iload_n hx hb dX1_fillCup_48 rfl (lv_at hl 2 rfl) ?_
    refine lv_iconst (v := 2) hx hb dX1_fillCup_49 (by decide) ?_
    refine va_iast hx hb hK hP hD hS 2 0 rfl rfl hi_x1 dX1_fillCup_50 (fun H locs hP hD hS => ?_)
    have hP : va_P D vwCl (MW cI h0 a se (upd ki x1.toNatClampNeg 2) ha (upd sl x1.toNatClampNeg ((sl x1.toNatClampNeg) + v6)) ch ci dk li re dt la us sp (rf + v6)) H := hP
    have hD : va_D A (MW cI h0 a se (upd ki x1.toNatClampNeg 2) ha (upd sl x1.toNatClampNeg ((sl x1.toNatClampNeg) + v6)) ch ci dk li re dt la us sp (rf + v6)) := hD
    refine lv_iload hx hb dX1_fillCup_51 (lv_at hl 0 rfl) ?_
    exact hret _ _ _ _ (v6) ((upd ki x1.toNatClampNeg 2), (upd sl x1.toNatClampNeg ((sl x1.toNatClampNeg) + v6)), (rf + v6)) dX1_fillCup_53 rfl (hq.symm.trans hX) hP hD hS
  refine lv_icmp_ge (tgt := 19) hx hb dX1_fillCup_12 (by decide) (fun c4 => ?_) (fun c4 => ?_)
  · skip
    refine lv_iload_n hx hb dX1_fillCup_19 rfl (lv_at hl 0 rfl) ?_
    exact K ((6000 - (sh_X1_toner ha sl x1))) _ _ _ (by rw [if_pos c4]) hP hD hS (lv_sub hl [1, 2, 3, 0] rfl)
  · skip
    refine lv_iload_n hx hb dX1_fillCup_15 rfl (lv_at hl 3 rfl) ?_
    refine lv_goto (tgt := 20) hx hb dX1_fillCup_16 (by decide) ?_
    exact K (x2) _ _ _ (by rw [if_neg c4]) hP hD hS (lv_sub hl [1, 2, 3, 0] rfl)
def sh_X1_scaleTells (se : Nat → Int32) (ha : Nat → Int32) (sl : Nat → Int32) (x1 : Int32) : Int32 := ((sh_X4_share (sh_X1_toner ha sl x1) (se (3 : Int32).toNatClampNeg)) * (se (3 : Int32).toNatClampNeg))
abbrev rm_X1_scaleTells : Room := { frames := 1, cells := 0, slots := 0, locals := 21 }
theorem hd_X1_scaleTells : hdT yX1_scaleTells 1 := by decide +kernel
set_option maxHeartbeats 4000000 in
set_option maxRecDepth 100000 in
theorem c_X1_scaleTells (l : Launch) (D : va_G) (cI cC cQ : ClassId) (sz : Nat) (h0 : Nat) (a : Nat → Nat) (se : Nat → Int32) (ki : Nat → Int32) (ha : Nat → Int32) (sl : Nat → Int32) (ch : Nat → Int32) (ci : Nat → Int32) (dk : Nat → Int32) (li : Nat → Int32) (re : Nat → Int32) (dt : Nat → Int32) (la : Nat → Int32) (us : Int32) (sp : Int32) (rf : Int32) (x1 : Int32) (hi_x1 : vp_in x1 4) : Met l yX1_scaleTells (wsO yX1_scaleTells cX1_scaleTells 2 (some .int)) rm_X1_scaleTells (va_Pc [.ref h0, .int x1] (inW D (TYS cI cC cQ) (MW cI h0 a se ki ha sl ch ci dk li re dt la us sp rf) sz)) (va_Qi (fun (r : Int32) (_ : Unit) => r = sh_X1_scaleTells se ha sl x1) (fun (u : Unit) => atW D (TYS cI cC cQ) (va_A (MW cI h0 a se ki ha sl ch ci dk li re dt la us sp rf) sz) (MW cI h0 a se ki ha sl ch ci dk li re dt la us sp rf)) (va_A (MW cI h0 a se ki ha sl ch ci dk li re dt la us sp rf) sz)) 0 0 (va_A (MW cI h0 a se ki ha sl ch ci dk li re dt la us sp rf) sz) := by
  refine k_meti .int rfl (by decide) (Nat.le_of_ble_eq_true rfl) ?_
  intro p e s m args below meth c A ls Q H locs hargs hret hx hb hts hown hml hname hN hA hS hP hK hD hl
  have hl : lv_has ls 2 [(0, .ref h0), (1, .int x1)] := hl
  obtain ⟨Xq, hX⟩ : ∃ Xq, Xq = sh_X1_scaleTells se ha sl x1 := ⟨_, rfl⟩
  have hq : Xq = ((sh_X4_share (sh_X1_toner ha sl x1) (se (3 : Int32).toNatClampNeg)) * (se (3 : Int32).toNatClampNeg)) := hX
  refine lv_aload_n hx hb dX1_scaleTells_0 rfl (lv_at hl 0 rfl) ?_
  refine lv_iload_n hx hb dX1_scaleTells_1 rfl (lv_at hl 1 rfl) ?_
  have hPs := k_self hP
  have hDs := k_selfD hD
  refine k_behi (X := []) (Y := []) (va_runV (As := [.int x1]) (rest := []) ⟨hx, hb, hml, hown, hts⟩ (c_X1_toner l D cI cC cQ H.size h0 a se ki ha sl ch ci dk li re dt la us sp rf x1 (hi_x1)) (kcwV hts wd_ml_RX1_96 wd_im_yX1_toner wd_sel_yX1_toner wd_ini_RX1 wd_code_yX1_toner rfl rfl rfl hd_X1_toner ⟨Nat.le_of_ble_eq_true rfl, Nat.le_of_ble_eq_true rfl⟩) ⟨in_blind, va_recv hK (pa_l (pa_r hPs)) (ci := 1) (q0 := 0) rfl rfl, k_pre hK (pa_l (pa_r hPs)) (da_l (da_r hDs)) hN⟩ rfl rfl hl.1 rfl (lv_room (Nat.le_of_ble_eq_true rfl)) dX1_scaleTells_2 ⟨Nat.le_of_ble_eq_true rfl, Nat.le_of_ble_eq_true rfl⟩) hPs hDs hS hA (fun r1 u2 H locs hw3 hP hD hS => ?_)
  have hP := k_unP hP
  have hD := k_unD hD
  have hP : va_P D vwCl (MW cI h0 a se ki ha sl ch ci dk li re dt la us sp rf) H := hP
  have hD : va_D A (MW cI h0 a se ki ha sl ch ci dk li re dt la us sp rf) := hD
  have hw3 : r1 = (sh_X1_toner ha sl x1) := hw3
  subst hw3
  refine lv_aload_n hx hb dX1_scaleTells_5 rfl (lv_at hl 0 rfl) ?_
  refine va_get (D := D) (ci := 1) (v := .ref (a 0)) (C := RX1) (T := TX1) (N := 14) hx hb hts inA1 hown hK hP 0 rfl rfl 0 (by decide) (hts _ wd_fl_RX1_9) (fun _ h9 => h9) rfl dX1_scaleTells_6 ?_
  refine lv_iconst (v := 3) hx hb dX1_scaleTells_9 (by decide) ?_
  refine va_iald hx hb hK hP 1 0 rfl rfl (k_in (by decide)) dX1_scaleTells_10 ?_
  have hPs : va_P D vwCl ([] ++ ([] ++ (MW cI h0 a se ki ha sl ch ci dk li re dt la us sp rf))) H := hP
  have hDs : va_D A ([] ++ ([] ++ (MW cI h0 a se ki ha sl ch ci dk li re dt la us sp rf))) := hD
  refine k_behi (X := []) (Y := (MW cI h0 a se ki ha sl ch ci dk li re dt la us sp rf)) (va_runSN (As := [.int (sh_X1_toner ha sl x1), .int (se (3 : Int32).toNatClampNeg)]) (rest := []) ⟨hx, hb, hml, hown, hts⟩ (c_X4_share l D cI cC cQ H.size (sh_X1_toner ha sl x1) (se (3 : Int32).toNatClampNeg)) ⟨kcnB hts hN wn_nl_RX1_84 wd_ini_RX4 wd_code_yX4_share rfl rfl hd_X4_share ⟨Nat.le_of_ble_eq_true rfl, Nat.le_of_ble_eq_true rfl⟩, hts _ wd_st_yX4_share, trivial⟩ ⟨in_blind, k_pre hK (pa_l (pa_r hPs)) (da_l (da_r hDs)) hN⟩ rfl rfl hl.1 rfl (lv_room (Nat.le_of_ble_eq_true rfl)) dX1_scaleTells_11 ⟨Nat.le_of_ble_eq_true rfl, Nat.le_of_ble_eq_true rfl⟩) hPs hDs hS hA (fun r4 u5 H locs hw6 hP hD hS => ?_)
  have hP : va_P D vwCl (MW cI h0 a se ki ha sl ch ci dk li re dt la us sp rf) H := hP
  have hD : va_D A (MW cI h0 a se ki ha sl ch ci dk li re dt la us sp rf) := hD
  have hw6 : r4 = (sh_X4_share (sh_X1_toner ha sl x1) (se (3 : Int32).toNatClampNeg)) := hw6
  subst hw6
  refine lv_aload_n hx hb dX1_scaleTells_14 rfl (lv_at hl 0 rfl) ?_
  refine va_get (D := D) (ci := 1) (v := .ref (a 0)) (C := RX1) (T := TX1) (N := 14) hx hb hts inA1 hown hK hP 0 rfl rfl 0 (by decide) (hts _ wd_fl_RX1_9) (fun _ h9 => h9) rfl dX1_scaleTells_15 ?_
  refine lv_iconst (v := 3) hx hb dX1_scaleTells_18 (by decide) ?_
  refine va_iald hx hb hK hP 1 0 rfl rfl (k_in (by decide)) dX1_scaleTells_19 ?_
  refine lv_imul hx hb dX1_scaleTells_20 ?_
  exact hret _ _ _ _ (((sh_X4_share (sh_X1_toner ha sl x1) (se (3 : Int32).toNatClampNeg)) * (se (3 : Int32).toNatClampNeg))) () dX1_scaleTells_21 rfl (hq.symm.trans hX) hP hD hS
def sh_X1_toldLeft (se : Nat → Int32) (ha : Nat → Int32) (sl : Nat → Int32) (ch : Nat → Int32) (x1 : Int32) : Int32 := (((sh_X1_scaleTells se ha sl x1) + (ch x1.toNatClampNeg)) / 2)
abbrev rm_X1_toldLeft : Room := { frames := 2, cells := 0, slots := 0, locals := 42 }
theorem hd_X1_toldLeft : hdT yX1_toldLeft 1 := by decide +kernel
set_option maxHeartbeats 4000000 in
set_option maxRecDepth 100000 in
theorem c_X1_toldLeft (l : Launch) (D : va_G) (cI cC cQ : ClassId) (sz : Nat) (h0 : Nat) (a : Nat → Nat) (se : Nat → Int32) (ki : Nat → Int32) (ha : Nat → Int32) (sl : Nat → Int32) (ch : Nat → Int32) (ci : Nat → Int32) (dk : Nat → Int32) (li : Nat → Int32) (re : Nat → Int32) (dt : Nat → Int32) (la : Nat → Int32) (us : Int32) (sp : Int32) (rf : Int32) (x1 : Int32) (hi_x1 : vp_in x1 4) : Met l yX1_toldLeft (wsO yX1_toldLeft cX1_toldLeft 2 (some .int)) rm_X1_toldLeft (va_Pc [.ref h0, .int x1] (inW D (TYS cI cC cQ) (MW cI h0 a se ki ha sl ch ci dk li re dt la us sp rf) sz)) (va_Qi (fun (r : Int32) (_ : Unit) => r = sh_X1_toldLeft se ha sl ch x1) (fun (u : Unit) => atW D (TYS cI cC cQ) (va_A (MW cI h0 a se ki ha sl ch ci dk li re dt la us sp rf) sz) (MW cI h0 a se ki ha sl ch ci dk li re dt la us sp rf)) (va_A (MW cI h0 a se ki ha sl ch ci dk li re dt la us sp rf) sz)) 0 0 (va_A (MW cI h0 a se ki ha sl ch ci dk li re dt la us sp rf) sz) := by
  refine k_meti .int rfl (by decide) (Nat.le_of_ble_eq_true rfl) ?_
  intro p e s m args below meth c A ls Q H locs hargs hret hx hb hts hown hml hname hN hA hS hP hK hD hl
  have hl : lv_has ls 2 [(0, .ref h0), (1, .int x1)] := hl
  obtain ⟨Xq, hX⟩ : ∃ Xq, Xq = sh_X1_toldLeft se ha sl ch x1 := ⟨_, rfl⟩
  have hq : Xq = (((sh_X1_scaleTells se ha sl x1) + (ch x1.toNatClampNeg)) / 2) := hX
  refine lv_aload_n hx hb dX1_toldLeft_0 rfl (lv_at hl 0 rfl) ?_
  refine lv_iload_n hx hb dX1_toldLeft_1 rfl (lv_at hl 1 rfl) ?_
  have hPs := k_self hP
  have hDs := k_selfD hD
  refine k_behi (X := []) (Y := []) (va_runV (As := [.int x1]) (rest := []) ⟨hx, hb, hml, hown, hts⟩ (c_X1_scaleTells l D cI cC cQ H.size h0 a se ki ha sl ch ci dk li re dt la us sp rf x1 (hi_x1)) (kcwV hts wd_ml_RX1_99 wd_im_yX1_scaleTells wd_sel_yX1_scaleTells wd_ini_RX1 wd_code_yX1_scaleTells rfl rfl rfl hd_X1_scaleTells ⟨Nat.le_of_ble_eq_true rfl, Nat.le_of_ble_eq_true rfl⟩) ⟨in_blind, va_recv hK (pa_l (pa_r hPs)) (ci := 1) (q0 := 0) rfl rfl, k_pre hK (pa_l (pa_r hPs)) (da_l (da_r hDs)) hN⟩ rfl rfl hl.1 rfl (lv_room (Nat.le_of_ble_eq_true rfl)) dX1_toldLeft_2 ⟨Nat.le_of_ble_eq_true rfl, Nat.le_of_ble_eq_true rfl⟩) hPs hDs hS hA (fun r1 u2 H locs hw3 hP hD hS => ?_)
  have hP := k_unP hP
  have hD := k_unD hD
  have hP : va_P D vwCl (MW cI h0 a se ki ha sl ch ci dk li re dt la us sp rf) H := hP
  have hD : va_D A (MW cI h0 a se ki ha sl ch ci dk li re dt la us sp rf) := hD
  have hw3 : r1 = (sh_X1_scaleTells se ha sl x1) := hw3
  subst hw3
  refine lv_aload_n hx hb dX1_toldLeft_5 rfl (lv_at hl 0 rfl) ?_
  refine va_get (D := D) (ci := 1) (v := .ref (a 4)) (C := RX1) (T := TX1) (N := 14) hx hb hts inA1 hown hK hP 0 rfl rfl 4 (by decide) (hts _ wd_fl_RX1_24) (fun _ h9 => h9) rfl dX1_toldLeft_6 ?_
  refine lv_iload_n hx hb dX1_toldLeft_9 rfl (lv_at hl 1 rfl) ?_
  refine va_iald hx hb hK hP 5 0 rfl rfl hi_x1 dX1_toldLeft_10 ?_
  refine lv_iadd hx hb dX1_toldLeft_11 ?_
  refine lv_iconst (v := 2) hx hb dX1_toldLeft_12 (by decide) ?_
  refine lv_idiv hx hb dX1_toldLeft_13 (by decide) ?_
  exact hret _ _ _ _ ((((sh_X1_scaleTells se ha sl x1) + (ch x1.toNatClampNeg)) / 2)) () dX1_toldLeft_14 rfl (hq.symm.trans hX) hP hD hS
def sh_X1_allToner (ha : Nat → Int32) (sl : Nat → Int32) : Int32 := ((((0 + (sh_X1_toner ha sl 0)) + (sh_X1_toner ha sl 1)) + (sh_X1_toner ha sl 2)) + (sh_X1_toner ha sl 3))
abbrev rm_X1_allToner : Room := { frames := 1, cells := 0, slots := 0, locals := 21 }
theorem hd_X1_allToner : hdT yX1_allToner 0 := by decide +kernel
set_option maxHeartbeats 4000000 in
set_option maxRecDepth 100000 in
theorem c_X1_allToner (l : Launch) (D : va_G) (cI cC cQ : ClassId) (sz : Nat) (h0 : Nat) (a : Nat → Nat) (se : Nat → Int32) (ki : Nat → Int32) (ha : Nat → Int32) (sl : Nat → Int32) (ch : Nat → Int32) (ci : Nat → Int32) (dk : Nat → Int32) (li : Nat → Int32) (re : Nat → Int32) (dt : Nat → Int32) (la : Nat → Int32) (us : Int32) (sp : Int32) (rf : Int32)   : Met l yX1_allToner (wsO yX1_allToner cX1_allToner 3 (some .int)) rm_X1_allToner (va_Pc [.ref h0] (inW D (TYS cI cC cQ) (MW cI h0 a se ki ha sl ch ci dk li re dt la us sp rf) sz)) (va_Qi (fun (r : Int32) (_ : Unit) => r = sh_X1_allToner ha sl) (fun (u : Unit) => atW D (TYS cI cC cQ) (va_A (MW cI h0 a se ki ha sl ch ci dk li re dt la us sp rf) sz) (MW cI h0 a se ki ha sl ch ci dk li re dt la us sp rf)) (va_A (MW cI h0 a se ki ha sl ch ci dk li re dt la us sp rf) sz)) 0 0 (va_A (MW cI h0 a se ki ha sl ch ci dk li re dt la us sp rf) sz) := by
  refine k_meti .int rfl (by decide) (Nat.le_of_ble_eq_true rfl) ?_
  intro p e s m args below meth c A ls Q H locs hargs hret hx hb hts hown hml hname hN hA hS hP hK hD hl
  have hl : lv_has ls 3 [(0, .ref h0)] := hl
  obtain ⟨Xq, hX⟩ : ∃ Xq, Xq = sh_X1_allToner ha sl := ⟨_, rfl⟩
  have hq : Xq = ((((0 + (sh_X1_toner ha sl 0)) + (sh_X1_toner ha sl 1)) + (sh_X1_toner ha sl 2)) + (sh_X1_toner ha sl 3)) := hX
  refine lv_iconst (v := 0) hx hb dX1_allToner_0 (by decide) ?_
  refine lv_istore_n (lv' := [(1, .int 0), (0, .ref h0)]) hx hb dX1_allToner_1 rfl hl (by decide) rfl (fun ls hl => ?_)
  refine lv_iconst (v := 0) hx hb dX1_allToner_2 (by decide) ?_
  refine lv_istore_n (lv' := [(2, .int 0), (1, .int 0), (0, .ref h0)]) hx hb dX1_allToner_3 rfl hl (by decide) rfl (fun ls hl => ?_)
  refine lv_iload_n hx hb dX1_allToner_4 rfl (lv_at hl 0 rfl) ?_
  refine lv_iconst (v := 4) hx hb dX1_allToner_5 (by decide) ?_
  refine lv_icmp_ge (tgt := 23) hx hb dX1_allToner_6 (by decide) (fun c9 => absurd c9 (by decide)) (fun _ => ?_)
  refine lv_iload_n hx hb dX1_allToner_9 rfl (lv_at hl 1 rfl) ?_
  refine lv_aload_n hx hb dX1_allToner_10 rfl (lv_at hl 2 rfl) ?_
  refine lv_iload_n hx hb dX1_allToner_11 rfl (lv_at hl 0 rfl) ?_
  have hPs := k_self hP
  have hDs := k_selfD hD
  refine k_behi (X := []) (Y := []) (va_runV (As := [.int 0]) (rest := [.int 0]) ⟨hx, hb, hml, hown, hts⟩ (c_X1_toner l D cI cC cQ H.size h0 a se ki ha sl ch ci dk li re dt la us sp rf 0 ((k_in (by decide)))) (kcwV hts wd_ml_RX1_96 wd_im_yX1_toner wd_sel_yX1_toner wd_ini_RX1 wd_code_yX1_toner rfl rfl rfl hd_X1_toner ⟨Nat.le_of_ble_eq_true rfl, Nat.le_of_ble_eq_true rfl⟩) ⟨in_blind, va_recv hK (pa_l (pa_r hPs)) (ci := 1) (q0 := 0) rfl rfl, k_pre hK (pa_l (pa_r hPs)) (da_l (da_r hDs)) hN⟩ rfl rfl hl.1 rfl (lv_room (Nat.le_of_ble_eq_true rfl)) dX1_allToner_12 ⟨Nat.le_of_ble_eq_true rfl, Nat.le_of_ble_eq_true rfl⟩) hPs hDs hS hA (fun r1 u2 H locs hw3 hP hD hS => ?_)
  have hP := k_unP hP
  have hD := k_unD hD
  have hP : va_P D vwCl (MW cI h0 a se ki ha sl ch ci dk li re dt la us sp rf) H := hP
  have hD : va_D A (MW cI h0 a se ki ha sl ch ci dk li re dt la us sp rf) := hD
  have hw3 : r1 = (sh_X1_toner ha sl 0) := hw3
  subst hw3
  refine lv_iadd hx hb dX1_allToner_15 ?_
  refine lv_istore_n (lv' := [(1, .int (0 + (sh_X1_toner ha sl 0))), (2, .int 0), (0, .ref h0)]) hx hb dX1_allToner_16 rfl hl (by decide) rfl (fun ls hl => ?_)
  refine lv_iinc (v := 1) (lv' := [(2, .int 1), (1, .int (0 + (sh_X1_toner ha sl 0))), (0, .ref h0)]) hx hb dX1_allToner_17 hl (k := 1) rfl (by decide) (by decide) rfl (fun ls hl => ?_)
  refine lv_goto (tgt := 4) hx hb dX1_allToner_20 (by decide) ?_
  refine lv_iload_n hx hb dX1_allToner_4 rfl (lv_at hl 0 rfl) ?_
  refine lv_iconst (v := 4) hx hb dX1_allToner_5 (by decide) ?_
  refine lv_icmp_ge (tgt := 23) hx hb dX1_allToner_6 (by decide) (fun c9 => absurd c9 (by decide)) (fun _ => ?_)
  refine lv_iload_n hx hb dX1_allToner_9 rfl (lv_at hl 1 rfl) ?_
  refine lv_aload_n hx hb dX1_allToner_10 rfl (lv_at hl 2 rfl) ?_
  refine lv_iload_n hx hb dX1_allToner_11 rfl (lv_at hl 0 rfl) ?_
  have hPs := k_self hP
  have hDs := k_selfD hD
  refine k_behi (X := []) (Y := []) (va_runV (As := [.int 1]) (rest := [.int (0 + (sh_X1_toner ha sl 0))]) ⟨hx, hb, hml, hown, hts⟩ (c_X1_toner l D cI cC cQ H.size h0 a se ki ha sl ch ci dk li re dt la us sp rf 1 ((k_in (by decide)))) (kcwV hts wd_ml_RX1_96 wd_im_yX1_toner wd_sel_yX1_toner wd_ini_RX1 wd_code_yX1_toner rfl rfl rfl hd_X1_toner ⟨Nat.le_of_ble_eq_true rfl, Nat.le_of_ble_eq_true rfl⟩) ⟨in_blind, va_recv hK (pa_l (pa_r hPs)) (ci := 1) (q0 := 0) rfl rfl, k_pre hK (pa_l (pa_r hPs)) (da_l (da_r hDs)) hN⟩ rfl rfl hl.1 rfl (lv_room (Nat.le_of_ble_eq_true rfl)) dX1_allToner_12 ⟨Nat.le_of_ble_eq_true rfl, Nat.le_of_ble_eq_true rfl⟩) hPs hDs hS hA (fun r4 u5 H locs hw6 hP hD hS => ?_)
  have hP := k_unP hP
  have hD := k_unD hD
  have hP : va_P D vwCl (MW cI h0 a se ki ha sl ch ci dk li re dt la us sp rf) H := hP
  have hD : va_D A (MW cI h0 a se ki ha sl ch ci dk li re dt la us sp rf) := hD
  have hw6 : r4 = (sh_X1_toner ha sl 1) := hw6
  subst hw6
  refine lv_iadd hx hb dX1_allToner_15 ?_
  refine lv_istore_n (lv' := [(1, .int ((0 + (sh_X1_toner ha sl 0)) + (sh_X1_toner ha sl 1))), (2, .int 1), (0, .ref h0)]) hx hb dX1_allToner_16 rfl hl (by decide) rfl (fun ls hl => ?_)
  refine lv_iinc (v := 2) (lv' := [(2, .int 2), (1, .int ((0 + (sh_X1_toner ha sl 0)) + (sh_X1_toner ha sl 1))), (0, .ref h0)]) hx hb dX1_allToner_17 hl (k := 1) rfl (by decide) (by decide) rfl (fun ls hl => ?_)
  refine lv_goto (tgt := 4) hx hb dX1_allToner_20 (by decide) ?_
  refine lv_iload_n hx hb dX1_allToner_4 rfl (lv_at hl 0 rfl) ?_
  refine lv_iconst (v := 4) hx hb dX1_allToner_5 (by decide) ?_
  refine lv_icmp_ge (tgt := 23) hx hb dX1_allToner_6 (by decide) (fun c9 => absurd c9 (by decide)) (fun _ => ?_)
  refine lv_iload_n hx hb dX1_allToner_9 rfl (lv_at hl 1 rfl) ?_
  refine lv_aload_n hx hb dX1_allToner_10 rfl (lv_at hl 2 rfl) ?_
  refine lv_iload_n hx hb dX1_allToner_11 rfl (lv_at hl 0 rfl) ?_
  have hPs := k_self hP
  have hDs := k_selfD hD
  refine k_behi (X := []) (Y := []) (va_runV (As := [.int 2]) (rest := [.int ((0 + (sh_X1_toner ha sl 0)) + (sh_X1_toner ha sl 1))]) ⟨hx, hb, hml, hown, hts⟩ (c_X1_toner l D cI cC cQ H.size h0 a se ki ha sl ch ci dk li re dt la us sp rf 2 ((k_in (by decide)))) (kcwV hts wd_ml_RX1_96 wd_im_yX1_toner wd_sel_yX1_toner wd_ini_RX1 wd_code_yX1_toner rfl rfl rfl hd_X1_toner ⟨Nat.le_of_ble_eq_true rfl, Nat.le_of_ble_eq_true rfl⟩) ⟨in_blind, va_recv hK (pa_l (pa_r hPs)) (ci := 1) (q0 := 0) rfl rfl, k_pre hK (pa_l (pa_r hPs)) (da_l (da_r hDs)) hN⟩ rfl rfl hl.1 rfl (lv_room (Nat.le_of_ble_eq_true rfl)) dX1_allToner_12 ⟨Nat.le_of_ble_eq_true rfl, Nat.le_of_ble_eq_true rfl⟩) hPs hDs hS hA (fun r7 u8 H locs hw9 hP hD hS => ?_)
  have hP := k_unP hP
  have hD := k_unD hD
  have hP : va_P D vwCl (MW cI h0 a se ki ha sl ch ci dk li re dt la us sp rf) H := hP
  have hD : va_D A (MW cI h0 a se ki ha sl ch ci dk li re dt la us sp rf) := hD
  have hw9 : r7 = (sh_X1_toner ha sl 2) := hw9
  subst hw9
  refine lv_iadd hx hb dX1_allToner_15 ?_
  refine lv_istore_n (lv' := [(1, .int (((0 + (sh_X1_toner ha sl 0)) + (sh_X1_toner ha sl 1)) + (sh_X1_toner ha sl 2))), (2, .int 2), (0, .ref h0)]) hx hb dX1_allToner_16 rfl hl (by decide) rfl (fun ls hl => ?_)
  refine lv_iinc (v := 3) (lv' := [(2, .int 3), (1, .int (((0 + (sh_X1_toner ha sl 0)) + (sh_X1_toner ha sl 1)) + (sh_X1_toner ha sl 2))), (0, .ref h0)]) hx hb dX1_allToner_17 hl (k := 1) rfl (by decide) (by decide) rfl (fun ls hl => ?_)
  refine lv_goto (tgt := 4) hx hb dX1_allToner_20 (by decide) ?_
  refine lv_iload_n hx hb dX1_allToner_4 rfl (lv_at hl 0 rfl) ?_
  refine lv_iconst (v := 4) hx hb dX1_allToner_5 (by decide) ?_
  refine lv_icmp_ge (tgt := 23) hx hb dX1_allToner_6 (by decide) (fun c9 => absurd c9 (by decide)) (fun _ => ?_)
  refine lv_iload_n hx hb dX1_allToner_9 rfl (lv_at hl 1 rfl) ?_
  refine lv_aload_n hx hb dX1_allToner_10 rfl (lv_at hl 2 rfl) ?_
  refine lv_iload_n hx hb dX1_allToner_11 rfl (lv_at hl 0 rfl) ?_
  have hPs := k_self hP
  have hDs := k_selfD hD
  refine k_behi (X := []) (Y := []) (va_runV (As := [.int 3]) (rest := [.int (((0 + (sh_X1_toner ha sl 0)) + (sh_X1_toner ha sl 1)) + (sh_X1_toner ha sl 2))]) ⟨hx, hb, hml, hown, hts⟩ (c_X1_toner l D cI cC cQ H.size h0 a se ki ha sl ch ci dk li re dt la us sp rf 3 ((k_in (by decide)))) (kcwV hts wd_ml_RX1_96 wd_im_yX1_toner wd_sel_yX1_toner wd_ini_RX1 wd_code_yX1_toner rfl rfl rfl hd_X1_toner ⟨Nat.le_of_ble_eq_true rfl, Nat.le_of_ble_eq_true rfl⟩) ⟨in_blind, va_recv hK (pa_l (pa_r hPs)) (ci := 1) (q0 := 0) rfl rfl, k_pre hK (pa_l (pa_r hPs)) (da_l (da_r hDs)) hN⟩ rfl rfl hl.1 rfl (lv_room (Nat.le_of_ble_eq_true rfl)) dX1_allToner_12 ⟨Nat.le_of_ble_eq_true rfl, Nat.le_of_ble_eq_true rfl⟩) hPs hDs hS hA (fun r10 u11 H locs hw12 hP hD hS => ?_)
  have hP := k_unP hP
  have hD := k_unD hD
  have hP : va_P D vwCl (MW cI h0 a se ki ha sl ch ci dk li re dt la us sp rf) H := hP
  have hD : va_D A (MW cI h0 a se ki ha sl ch ci dk li re dt la us sp rf) := hD
  have hw12 : r10 = (sh_X1_toner ha sl 3) := hw12
  subst hw12
  refine lv_iadd hx hb dX1_allToner_15 ?_
  refine lv_istore_n (lv' := [(1, .int ((((0 + (sh_X1_toner ha sl 0)) + (sh_X1_toner ha sl 1)) + (sh_X1_toner ha sl 2)) + (sh_X1_toner ha sl 3))), (2, .int 3), (0, .ref h0)]) hx hb dX1_allToner_16 rfl hl (by decide) rfl (fun ls hl => ?_)
  refine lv_iinc (v := 4) (lv' := [(2, .int 4), (1, .int ((((0 + (sh_X1_toner ha sl 0)) + (sh_X1_toner ha sl 1)) + (sh_X1_toner ha sl 2)) + (sh_X1_toner ha sl 3))), (0, .ref h0)]) hx hb dX1_allToner_17 hl (k := 1) rfl (by decide) (by decide) rfl (fun ls hl => ?_)
  refine lv_goto (tgt := 4) hx hb dX1_allToner_20 (by decide) ?_
  refine lv_iload_n hx hb dX1_allToner_4 rfl (lv_at hl 0 rfl) ?_
  refine lv_iconst (v := 4) hx hb dX1_allToner_5 (by decide) ?_
  refine lv_icmp_ge (tgt := 23) hx hb dX1_allToner_6 (by decide) (fun _ => ?_) (fun c9 => absurd c9 (by decide))
  refine lv_iload_n hx hb dX1_allToner_23 rfl (lv_at hl 1 rfl) ?_
  exact hret _ _ _ _ (((((0 + (sh_X1_toner ha sl 0)) + (sh_X1_toner ha sl 1)) + (sh_X1_toner ha sl 2)) + (sh_X1_toner ha sl 3))) () dX1_allToner_24 rfl (hq.symm.trans hX) hP hD hS
def sh_X1_allToldLeft (se : Nat → Int32) (ha : Nat → Int32) (sl : Nat → Int32) (ch : Nat → Int32) : Int32 := ((((0 + (sh_X1_toldLeft se ha sl ch 0)) + (sh_X1_toldLeft se ha sl ch 1)) + (sh_X1_toldLeft se ha sl ch 2)) + (sh_X1_toldLeft se ha sl ch 3))
abbrev rm_X1_allToldLeft : Room := { frames := 3, cells := 0, slots := 0, locals := 63 }
theorem hd_X1_allToldLeft : hdT yX1_allToldLeft 0 := by decide +kernel
set_option maxHeartbeats 4000000 in
set_option maxRecDepth 100000 in
theorem c_X1_allToldLeft (l : Launch) (D : va_G) (cI cC cQ : ClassId) (sz : Nat) (h0 : Nat) (a : Nat → Nat) (se : Nat → Int32) (ki : Nat → Int32) (ha : Nat → Int32) (sl : Nat → Int32) (ch : Nat → Int32) (ci : Nat → Int32) (dk : Nat → Int32) (li : Nat → Int32) (re : Nat → Int32) (dt : Nat → Int32) (la : Nat → Int32) (us : Int32) (sp : Int32) (rf : Int32)   : Met l yX1_allToldLeft (wsO yX1_allToldLeft cX1_allToldLeft 3 (some .int)) rm_X1_allToldLeft (va_Pc [.ref h0] (inW D (TYS cI cC cQ) (MW cI h0 a se ki ha sl ch ci dk li re dt la us sp rf) sz)) (va_Qi (fun (r : Int32) (_ : Unit) => r = sh_X1_allToldLeft se ha sl ch) (fun (u : Unit) => atW D (TYS cI cC cQ) (va_A (MW cI h0 a se ki ha sl ch ci dk li re dt la us sp rf) sz) (MW cI h0 a se ki ha sl ch ci dk li re dt la us sp rf)) (va_A (MW cI h0 a se ki ha sl ch ci dk li re dt la us sp rf) sz)) 0 0 (va_A (MW cI h0 a se ki ha sl ch ci dk li re dt la us sp rf) sz) := by
  refine k_meti .int rfl (by decide) (Nat.le_of_ble_eq_true rfl) ?_
  intro p e s m args below meth c A ls Q H locs hargs hret hx hb hts hown hml hname hN hA hS hP hK hD hl
  have hl : lv_has ls 3 [(0, .ref h0)] := hl
  obtain ⟨Xq, hX⟩ : ∃ Xq, Xq = sh_X1_allToldLeft se ha sl ch := ⟨_, rfl⟩
  have hq : Xq = ((((0 + (sh_X1_toldLeft se ha sl ch 0)) + (sh_X1_toldLeft se ha sl ch 1)) + (sh_X1_toldLeft se ha sl ch 2)) + (sh_X1_toldLeft se ha sl ch 3)) := hX
  refine lv_iconst (v := 0) hx hb dX1_allToldLeft_0 (by decide) ?_
  refine lv_istore_n (lv' := [(1, .int 0), (0, .ref h0)]) hx hb dX1_allToldLeft_1 rfl hl (by decide) rfl (fun ls hl => ?_)
  refine lv_iconst (v := 0) hx hb dX1_allToldLeft_2 (by decide) ?_
  refine lv_istore_n (lv' := [(2, .int 0), (1, .int 0), (0, .ref h0)]) hx hb dX1_allToldLeft_3 rfl hl (by decide) rfl (fun ls hl => ?_)
  refine lv_iload_n hx hb dX1_allToldLeft_4 rfl (lv_at hl 0 rfl) ?_
  refine lv_iconst (v := 4) hx hb dX1_allToldLeft_5 (by decide) ?_
  refine lv_icmp_ge (tgt := 23) hx hb dX1_allToldLeft_6 (by decide) (fun c9 => absurd c9 (by decide)) (fun _ => ?_)
  refine lv_iload_n hx hb dX1_allToldLeft_9 rfl (lv_at hl 1 rfl) ?_
  refine lv_aload_n hx hb dX1_allToldLeft_10 rfl (lv_at hl 2 rfl) ?_
  refine lv_iload_n hx hb dX1_allToldLeft_11 rfl (lv_at hl 0 rfl) ?_
  have hPs := k_self hP
  have hDs := k_selfD hD
  refine k_behi (X := []) (Y := []) (va_runV (As := [.int 0]) (rest := [.int 0]) ⟨hx, hb, hml, hown, hts⟩ (c_X1_toldLeft l D cI cC cQ H.size h0 a se ki ha sl ch ci dk li re dt la us sp rf 0 ((k_in (by decide)))) (kcwV hts wd_ml_RX1_102 wd_im_yX1_toldLeft wd_sel_yX1_toldLeft wd_ini_RX1 wd_code_yX1_toldLeft rfl rfl rfl hd_X1_toldLeft ⟨Nat.le_of_ble_eq_true rfl, Nat.le_of_ble_eq_true rfl⟩) ⟨in_blind, va_recv hK (pa_l (pa_r hPs)) (ci := 1) (q0 := 0) rfl rfl, k_pre hK (pa_l (pa_r hPs)) (da_l (da_r hDs)) hN⟩ rfl rfl hl.1 rfl (lv_room (Nat.le_of_ble_eq_true rfl)) dX1_allToldLeft_12 ⟨Nat.le_of_ble_eq_true rfl, Nat.le_of_ble_eq_true rfl⟩) hPs hDs hS hA (fun r1 u2 H locs hw3 hP hD hS => ?_)
  have hP := k_unP hP
  have hD := k_unD hD
  have hP : va_P D vwCl (MW cI h0 a se ki ha sl ch ci dk li re dt la us sp rf) H := hP
  have hD : va_D A (MW cI h0 a se ki ha sl ch ci dk li re dt la us sp rf) := hD
  have hw3 : r1 = (sh_X1_toldLeft se ha sl ch 0) := hw3
  subst hw3
  refine lv_iadd hx hb dX1_allToldLeft_15 ?_
  refine lv_istore_n (lv' := [(1, .int (0 + (sh_X1_toldLeft se ha sl ch 0))), (2, .int 0), (0, .ref h0)]) hx hb dX1_allToldLeft_16 rfl hl (by decide) rfl (fun ls hl => ?_)
  refine lv_iinc (v := 1) (lv' := [(2, .int 1), (1, .int (0 + (sh_X1_toldLeft se ha sl ch 0))), (0, .ref h0)]) hx hb dX1_allToldLeft_17 hl (k := 1) rfl (by decide) (by decide) rfl (fun ls hl => ?_)
  refine lv_goto (tgt := 4) hx hb dX1_allToldLeft_20 (by decide) ?_
  refine lv_iload_n hx hb dX1_allToldLeft_4 rfl (lv_at hl 0 rfl) ?_
  refine lv_iconst (v := 4) hx hb dX1_allToldLeft_5 (by decide) ?_
  refine lv_icmp_ge (tgt := 23) hx hb dX1_allToldLeft_6 (by decide) (fun c9 => absurd c9 (by decide)) (fun _ => ?_)
  refine lv_iload_n hx hb dX1_allToldLeft_9 rfl (lv_at hl 1 rfl) ?_
  refine lv_aload_n hx hb dX1_allToldLeft_10 rfl (lv_at hl 2 rfl) ?_
  refine lv_iload_n hx hb dX1_allToldLeft_11 rfl (lv_at hl 0 rfl) ?_
  have hPs := k_self hP
  have hDs := k_selfD hD
  refine k_behi (X := []) (Y := []) (va_runV (As := [.int 1]) (rest := [.int (0 + (sh_X1_toldLeft se ha sl ch 0))]) ⟨hx, hb, hml, hown, hts⟩ (c_X1_toldLeft l D cI cC cQ H.size h0 a se ki ha sl ch ci dk li re dt la us sp rf 1 ((k_in (by decide)))) (kcwV hts wd_ml_RX1_102 wd_im_yX1_toldLeft wd_sel_yX1_toldLeft wd_ini_RX1 wd_code_yX1_toldLeft rfl rfl rfl hd_X1_toldLeft ⟨Nat.le_of_ble_eq_true rfl, Nat.le_of_ble_eq_true rfl⟩) ⟨in_blind, va_recv hK (pa_l (pa_r hPs)) (ci := 1) (q0 := 0) rfl rfl, k_pre hK (pa_l (pa_r hPs)) (da_l (da_r hDs)) hN⟩ rfl rfl hl.1 rfl (lv_room (Nat.le_of_ble_eq_true rfl)) dX1_allToldLeft_12 ⟨Nat.le_of_ble_eq_true rfl, Nat.le_of_ble_eq_true rfl⟩) hPs hDs hS hA (fun r4 u5 H locs hw6 hP hD hS => ?_)
  have hP := k_unP hP
  have hD := k_unD hD
  have hP : va_P D vwCl (MW cI h0 a se ki ha sl ch ci dk li re dt la us sp rf) H := hP
  have hD : va_D A (MW cI h0 a se ki ha sl ch ci dk li re dt la us sp rf) := hD
  have hw6 : r4 = (sh_X1_toldLeft se ha sl ch 1) := hw6
  subst hw6
  refine lv_iadd hx hb dX1_allToldLeft_15 ?_
  refine lv_istore_n (lv' := [(1, .int ((0 + (sh_X1_toldLeft se ha sl ch 0)) + (sh_X1_toldLeft se ha sl ch 1))), (2, .int 1), (0, .ref h0)]) hx hb dX1_allToldLeft_16 rfl hl (by decide) rfl (fun ls hl => ?_)
  refine lv_iinc (v := 2) (lv' := [(2, .int 2), (1, .int ((0 + (sh_X1_toldLeft se ha sl ch 0)) + (sh_X1_toldLeft se ha sl ch 1))), (0, .ref h0)]) hx hb dX1_allToldLeft_17 hl (k := 1) rfl (by decide) (by decide) rfl (fun ls hl => ?_)
  refine lv_goto (tgt := 4) hx hb dX1_allToldLeft_20 (by decide) ?_
  refine lv_iload_n hx hb dX1_allToldLeft_4 rfl (lv_at hl 0 rfl) ?_
  refine lv_iconst (v := 4) hx hb dX1_allToldLeft_5 (by decide) ?_
  refine lv_icmp_ge (tgt := 23) hx hb dX1_allToldLeft_6 (by decide) (fun c9 => absurd c9 (by decide)) (fun _ => ?_)
  refine lv_iload_n hx hb dX1_allToldLeft_9 rfl (lv_at hl 1 rfl) ?_
  refine lv_aload_n hx hb dX1_allToldLeft_10 rfl (lv_at hl 2 rfl) ?_
  refine lv_iload_n hx hb dX1_allToldLeft_11 rfl (lv_at hl 0 rfl) ?_
  have hPs := k_self hP
  have hDs := k_selfD hD
  refine k_behi (X := []) (Y := []) (va_runV (As := [.int 2]) (rest := [.int ((0 + (sh_X1_toldLeft se ha sl ch 0)) + (sh_X1_toldLeft se ha sl ch 1))]) ⟨hx, hb, hml, hown, hts⟩ (c_X1_toldLeft l D cI cC cQ H.size h0 a se ki ha sl ch ci dk li re dt la us sp rf 2 ((k_in (by decide)))) (kcwV hts wd_ml_RX1_102 wd_im_yX1_toldLeft wd_sel_yX1_toldLeft wd_ini_RX1 wd_code_yX1_toldLeft rfl rfl rfl hd_X1_toldLeft ⟨Nat.le_of_ble_eq_true rfl, Nat.le_of_ble_eq_true rfl⟩) ⟨in_blind, va_recv hK (pa_l (pa_r hPs)) (ci := 1) (q0 := 0) rfl rfl, k_pre hK (pa_l (pa_r hPs)) (da_l (da_r hDs)) hN⟩ rfl rfl hl.1 rfl (lv_room (Nat.le_of_ble_eq_true rfl)) dX1_allToldLeft_12 ⟨Nat.le_of_ble_eq_true rfl, Nat.le_of_ble_eq_true rfl⟩) hPs hDs hS hA (fun r7 u8 H locs hw9 hP hD hS => ?_)
  have hP := k_unP hP
  have hD := k_unD hD
  have hP : va_P D vwCl (MW cI h0 a se ki ha sl ch ci dk li re dt la us sp rf) H := hP
  have hD : va_D A (MW cI h0 a se ki ha sl ch ci dk li re dt la us sp rf) := hD
  have hw9 : r7 = (sh_X1_toldLeft se ha sl ch 2) := hw9
  subst hw9
  refine lv_iadd hx hb dX1_allToldLeft_15 ?_
  refine lv_istore_n (lv' := [(1, .int (((0 + (sh_X1_toldLeft se ha sl ch 0)) + (sh_X1_toldLeft se ha sl ch 1)) + (sh_X1_toldLeft se ha sl ch 2))), (2, .int 2), (0, .ref h0)]) hx hb dX1_allToldLeft_16 rfl hl (by decide) rfl (fun ls hl => ?_)
  refine lv_iinc (v := 3) (lv' := [(2, .int 3), (1, .int (((0 + (sh_X1_toldLeft se ha sl ch 0)) + (sh_X1_toldLeft se ha sl ch 1)) + (sh_X1_toldLeft se ha sl ch 2))), (0, .ref h0)]) hx hb dX1_allToldLeft_17 hl (k := 1) rfl (by decide) (by decide) rfl (fun ls hl => ?_)
  refine lv_goto (tgt := 4) hx hb dX1_allToldLeft_20 (by decide) ?_
  refine lv_iload_n hx hb dX1_allToldLeft_4 rfl (lv_at hl 0 rfl) ?_
  refine lv_iconst (v := 4) hx hb dX1_allToldLeft_5 (by decide) ?_
  refine lv_icmp_ge (tgt := 23) hx hb dX1_allToldLeft_6 (by decide) (fun c9 => absurd c9 (by decide)) (fun _ => ?_)
  refine lv_iload_n hx hb dX1_allToldLeft_9 rfl (lv_at hl 1 rfl) ?_
  refine lv_aload_n hx hb dX1_allToldLeft_10 rfl (lv_at hl 2 rfl) ?_
  refine lv_iload_n hx hb dX1_allToldLeft_11 rfl (lv_at hl 0 rfl) ?_
  have hPs := k_self hP
  have hDs := k_selfD hD
  refine k_behi (X := []) (Y := []) (va_runV (As := [.int 3]) (rest := [.int (((0 + (sh_X1_toldLeft se ha sl ch 0)) + (sh_X1_toldLeft se ha sl ch 1)) + (sh_X1_toldLeft se ha sl ch 2))]) ⟨hx, hb, hml, hown, hts⟩ (c_X1_toldLeft l D cI cC cQ H.size h0 a se ki ha sl ch ci dk li re dt la us sp rf 3 ((k_in (by decide)))) (kcwV hts wd_ml_RX1_102 wd_im_yX1_toldLeft wd_sel_yX1_toldLeft wd_ini_RX1 wd_code_yX1_toldLeft rfl rfl rfl hd_X1_toldLeft ⟨Nat.le_of_ble_eq_true rfl, Nat.le_of_ble_eq_true rfl⟩) ⟨in_blind, va_recv hK (pa_l (pa_r hPs)) (ci := 1) (q0 := 0) rfl rfl, k_pre hK (pa_l (pa_r hPs)) (da_l (da_r hDs)) hN⟩ rfl rfl hl.1 rfl (lv_room (Nat.le_of_ble_eq_true rfl)) dX1_allToldLeft_12 ⟨Nat.le_of_ble_eq_true rfl, Nat.le_of_ble_eq_true rfl⟩) hPs hDs hS hA (fun r10 u11 H locs hw12 hP hD hS => ?_)
  have hP := k_unP hP
  have hD := k_unD hD
  have hP : va_P D vwCl (MW cI h0 a se ki ha sl ch ci dk li re dt la us sp rf) H := hP
  have hD : va_D A (MW cI h0 a se ki ha sl ch ci dk li re dt la us sp rf) := hD
  have hw12 : r10 = (sh_X1_toldLeft se ha sl ch 3) := hw12
  subst hw12
  refine lv_iadd hx hb dX1_allToldLeft_15 ?_
  refine lv_istore_n (lv' := [(1, .int ((((0 + (sh_X1_toldLeft se ha sl ch 0)) + (sh_X1_toldLeft se ha sl ch 1)) + (sh_X1_toldLeft se ha sl ch 2)) + (sh_X1_toldLeft se ha sl ch 3))), (2, .int 3), (0, .ref h0)]) hx hb dX1_allToldLeft_16 rfl hl (by decide) rfl (fun ls hl => ?_)
  refine lv_iinc (v := 4) (lv' := [(2, .int 4), (1, .int ((((0 + (sh_X1_toldLeft se ha sl ch 0)) + (sh_X1_toldLeft se ha sl ch 1)) + (sh_X1_toldLeft se ha sl ch 2)) + (sh_X1_toldLeft se ha sl ch 3))), (0, .ref h0)]) hx hb dX1_allToldLeft_17 hl (k := 1) rfl (by decide) (by decide) rfl (fun ls hl => ?_)
  refine lv_goto (tgt := 4) hx hb dX1_allToldLeft_20 (by decide) ?_
  refine lv_iload_n hx hb dX1_allToldLeft_4 rfl (lv_at hl 0 rfl) ?_
  refine lv_iconst (v := 4) hx hb dX1_allToldLeft_5 (by decide) ?_
  refine lv_icmp_ge (tgt := 23) hx hb dX1_allToldLeft_6 (by decide) (fun _ => ?_) (fun c9 => absurd c9 (by decide))
  refine lv_iload_n hx hb dX1_allToldLeft_23 rfl (lv_at hl 1 rfl) ?_
  exact hret _ _ _ _ (((((0 + (sh_X1_toldLeft se ha sl ch 0)) + (sh_X1_toldLeft se ha sl ch 1)) + (sh_X1_toldLeft se ha sl ch 2)) + (sh_X1_toldLeft se ha sl ch 3))) () dX1_allToldLeft_24 rfl (hq.symm.trans hX) hP hD hS
def sh_X1_darkOfAll (dk : Nat → Int32) : Int32 := ((dk (0 : Int32).toNatClampNeg) + (dk (1 : Int32).toNatClampNeg))
abbrev rm_X1_darkOfAll : Room := { frames := 0, cells := 0, slots := 0, locals := 0 }
theorem hd_X1_darkOfAll : hdT yX1_darkOfAll 0 := by decide +kernel
set_option maxHeartbeats 4000000 in
set_option maxRecDepth 100000 in
theorem c_X1_darkOfAll (l : Launch) (D : va_G) (cI cC cQ : ClassId) (sz : Nat) (h0 : Nat) (a : Nat → Nat) (se : Nat → Int32) (ki : Nat → Int32) (ha : Nat → Int32) (sl : Nat → Int32) (ch : Nat → Int32) (ci : Nat → Int32) (dk : Nat → Int32) (li : Nat → Int32) (re : Nat → Int32) (dt : Nat → Int32) (la : Nat → Int32) (us : Int32) (sp : Int32) (rf : Int32)   : Met l yX1_darkOfAll (wsO yX1_darkOfAll cX1_darkOfAll 1 (some .int)) rm_X1_darkOfAll (va_Pc [.ref h0] (inW D (TYS cI cC cQ) (MW cI h0 a se ki ha sl ch ci dk li re dt la us sp rf) sz)) (va_Qi (fun (r : Int32) (_ : Unit) => r = sh_X1_darkOfAll dk) (fun (u : Unit) => atW D (TYS cI cC cQ) (va_A (MW cI h0 a se ki ha sl ch ci dk li re dt la us sp rf) sz) (MW cI h0 a se ki ha sl ch ci dk li re dt la us sp rf)) (va_A (MW cI h0 a se ki ha sl ch ci dk li re dt la us sp rf) sz)) 0 0 (va_A (MW cI h0 a se ki ha sl ch ci dk li re dt la us sp rf) sz) := by
  refine k_meti .int rfl (by decide) (Nat.le_of_ble_eq_true rfl) ?_
  intro p e s m args below meth c A ls Q H locs hargs hret hx hb hts hown hml hname hN hA hS hP hK hD hl
  have hl : lv_has ls 1 [(0, .ref h0)] := hl
  obtain ⟨Xq, hX⟩ : ∃ Xq, Xq = sh_X1_darkOfAll dk := ⟨_, rfl⟩
  have hq : Xq = ((dk (0 : Int32).toNatClampNeg) + (dk (1 : Int32).toNatClampNeg)) := hX
  refine lv_aload_n hx hb dX1_darkOfAll_0 rfl (lv_at hl 0 rfl) ?_
  refine va_get (D := D) (ci := 1) (v := .ref (a 6)) (C := RX1) (T := TX1) (N := 14) hx hb hts inA1 hown hK hP 0 rfl rfl 6 (by decide) (hts _ wd_fl_RX1_30) (fun _ h9 => h9) rfl dX1_darkOfAll_1 ?_
  refine lv_iconst (v := 0) hx hb dX1_darkOfAll_4 (by decide) ?_
  refine va_iald hx hb hK hP 7 0 rfl rfl (k_in (by decide)) dX1_darkOfAll_5 ?_
  refine lv_aload_n hx hb dX1_darkOfAll_6 rfl (lv_at hl 0 rfl) ?_
  refine va_get (D := D) (ci := 1) (v := .ref (a 6)) (C := RX1) (T := TX1) (N := 14) hx hb hts inA1 hown hK hP 0 rfl rfl 6 (by decide) (hts _ wd_fl_RX1_30) (fun _ h9 => h9) rfl dX1_darkOfAll_7 ?_
  refine lv_iconst (v := 1) hx hb dX1_darkOfAll_10 (by decide) ?_
  refine va_iald hx hb hK hP 7 0 rfl rfl (k_in (by decide)) dX1_darkOfAll_11 ?_
  refine lv_iadd hx hb dX1_darkOfAll_12 ?_
  exact hret _ _ _ _ (((dk (0 : Int32).toNatClampNeg) + (dk (1 : Int32).toNatClampNeg))) () dX1_darkOfAll_13 rfl (hq.symm.trans hX) hP hD hS
def sh_X1_lightOfAll (li : Nat → Int32) : Int32 := ((li (0 : Int32).toNatClampNeg) + (li (1 : Int32).toNatClampNeg))
abbrev rm_X1_lightOfAll : Room := { frames := 0, cells := 0, slots := 0, locals := 0 }
theorem hd_X1_lightOfAll : hdT yX1_lightOfAll 0 := by decide +kernel
set_option maxHeartbeats 4000000 in
set_option maxRecDepth 100000 in
theorem c_X1_lightOfAll (l : Launch) (D : va_G) (cI cC cQ : ClassId) (sz : Nat) (h0 : Nat) (a : Nat → Nat) (se : Nat → Int32) (ki : Nat → Int32) (ha : Nat → Int32) (sl : Nat → Int32) (ch : Nat → Int32) (ci : Nat → Int32) (dk : Nat → Int32) (li : Nat → Int32) (re : Nat → Int32) (dt : Nat → Int32) (la : Nat → Int32) (us : Int32) (sp : Int32) (rf : Int32)   : Met l yX1_lightOfAll (wsO yX1_lightOfAll cX1_lightOfAll 1 (some .int)) rm_X1_lightOfAll (va_Pc [.ref h0] (inW D (TYS cI cC cQ) (MW cI h0 a se ki ha sl ch ci dk li re dt la us sp rf) sz)) (va_Qi (fun (r : Int32) (_ : Unit) => r = sh_X1_lightOfAll li) (fun (u : Unit) => atW D (TYS cI cC cQ) (va_A (MW cI h0 a se ki ha sl ch ci dk li re dt la us sp rf) sz) (MW cI h0 a se ki ha sl ch ci dk li re dt la us sp rf)) (va_A (MW cI h0 a se ki ha sl ch ci dk li re dt la us sp rf) sz)) 0 0 (va_A (MW cI h0 a se ki ha sl ch ci dk li re dt la us sp rf) sz) := by
  refine k_meti .int rfl (by decide) (Nat.le_of_ble_eq_true rfl) ?_
  intro p e s m args below meth c A ls Q H locs hargs hret hx hb hts hown hml hname hN hA hS hP hK hD hl
  have hl : lv_has ls 1 [(0, .ref h0)] := hl
  obtain ⟨Xq, hX⟩ : ∃ Xq, Xq = sh_X1_lightOfAll li := ⟨_, rfl⟩
  have hq : Xq = ((li (0 : Int32).toNatClampNeg) + (li (1 : Int32).toNatClampNeg)) := hX
  refine lv_aload_n hx hb dX1_lightOfAll_0 rfl (lv_at hl 0 rfl) ?_
  refine va_get (D := D) (ci := 1) (v := .ref (a 7)) (C := RX1) (T := TX1) (N := 14) hx hb hts inA1 hown hK hP 0 rfl rfl 7 (by decide) (hts _ wd_fl_RX1_33) (fun _ h9 => h9) rfl dX1_lightOfAll_1 ?_
  refine lv_iconst (v := 0) hx hb dX1_lightOfAll_4 (by decide) ?_
  refine va_iald hx hb hK hP 8 0 rfl rfl (k_in (by decide)) dX1_lightOfAll_5 ?_
  refine lv_aload_n hx hb dX1_lightOfAll_6 rfl (lv_at hl 0 rfl) ?_
  refine va_get (D := D) (ci := 1) (v := .ref (a 7)) (C := RX1) (T := TX1) (N := 14) hx hb hts inA1 hown hK hP 0 rfl rfl 7 (by decide) (hts _ wd_fl_RX1_33) (fun _ h9 => h9) rfl dX1_lightOfAll_7 ?_
  refine lv_iconst (v := 1) hx hb dX1_lightOfAll_10 (by decide) ?_
  refine va_iald hx hb hK hP 8 0 rfl rfl (k_in (by decide)) dX1_lightOfAll_11 ?_
  refine lv_iadd hx hb dX1_lightOfAll_12 ?_
  exact hret _ _ _ _ (((li (0 : Int32).toNatClampNeg) + (li (1 : Int32).toNatClampNeg))) () dX1_lightOfAll_13 rfl (hq.symm.trans hX) hP hD hS
end
section
theorem k_mu {x v : Int32} {n : Nat} (h : (x.toInt - v.toInt).toNat < n + 1) (c : ¬ x ≤ v) : (x.toInt - (v + 1).toInt).toNat < n := by
  rw [Int32.le_iff_toInt_le] at c
  have h1 := x.toInt_lt
  have h2 := v.le_toInt
  have h3 := v.toInt_lt
  have e : (v + 1).toInt = v.toInt + 1 := by
    rw [Int32.toInt_add]
    exact Int.bmod_eq_of_le (by simp; omega) (by simp; omega)
  omega
abbrev MW2 (cI : ClassId) (h0 : Nat) (a : Nat → Nat) (h1 : Nat) (b : Nat → Nat) (se ki ha sl ch ci dk li re dt la : Nat → Int32) (us sp rf : Int32) (se1 ki1 ha1 sl1 ch1 ci1 dk1 li1 re1 dt1 la1 : Nat → Int32) (us1 sp1 rf1 : Int32) : va_W := MW cI h0 a se ki ha sl ch ci dk li re dt la us sp rf ++ MW cI h1 b se1 ki1 ha1 sl1 ch1 ci1 dk1 li1 re1 dt1 la1 us1 sp1 rf1
def sh_X1_printPage (se : Nat → Int32) (ki : Nat → Int32) (ha : Nat → Int32) (sl : Nat → Int32) (ch : Nat → Int32) (ci : Nat → Int32) (dk : Nat → Int32) (li : Nat → Int32) (re : Nat → Int32) (dt : Nat → Int32) (la : Nat → Int32) (us : Int32) (x1 : Int32) (x2 : Int32) : Int32 × (Nat → Int32) × (Nat → Int32) × (Nat → Int32) × (Nat → Int32) × (Nat → Int32) × (Nat → Int32) × (Nat → Int32) × (Nat → Int32) × (Int32) := (if (sh_X1_refusal se ha ch (ci x1.toNatClampNeg)) = 0 then (kb (sh_X1_useToner ha us (ci x1.toNatClampNeg) (sh_X1_tonerFor ki (ci x1.toNatClampNeg) x2 (se (0 : Int32).toNatClampNeg))) (fun z_r8 => (kb (if ((ch (ci x1.toNatClampNeg).toNatClampNeg) - (sh_X1_chipFor ki (ci x1.toNatClampNeg) x2 (se (0 : Int32).toNatClampNeg))) ≤ 0 then 0 else ((ch (ci x1.toNatClampNeg).toNatClampNeg) - (sh_X1_chipFor ki (ci x1.toNatClampNeg) x2 (se (0 : Int32).toNatClampNeg)))) (fun z_v18 => (kb (sh_X1_settleToner se z_r8.2.1 sl (ci x1.toNatClampNeg)) (fun z_f22 => (kb (if z_r8.1 = 100 then ((upd dk x1.toNatClampNeg ((dk x1.toNatClampNeg) + 1)), li) else (dk, (upd li x1.toNatClampNeg ((li x1.toNatClampNeg) + 1)))) (fun z_f26 => ((10 + z_r8.1), z_f22.1, z_f22.2, (upd ch (ci x1.toNatClampNeg).toNatClampNeg z_v18), z_f26.1, z_f26.2, re, (upd dt x1.toNatClampNeg ((dt x1.toNatClampNeg) + x2)), (upd la x1.toNatClampNeg z_r8.1), z_r8.2.2))))))))) else ((sh_X1_refusal se ha ch (ci x1.toNatClampNeg)), ha, sl, ch, dk, li, (upd re x1.toNatClampNeg ((re x1.toNatClampNeg) + 1)), dt, la, us))
abbrev rm_X1_printPage : Room := { frames := 2, cells := 0, slots := 0, locals := 47 }
theorem hd_X1_printPage : hdT yX1_printPage 2 := by decide +kernel
set_option maxHeartbeats 4000000 in
set_option maxRecDepth 100000 in
theorem c_X1_printPage (l : Launch) (D : va_G) (cI cC cQ : ClassId) (sz : Nat) (h0 : Nat) (a : Nat → Nat) (se : Nat → Int32) (ki : Nat → Int32) (ha : Nat → Int32) (sl : Nat → Int32) (ch : Nat → Int32) (ci : Nat → Int32) (dk : Nat → Int32) (li : Nat → Int32) (re : Nat → Int32) (dt : Nat → Int32) (la : Nat → Int32) (us : Int32) (sp : Int32) (rf : Int32) (x1 : Int32) (x2 : Int32) (hi_x1 : vp_in x1 2) : Met l yX1_printPage (wsO yX1_printPage cX1_printPage 7 (some .int)) rm_X1_printPage (va_Pc [.ref h0, .int x1, .int x2] (inW D (TYS cI cC cQ) (MW cI h0 a se ki ha sl ch ci dk li re dt la us sp rf) sz)) (va_Qi (fun (r : Int32) (u : (Nat → Int32) × (Nat → Int32) × (Nat → Int32) × (Nat → Int32) × (Nat → Int32) × (Nat → Int32) × (Nat → Int32) × (Nat → Int32) × (Int32)) => (r, u) = sh_X1_printPage se ki ha sl ch ci dk li re dt la us x1 x2) (fun (u : (Nat → Int32) × (Nat → Int32) × (Nat → Int32) × (Nat → Int32) × (Nat → Int32) × (Nat → Int32) × (Nat → Int32) × (Nat → Int32) × (Int32)) => atW D (TYS cI cC cQ) (va_A (MW cI h0 a se ki ha sl ch ci dk li re dt la us sp rf) sz) (MW cI h0 a se ki u.1 u.2.1 u.2.2.1 ci u.2.2.2.1 u.2.2.2.2.1 u.2.2.2.2.2.1 u.2.2.2.2.2.2.1 u.2.2.2.2.2.2.2.1 u.2.2.2.2.2.2.2.2 sp rf)) (va_A (MW cI h0 a se ki ha sl ch ci dk li re dt la us sp rf) sz)) 0 0 (va_A (MW cI h0 a se ki ha sl ch ci dk li re dt la us sp rf) sz) := by
  refine k_meti .int rfl (by decide) (Nat.le_of_ble_eq_true rfl) ?_
  intro p e s m args below meth c A ls Q H locs hargs hret hx hb hts hown hml hname hN hA hS hP hK hD hl
  have hl : lv_has ls 7 [(0, .ref h0), (1, .int x1), (2, .int x2)] := hl
  obtain ⟨Xq, hX⟩ : ∃ Xq, Xq = sh_X1_printPage se ki ha sl ch ci dk li re dt la us x1 x2 := ⟨_, rfl⟩
  have hq : Xq = (if (sh_X1_refusal se ha ch (ci x1.toNatClampNeg)) = 0 then (kb (sh_X1_useToner ha us (ci x1.toNatClampNeg) (sh_X1_tonerFor ki (ci x1.toNatClampNeg) x2 (se (0 : Int32).toNatClampNeg))) (fun z_r8 => (kb (if ((ch (ci x1.toNatClampNeg).toNatClampNeg) - (sh_X1_chipFor ki (ci x1.toNatClampNeg) x2 (se (0 : Int32).toNatClampNeg))) ≤ 0 then 0 else ((ch (ci x1.toNatClampNeg).toNatClampNeg) - (sh_X1_chipFor ki (ci x1.toNatClampNeg) x2 (se (0 : Int32).toNatClampNeg)))) (fun z_v18 => (kb (sh_X1_settleToner se z_r8.2.1 sl (ci x1.toNatClampNeg)) (fun z_f22 => (kb (if z_r8.1 = 100 then ((upd dk x1.toNatClampNeg ((dk x1.toNatClampNeg) + 1)), li) else (dk, (upd li x1.toNatClampNeg ((li x1.toNatClampNeg) + 1)))) (fun z_f26 => ((10 + z_r8.1), z_f22.1, z_f22.2, (upd ch (ci x1.toNatClampNeg).toNatClampNeg z_v18), z_f26.1, z_f26.2, re, (upd dt x1.toNatClampNeg ((dt x1.toNatClampNeg) + x2)), (upd la x1.toNatClampNeg z_r8.1), z_r8.2.2))))))))) else ((sh_X1_refusal se ha ch (ci x1.toNatClampNeg)), ha, sl, ch, dk, li, (upd re x1.toNatClampNeg ((re x1.toNatClampNeg) + 1)), dt, la, us)) := hX
  refine lv_aload_n hx hb dX1_printPage_0 rfl (lv_at hl 0 rfl) ?_
  refine va_get (D := D) (ci := 1) (v := .ref (a 5)) (C := RX1) (T := TX1) (N := 14) hx hb hts inA1 hown hK hP 0 rfl rfl 5 (by decide) (hts _ wd_fl_RX1_27) (fun _ h9 => h9) rfl dX1_printPage_1 ?_
  refine lv_iload_n hx hb dX1_printPage_4 rfl (lv_at hl 1 rfl) ?_
  refine va_iald hx hb hK hP 6 0 rfl rfl hi_x1 dX1_printPage_5 ?_
  refine lv_istore_n (lv' := [(3, .int (ci x1.toNatClampNeg)), (0, .ref h0), (1, .int x1), (2, .int x2)]) hx hb dX1_printPage_6 rfl hl (by decide) rfl (fun ls hl => ?_)
  refine lv_aload_n hx hb dX1_printPage_7 rfl (lv_at hl 1 rfl) ?_
  refine lv_iload_n hx hb dX1_printPage_8 rfl (lv_at hl 0 rfl) ?_
  have hPs := k_self hP
  have hDs := k_selfD hD
  refine k_behi (X := []) (Y := []) (va_runV (As := [.int (ci x1.toNatClampNeg)]) (rest := []) ⟨hx, hb, hml, hown, hts⟩ (c_X1_refusal l D cI cC cQ H.size h0 a se ki ha sl ch ci dk li re dt la us sp rf (ci x1.toNatClampNeg)) (kcwV hts wd_ml_RX1_69 wd_im_yX1_refusal wd_sel_yX1_refusal wd_ini_RX1 wd_code_yX1_refusal rfl rfl rfl hd_X1_refusal ⟨Nat.le_of_ble_eq_true rfl, Nat.le_of_ble_eq_true rfl⟩) ⟨in_blind, va_recv hK (pa_l (pa_r hPs)) (ci := 1) (q0 := 0) rfl rfl, k_pre hK (pa_l (pa_r hPs)) (da_l (da_r hDs)) hN⟩ rfl rfl hl.1 rfl (lv_room (Nat.le_of_ble_eq_true rfl)) dX1_printPage_9 ⟨Nat.le_of_ble_eq_true rfl, Nat.le_of_ble_eq_true rfl⟩) hPs hDs hS hA (fun r1 u2 H locs hw3 hP hD hS => ?_)
  have hP := k_unP hP
  have hD := k_unD hD
  have hP : va_P D vwCl (MW cI h0 a se ki ha sl ch ci dk li re dt la us sp rf) H := hP
  have hD : va_D A (MW cI h0 a se ki ha sl ch ci dk li re dt la us sp rf) := hD
  have hw3 : r1 = (sh_X1_refusal se ha ch (ci x1.toNatClampNeg)) := hw3
  subst hw3
  refine lv_istore (lv' := [(4, .int (sh_X1_refusal se ha ch (ci x1.toNatClampNeg))), (3, .int (ci x1.toNatClampNeg)), (0, .ref h0), (1, .int x1), (2, .int x2)]) hx hb dX1_printPage_12 hl (by decide) rfl (fun ls hl => ?_)
  refine lv_iload hx hb dX1_printPage_14 (lv_at hl 0 rfl) ?_
  refine lv_if_eq (tgt := 32) hx hb dX1_printPage_16 (by decide) (fun c4 => ?_) (fun c4 => ?_)
  · have hq : Xq = (kb (sh_X1_useToner ha us (ci x1.toNatClampNeg) (sh_X1_tonerFor ki (ci x1.toNatClampNeg) x2 (se (0 : Int32).toNatClampNeg))) (fun z_r8 => (kb (if ((ch (ci x1.toNatClampNeg).toNatClampNeg) - (sh_X1_chipFor ki (ci x1.toNatClampNeg) x2 (se (0 : Int32).toNatClampNeg))) ≤ 0 then 0 else ((ch (ci x1.toNatClampNeg).toNatClampNeg) - (sh_X1_chipFor ki (ci x1.toNatClampNeg) x2 (se (0 : Int32).toNatClampNeg)))) (fun z_v18 => (kb (sh_X1_settleToner se z_r8.2.1 sl (ci x1.toNatClampNeg)) (fun z_f22 => (kb (if z_r8.1 = 100 then ((upd dk x1.toNatClampNeg ((dk x1.toNatClampNeg) + 1)), li) else (dk, (upd li x1.toNatClampNeg ((li x1.toNatClampNeg) + 1)))) (fun z_f26 => ((10 + z_r8.1), z_f22.1, z_f22.2, (upd ch (ci x1.toNatClampNeg).toNatClampNeg z_v18), z_f26.1, z_f26.2, re, (upd dt x1.toNatClampNeg ((dt x1.toNatClampNeg) + x2)), (upd la x1.toNatClampNeg z_r8.1), z_r8.2.2))))))))) := hq.trans (if_pos c4)
    refine lv_aload_n hx hb dX1_printPage_32 rfl (lv_at hl 2 rfl) ?_
    refine lv_iload_n hx hb dX1_printPage_33 rfl (lv_at hl 1 rfl) ?_
    refine lv_aload_n hx hb dX1_printPage_34 rfl (lv_at hl 2 rfl) ?_
    refine lv_iload_n hx hb dX1_printPage_35 rfl (lv_at hl 1 rfl) ?_
    refine lv_iload_n hx hb dX1_printPage_36 rfl (lv_at hl 4 rfl) ?_
    refine lv_aload_n hx hb dX1_printPage_37 rfl (lv_at hl 2 rfl) ?_
    refine va_get (D := D) (ci := 1) (v := .ref (a 0)) (C := RX1) (T := TX1) (N := 14) hx hb hts inA1 hown hK hP 0 rfl rfl 0 (by decide) (hts _ wd_fl_RX1_9) (fun _ h9 => h9) rfl dX1_printPage_38 ?_
    refine lv_iconst (v := 0) hx hb dX1_printPage_41 (by decide) ?_
    refine va_iald hx hb hK hP 1 0 rfl rfl (k_in (by decide)) dX1_printPage_42 ?_
    have hPs := k_self hP
    have hDs := k_selfD hD
    refine k_behi (X := []) (Y := []) (va_runV (As := [.int (ci x1.toNatClampNeg), .int x2, .int (se (0 : Int32).toNatClampNeg)]) (rest := [.int (ci x1.toNatClampNeg), .ref h0]) ⟨hx, hb, hml, hown, hts⟩ (c_X1_tonerFor l D cI cC cQ H.size h0 a se ki ha sl ch ci dk li re dt la us sp rf (ci x1.toNatClampNeg) x2 (se (0 : Int32).toNatClampNeg) ((refIn c4))) (kcwV hts wd_ml_RX1_61 wd_im_yX1_tonerFor wd_sel_yX1_tonerFor wd_ini_RX1 wd_code_yX1_tonerFor rfl rfl rfl hd_X1_tonerFor ⟨Nat.le_of_ble_eq_true rfl, Nat.le_of_ble_eq_true rfl⟩) ⟨in_blind, va_recv hK (pa_l (pa_r hPs)) (ci := 1) (q0 := 0) rfl rfl, k_pre hK (pa_l (pa_r hPs)) (da_l (da_r hDs)) hN⟩ rfl rfl hl.1 rfl (lv_room (Nat.le_of_ble_eq_true rfl)) dX1_printPage_43 ⟨Nat.le_of_ble_eq_true rfl, Nat.le_of_ble_eq_true rfl⟩) hPs hDs hS hA (fun r5 u6 H locs hw7 hP hD hS => ?_)
    have hP := k_unP hP
    have hD := k_unD hD
    have hP : va_P D vwCl (MW cI h0 a se ki ha sl ch ci dk li re dt la us sp rf) H := hP
    have hD : va_D A (MW cI h0 a se ki ha sl ch ci dk li re dt la us sp rf) := hD
    have hw7 : r5 = (sh_X1_tonerFor ki (ci x1.toNatClampNeg) x2 (se (0 : Int32).toNatClampNeg)) := hw7
    subst hw7
    have hPs := k_self hP
    have hDs := k_selfD hD
    refine k_behi (X := []) (Y := []) (va_runV (As := [.int (ci x1.toNatClampNeg), .int (sh_X1_tonerFor ki (ci x1.toNatClampNeg) x2 (se (0 : Int32).toNatClampNeg))]) (rest := []) ⟨hx, hb, hml, hown, hts⟩ (c_X1_useToner l D cI cC cQ H.size h0 a se ki ha sl ch ci dk li re dt la us sp rf (ci x1.toNatClampNeg) (sh_X1_tonerFor ki (ci x1.toNatClampNeg) x2 (se (0 : Int32).toNatClampNeg)) ((refIn c4))) (kcwV hts wd_ml_RX1_73 wd_im_yX1_useToner wd_sel_yX1_useToner wd_ini_RX1 wd_code_yX1_useToner rfl rfl rfl hd_X1_useToner ⟨Nat.le_of_ble_eq_true rfl, Nat.le_of_ble_eq_true rfl⟩) ⟨in_blind, va_recv hK (pa_l (pa_r hPs)) (ci := 1) (q0 := 0) rfl rfl, k_pre hK (pa_l (pa_r hPs)) (da_l (da_r hDs)) hN⟩ rfl rfl hl.1 rfl (lv_room (Nat.le_of_ble_eq_true rfl)) dX1_printPage_46 ⟨Nat.le_of_ble_eq_true rfl, Nat.le_of_ble_eq_true rfl⟩) hPs hDs hS hA (fun r8 u9 H locs hw10 hP hD hS => ?_)
    obtain ⟨f11, v12⟩ := u9
    have hP := k_unP hP
    have hD := k_unD hD
    have hP : va_P D vwCl (MW cI h0 a se ki f11 sl ch ci dk li re dt la v12 sp rf) H := hP
    have hD : va_D A (MW cI h0 a se ki f11 sl ch ci dk li re dt la v12 sp rf) := hD
    have hw10 : (r8, f11, v12) = (sh_X1_useToner ha us (ci x1.toNatClampNeg) (sh_X1_tonerFor ki (ci x1.toNatClampNeg) x2 (se (0 : Int32).toNatClampNeg))) := hw10
    have hq : Xq = (kb (if ((ch (ci x1.toNatClampNeg).toNatClampNeg) - (sh_X1_chipFor ki (ci x1.toNatClampNeg) x2 (se (0 : Int32).toNatClampNeg))) ≤ 0 then 0 else ((ch (ci x1.toNatClampNeg).toNatClampNeg) - (sh_X1_chipFor ki (ci x1.toNatClampNeg) x2 (se (0 : Int32).toNatClampNeg)))) (fun z_v18 => (kb (sh_X1_settleToner se f11 sl (ci x1.toNatClampNeg)) (fun z_f22 => (kb (if r8 = 100 then ((upd dk x1.toNatClampNeg ((dk x1.toNatClampNeg) + 1)), li) else (dk, (upd li x1.toNatClampNeg ((li x1.toNatClampNeg) + 1)))) (fun z_f26 => ((10 + r8), z_f22.1, z_f22.2, (upd ch (ci x1.toNatClampNeg).toNatClampNeg z_v18), z_f26.1, z_f26.2, re, (upd dt x1.toNatClampNeg ((dt x1.toNatClampNeg) + x2)), (upd la x1.toNatClampNeg r8), v12))))))) := by rw [← hw10] at hq; exact hq
    refine lv_istore (lv' := [(5, .int r8), (4, .int (sh_X1_refusal se ha ch (ci x1.toNatClampNeg))), (3, .int (ci x1.toNatClampNeg)), (0, .ref h0), (1, .int x1), (2, .int x2)]) hx hb dX1_printPage_49 hl (by decide) rfl (fun ls hl => ?_)
    refine lv_aload_n hx hb dX1_printPage_51 rfl (lv_at hl 3 rfl) ?_
    refine va_get (D := D) (ci := 1) (v := .ref (a 4)) (C := RX1) (T := TX1) (N := 14) hx hb hts inA1 hown hK hP 0 rfl rfl 4 (by decide) (hts _ wd_fl_RX1_24) (fun _ h9 => h9) rfl dX1_printPage_52 ?_
    refine lv_iload_n hx hb dX1_printPage_55 rfl (lv_at hl 2 rfl) ?_
    refine va_iald hx hb hK hP 5 0 rfl rfl (refIn c4) dX1_printPage_56 ?_
    refine lv_aload_n hx hb dX1_printPage_57 rfl (lv_at hl 3 rfl) ?_
    refine lv_iload_n hx hb dX1_printPage_58 rfl (lv_at hl 2 rfl) ?_
    refine lv_iload_n hx hb dX1_printPage_59 rfl (lv_at hl 5 rfl) ?_
    refine lv_aload_n hx hb dX1_printPage_60 rfl (lv_at hl 3 rfl) ?_
    refine va_get (D := D) (ci := 1) (v := .ref (a 0)) (C := RX1) (T := TX1) (N := 14) hx hb hts inA1 hown hK hP 0 rfl rfl 0 (by decide) (hts _ wd_fl_RX1_9) (fun _ h9 => h9) rfl dX1_printPage_61 ?_
    refine lv_iconst (v := 0) hx hb dX1_printPage_64 (by decide) ?_
    refine va_iald hx hb hK hP 1 0 rfl rfl (k_in (by decide)) dX1_printPage_65 ?_
    have hPs := k_self hP
    have hDs := k_selfD hD
    refine k_behi (X := []) (Y := []) (va_runV (As := [.int (ci x1.toNatClampNeg), .int x2, .int (se (0 : Int32).toNatClampNeg)]) (rest := [.int (ch (ci x1.toNatClampNeg).toNatClampNeg)]) ⟨hx, hb, hml, hown, hts⟩ (c_X1_chipFor l D cI cC cQ H.size h0 a se ki f11 sl ch ci dk li re dt la v12 sp rf (ci x1.toNatClampNeg) x2 (se (0 : Int32).toNatClampNeg) ((refIn c4))) (kcwV hts wd_ml_RX1_77 wd_im_yX1_chipFor wd_sel_yX1_chipFor wd_ini_RX1 wd_code_yX1_chipFor rfl rfl rfl hd_X1_chipFor ⟨Nat.le_of_ble_eq_true rfl, Nat.le_of_ble_eq_true rfl⟩) ⟨in_blind, va_recv hK (pa_l (pa_r hPs)) (ci := 1) (q0 := 0) rfl rfl, k_pre hK (pa_l (pa_r hPs)) (da_l (da_r hDs)) hN⟩ rfl rfl hl.1 rfl (lv_room (Nat.le_of_ble_eq_true rfl)) dX1_printPage_66 ⟨Nat.le_of_ble_eq_true rfl, Nat.le_of_ble_eq_true rfl⟩) hPs hDs hS hA (fun r13 u14 H locs hw15 hP hD hS => ?_)
    have hP := k_unP hP
    have hD := k_unD hD
    have hP : va_P D vwCl (MW cI h0 a se ki f11 sl ch ci dk li re dt la v12 sp rf) H := hP
    have hD : va_D A (MW cI h0 a se ki f11 sl ch ci dk li re dt la v12 sp rf) := hD
    have hw15 : r13 = (sh_X1_chipFor ki (ci x1.toNatClampNeg) x2 (se (0 : Int32).toNatClampNeg)) := hw15
    subst hw15
    refine lv_isub hx hb dX1_printPage_69 ?_
    refine lv_istore (lv' := [(6, .int ((ch (ci x1.toNatClampNeg).toNatClampNeg) - (sh_X1_chipFor ki (ci x1.toNatClampNeg) x2 (se (0 : Int32).toNatClampNeg)))), (5, .int r8), (4, .int (sh_X1_refusal se ha ch (ci x1.toNatClampNeg))), (3, .int (ci x1.toNatClampNeg)), (0, .ref h0), (1, .int x1), (2, .int x2)]) hx hb dX1_printPage_70 hl (by decide) rfl (fun ls hl => ?_)
    refine lv_aload_n hx hb dX1_printPage_72 rfl (lv_at hl 4 rfl) ?_
    refine va_get (D := D) (ci := 1) (v := .ref (a 4)) (C := RX1) (T := TX1) (N := 14) hx hb hts inA1 hown hK hP 0 rfl rfl 4 (by decide) (hts _ wd_fl_RX1_24) (fun _ h9 => h9) rfl dX1_printPage_73 ?_
    refine lv_iload_n hx hb dX1_printPage_76 rfl (lv_at hl 3 rfl) ?_
    refine lv_iload hx hb dX1_printPage_77 (lv_at hl 0 rfl) ?_
    have K : ∀ (v18 : Int32) (H : Heap) (locs : List Loc) (ls : Array Slot), v18 = (if ((ch (ci x1.toNatClampNeg).toNatClampNeg) - (sh_X1_chipFor ki (ci x1.toNatClampNeg) x2 (se (0 : Int32).toNatClampNeg))) ≤ 0 then 0 else ((ch (ci x1.toNatClampNeg).toNatClampNeg) - (sh_X1_chipFor ki (ci x1.toNatClampNeg) x2 (se (0 : Int32).toNatClampNeg)))) → va_P D vwCl (MW cI h0 a se ki f11 sl ch ci dk li re dt la v12 sp rf) H → va_D A (MW cI h0 a se ki f11 sl ch ci dk li re dt la v12 sp rf) → va_S A s.heap H locs → lv_has ls 7 [(0, .ref h0), (1, .int x1), (2, .int x2), (3, .int (ci x1.toNatClampNeg)), (4, .int (sh_X1_refusal se ha ch (ci x1.toNatClampNeg))), (5, .int r8), (6, .int ((ch (ci x1.toNatClampNeg).toNatClampNeg) - (sh_X1_chipFor ki (ci x1.toNatClampNeg) x2 (se (0 : Int32).toNatClampNeg))))] → W p l e rm_X1_printPage s m args below meth c H locs 0 0 Q (F0 m 88 ls [.int v18, .int (ci x1.toNatClampNeg), .ref (a 4)]) := by
      intro v18 H locs ls hv17 hP hD hS hl
      have hq : Xq = (kb (sh_X1_settleToner se f11 sl (ci x1.toNatClampNeg)) (fun z_f22 => (kb (if r8 = 100 then ((upd dk x1.toNatClampNeg ((dk x1.toNatClampNeg) + 1)), li) else (dk, (upd li x1.toNatClampNeg ((li x1.toNatClampNeg) + 1)))) (fun z_f26 => ((10 + r8), z_f22.1, z_f22.2, (upd ch (ci x1.toNatClampNeg).toNatClampNeg v18), z_f26.1, z_f26.2, re, (upd dt x1.toNatClampNeg ((dt x1.toNatClampNeg) + x2)), (upd la x1.toNatClampNeg r8), v12))))) := by rw [← hv17] at hq; exact hq
      refine va_iast hx hb hK hP hD hS 5 0 rfl rfl (refIn c4) dX1_printPage_88 (fun H locs hP hD hS => ?_)
      have hP : va_P D vwCl (MW cI h0 a se ki f11 sl (upd ch (ci x1.toNatClampNeg).toNatClampNeg v18) ci dk li re dt la v12 sp rf) H := hP
      have hD : va_D A (MW cI h0 a se ki f11 sl (upd ch (ci x1.toNatClampNeg).toNatClampNeg v18) ci dk li re dt la v12 sp rf) := hD
      refine lv_aload_n hx hb dX1_printPage_89 rfl (lv_at hl 0 rfl) ?_
      refine lv_iload_n hx hb dX1_printPage_90 rfl (lv_at hl 3 rfl) ?_
      have hPs := k_self hP
      have hDs := k_selfD hD
      refine k_behv (X := []) (Y := []) (va_runV (As := [.int (ci x1.toNatClampNeg)]) (rest := []) ⟨hx, hb, hml, hown, hts⟩ (c_X1_settleToner l D cI cC cQ H.size h0 a se ki f11 sl (upd ch (ci x1.toNatClampNeg).toNatClampNeg v18) ci dk li re dt la v12 sp rf (ci x1.toNatClampNeg) ((refIn c4))) (kcwV hts wd_ml_RX1_80 wd_im_yX1_settleToner wd_sel_yX1_settleToner wd_ini_RX1 wd_code_yX1_settleToner rfl rfl rfl hd_X1_settleToner ⟨Nat.le_of_ble_eq_true rfl, Nat.le_of_ble_eq_true rfl⟩) ⟨in_blind, va_recv hK (pa_l (pa_r hPs)) (ci := 1) (q0 := 0) rfl rfl, k_pre hK (pa_l (pa_r hPs)) (da_l (da_r hDs)) hN⟩ rfl rfl hl.1 rfl (lv_room (Nat.le_of_ble_eq_true rfl)) dX1_printPage_91 ⟨Nat.le_of_ble_eq_true rfl, Nat.le_of_ble_eq_true rfl⟩) hPs hDs hS hA (fun u20 H locs hw21 hP hD hS => ?_)
      obtain ⟨f22, f23⟩ := u20
      have hP := k_unP hP
      have hD := k_unD hD
      have hP : va_P D vwCl (MW cI h0 a se ki f22 f23 (upd ch (ci x1.toNatClampNeg).toNatClampNeg v18) ci dk li re dt la v12 sp rf) H := hP
      have hD : va_D A (MW cI h0 a se ki f22 f23 (upd ch (ci x1.toNatClampNeg).toNatClampNeg v18) ci dk li re dt la v12 sp rf) := hD
      have hw21 : (f22, f23) = (sh_X1_settleToner se f11 sl (ci x1.toNatClampNeg)) := hw21
      have hq : Xq = (kb (if r8 = 100 then ((upd dk x1.toNatClampNeg ((dk x1.toNatClampNeg) + 1)), li) else (dk, (upd li x1.toNatClampNeg ((li x1.toNatClampNeg) + 1)))) (fun z_f26 => ((10 + r8), f22, f23, (upd ch (ci x1.toNatClampNeg).toNatClampNeg v18), z_f26.1, z_f26.2, re, (upd dt x1.toNatClampNeg ((dt x1.toNatClampNeg) + x2)), (upd la x1.toNatClampNeg r8), v12))) := by rw [← hw21] at hq; exact hq
      refine lv_iload hx hb dX1_printPage_94 (lv_at hl 5 rfl) ?_
      refine lv_bipush (v := 100) hx hb dX1_printPage_96 (by decide) ?_
      have K : ∀ (f26 : Nat → Int32) (f27 : Nat → Int32) (H : Heap) (locs : List Loc) (ls : Array Slot), (f26, f27) = (if r8 = 100 then ((upd dk x1.toNatClampNeg ((dk x1.toNatClampNeg) + 1)), li) else (dk, (upd li x1.toNatClampNeg ((li x1.toNatClampNeg) + 1)))) → va_P D vwCl (MW cI h0 a se ki f22 f23 (upd ch (ci x1.toNatClampNeg).toNatClampNeg v18) ci f26 f27 re dt la v12 sp rf) H → va_D A (MW cI h0 a se ki f22 f23 (upd ch (ci x1.toNatClampNeg).toNatClampNeg v18) ci f26 f27 re dt la v12 sp rf) → va_S A s.heap H locs → lv_has ls 7 [(0, .ref h0), (1, .int x1), (2, .int x2), (3, .int (ci x1.toNatClampNeg)), (4, .int (sh_X1_refusal se ha ch (ci x1.toNatClampNeg))), (5, .int r8), (6, .int ((ch (ci x1.toNatClampNeg).toNatClampNeg) - (sh_X1_chipFor ki (ci x1.toNatClampNeg) x2 (se (0 : Int32).toNatClampNeg))))] → W p l e rm_X1_printPage s m args below meth c H locs 0 0 Q (F0 m 124 ls []) := by
        intro f26 f27 H locs ls hv25 hP hD hS hl
        have hq : Xq = ((10 + r8), f22, f23, (upd ch (ci x1.toNatClampNeg).toNatClampNeg v18), f26, f27, re, (upd dt x1.toNatClampNeg ((dt x1.toNatClampNeg) + x2)), (upd la x1.toNatClampNeg r8), v12) := by rw [← hv25] at hq; exact hq
        refine lv_aload_n hx hb dX1_printPage_124 rfl (lv_at hl 0 rfl) ?_
        refine va_get (D := D) (ci := 1) (v := .ref (a 9)) (C := RX1) (T := TX1) (N := 14) hx hb hts inA1 hown hK hP 0 rfl rfl 9 (by decide) (hts _ wd_fl_RX1_39) (fun _ h9 => h9) rfl dX1_printPage_125 ?_
        refine lv_iload_n hx hb dX1_printPage_128 rfl (lv_at hl 1 rfl) ?_
        refine lv_dup2_11 hx hb dX1_printPage_129 rfl rfl ?_
        refine va_iald hx hb hK hP 10 0 rfl rfl hi_x1 dX1_printPage_130 ?_
        refine lv_iload_n hx hb dX1_printPage_131 rfl (lv_at hl 2 rfl) ?_
        refine lv_iadd hx hb dX1_printPage_132 ?_
        refine va_iast hx hb hK hP hD hS 10 0 rfl rfl hi_x1 dX1_printPage_133 (fun H locs hP hD hS => ?_)
        have hP : va_P D vwCl (MW cI h0 a se ki f22 f23 (upd ch (ci x1.toNatClampNeg).toNatClampNeg v18) ci f26 f27 re (upd dt x1.toNatClampNeg ((dt x1.toNatClampNeg) + x2)) la v12 sp rf) H := hP
        have hD : va_D A (MW cI h0 a se ki f22 f23 (upd ch (ci x1.toNatClampNeg).toNatClampNeg v18) ci f26 f27 re (upd dt x1.toNatClampNeg ((dt x1.toNatClampNeg) + x2)) la v12 sp rf) := hD
        refine lv_aload_n hx hb dX1_printPage_134 rfl (lv_at hl 0 rfl) ?_
        refine va_get (D := D) (ci := 1) (v := .ref (a 10)) (C := RX1) (T := TX1) (N := 14) hx hb hts inA1 hown hK hP 0 rfl rfl 10 (by decide) (hts _ wd_fl_RX1_42) (fun _ h9 => h9) rfl dX1_printPage_135 ?_
        refine lv_iload_n hx hb dX1_printPage_138 rfl (lv_at hl 1 rfl) ?_
        refine lv_iload hx hb dX1_printPage_139 (lv_at hl 5 rfl) ?_
        refine va_iast hx hb hK hP hD hS 11 0 rfl rfl hi_x1 dX1_printPage_141 (fun H locs hP hD hS => ?_)
        have hP : va_P D vwCl (MW cI h0 a se ki f22 f23 (upd ch (ci x1.toNatClampNeg).toNatClampNeg v18) ci f26 f27 re (upd dt x1.toNatClampNeg ((dt x1.toNatClampNeg) + x2)) (upd la x1.toNatClampNeg r8) v12 sp rf) H := hP
        have hD : va_D A (MW cI h0 a se ki f22 f23 (upd ch (ci x1.toNatClampNeg).toNatClampNeg v18) ci f26 f27 re (upd dt x1.toNatClampNeg ((dt x1.toNatClampNeg) + x2)) (upd la x1.toNatClampNeg r8) v12 sp rf) := hD
        refine lv_bipush (v := 10) hx hb dX1_printPage_142 (by decide) ?_
        refine lv_iload hx hb dX1_printPage_144 (lv_at hl 5 rfl) ?_
        refine lv_iadd hx hb dX1_printPage_146 ?_
        exact hret _ _ _ _ ((10 + r8)) (f22, f23, (upd ch (ci x1.toNatClampNeg).toNatClampNeg v18), f26, f27, re, (upd dt x1.toNatClampNeg ((dt x1.toNatClampNeg) + x2)), (upd la x1.toNatClampNeg r8), v12) dX1_printPage_147 rfl (hq.symm.trans hX) hP hD hS
      refine lv_icmp_ne (tgt := 114) hx hb dX1_printPage_98 (by decide) (fun c24 => ?_) (fun c24 => ?_)
      · skip
        refine lv_aload_n hx hb dX1_printPage_114 rfl (lv_at hl 0 rfl) ?_
        refine va_get (D := D) (ci := 1) (v := .ref (a 7)) (C := RX1) (T := TX1) (N := 14) hx hb hts inA1 hown hK hP 0 rfl rfl 7 (by decide) (hts _ wd_fl_RX1_33) (fun _ h9 => h9) rfl dX1_printPage_115 ?_
        refine lv_iload_n hx hb dX1_printPage_118 rfl (lv_at hl 1 rfl) ?_
        refine lv_dup2_11 hx hb dX1_printPage_119 rfl rfl ?_
        refine va_iald hx hb hK hP 8 0 rfl rfl hi_x1 dX1_printPage_120 ?_
        refine lv_iconst (v := 1) hx hb dX1_printPage_121 (by decide) ?_
        refine lv_iadd hx hb dX1_printPage_122 ?_
        refine va_iast hx hb hK hP hD hS 8 0 rfl rfl hi_x1 dX1_printPage_123 (fun H locs hP hD hS => ?_)
        have hP : va_P D vwCl (MW cI h0 a se ki f22 f23 (upd ch (ci x1.toNatClampNeg).toNatClampNeg v18) ci dk (upd li x1.toNatClampNeg ((li x1.toNatClampNeg) + 1)) re dt la v12 sp rf) H := hP
        have hD : va_D A (MW cI h0 a se ki f22 f23 (upd ch (ci x1.toNatClampNeg).toNatClampNeg v18) ci dk (upd li x1.toNatClampNeg ((li x1.toNatClampNeg) + 1)) re dt la v12 sp rf) := hD
        exact K (dk) ((upd li x1.toNatClampNeg ((li x1.toNatClampNeg) + 1))) _ _ _ (by rw [if_neg c24]) hP hD hS (lv_sub hl [0, 1, 2, 3, 4, 5, 6] rfl)
      · skip
        refine lv_aload_n hx hb dX1_printPage_101 rfl (lv_at hl 0 rfl) ?_
        refine va_get (D := D) (ci := 1) (v := .ref (a 6)) (C := RX1) (T := TX1) (N := 14) hx hb hts inA1 hown hK hP 0 rfl rfl 6 (by decide) (hts _ wd_fl_RX1_30) (fun _ h9 => h9) rfl dX1_printPage_102 ?_
        refine lv_iload_n hx hb dX1_printPage_105 rfl (lv_at hl 1 rfl) ?_
        refine lv_dup2_11 hx hb dX1_printPage_106 rfl rfl ?_
        refine va_iald hx hb hK hP 7 0 rfl rfl hi_x1 dX1_printPage_107 ?_
        refine lv_iconst (v := 1) hx hb dX1_printPage_108 (by decide) ?_
        refine lv_iadd hx hb dX1_printPage_109 ?_
        refine va_iast hx hb hK hP hD hS 7 0 rfl rfl hi_x1 dX1_printPage_110 (fun H locs hP hD hS => ?_)
        have hP : va_P D vwCl (MW cI h0 a se ki f22 f23 (upd ch (ci x1.toNatClampNeg).toNatClampNeg v18) ci (upd dk x1.toNatClampNeg ((dk x1.toNatClampNeg) + 1)) li re dt la v12 sp rf) H := hP
        have hD : va_D A (MW cI h0 a se ki f22 f23 (upd ch (ci x1.toNatClampNeg).toNatClampNeg v18) ci (upd dk x1.toNatClampNeg ((dk x1.toNatClampNeg) + 1)) li re dt la v12 sp rf) := hD
        refine lv_goto (tgt := 124) hx hb dX1_printPage_111 (by decide) ?_
        exact K ((upd dk x1.toNatClampNeg ((dk x1.toNatClampNeg) + 1))) (li) _ _ _ (by rw [if_pos c24]) hP hD hS (lv_sub hl [0, 1, 2, 3, 4, 5, 6] rfl)
    refine lv_if_le (tgt := 87) hx hb dX1_printPage_79 (by decide) (fun c16 => ?_) (fun c16 => ?_)
    · skip
      refine lv_iconst (v := 0) hx hb dX1_printPage_87 (by decide) ?_
      exact K (0) _ _ _ (by rw [if_pos c16]) hP hD hS (lv_sub hl [4, 5, 6, 3, 2, 1, 0] rfl)
    · skip
      refine lv_iload hx hb dX1_printPage_82 (lv_at hl 0 rfl) ?_
      refine lv_goto (tgt := 88) hx hb dX1_printPage_84 (by decide) ?_
      exact K (((ch (ci x1.toNatClampNeg).toNatClampNeg) - (sh_X1_chipFor ki (ci x1.toNatClampNeg) x2 (se (0 : Int32).toNatClampNeg)))) _ _ _ (by rw [if_neg c16]) hP hD hS (lv_sub hl [4, 5, 6, 3, 2, 1, 0] rfl)
  · have hq : Xq = ((sh_X1_refusal se ha ch (ci x1.toNatClampNeg)), ha, sl, ch, dk, li, (upd re x1.toNatClampNeg ((re x1.toNatClampNeg) + 1)), dt, la, us) := hq.trans (if_neg c4)
    refine lv_aload_n hx hb dX1_printPage_19 rfl (lv_at hl 2 rfl) ?_
    refine va_get (D := D) (ci := 1) (v := .ref (a 8)) (C := RX1) (T := TX1) (N := 14) hx hb hts inA1 hown hK hP 0 rfl rfl 8 (by decide) (hts _ wd_fl_RX1_36) (fun _ h9 => h9) rfl dX1_printPage_20 ?_
    refine lv_iload_n hx hb dX1_printPage_23 rfl (lv_at hl 3 rfl) ?_
    refine lv_dup2_11 hx hb dX1_printPage_24 rfl rfl ?_
    refine va_iald hx hb hK hP 9 0 rfl rfl hi_x1 dX1_printPage_25 ?_
    refine lv_iconst (v := 1) hx hb dX1_printPage_26 (by decide) ?_
    refine lv_iadd hx hb dX1_printPage_27 ?_
    refine va_iast hx hb hK hP hD hS 9 0 rfl rfl hi_x1 dX1_printPage_28 (fun H locs hP hD hS => ?_)
    have hP : va_P D vwCl (MW cI h0 a se ki ha sl ch ci dk li (upd re x1.toNatClampNeg ((re x1.toNatClampNeg) + 1)) dt la us sp rf) H := hP
    have hD : va_D A (MW cI h0 a se ki ha sl ch ci dk li (upd re x1.toNatClampNeg ((re x1.toNatClampNeg) + 1)) dt la us sp rf) := hD
    refine lv_iload hx hb dX1_printPage_29 (lv_at hl 0 rfl) ?_
    exact hret _ _ _ _ ((sh_X1_refusal se ha ch (ci x1.toNatClampNeg))) (ha, sl, ch, dk, li, (upd re x1.toNatClampNeg ((re x1.toNatClampNeg) + 1)), dt, la, us) dX1_printPage_31 rfl (hq.symm.trans hX) hP hD hS
def sh_X1_moveCup (ha : Nat → Int32) (ci : Nat → Int32) (sp : Int32) (x1 : Int32) (x2 : Int32) : Int32 × (Nat → Int32) × (Nat → Int32) × (Int32) := (if (ci x2.toNatClampNeg) = x1 then (0, ha, ci, sp) else (if (sh_X4_isPrinter (sh_X1_printerOf ci x1)) = 0 then (kb (sh_X1_empty ha ci sp x2) (fun z_f12 => ((z_f12.2.2 - sp), z_f12.1, (upd z_f12.2.1 x2.toNatClampNeg x1), z_f12.2.2))) else (kb (sh_X1_empty ha ci sp (sh_X1_printerOf ci x1)) (fun z_f18 => (kb (sh_X1_empty z_f18.1 z_f18.2.1 z_f18.2.2 x2) (fun z_f24 => ((z_f24.2.2 - sp), z_f24.1, (upd z_f24.2.1 x2.toNatClampNeg x1), z_f24.2.2)))))))
abbrev rm_X1_moveCup : Room := { frames := 2, cells := 0, slots := 0, locals := 43 }
theorem hd_X1_moveCup : hdT yX1_moveCup 2 := by decide +kernel
set_option maxHeartbeats 4000000 in
set_option maxRecDepth 100000 in
theorem c_X1_moveCup (l : Launch) (D : va_G) (cI cC cQ : ClassId) (sz : Nat) (h0 : Nat) (a : Nat → Nat) (se : Nat → Int32) (ki : Nat → Int32) (ha : Nat → Int32) (sl : Nat → Int32) (ch : Nat → Int32) (ci : Nat → Int32) (dk : Nat → Int32) (li : Nat → Int32) (re : Nat → Int32) (dt : Nat → Int32) (la : Nat → Int32) (us : Int32) (sp : Int32) (rf : Int32) (x1 : Int32) (x2 : Int32) (hi_x2 : vp_in x2 2) : Met l yX1_moveCup (wsO yX1_moveCup cX1_moveCup 5 (some .int)) rm_X1_moveCup (va_Pc [.ref h0, .int x1, .int x2] (inW D (TYS cI cC cQ) (MW cI h0 a se ki ha sl ch ci dk li re dt la us sp rf) sz)) (va_Qi (fun (r : Int32) (u : (Nat → Int32) × (Nat → Int32) × (Int32)) => (r, u) = sh_X1_moveCup ha ci sp x1 x2) (fun (u : (Nat → Int32) × (Nat → Int32) × (Int32)) => atW D (TYS cI cC cQ) (va_A (MW cI h0 a se ki ha sl ch ci dk li re dt la us sp rf) sz) (MW cI h0 a se ki u.1 sl ch u.2.1 dk li re dt la us u.2.2 rf)) (va_A (MW cI h0 a se ki ha sl ch ci dk li re dt la us sp rf) sz)) 0 0 (va_A (MW cI h0 a se ki ha sl ch ci dk li re dt la us sp rf) sz) := by
  refine k_meti .int rfl (by decide) (Nat.le_of_ble_eq_true rfl) ?_
  intro p e s m args below meth c A ls Q H locs hargs hret hx hb hts hown hml hname hN hA hS hP hK hD hl
  have hl : lv_has ls 5 [(0, .ref h0), (1, .int x1), (2, .int x2)] := hl
  obtain ⟨Xq, hX⟩ : ∃ Xq, Xq = sh_X1_moveCup ha ci sp x1 x2 := ⟨_, rfl⟩
  have hq : Xq = (if (ci x2.toNatClampNeg) = x1 then (0, ha, ci, sp) else (if (sh_X4_isPrinter (sh_X1_printerOf ci x1)) = 0 then (kb (sh_X1_empty ha ci sp x2) (fun z_f12 => ((z_f12.2.2 - sp), z_f12.1, (upd z_f12.2.1 x2.toNatClampNeg x1), z_f12.2.2))) else (kb (sh_X1_empty ha ci sp (sh_X1_printerOf ci x1)) (fun z_f18 => (kb (sh_X1_empty z_f18.1 z_f18.2.1 z_f18.2.2 x2) (fun z_f24 => ((z_f24.2.2 - sp), z_f24.1, (upd z_f24.2.1 x2.toNatClampNeg x1), z_f24.2.2))))))) := hX
  refine lv_aload_n hx hb dX1_moveCup_0 rfl (lv_at hl 0 rfl) ?_
  refine va_get (D := D) (ci := 1) (v := .ref (a 5)) (C := RX1) (T := TX1) (N := 14) hx hb hts inA1 hown hK hP 0 rfl rfl 5 (by decide) (hts _ wd_fl_RX1_27) (fun _ h9 => h9) rfl dX1_moveCup_1 ?_
  refine lv_iload_n hx hb dX1_moveCup_4 rfl (lv_at hl 2 rfl) ?_
  refine va_iald hx hb hK hP 6 0 rfl rfl hi_x2 dX1_moveCup_5 ?_
  refine lv_iload_n hx hb dX1_moveCup_6 rfl (lv_at hl 1 rfl) ?_
  refine lv_icmp_ne (tgt := 12) hx hb dX1_moveCup_7 (by decide) (fun c1 => ?_) (fun c1 => ?_)
  · have hq : Xq = (if (sh_X4_isPrinter (sh_X1_printerOf ci x1)) = 0 then (kb (sh_X1_empty ha ci sp x2) (fun z_f12 => ((z_f12.2.2 - sp), z_f12.1, (upd z_f12.2.1 x2.toNatClampNeg x1), z_f12.2.2))) else (kb (sh_X1_empty ha ci sp (sh_X1_printerOf ci x1)) (fun z_f18 => (kb (sh_X1_empty z_f18.1 z_f18.2.1 z_f18.2.2 x2) (fun z_f24 => ((z_f24.2.2 - sp), z_f24.1, (upd z_f24.2.1 x2.toNatClampNeg x1), z_f24.2.2)))))) := hq.trans (if_neg c1)
    refine lv_aload_n hx hb dX1_moveCup_12 rfl (lv_at hl 0 rfl) ?_
    refine va_get (D := D) (ci := 1) (v := .int sp) (C := RX1) (T := TX1) (N := 14) hx hb hts inA1 hown hK hP 0 rfl rfl 12 (by decide) (hts _ wd_fl_RX1_49) (fun _ h9 => h9) rfl dX1_moveCup_13 ?_
    refine lv_istore_n (lv' := [(3, .int sp), (0, .ref h0), (1, .int x1), (2, .int x2)]) hx hb dX1_moveCup_16 rfl hl (by decide) rfl (fun ls hl => ?_)
    refine lv_aload_n hx hb dX1_moveCup_17 rfl (lv_at hl 1 rfl) ?_
    refine lv_iload_n hx hb dX1_moveCup_18 rfl (lv_at hl 2 rfl) ?_
    have hPs := k_self hP
    have hDs := k_selfD hD
    refine k_behi (X := []) (Y := []) (va_runV (As := [.int x1]) (rest := []) ⟨hx, hb, hml, hown, hts⟩ (c_X1_printerOf l D cI cC cQ H.size h0 a se ki ha sl ch ci dk li re dt la us sp rf x1) (kcwV hts wd_ml_RX1_87 wd_im_yX1_printerOf wd_sel_yX1_printerOf wd_ini_RX1 wd_code_yX1_printerOf rfl rfl rfl hd_X1_printerOf ⟨Nat.le_of_ble_eq_true rfl, Nat.le_of_ble_eq_true rfl⟩) ⟨in_blind, va_recv hK (pa_l (pa_r hPs)) (ci := 1) (q0 := 0) rfl rfl, k_pre hK (pa_l (pa_r hPs)) (da_l (da_r hDs)) hN⟩ rfl rfl hl.1 rfl (lv_room (Nat.le_of_ble_eq_true rfl)) dX1_moveCup_19 ⟨Nat.le_of_ble_eq_true rfl, Nat.le_of_ble_eq_true rfl⟩) hPs hDs hS hA (fun r2 u3 H locs hw4 hP hD hS => ?_)
    have hP := k_unP hP
    have hD := k_unD hD
    have hP : va_P D vwCl (MW cI h0 a se ki ha sl ch ci dk li re dt la us sp rf) H := hP
    have hD : va_D A (MW cI h0 a se ki ha sl ch ci dk li re dt la us sp rf) := hD
    have hw4 : r2 = (sh_X1_printerOf ci x1) := hw4
    subst hw4
    refine lv_istore (lv' := [(4, .int (sh_X1_printerOf ci x1)), (3, .int sp), (0, .ref h0), (1, .int x1), (2, .int x2)]) hx hb dX1_moveCup_22 hl (by decide) rfl (fun ls hl => ?_)
    refine lv_iload hx hb dX1_moveCup_24 (lv_at hl 0 rfl) ?_
    have hPs : va_P D vwCl ([] ++ ([] ++ (MW cI h0 a se ki ha sl ch ci dk li re dt la us sp rf))) H := hP
    have hDs : va_D A ([] ++ ([] ++ (MW cI h0 a se ki ha sl ch ci dk li re dt la us sp rf))) := hD
    refine k_behi (X := []) (Y := (MW cI h0 a se ki ha sl ch ci dk li re dt la us sp rf)) (va_runSN (As := [.int (sh_X1_printerOf ci x1)]) (rest := []) ⟨hx, hb, hml, hown, hts⟩ (c_X4_isPrinter l D cI cC cQ H.size (sh_X1_printerOf ci x1)) ⟨kcnB hts hN wn_nl_RX1_90 wd_ini_RX4 wd_code_yX4_isPrinter rfl rfl hd_X4_isPrinter ⟨Nat.le_of_ble_eq_true rfl, Nat.le_of_ble_eq_true rfl⟩, hts _ wd_st_yX4_isPrinter, trivial⟩ ⟨in_blind, k_pre hK (pa_l (pa_r hPs)) (da_l (da_r hDs)) hN⟩ rfl rfl hl.1 rfl (lv_room (Nat.le_of_ble_eq_true rfl)) dX1_moveCup_26 ⟨Nat.le_of_ble_eq_true rfl, Nat.le_of_ble_eq_true rfl⟩) hPs hDs hS hA (fun r5 u6 H locs hw7 hP hD hS => ?_)
    have hP : va_P D vwCl (MW cI h0 a se ki ha sl ch ci dk li re dt la us sp rf) H := hP
    have hD : va_D A (MW cI h0 a se ki ha sl ch ci dk li re dt la us sp rf) := hD
    have hw7 : r5 = (sh_X4_isPrinter (sh_X1_printerOf ci x1)) := hw7
    subst hw7
    refine lv_if_eq (tgt := 38) hx hb dX1_moveCup_29 (by decide) (fun c8 => ?_) (fun c8 => ?_)
    · have hq : Xq = (kb (sh_X1_empty ha ci sp x2) (fun z_f12 => ((z_f12.2.2 - sp), z_f12.1, (upd z_f12.2.1 x2.toNatClampNeg x1), z_f12.2.2))) := hq.trans (if_pos c8)
      refine lv_aload_n hx hb dX1_moveCup_38 rfl (lv_at hl 2 rfl) ?_
      refine lv_iload_n hx hb dX1_moveCup_39 rfl (lv_at hl 4 rfl) ?_
      have hPs := k_self hP
      have hDs := k_selfD hD
      refine k_behv (X := []) (Y := []) (va_runV (As := [.int x2]) (rest := []) ⟨hx, hb, hml, hown, hts⟩ (c_X1_empty l D cI cC cQ H.size h0 a se ki ha sl ch ci dk li re dt la us sp rf x2 (hi_x2)) (kcwV hts wd_ml_RX1_93 wd_im_yX1_empty wd_sel_yX1_empty wd_ini_RX1 wd_code_yX1_empty rfl rfl rfl hd_X1_empty ⟨Nat.le_of_ble_eq_true rfl, Nat.le_of_ble_eq_true rfl⟩) ⟨in_blind, va_recv hK (pa_l (pa_r hPs)) (ci := 1) (q0 := 0) rfl rfl, k_pre hK (pa_l (pa_r hPs)) (da_l (da_r hDs)) hN⟩ rfl rfl hl.1 rfl (lv_room (Nat.le_of_ble_eq_true rfl)) dX1_moveCup_40 ⟨Nat.le_of_ble_eq_true rfl, Nat.le_of_ble_eq_true rfl⟩) hPs hDs hS hA (fun u10 H locs hw11 hP hD hS => ?_)
      obtain ⟨f12, f13, v14⟩ := u10
      have hP := k_unP hP
      have hD := k_unD hD
      have hP : va_P D vwCl (MW cI h0 a se ki f12 sl ch f13 dk li re dt la us v14 rf) H := hP
      have hD : va_D A (MW cI h0 a se ki f12 sl ch f13 dk li re dt la us v14 rf) := hD
      have hw11 : (f12, f13, v14) = (sh_X1_empty ha ci sp x2) := hw11
      have hq : Xq = ((v14 - sp), f12, (upd f13 x2.toNatClampNeg x1), v14) := by rw [← hw11] at hq; exact hq
      refine lv_aload_n hx hb dX1_moveCup_43 rfl (lv_at hl 2 rfl) ?_
      refine va_get (D := D) (ci := 1) (v := .ref (a 5)) (C := RX1) (T := TX1) (N := 14) hx hb hts inA1 hown hK hP 0 rfl rfl 5 (by decide) (hts _ wd_fl_RX1_27) (fun _ h9 => h9) rfl dX1_moveCup_44 ?_
      refine lv_iload_n hx hb dX1_moveCup_47 rfl (lv_at hl 4 rfl) ?_
      refine lv_iload_n hx hb dX1_moveCup_48 rfl (lv_at hl 3 rfl) ?_
      refine va_iast hx hb hK hP hD hS 6 0 rfl rfl hi_x2 dX1_moveCup_49 (fun H locs hP hD hS => ?_)
      have hP : va_P D vwCl (MW cI h0 a se ki f12 sl ch (upd f13 x2.toNatClampNeg x1) dk li re dt la us v14 rf) H := hP
      have hD : va_D A (MW cI h0 a se ki f12 sl ch (upd f13 x2.toNatClampNeg x1) dk li re dt la us v14 rf) := hD
      refine lv_aload_n hx hb dX1_moveCup_50 rfl (lv_at hl 2 rfl) ?_
      refine va_get (D := D) (ci := 1) (v := .int v14) (C := RX1) (T := TX1) (N := 14) hx hb hts inA1 hown hK hP 0 rfl rfl 12 (by decide) (hts _ wd_fl_RX1_49) (fun _ h9 => h9) rfl dX1_moveCup_51 ?_
      refine lv_iload_n hx hb dX1_moveCup_54 rfl (lv_at hl 1 rfl) ?_
      refine lv_isub hx hb dX1_moveCup_55 ?_
      exact hret _ _ _ _ ((v14 - sp)) (f12, (upd f13 x2.toNatClampNeg x1), v14) dX1_moveCup_56 rfl (hq.symm.trans hX) hP hD hS
    · have hq : Xq = (kb (sh_X1_empty ha ci sp (sh_X1_printerOf ci x1)) (fun z_f18 => (kb (sh_X1_empty z_f18.1 z_f18.2.1 z_f18.2.2 x2) (fun z_f24 => ((z_f24.2.2 - sp), z_f24.1, (upd z_f24.2.1 x2.toNatClampNeg x1), z_f24.2.2))))) := hq.trans (if_neg c8)
      refine lv_aload_n hx hb dX1_moveCup_32 rfl (lv_at hl 2 rfl) ?_
      refine lv_iload hx hb dX1_moveCup_33 (lv_at hl 0 rfl) ?_
      have hPs := k_self hP
      have hDs := k_selfD hD
      refine k_behv (X := []) (Y := []) (va_runV (As := [.int (sh_X1_printerOf ci x1)]) (rest := []) ⟨hx, hb, hml, hown, hts⟩ (c_X1_empty l D cI cC cQ H.size h0 a se ki ha sl ch ci dk li re dt la us sp rf (sh_X1_printerOf ci x1) ((isIn2 c8))) (kcwV hts wd_ml_RX1_93 wd_im_yX1_empty wd_sel_yX1_empty wd_ini_RX1 wd_code_yX1_empty rfl rfl rfl hd_X1_empty ⟨Nat.le_of_ble_eq_true rfl, Nat.le_of_ble_eq_true rfl⟩) ⟨in_blind, va_recv hK (pa_l (pa_r hPs)) (ci := 1) (q0 := 0) rfl rfl, k_pre hK (pa_l (pa_r hPs)) (da_l (da_r hDs)) hN⟩ rfl rfl hl.1 rfl (lv_room (Nat.le_of_ble_eq_true rfl)) dX1_moveCup_35 ⟨Nat.le_of_ble_eq_true rfl, Nat.le_of_ble_eq_true rfl⟩) hPs hDs hS hA (fun u16 H locs hw17 hP hD hS => ?_)
      obtain ⟨f18, f19, v20⟩ := u16
      have hP := k_unP hP
      have hD := k_unD hD
      have hP : va_P D vwCl (MW cI h0 a se ki f18 sl ch f19 dk li re dt la us v20 rf) H := hP
      have hD : va_D A (MW cI h0 a se ki f18 sl ch f19 dk li re dt la us v20 rf) := hD
      have hw17 : (f18, f19, v20) = (sh_X1_empty ha ci sp (sh_X1_printerOf ci x1)) := hw17
      have hq : Xq = (kb (sh_X1_empty f18 f19 v20 x2) (fun z_f24 => ((z_f24.2.2 - sp), z_f24.1, (upd z_f24.2.1 x2.toNatClampNeg x1), z_f24.2.2))) := by rw [← hw17] at hq; exact hq
      refine lv_aload_n hx hb dX1_moveCup_38 rfl (lv_at hl 2 rfl) ?_
      refine lv_iload_n hx hb dX1_moveCup_39 rfl (lv_at hl 4 rfl) ?_
      have hPs := k_self hP
      have hDs := k_selfD hD
      refine k_behv (X := []) (Y := []) (va_runV (As := [.int x2]) (rest := []) ⟨hx, hb, hml, hown, hts⟩ (c_X1_empty l D cI cC cQ H.size h0 a se ki f18 sl ch f19 dk li re dt la us v20 rf x2 (hi_x2)) (kcwV hts wd_ml_RX1_93 wd_im_yX1_empty wd_sel_yX1_empty wd_ini_RX1 wd_code_yX1_empty rfl rfl rfl hd_X1_empty ⟨Nat.le_of_ble_eq_true rfl, Nat.le_of_ble_eq_true rfl⟩) ⟨in_blind, va_recv hK (pa_l (pa_r hPs)) (ci := 1) (q0 := 0) rfl rfl, k_pre hK (pa_l (pa_r hPs)) (da_l (da_r hDs)) hN⟩ rfl rfl hl.1 rfl (lv_room (Nat.le_of_ble_eq_true rfl)) dX1_moveCup_40 ⟨Nat.le_of_ble_eq_true rfl, Nat.le_of_ble_eq_true rfl⟩) hPs hDs hS hA (fun u22 H locs hw23 hP hD hS => ?_)
      obtain ⟨f24, f25, v26⟩ := u22
      have hP := k_unP hP
      have hD := k_unD hD
      have hP : va_P D vwCl (MW cI h0 a se ki f24 sl ch f25 dk li re dt la us v26 rf) H := hP
      have hD : va_D A (MW cI h0 a se ki f24 sl ch f25 dk li re dt la us v26 rf) := hD
      have hw23 : (f24, f25, v26) = (sh_X1_empty f18 f19 v20 x2) := hw23
      have hq : Xq = ((v26 - sp), f24, (upd f25 x2.toNatClampNeg x1), v26) := by rw [← hw23] at hq; exact hq
      refine lv_aload_n hx hb dX1_moveCup_43 rfl (lv_at hl 2 rfl) ?_
      refine va_get (D := D) (ci := 1) (v := .ref (a 5)) (C := RX1) (T := TX1) (N := 14) hx hb hts inA1 hown hK hP 0 rfl rfl 5 (by decide) (hts _ wd_fl_RX1_27) (fun _ h9 => h9) rfl dX1_moveCup_44 ?_
      refine lv_iload_n hx hb dX1_moveCup_47 rfl (lv_at hl 4 rfl) ?_
      refine lv_iload_n hx hb dX1_moveCup_48 rfl (lv_at hl 3 rfl) ?_
      refine va_iast hx hb hK hP hD hS 6 0 rfl rfl hi_x2 dX1_moveCup_49 (fun H locs hP hD hS => ?_)
      have hP : va_P D vwCl (MW cI h0 a se ki f24 sl ch (upd f25 x2.toNatClampNeg x1) dk li re dt la us v26 rf) H := hP
      have hD : va_D A (MW cI h0 a se ki f24 sl ch (upd f25 x2.toNatClampNeg x1) dk li re dt la us v26 rf) := hD
      refine lv_aload_n hx hb dX1_moveCup_50 rfl (lv_at hl 2 rfl) ?_
      refine va_get (D := D) (ci := 1) (v := .int v26) (C := RX1) (T := TX1) (N := 14) hx hb hts inA1 hown hK hP 0 rfl rfl 12 (by decide) (hts _ wd_fl_RX1_49) (fun _ h9 => h9) rfl dX1_moveCup_51 ?_
      refine lv_iload_n hx hb dX1_moveCup_54 rfl (lv_at hl 1 rfl) ?_
      refine lv_isub hx hb dX1_moveCup_55 ?_
      exact hret _ _ _ _ ((v26 - sp)) (f24, (upd f25 x2.toNatClampNeg x1), v26) dX1_moveCup_56 rfl (hq.symm.trans hX) hP hD hS
  · have hq : Xq = (0, ha, ci, sp) := hq.trans (if_pos c1)
    refine lv_iconst (v := 0) hx hb dX1_moveCup_10 (by decide) ?_
    exact hret _ _ _ _ (0) (ha, ci, sp) dX1_moveCup_11 rfl (hq.symm.trans hX) hP hD hS
def sh_X1_cupsOvertold (se : Nat → Int32) (ha : Nat → Int32) (sl : Nat → Int32) (ch : Nat → Int32) : Int32 := (kb (if (sh_X1_toldLeft se ha sl ch 0) ≤ (sh_X1_toner ha sl 0) then 0 else 1) (fun z_v9 => (kb (if (sh_X1_toldLeft se ha sl ch 1) ≤ (sh_X1_toner ha sl 1) then z_v9 else (z_v9 + 1)) (fun z_v18 => (kb (if (sh_X1_toldLeft se ha sl ch 2) ≤ (sh_X1_toner ha sl 2) then z_v18 else (z_v18 + 1)) (fun z_v27 => (kb (if (sh_X1_toldLeft se ha sl ch 3) ≤ (sh_X1_toner ha sl 3) then z_v27 else (z_v27 + 1)) (fun z_v36 => z_v36))))))))
abbrev rm_X1_cupsOvertold : Room := { frames := 3, cells := 0, slots := 0, locals := 63 }
theorem hd_X1_cupsOvertold : hdT yX1_cupsOvertold 0 := by decide +kernel
set_option maxHeartbeats 4000000 in
set_option maxRecDepth 100000 in
theorem c_X1_cupsOvertold (l : Launch) (D : va_G) (cI cC cQ : ClassId) (sz : Nat) (h0 : Nat) (a : Nat → Nat) (se : Nat → Int32) (ki : Nat → Int32) (ha : Nat → Int32) (sl : Nat → Int32) (ch : Nat → Int32) (ci : Nat → Int32) (dk : Nat → Int32) (li : Nat → Int32) (re : Nat → Int32) (dt : Nat → Int32) (la : Nat → Int32) (us : Int32) (sp : Int32) (rf : Int32)   : Met l yX1_cupsOvertold (wsO yX1_cupsOvertold cX1_cupsOvertold 3 (some .int)) rm_X1_cupsOvertold (va_Pc [.ref h0] (inW D (TYS cI cC cQ) (MW cI h0 a se ki ha sl ch ci dk li re dt la us sp rf) sz)) (va_Qi (fun (r : Int32) (_ : Unit) => r = sh_X1_cupsOvertold se ha sl ch) (fun (u : Unit) => atW D (TYS cI cC cQ) (va_A (MW cI h0 a se ki ha sl ch ci dk li re dt la us sp rf) sz) (MW cI h0 a se ki ha sl ch ci dk li re dt la us sp rf)) (va_A (MW cI h0 a se ki ha sl ch ci dk li re dt la us sp rf) sz)) 0 0 (va_A (MW cI h0 a se ki ha sl ch ci dk li re dt la us sp rf) sz) := by
  refine k_meti .int rfl (by decide) (Nat.le_of_ble_eq_true rfl) ?_
  intro p e s m args below meth c A ls Q H locs hargs hret hx hb hts hown hml hname hN hA hS hP hK hD hl
  have hl : lv_has ls 3 [(0, .ref h0)] := hl
  obtain ⟨Xq, hX⟩ : ∃ Xq, Xq = sh_X1_cupsOvertold se ha sl ch := ⟨_, rfl⟩
  have hq : Xq = (kb (if (sh_X1_toldLeft se ha sl ch 0) ≤ (sh_X1_toner ha sl 0) then 0 else 1) (fun z_v9 => (kb (if (sh_X1_toldLeft se ha sl ch 1) ≤ (sh_X1_toner ha sl 1) then z_v9 else (z_v9 + 1)) (fun z_v18 => (kb (if (sh_X1_toldLeft se ha sl ch 2) ≤ (sh_X1_toner ha sl 2) then z_v18 else (z_v18 + 1)) (fun z_v27 => (kb (if (sh_X1_toldLeft se ha sl ch 3) ≤ (sh_X1_toner ha sl 3) then z_v27 else (z_v27 + 1)) (fun z_v36 => z_v36)))))))) := hX
  refine lv_iconst (v := 0) hx hb dX1_cupsOvertold_0 (by decide) ?_
  refine lv_istore_n (lv' := [(1, .int 0), (0, .ref h0)]) hx hb dX1_cupsOvertold_1 rfl hl (by decide) rfl (fun ls hl => ?_)
  refine lv_iconst (v := 0) hx hb dX1_cupsOvertold_2 (by decide) ?_
  refine lv_istore_n (lv' := [(2, .int 0), (1, .int 0), (0, .ref h0)]) hx hb dX1_cupsOvertold_3 rfl hl (by decide) rfl (fun ls hl => ?_)
  refine lv_iload_n hx hb dX1_cupsOvertold_4 rfl (lv_at hl 0 rfl) ?_
  refine lv_iconst (v := 4) hx hb dX1_cupsOvertold_5 (by decide) ?_
  refine lv_icmp_ge (tgt := 31) hx hb dX1_cupsOvertold_6 (by decide) (fun c9 => absurd c9 (by decide)) (fun _ => ?_)
  refine lv_aload_n hx hb dX1_cupsOvertold_9 rfl (lv_at hl 2 rfl) ?_
  refine lv_iload_n hx hb dX1_cupsOvertold_10 rfl (lv_at hl 0 rfl) ?_
  have hPs := k_self hP
  have hDs := k_selfD hD
  refine k_behi (X := []) (Y := []) (va_runV (As := [.int 0]) (rest := []) ⟨hx, hb, hml, hown, hts⟩ (c_X1_toldLeft l D cI cC cQ H.size h0 a se ki ha sl ch ci dk li re dt la us sp rf 0 ((k_in (by decide)))) (kcwV hts wd_ml_RX1_102 wd_im_yX1_toldLeft wd_sel_yX1_toldLeft wd_ini_RX1 wd_code_yX1_toldLeft rfl rfl rfl hd_X1_toldLeft ⟨Nat.le_of_ble_eq_true rfl, Nat.le_of_ble_eq_true rfl⟩) ⟨in_blind, va_recv hK (pa_l (pa_r hPs)) (ci := 1) (q0 := 0) rfl rfl, k_pre hK (pa_l (pa_r hPs)) (da_l (da_r hDs)) hN⟩ rfl rfl hl.1 rfl (lv_room (Nat.le_of_ble_eq_true rfl)) dX1_cupsOvertold_11 ⟨Nat.le_of_ble_eq_true rfl, Nat.le_of_ble_eq_true rfl⟩) hPs hDs hS hA (fun r1 u2 H locs hw3 hP hD hS => ?_)
  have hP := k_unP hP
  have hD := k_unD hD
  have hP : va_P D vwCl (MW cI h0 a se ki ha sl ch ci dk li re dt la us sp rf) H := hP
  have hD : va_D A (MW cI h0 a se ki ha sl ch ci dk li re dt la us sp rf) := hD
  have hw3 : r1 = (sh_X1_toldLeft se ha sl ch 0) := hw3
  subst hw3
  refine lv_aload_n hx hb dX1_cupsOvertold_14 rfl (lv_at hl 2 rfl) ?_
  refine lv_iload_n hx hb dX1_cupsOvertold_15 rfl (lv_at hl 0 rfl) ?_
  have hPs := k_self hP
  have hDs := k_selfD hD
  refine k_behi (X := []) (Y := []) (va_runV (As := [.int 0]) (rest := [.int (sh_X1_toldLeft se ha sl ch 0)]) ⟨hx, hb, hml, hown, hts⟩ (c_X1_toner l D cI cC cQ H.size h0 a se ki ha sl ch ci dk li re dt la us sp rf 0 ((k_in (by decide)))) (kcwV hts wd_ml_RX1_96 wd_im_yX1_toner wd_sel_yX1_toner wd_ini_RX1 wd_code_yX1_toner rfl rfl rfl hd_X1_toner ⟨Nat.le_of_ble_eq_true rfl, Nat.le_of_ble_eq_true rfl⟩) ⟨in_blind, va_recv hK (pa_l (pa_r hPs)) (ci := 1) (q0 := 0) rfl rfl, k_pre hK (pa_l (pa_r hPs)) (da_l (da_r hDs)) hN⟩ rfl rfl hl.1 rfl (lv_room (Nat.le_of_ble_eq_true rfl)) dX1_cupsOvertold_16 ⟨Nat.le_of_ble_eq_true rfl, Nat.le_of_ble_eq_true rfl⟩) hPs hDs hS hA (fun r4 u5 H locs hw6 hP hD hS => ?_)
  have hP := k_unP hP
  have hD := k_unD hD
  have hP : va_P D vwCl (MW cI h0 a se ki ha sl ch ci dk li re dt la us sp rf) H := hP
  have hD : va_D A (MW cI h0 a se ki ha sl ch ci dk li re dt la us sp rf) := hD
  have hw6 : r4 = (sh_X1_toner ha sl 0) := hw6
  subst hw6
  have K : ∀ (v9 : Int32) (H : Heap) (locs : List Loc) (ls : Array Slot), v9 = (if (sh_X1_toldLeft se ha sl ch 0) ≤ (sh_X1_toner ha sl 0) then 0 else 1) → va_P D vwCl (MW cI h0 a se ki ha sl ch ci dk li re dt la us sp rf) H → va_D A (MW cI h0 a se ki ha sl ch ci dk li re dt la us sp rf) → va_S A s.heap H locs → lv_has ls 3 [(0, .ref h0), (1, .int v9), (2, .int 0)] → W p l e rm_X1_cupsOvertold s m args below meth c H locs 0 0 Q (F0 m 25 ls []) := by
    intro v9 H locs ls hv8 hP hD hS hl
    have hq : Xq = (kb (if (sh_X1_toldLeft se ha sl ch 1) ≤ (sh_X1_toner ha sl 1) then v9 else (v9 + 1)) (fun z_v18 => (kb (if (sh_X1_toldLeft se ha sl ch 2) ≤ (sh_X1_toner ha sl 2) then z_v18 else (z_v18 + 1)) (fun z_v27 => (kb (if (sh_X1_toldLeft se ha sl ch 3) ≤ (sh_X1_toner ha sl 3) then z_v27 else (z_v27 + 1)) (fun z_v36 => z_v36)))))) := by rw [← hv8] at hq; exact hq
    refine lv_iinc (v := 1) (lv' := [(2, .int 1), (0, .ref h0), (1, .int v9)]) hx hb dX1_cupsOvertold_25 hl (k := 2) rfl (by decide) (by decide) rfl (fun ls hl => ?_)
    refine lv_goto (tgt := 4) hx hb dX1_cupsOvertold_28 (by decide) ?_
    refine lv_iload_n hx hb dX1_cupsOvertold_4 rfl (lv_at hl 0 rfl) ?_
    refine lv_iconst (v := 4) hx hb dX1_cupsOvertold_5 (by decide) ?_
    refine lv_icmp_ge (tgt := 31) hx hb dX1_cupsOvertold_6 (by decide) (fun c9 => absurd c9 (by decide)) (fun _ => ?_)
    refine lv_aload_n hx hb dX1_cupsOvertold_9 rfl (lv_at hl 1 rfl) ?_
    refine lv_iload_n hx hb dX1_cupsOvertold_10 rfl (lv_at hl 0 rfl) ?_
    have hPs := k_self hP
    have hDs := k_selfD hD
    refine k_behi (X := []) (Y := []) (va_runV (As := [.int 1]) (rest := []) ⟨hx, hb, hml, hown, hts⟩ (c_X1_toldLeft l D cI cC cQ H.size h0 a se ki ha sl ch ci dk li re dt la us sp rf 1 ((k_in (by decide)))) (kcwV hts wd_ml_RX1_102 wd_im_yX1_toldLeft wd_sel_yX1_toldLeft wd_ini_RX1 wd_code_yX1_toldLeft rfl rfl rfl hd_X1_toldLeft ⟨Nat.le_of_ble_eq_true rfl, Nat.le_of_ble_eq_true rfl⟩) ⟨in_blind, va_recv hK (pa_l (pa_r hPs)) (ci := 1) (q0 := 0) rfl rfl, k_pre hK (pa_l (pa_r hPs)) (da_l (da_r hDs)) hN⟩ rfl rfl hl.1 rfl (lv_room (Nat.le_of_ble_eq_true rfl)) dX1_cupsOvertold_11 ⟨Nat.le_of_ble_eq_true rfl, Nat.le_of_ble_eq_true rfl⟩) hPs hDs hS hA (fun r10 u11 H locs hw12 hP hD hS => ?_)
    have hP := k_unP hP
    have hD := k_unD hD
    have hP : va_P D vwCl (MW cI h0 a se ki ha sl ch ci dk li re dt la us sp rf) H := hP
    have hD : va_D A (MW cI h0 a se ki ha sl ch ci dk li re dt la us sp rf) := hD
    have hw12 : r10 = (sh_X1_toldLeft se ha sl ch 1) := hw12
    subst hw12
    refine lv_aload_n hx hb dX1_cupsOvertold_14 rfl (lv_at hl 1 rfl) ?_
    refine lv_iload_n hx hb dX1_cupsOvertold_15 rfl (lv_at hl 0 rfl) ?_
    have hPs := k_self hP
    have hDs := k_selfD hD
    refine k_behi (X := []) (Y := []) (va_runV (As := [.int 1]) (rest := [.int (sh_X1_toldLeft se ha sl ch 1)]) ⟨hx, hb, hml, hown, hts⟩ (c_X1_toner l D cI cC cQ H.size h0 a se ki ha sl ch ci dk li re dt la us sp rf 1 ((k_in (by decide)))) (kcwV hts wd_ml_RX1_96 wd_im_yX1_toner wd_sel_yX1_toner wd_ini_RX1 wd_code_yX1_toner rfl rfl rfl hd_X1_toner ⟨Nat.le_of_ble_eq_true rfl, Nat.le_of_ble_eq_true rfl⟩) ⟨in_blind, va_recv hK (pa_l (pa_r hPs)) (ci := 1) (q0 := 0) rfl rfl, k_pre hK (pa_l (pa_r hPs)) (da_l (da_r hDs)) hN⟩ rfl rfl hl.1 rfl (lv_room (Nat.le_of_ble_eq_true rfl)) dX1_cupsOvertold_16 ⟨Nat.le_of_ble_eq_true rfl, Nat.le_of_ble_eq_true rfl⟩) hPs hDs hS hA (fun r13 u14 H locs hw15 hP hD hS => ?_)
    have hP := k_unP hP
    have hD := k_unD hD
    have hP : va_P D vwCl (MW cI h0 a se ki ha sl ch ci dk li re dt la us sp rf) H := hP
    have hD : va_D A (MW cI h0 a se ki ha sl ch ci dk li re dt la us sp rf) := hD
    have hw15 : r13 = (sh_X1_toner ha sl 1) := hw15
    subst hw15
    have K : ∀ (v18 : Int32) (H : Heap) (locs : List Loc) (ls : Array Slot), v18 = (if (sh_X1_toldLeft se ha sl ch 1) ≤ (sh_X1_toner ha sl 1) then v9 else (v9 + 1)) → va_P D vwCl (MW cI h0 a se ki ha sl ch ci dk li re dt la us sp rf) H → va_D A (MW cI h0 a se ki ha sl ch ci dk li re dt la us sp rf) → va_S A s.heap H locs → lv_has ls 3 [(0, .ref h0), (1, .int v18), (2, .int 1)] → W p l e rm_X1_cupsOvertold s m args below meth c H locs 0 0 Q (F0 m 25 ls []) := by
      intro v18 H locs ls hv17 hP hD hS hl
      have hq : Xq = (kb (if (sh_X1_toldLeft se ha sl ch 2) ≤ (sh_X1_toner ha sl 2) then v18 else (v18 + 1)) (fun z_v27 => (kb (if (sh_X1_toldLeft se ha sl ch 3) ≤ (sh_X1_toner ha sl 3) then z_v27 else (z_v27 + 1)) (fun z_v36 => z_v36)))) := by rw [← hv17] at hq; exact hq
      refine lv_iinc (v := 2) (lv' := [(2, .int 2), (0, .ref h0), (1, .int v18)]) hx hb dX1_cupsOvertold_25 hl (k := 2) rfl (by decide) (by decide) rfl (fun ls hl => ?_)
      refine lv_goto (tgt := 4) hx hb dX1_cupsOvertold_28 (by decide) ?_
      refine lv_iload_n hx hb dX1_cupsOvertold_4 rfl (lv_at hl 0 rfl) ?_
      refine lv_iconst (v := 4) hx hb dX1_cupsOvertold_5 (by decide) ?_
      refine lv_icmp_ge (tgt := 31) hx hb dX1_cupsOvertold_6 (by decide) (fun c9 => absurd c9 (by decide)) (fun _ => ?_)
      refine lv_aload_n hx hb dX1_cupsOvertold_9 rfl (lv_at hl 1 rfl) ?_
      refine lv_iload_n hx hb dX1_cupsOvertold_10 rfl (lv_at hl 0 rfl) ?_
      have hPs := k_self hP
      have hDs := k_selfD hD
      refine k_behi (X := []) (Y := []) (va_runV (As := [.int 2]) (rest := []) ⟨hx, hb, hml, hown, hts⟩ (c_X1_toldLeft l D cI cC cQ H.size h0 a se ki ha sl ch ci dk li re dt la us sp rf 2 ((k_in (by decide)))) (kcwV hts wd_ml_RX1_102 wd_im_yX1_toldLeft wd_sel_yX1_toldLeft wd_ini_RX1 wd_code_yX1_toldLeft rfl rfl rfl hd_X1_toldLeft ⟨Nat.le_of_ble_eq_true rfl, Nat.le_of_ble_eq_true rfl⟩) ⟨in_blind, va_recv hK (pa_l (pa_r hPs)) (ci := 1) (q0 := 0) rfl rfl, k_pre hK (pa_l (pa_r hPs)) (da_l (da_r hDs)) hN⟩ rfl rfl hl.1 rfl (lv_room (Nat.le_of_ble_eq_true rfl)) dX1_cupsOvertold_11 ⟨Nat.le_of_ble_eq_true rfl, Nat.le_of_ble_eq_true rfl⟩) hPs hDs hS hA (fun r19 u20 H locs hw21 hP hD hS => ?_)
      have hP := k_unP hP
      have hD := k_unD hD
      have hP : va_P D vwCl (MW cI h0 a se ki ha sl ch ci dk li re dt la us sp rf) H := hP
      have hD : va_D A (MW cI h0 a se ki ha sl ch ci dk li re dt la us sp rf) := hD
      have hw21 : r19 = (sh_X1_toldLeft se ha sl ch 2) := hw21
      subst hw21
      refine lv_aload_n hx hb dX1_cupsOvertold_14 rfl (lv_at hl 1 rfl) ?_
      refine lv_iload_n hx hb dX1_cupsOvertold_15 rfl (lv_at hl 0 rfl) ?_
      have hPs := k_self hP
      have hDs := k_selfD hD
      refine k_behi (X := []) (Y := []) (va_runV (As := [.int 2]) (rest := [.int (sh_X1_toldLeft se ha sl ch 2)]) ⟨hx, hb, hml, hown, hts⟩ (c_X1_toner l D cI cC cQ H.size h0 a se ki ha sl ch ci dk li re dt la us sp rf 2 ((k_in (by decide)))) (kcwV hts wd_ml_RX1_96 wd_im_yX1_toner wd_sel_yX1_toner wd_ini_RX1 wd_code_yX1_toner rfl rfl rfl hd_X1_toner ⟨Nat.le_of_ble_eq_true rfl, Nat.le_of_ble_eq_true rfl⟩) ⟨in_blind, va_recv hK (pa_l (pa_r hPs)) (ci := 1) (q0 := 0) rfl rfl, k_pre hK (pa_l (pa_r hPs)) (da_l (da_r hDs)) hN⟩ rfl rfl hl.1 rfl (lv_room (Nat.le_of_ble_eq_true rfl)) dX1_cupsOvertold_16 ⟨Nat.le_of_ble_eq_true rfl, Nat.le_of_ble_eq_true rfl⟩) hPs hDs hS hA (fun r22 u23 H locs hw24 hP hD hS => ?_)
      have hP := k_unP hP
      have hD := k_unD hD
      have hP : va_P D vwCl (MW cI h0 a se ki ha sl ch ci dk li re dt la us sp rf) H := hP
      have hD : va_D A (MW cI h0 a se ki ha sl ch ci dk li re dt la us sp rf) := hD
      have hw24 : r22 = (sh_X1_toner ha sl 2) := hw24
      subst hw24
      have K : ∀ (v27 : Int32) (H : Heap) (locs : List Loc) (ls : Array Slot), v27 = (if (sh_X1_toldLeft se ha sl ch 2) ≤ (sh_X1_toner ha sl 2) then v18 else (v18 + 1)) → va_P D vwCl (MW cI h0 a se ki ha sl ch ci dk li re dt la us sp rf) H → va_D A (MW cI h0 a se ki ha sl ch ci dk li re dt la us sp rf) → va_S A s.heap H locs → lv_has ls 3 [(0, .ref h0), (1, .int v27), (2, .int 2)] → W p l e rm_X1_cupsOvertold s m args below meth c H locs 0 0 Q (F0 m 25 ls []) := by
        intro v27 H locs ls hv26 hP hD hS hl
        have hq : Xq = (kb (if (sh_X1_toldLeft se ha sl ch 3) ≤ (sh_X1_toner ha sl 3) then v27 else (v27 + 1)) (fun z_v36 => z_v36)) := by rw [← hv26] at hq; exact hq
        refine lv_iinc (v := 3) (lv' := [(2, .int 3), (0, .ref h0), (1, .int v27)]) hx hb dX1_cupsOvertold_25 hl (k := 2) rfl (by decide) (by decide) rfl (fun ls hl => ?_)
        refine lv_goto (tgt := 4) hx hb dX1_cupsOvertold_28 (by decide) ?_
        refine lv_iload_n hx hb dX1_cupsOvertold_4 rfl (lv_at hl 0 rfl) ?_
        refine lv_iconst (v := 4) hx hb dX1_cupsOvertold_5 (by decide) ?_
        refine lv_icmp_ge (tgt := 31) hx hb dX1_cupsOvertold_6 (by decide) (fun c9 => absurd c9 (by decide)) (fun _ => ?_)
        refine lv_aload_n hx hb dX1_cupsOvertold_9 rfl (lv_at hl 1 rfl) ?_
        refine lv_iload_n hx hb dX1_cupsOvertold_10 rfl (lv_at hl 0 rfl) ?_
        have hPs := k_self hP
        have hDs := k_selfD hD
        refine k_behi (X := []) (Y := []) (va_runV (As := [.int 3]) (rest := []) ⟨hx, hb, hml, hown, hts⟩ (c_X1_toldLeft l D cI cC cQ H.size h0 a se ki ha sl ch ci dk li re dt la us sp rf 3 ((k_in (by decide)))) (kcwV hts wd_ml_RX1_102 wd_im_yX1_toldLeft wd_sel_yX1_toldLeft wd_ini_RX1 wd_code_yX1_toldLeft rfl rfl rfl hd_X1_toldLeft ⟨Nat.le_of_ble_eq_true rfl, Nat.le_of_ble_eq_true rfl⟩) ⟨in_blind, va_recv hK (pa_l (pa_r hPs)) (ci := 1) (q0 := 0) rfl rfl, k_pre hK (pa_l (pa_r hPs)) (da_l (da_r hDs)) hN⟩ rfl rfl hl.1 rfl (lv_room (Nat.le_of_ble_eq_true rfl)) dX1_cupsOvertold_11 ⟨Nat.le_of_ble_eq_true rfl, Nat.le_of_ble_eq_true rfl⟩) hPs hDs hS hA (fun r28 u29 H locs hw30 hP hD hS => ?_)
        have hP := k_unP hP
        have hD := k_unD hD
        have hP : va_P D vwCl (MW cI h0 a se ki ha sl ch ci dk li re dt la us sp rf) H := hP
        have hD : va_D A (MW cI h0 a se ki ha sl ch ci dk li re dt la us sp rf) := hD
        have hw30 : r28 = (sh_X1_toldLeft se ha sl ch 3) := hw30
        subst hw30
        refine lv_aload_n hx hb dX1_cupsOvertold_14 rfl (lv_at hl 1 rfl) ?_
        refine lv_iload_n hx hb dX1_cupsOvertold_15 rfl (lv_at hl 0 rfl) ?_
        have hPs := k_self hP
        have hDs := k_selfD hD
        refine k_behi (X := []) (Y := []) (va_runV (As := [.int 3]) (rest := [.int (sh_X1_toldLeft se ha sl ch 3)]) ⟨hx, hb, hml, hown, hts⟩ (c_X1_toner l D cI cC cQ H.size h0 a se ki ha sl ch ci dk li re dt la us sp rf 3 ((k_in (by decide)))) (kcwV hts wd_ml_RX1_96 wd_im_yX1_toner wd_sel_yX1_toner wd_ini_RX1 wd_code_yX1_toner rfl rfl rfl hd_X1_toner ⟨Nat.le_of_ble_eq_true rfl, Nat.le_of_ble_eq_true rfl⟩) ⟨in_blind, va_recv hK (pa_l (pa_r hPs)) (ci := 1) (q0 := 0) rfl rfl, k_pre hK (pa_l (pa_r hPs)) (da_l (da_r hDs)) hN⟩ rfl rfl hl.1 rfl (lv_room (Nat.le_of_ble_eq_true rfl)) dX1_cupsOvertold_16 ⟨Nat.le_of_ble_eq_true rfl, Nat.le_of_ble_eq_true rfl⟩) hPs hDs hS hA (fun r31 u32 H locs hw33 hP hD hS => ?_)
        have hP := k_unP hP
        have hD := k_unD hD
        have hP : va_P D vwCl (MW cI h0 a se ki ha sl ch ci dk li re dt la us sp rf) H := hP
        have hD : va_D A (MW cI h0 a se ki ha sl ch ci dk li re dt la us sp rf) := hD
        have hw33 : r31 = (sh_X1_toner ha sl 3) := hw33
        subst hw33
        have K : ∀ (v36 : Int32) (H : Heap) (locs : List Loc) (ls : Array Slot), v36 = (if (sh_X1_toldLeft se ha sl ch 3) ≤ (sh_X1_toner ha sl 3) then v27 else (v27 + 1)) → va_P D vwCl (MW cI h0 a se ki ha sl ch ci dk li re dt la us sp rf) H → va_D A (MW cI h0 a se ki ha sl ch ci dk li re dt la us sp rf) → va_S A s.heap H locs → lv_has ls 3 [(0, .ref h0), (1, .int v36), (2, .int 3)] → W p l e rm_X1_cupsOvertold s m args below meth c H locs 0 0 Q (F0 m 25 ls []) := by
          intro v36 H locs ls hv35 hP hD hS hl
          have hq : Xq = v36 := by rw [← hv35] at hq; exact hq
          refine lv_iinc (v := 4) (lv' := [(2, .int 4), (0, .ref h0), (1, .int v36)]) hx hb dX1_cupsOvertold_25 hl (k := 2) rfl (by decide) (by decide) rfl (fun ls hl => ?_)
          refine lv_goto (tgt := 4) hx hb dX1_cupsOvertold_28 (by decide) ?_
          refine lv_iload_n hx hb dX1_cupsOvertold_4 rfl (lv_at hl 0 rfl) ?_
          refine lv_iconst (v := 4) hx hb dX1_cupsOvertold_5 (by decide) ?_
          refine lv_icmp_ge (tgt := 31) hx hb dX1_cupsOvertold_6 (by decide) (fun _ => ?_) (fun c9 => absurd c9 (by decide))
          refine lv_iload_n hx hb dX1_cupsOvertold_31 rfl (lv_at hl 2 rfl) ?_
          exact hret _ _ _ _ (v36) () dX1_cupsOvertold_32 rfl (hq.symm.trans hX) hP hD hS
        refine lv_icmp_le (tgt := 25) hx hb dX1_cupsOvertold_19 (by decide) (fun c34 => ?_) (fun c34 => ?_)
        · skip
          exact K (v27) _ _ _ (by rw [if_pos c34]) hP hD hS (lv_sub hl [1, 2, 0] rfl)
        · skip
          refine lv_iinc (v := (v27 + 1)) (lv' := [(1, .int (v27 + 1)), (2, .int 3), (0, .ref h0)]) hx hb dX1_cupsOvertold_22 hl (k := 2) rfl rfl (by decide) rfl (fun ls hl => ?_)
          exact K ((v27 + 1)) _ _ _ (by rw [if_neg c34]) hP hD hS (lv_sub hl [2, 0, 1] rfl)
      refine lv_icmp_le (tgt := 25) hx hb dX1_cupsOvertold_19 (by decide) (fun c25 => ?_) (fun c25 => ?_)
      · skip
        exact K (v18) _ _ _ (by rw [if_pos c25]) hP hD hS (lv_sub hl [1, 2, 0] rfl)
      · skip
        refine lv_iinc (v := (v18 + 1)) (lv' := [(1, .int (v18 + 1)), (2, .int 2), (0, .ref h0)]) hx hb dX1_cupsOvertold_22 hl (k := 2) rfl rfl (by decide) rfl (fun ls hl => ?_)
        exact K ((v18 + 1)) _ _ _ (by rw [if_neg c25]) hP hD hS (lv_sub hl [2, 0, 1] rfl)
    refine lv_icmp_le (tgt := 25) hx hb dX1_cupsOvertold_19 (by decide) (fun c16 => ?_) (fun c16 => ?_)
    · skip
      exact K (v9) _ _ _ (by rw [if_pos c16]) hP hD hS (lv_sub hl [1, 2, 0] rfl)
    · skip
      refine lv_iinc (v := (v9 + 1)) (lv' := [(1, .int (v9 + 1)), (2, .int 1), (0, .ref h0)]) hx hb dX1_cupsOvertold_22 hl (k := 2) rfl rfl (by decide) rfl (fun ls hl => ?_)
      exact K ((v9 + 1)) _ _ _ (by rw [if_neg c16]) hP hD hS (lv_sub hl [2, 0, 1] rfl)
  refine lv_icmp_le (tgt := 25) hx hb dX1_cupsOvertold_19 (by decide) (fun c7 => ?_) (fun c7 => ?_)
  · skip
    exact K (0) _ _ _ (by rw [if_pos c7]) hP hD hS (lv_sub hl [2, 1, 0] rfl)
  · skip
    refine lv_iinc (v := 1) (lv' := [(1, .int 1), (2, .int 0), (0, .ref h0)]) hx hb dX1_cupsOvertold_22 hl (k := 1) rfl (by decide) (by decide) rfl (fun ls hl => ?_)
    exact K (1) _ _ _ (by rw [if_neg c7]) hP hD hS (lv_sub hl [2, 0, 1] rfl)
def sh_X1_cupsInside (ci : Nat → Int32) : Int32 := (kb (if (sh_X4_isCup (ci (0 : Int32).toNatClampNeg)) = 0 then 0 else 1) (fun z_v6 => (kb (if (sh_X4_isCup (ci (1 : Int32).toNatClampNeg)) = 0 then z_v6 else (z_v6 + 1)) (fun z_v12 => z_v12))))
abbrev rm_X1_cupsInside : Room := { frames := 1, cells := 0, slots := 0, locals := 20 }
theorem hd_X1_cupsInside : hdT yX1_cupsInside 0 := by decide +kernel
set_option maxHeartbeats 4000000 in
set_option maxRecDepth 100000 in
theorem c_X1_cupsInside (l : Launch) (D : va_G) (cI cC cQ : ClassId) (sz : Nat) (h0 : Nat) (a : Nat → Nat) (se : Nat → Int32) (ki : Nat → Int32) (ha : Nat → Int32) (sl : Nat → Int32) (ch : Nat → Int32) (ci : Nat → Int32) (dk : Nat → Int32) (li : Nat → Int32) (re : Nat → Int32) (dt : Nat → Int32) (la : Nat → Int32) (us : Int32) (sp : Int32) (rf : Int32)   : Met l yX1_cupsInside (wsO yX1_cupsInside cX1_cupsInside 3 (some .int)) rm_X1_cupsInside (va_Pc [.ref h0] (inW D (TYS cI cC cQ) (MW cI h0 a se ki ha sl ch ci dk li re dt la us sp rf) sz)) (va_Qi (fun (r : Int32) (_ : Unit) => r = sh_X1_cupsInside ci) (fun (u : Unit) => atW D (TYS cI cC cQ) (va_A (MW cI h0 a se ki ha sl ch ci dk li re dt la us sp rf) sz) (MW cI h0 a se ki ha sl ch ci dk li re dt la us sp rf)) (va_A (MW cI h0 a se ki ha sl ch ci dk li re dt la us sp rf) sz)) 0 0 (va_A (MW cI h0 a se ki ha sl ch ci dk li re dt la us sp rf) sz) := by
  refine k_meti .int rfl (by decide) (Nat.le_of_ble_eq_true rfl) ?_
  intro p e s m args below meth c A ls Q H locs hargs hret hx hb hts hown hml hname hN hA hS hP hK hD hl
  have hl : lv_has ls 3 [(0, .ref h0)] := hl
  obtain ⟨Xq, hX⟩ : ∃ Xq, Xq = sh_X1_cupsInside ci := ⟨_, rfl⟩
  have hq : Xq = (kb (if (sh_X4_isCup (ci (0 : Int32).toNatClampNeg)) = 0 then 0 else 1) (fun z_v6 => (kb (if (sh_X4_isCup (ci (1 : Int32).toNatClampNeg)) = 0 then z_v6 else (z_v6 + 1)) (fun z_v12 => z_v12)))) := hX
  refine lv_iconst (v := 0) hx hb dX1_cupsInside_0 (by decide) ?_
  refine lv_istore_n (lv' := [(1, .int 0), (0, .ref h0)]) hx hb dX1_cupsInside_1 rfl hl (by decide) rfl (fun ls hl => ?_)
  refine lv_iconst (v := 0) hx hb dX1_cupsInside_2 (by decide) ?_
  refine lv_istore_n (lv' := [(2, .int 0), (1, .int 0), (0, .ref h0)]) hx hb dX1_cupsInside_3 rfl hl (by decide) rfl (fun ls hl => ?_)
  refine lv_iload_n hx hb dX1_cupsInside_4 rfl (lv_at hl 0 rfl) ?_
  refine lv_iconst (v := 2) hx hb dX1_cupsInside_5 (by decide) ?_
  refine lv_icmp_ge (tgt := 30) hx hb dX1_cupsInside_6 (by decide) (fun c9 => absurd c9 (by decide)) (fun _ => ?_)
  refine lv_aload_n hx hb dX1_cupsInside_9 rfl (lv_at hl 2 rfl) ?_
  refine va_get (D := D) (ci := 1) (v := .ref (a 5)) (C := RX1) (T := TX1) (N := 14) hx hb hts inA1 hown hK hP 0 rfl rfl 5 (by decide) (hts _ wd_fl_RX1_27) (fun _ h9 => h9) rfl dX1_cupsInside_10 ?_
  refine lv_iload_n hx hb dX1_cupsInside_13 rfl (lv_at hl 0 rfl) ?_
  refine va_iald hx hb hK hP 6 0 rfl rfl (k_in (by decide)) dX1_cupsInside_14 ?_
  have hPs : va_P D vwCl ([] ++ ([] ++ (MW cI h0 a se ki ha sl ch ci dk li re dt la us sp rf))) H := hP
  have hDs : va_D A ([] ++ ([] ++ (MW cI h0 a se ki ha sl ch ci dk li re dt la us sp rf))) := hD
  refine k_behi (X := []) (Y := (MW cI h0 a se ki ha sl ch ci dk li re dt la us sp rf)) (va_runSN (As := [.int (ci (0 : Int32).toNatClampNeg)]) (rest := []) ⟨hx, hb, hml, hown, hts⟩ (c_X4_isCup l D cI cC cQ H.size (ci (0 : Int32).toNatClampNeg)) ⟨kcnB hts hN wn_nl_RX1_65 wd_ini_RX4 wd_code_yX4_isCup rfl rfl hd_X4_isCup ⟨Nat.le_of_ble_eq_true rfl, Nat.le_of_ble_eq_true rfl⟩, hts _ wd_st_yX4_isCup, trivial⟩ ⟨in_blind, k_pre hK (pa_l (pa_r hPs)) (da_l (da_r hDs)) hN⟩ rfl rfl hl.1 rfl (lv_room (Nat.le_of_ble_eq_true rfl)) dX1_cupsInside_15 ⟨Nat.le_of_ble_eq_true rfl, Nat.le_of_ble_eq_true rfl⟩) hPs hDs hS hA (fun r1 u2 H locs hw3 hP hD hS => ?_)
  have hP : va_P D vwCl (MW cI h0 a se ki ha sl ch ci dk li re dt la us sp rf) H := hP
  have hD : va_D A (MW cI h0 a se ki ha sl ch ci dk li re dt la us sp rf) := hD
  have hw3 : r1 = (sh_X4_isCup (ci (0 : Int32).toNatClampNeg)) := hw3
  subst hw3
  have K : ∀ (v6 : Int32) (H : Heap) (locs : List Loc) (ls : Array Slot), v6 = (if (sh_X4_isCup (ci (0 : Int32).toNatClampNeg)) = 0 then 0 else 1) → va_P D vwCl (MW cI h0 a se ki ha sl ch ci dk li re dt la us sp rf) H → va_D A (MW cI h0 a se ki ha sl ch ci dk li re dt la us sp rf) → va_S A s.heap H locs → lv_has ls 3 [(0, .ref h0), (1, .int v6), (2, .int 0)] → W p l e rm_X1_cupsInside s m args below meth c H locs 0 0 Q (F0 m 24 ls []) := by
    intro v6 H locs ls hv5 hP hD hS hl
    have hq : Xq = (kb (if (sh_X4_isCup (ci (1 : Int32).toNatClampNeg)) = 0 then v6 else (v6 + 1)) (fun z_v12 => z_v12)) := by rw [← hv5] at hq; exact hq
    refine lv_iinc (v := 1) (lv' := [(2, .int 1), (0, .ref h0), (1, .int v6)]) hx hb dX1_cupsInside_24 hl (k := 2) rfl (by decide) (by decide) rfl (fun ls hl => ?_)
    refine lv_goto (tgt := 4) hx hb dX1_cupsInside_27 (by decide) ?_
    refine lv_iload_n hx hb dX1_cupsInside_4 rfl (lv_at hl 0 rfl) ?_
    refine lv_iconst (v := 2) hx hb dX1_cupsInside_5 (by decide) ?_
    refine lv_icmp_ge (tgt := 30) hx hb dX1_cupsInside_6 (by decide) (fun c9 => absurd c9 (by decide)) (fun _ => ?_)
    refine lv_aload_n hx hb dX1_cupsInside_9 rfl (lv_at hl 1 rfl) ?_
    refine va_get (D := D) (ci := 1) (v := .ref (a 5)) (C := RX1) (T := TX1) (N := 14) hx hb hts inA1 hown hK hP 0 rfl rfl 5 (by decide) (hts _ wd_fl_RX1_27) (fun _ h9 => h9) rfl dX1_cupsInside_10 ?_
    refine lv_iload_n hx hb dX1_cupsInside_13 rfl (lv_at hl 0 rfl) ?_
    refine va_iald hx hb hK hP 6 0 rfl rfl (k_in (by decide)) dX1_cupsInside_14 ?_
    have hPs : va_P D vwCl ([] ++ ([] ++ (MW cI h0 a se ki ha sl ch ci dk li re dt la us sp rf))) H := hP
    have hDs : va_D A ([] ++ ([] ++ (MW cI h0 a se ki ha sl ch ci dk li re dt la us sp rf))) := hD
    refine k_behi (X := []) (Y := (MW cI h0 a se ki ha sl ch ci dk li re dt la us sp rf)) (va_runSN (As := [.int (ci (1 : Int32).toNatClampNeg)]) (rest := []) ⟨hx, hb, hml, hown, hts⟩ (c_X4_isCup l D cI cC cQ H.size (ci (1 : Int32).toNatClampNeg)) ⟨kcnB hts hN wn_nl_RX1_65 wd_ini_RX4 wd_code_yX4_isCup rfl rfl hd_X4_isCup ⟨Nat.le_of_ble_eq_true rfl, Nat.le_of_ble_eq_true rfl⟩, hts _ wd_st_yX4_isCup, trivial⟩ ⟨in_blind, k_pre hK (pa_l (pa_r hPs)) (da_l (da_r hDs)) hN⟩ rfl rfl hl.1 rfl (lv_room (Nat.le_of_ble_eq_true rfl)) dX1_cupsInside_15 ⟨Nat.le_of_ble_eq_true rfl, Nat.le_of_ble_eq_true rfl⟩) hPs hDs hS hA (fun r7 u8 H locs hw9 hP hD hS => ?_)
    have hP : va_P D vwCl (MW cI h0 a se ki ha sl ch ci dk li re dt la us sp rf) H := hP
    have hD : va_D A (MW cI h0 a se ki ha sl ch ci dk li re dt la us sp rf) := hD
    have hw9 : r7 = (sh_X4_isCup (ci (1 : Int32).toNatClampNeg)) := hw9
    subst hw9
    have K : ∀ (v12 : Int32) (H : Heap) (locs : List Loc) (ls : Array Slot), v12 = (if (sh_X4_isCup (ci (1 : Int32).toNatClampNeg)) = 0 then v6 else (v6 + 1)) → va_P D vwCl (MW cI h0 a se ki ha sl ch ci dk li re dt la us sp rf) H → va_D A (MW cI h0 a se ki ha sl ch ci dk li re dt la us sp rf) → va_S A s.heap H locs → lv_has ls 3 [(0, .ref h0), (1, .int v12), (2, .int 1)] → W p l e rm_X1_cupsInside s m args below meth c H locs 0 0 Q (F0 m 24 ls []) := by
      intro v12 H locs ls hv11 hP hD hS hl
      have hq : Xq = v12 := by rw [← hv11] at hq; exact hq
      refine lv_iinc (v := 2) (lv' := [(2, .int 2), (0, .ref h0), (1, .int v12)]) hx hb dX1_cupsInside_24 hl (k := 2) rfl (by decide) (by decide) rfl (fun ls hl => ?_)
      refine lv_goto (tgt := 4) hx hb dX1_cupsInside_27 (by decide) ?_
      refine lv_iload_n hx hb dX1_cupsInside_4 rfl (lv_at hl 0 rfl) ?_
      refine lv_iconst (v := 2) hx hb dX1_cupsInside_5 (by decide) ?_
      refine lv_icmp_ge (tgt := 30) hx hb dX1_cupsInside_6 (by decide) (fun _ => ?_) (fun c9 => absurd c9 (by decide))
      refine lv_iload_n hx hb dX1_cupsInside_30 rfl (lv_at hl 2 rfl) ?_
      exact hret _ _ _ _ (v12) () dX1_cupsInside_31 rfl (hq.symm.trans hX) hP hD hS
    refine lv_if_eq (tgt := 24) hx hb dX1_cupsInside_18 (by decide) (fun c10 => ?_) (fun c10 => ?_)
    · skip
      exact K (v6) _ _ _ (by rw [if_pos c10]) hP hD hS (lv_sub hl [1, 2, 0] rfl)
    · skip
      refine lv_iinc (v := (v6 + 1)) (lv' := [(1, .int (v6 + 1)), (2, .int 1), (0, .ref h0)]) hx hb dX1_cupsInside_21 hl (k := 2) rfl rfl (by decide) rfl (fun ls hl => ?_)
      exact K ((v6 + 1)) _ _ _ (by rw [if_neg c10]) hP hD hS (lv_sub hl [2, 0, 1] rfl)
  refine lv_if_eq (tgt := 24) hx hb dX1_cupsInside_18 (by decide) (fun c4 => ?_) (fun c4 => ?_)
  · skip
    exact K (0) _ _ _ (by rw [if_pos c4]) hP hD hS (lv_sub hl [2, 1, 0] rfl)
  · skip
    refine lv_iinc (v := 1) (lv' := [(1, .int 1), (2, .int 0), (0, .ref h0)]) hx hb dX1_cupsInside_21 hl (k := 1) rfl (by decide) (by decide) rfl (fun ls hl => ?_)
    exact K (1) _ _ _ (by rw [if_neg c4]) hP hD hS (lv_sub hl [2, 0, 1] rfl)
def lp_X1_pagesLasting_19 (se : Nat → Int32) (x2 : Int32) (x3 : Int32) (x4 : Int32) : Nat → (Int32) → (Int32) → (Int32) → (Int32)
  | 0, _, _, _ => default
  | fu + 1, hi5, lo6, n7 => (if x4 ≤ n7 then x4 else (kb (if x3 = 0 then (hi5, lo6) else (if (sh_X1_wouldBeDark hi5 x2) = 0 then (if (sh_X1_wouldBeDark (hi5 + (lo6 / 2)) x2) = 0 then (hi5, lo6) else ((hi5 + (lo6 / 2)), (lo6 - (lo6 / 2)))) else (hi5, lo6))) (fun z_v12 => (if (sh_X1_wouldBeDark z_v12.1 x2) = 0 then n7 else (lp_X1_pagesLasting_19 se x2 x3 x4 fu ((z_v12.1 - x2) - (sh_X4_share (z_v12.1 - x2) (se (1 : Int32).toNatClampNeg))) (z_v12.2 + (sh_X4_share (z_v12.1 - x2) (se (1 : Int32).toNatClampNeg))) (n7 + 1))))))
def sh_X1_pagesLasting (se : Nat → Int32) (ha : Nat → Int32) (sl : Nat → Int32) (x1 : Int32) (x2 : Int32) (x3 : Int32) (x4 : Int32) : Int32 := (lp_X1_pagesLasting_19 se x2 x3 x4 ((x4.toInt - (0 : Int32).toInt).toNat + 1) (ha x1.toNatClampNeg) (sl x1.toNatClampNeg) 0)
abbrev rm_X1_pagesLasting : Room := { frames := 1, cells := 0, slots := 0, locals := 21 }
theorem hd_X1_pagesLasting : hdT yX1_pagesLasting 4 := by decide +kernel
set_option maxHeartbeats 4000000 in
set_option maxRecDepth 100000 in
theorem c_X1_pagesLasting (l : Launch) (D : va_G) (cI cC cQ : ClassId) (sz : Nat) (h0 : Nat) (a : Nat → Nat) (se : Nat → Int32) (ki : Nat → Int32) (ha : Nat → Int32) (sl : Nat → Int32) (ch : Nat → Int32) (ci : Nat → Int32) (dk : Nat → Int32) (li : Nat → Int32) (re : Nat → Int32) (dt : Nat → Int32) (la : Nat → Int32) (us : Int32) (sp : Int32) (rf : Int32) (x1 : Int32) (x2 : Int32) (x3 : Int32) (x4 : Int32) (hi_x1 : vp_in x1 4) : Met l yX1_pagesLasting (wsO yX1_pagesLasting cX1_pagesLasting 9 (some .int)) rm_X1_pagesLasting (va_Pc [.ref h0, .int x1, .int x2, .int x3, .int x4] (inW D (TYS cI cC cQ) (MW cI h0 a se ki ha sl ch ci dk li re dt la us sp rf) sz)) (va_Qi (fun (r : Int32) (_ : Unit) => r = sh_X1_pagesLasting se ha sl x1 x2 x3 x4) (fun (u : Unit) => atW D (TYS cI cC cQ) (va_A (MW cI h0 a se ki ha sl ch ci dk li re dt la us sp rf) sz) (MW cI h0 a se ki ha sl ch ci dk li re dt la us sp rf)) (va_A (MW cI h0 a se ki ha sl ch ci dk li re dt la us sp rf) sz)) 0 0 (va_A (MW cI h0 a se ki ha sl ch ci dk li re dt la us sp rf) sz) := by
  refine k_meti .int rfl (by decide) (Nat.le_of_ble_eq_true rfl) ?_
  intro p e s m args below meth c A ls Q H locs hargs hret hx hb hts hown hml hname hN hA hS hP hK hD hl
  have hl : lv_has ls 9 [(0, .ref h0), (1, .int x1), (2, .int x2), (3, .int x3), (4, .int x4)] := hl
  obtain ⟨Xq, hX⟩ : ∃ Xq, Xq = sh_X1_pagesLasting se ha sl x1 x2 x3 x4 := ⟨_, rfl⟩
  have hq : Xq = (lp_X1_pagesLasting_19 se x2 x3 x4 ((x4.toInt - (0 : Int32).toInt).toNat + 1) (ha x1.toNatClampNeg) (sl x1.toNatClampNeg) 0) := hX
  refine lv_aload_n hx hb dX1_pagesLasting_0 rfl (lv_at hl 0 rfl) ?_
  refine va_get (D := D) (ci := 1) (v := .ref (a 2)) (C := RX1) (T := TX1) (N := 14) hx hb hts inA1 hown hK hP 0 rfl rfl 2 (by decide) (hts _ wd_fl_RX1_18) (fun _ h9 => h9) rfl dX1_pagesLasting_1 ?_
  refine lv_iload_n hx hb dX1_pagesLasting_4 rfl (lv_at hl 1 rfl) ?_
  refine va_iald hx hb hK hP 3 0 rfl rfl hi_x1 dX1_pagesLasting_5 ?_
  refine lv_istore (lv' := [(5, .int (ha x1.toNatClampNeg)), (0, .ref h0), (1, .int x1), (2, .int x2), (3, .int x3), (4, .int x4)]) hx hb dX1_pagesLasting_6 hl (by decide) rfl (fun ls hl => ?_)
  refine lv_aload_n hx hb dX1_pagesLasting_8 rfl (lv_at hl 1 rfl) ?_
  refine va_get (D := D) (ci := 1) (v := .ref (a 3)) (C := RX1) (T := TX1) (N := 14) hx hb hts inA1 hown hK hP 0 rfl rfl 3 (by decide) (hts _ wd_fl_RX1_21) (fun _ h9 => h9) rfl dX1_pagesLasting_9 ?_
  refine lv_iload_n hx hb dX1_pagesLasting_12 rfl (lv_at hl 2 rfl) ?_
  refine va_iald hx hb hK hP 4 0 rfl rfl hi_x1 dX1_pagesLasting_13 ?_
  refine lv_istore (lv' := [(6, .int (sl x1.toNatClampNeg)), (5, .int (ha x1.toNatClampNeg)), (0, .ref h0), (1, .int x1), (2, .int x2), (3, .int x3), (4, .int x4)]) hx hb dX1_pagesLasting_14 hl (by decide) rfl (fun ls hl => ?_)
  refine lv_iconst (v := 0) hx hb dX1_pagesLasting_16 (by decide) ?_
  refine lv_istore (lv' := [(7, .int 0), (6, .int (sl x1.toNatClampNeg)), (5, .int (ha x1.toNatClampNeg)), (0, .ref h0), (1, .int x1), (2, .int x2), (3, .int x3), (4, .int x4)]) hx hb dX1_pagesLasting_17 hl (by decide) rfl (fun ls hl => ?_)
  have L19 : ∀ (fu : Nat) (hi5 : Int32) (lo6 : Int32) (n7 : Int32) (H : Heap) (locs : List Loc) (ls : Array Slot), (x4.toInt - (n7 : Int32).toInt).toNat < fu → Xq = lp_X1_pagesLasting_19 se x2 x3 x4 fu hi5 lo6 n7 → va_P D vwCl (MW cI h0 a se ki ha sl ch ci dk li re dt la us sp rf) H → va_D A (MW cI h0 a se ki ha sl ch ci dk li re dt la us sp rf) → va_S A s.heap H locs → lv_has ls 9 [(7, .int n7), (6, .int lo6), (5, .int hi5), (0, .ref h0), (1, .int x1), (2, .int x2), (3, .int x3), (4, .int x4)] → W p l e rm_X1_pagesLasting s m args below meth c H locs 0 0 Q (F0 m 19 ls []) := by
    intro fu
    induction fu with
    | zero => intro hi5 lo6 n7 H locs ls hmu; exact absurd hmu (Nat.not_lt_zero _)
    | succ fu ih =>
      intro hi5 lo6 n7 H locs ls hmu  hq hP hD hS hl
      have hq : Xq = (if x4 ≤ n7 then x4 else (kb (if x3 = 0 then (hi5, lo6) else (if (sh_X1_wouldBeDark hi5 x2) = 0 then (if (sh_X1_wouldBeDark (hi5 + (lo6 / 2)) x2) = 0 then (hi5, lo6) else ((hi5 + (lo6 / 2)), (lo6 - (lo6 / 2)))) else (hi5, lo6))) (fun z_v12 => (if (sh_X1_wouldBeDark z_v12.1 x2) = 0 then n7 else (lp_X1_pagesLasting_19 se x2 x3 x4 fu ((z_v12.1 - x2) - (sh_X4_share (z_v12.1 - x2) (se (1 : Int32).toNatClampNeg))) (z_v12.2 + (sh_X4_share (z_v12.1 - x2) (se (1 : Int32).toNatClampNeg))) (n7 + 1)))))) := hq
      refine lv_iload hx hb dX1_pagesLasting_19 (lv_at hl 0 rfl) ?_
      refine lv_iload hx hb dX1_pagesLasting_21 (lv_at hl 7 rfl) ?_
      refine lv_icmp_ge (tgt := 122) hx hb dX1_pagesLasting_23 (by decide) (fun c1 => ?_) (fun c1 => ?_)
      · have hq : Xq = x4 := hq.trans (if_pos c1)
        refine lv_iload hx hb dX1_pagesLasting_122 (lv_at hl 7 rfl) ?_
        exact hret _ _ _ _ (x4) () dX1_pagesLasting_124 rfl (hq.symm.trans hX) hP hD hS
      · have hq : Xq = (kb (if x3 = 0 then (hi5, lo6) else (if (sh_X1_wouldBeDark hi5 x2) = 0 then (if (sh_X1_wouldBeDark (hi5 + (lo6 / 2)) x2) = 0 then (hi5, lo6) else ((hi5 + (lo6 / 2)), (lo6 - (lo6 / 2)))) else (hi5, lo6))) (fun z_v12 => (if (sh_X1_wouldBeDark z_v12.1 x2) = 0 then n7 else (lp_X1_pagesLasting_19 se x2 x3 x4 fu ((z_v12.1 - x2) - (sh_X4_share (z_v12.1 - x2) (se (1 : Int32).toNatClampNeg))) (z_v12.2 + (sh_X4_share (z_v12.1 - x2) (se (1 : Int32).toNatClampNeg))) (n7 + 1))))) := hq.trans (if_neg c1)
        refine lv_iload_n hx hb dX1_pagesLasting_26 rfl (lv_at hl 6 rfl) ?_
        have K : ∀ (v12 : Int32) (v13 : Int32) (H : Heap) (locs : List Loc) (ls : Array Slot), (v12, v13) = (if x3 = 0 then (hi5, lo6) else (if (sh_X1_wouldBeDark hi5 x2) = 0 then (if (sh_X1_wouldBeDark (hi5 + (lo6 / 2)) x2) = 0 then (hi5, lo6) else ((hi5 + (lo6 / 2)), (lo6 - (lo6 / 2)))) else (hi5, lo6))) → va_P D vwCl (MW cI h0 a se ki ha sl ch ci dk li re dt la us sp rf) H → va_D A (MW cI h0 a se ki ha sl ch ci dk li re dt la us sp rf) → va_S A s.heap H locs → lv_has ls 9 [(0, .ref h0), (1, .int x1), (2, .int x2), (3, .int x3), (4, .int x4), (5, .int v12), (6, .int v13), (7, .int n7)] → W p l e rm_X1_pagesLasting s m args below meth c H locs 0 0 Q (F0 m 71 ls []) := by
          intro v12 v13 H locs ls hv11 hP hD hS hl
          have hq : Xq = (if (sh_X1_wouldBeDark v12 x2) = 0 then n7 else (lp_X1_pagesLasting_19 se x2 x3 x4 fu ((v12 - x2) - (sh_X4_share (v12 - x2) (se (1 : Int32).toNatClampNeg))) (v13 + (sh_X4_share (v12 - x2) (se (1 : Int32).toNatClampNeg))) (n7 + 1))) := by rw [← hv11] at hq; exact hq
          refine lv_iload hx hb dX1_pagesLasting_71 (lv_at hl 5 rfl) ?_
          refine lv_iload_n hx hb dX1_pagesLasting_73 rfl (lv_at hl 2 rfl) ?_
          have hPs : va_P D vwCl ([] ++ ([] ++ (MW cI h0 a se ki ha sl ch ci dk li re dt la us sp rf))) H := hP
          have hDs : va_D A ([] ++ ([] ++ (MW cI h0 a se ki ha sl ch ci dk li re dt la us sp rf))) := hD
          refine k_behi (X := []) (Y := (MW cI h0 a se ki ha sl ch ci dk li re dt la us sp rf)) (va_runS (As := [.int v12, .int x2]) (rest := []) ⟨hx, hb, hml, hown, hts⟩ (c_X1_wouldBeDark l D cI cC cQ H.size v12 x2) (kcwS hts wd_ml_RX1_105 wd_st_yX1_wouldBeDark wd_ini_RX1 wd_code_yX1_wouldBeDark rfl rfl hd_X1_wouldBeDark ⟨Nat.le_of_ble_eq_true rfl, Nat.le_of_ble_eq_true rfl⟩) ⟨in_blind, k_pre hK (pa_l (pa_r hPs)) (da_l (da_r hDs)) hN⟩ rfl rfl hl.1 rfl (lv_room (Nat.le_of_ble_eq_true rfl)) dX1_pagesLasting_74 ⟨Nat.le_of_ble_eq_true rfl, Nat.le_of_ble_eq_true rfl⟩) hPs hDs hS hA (fun r14 u15 H locs hw16 hP hD hS => ?_)
          have hP : va_P D vwCl (MW cI h0 a se ki ha sl ch ci dk li re dt la us sp rf) H := hP
          have hD : va_D A (MW cI h0 a se ki ha sl ch ci dk li re dt la us sp rf) := hD
          have hw16 : r14 = (sh_X1_wouldBeDark v12 x2) := hw16
          subst hw16
          refine lv_if_ne (tgt := 83) hx hb dX1_pagesLasting_77 (by decide) (fun c17 => ?_) (fun c17 => ?_)
          · have hq : Xq = (lp_X1_pagesLasting_19 se x2 x3 x4 fu ((v12 - x2) - (sh_X4_share (v12 - x2) (se (1 : Int32).toNatClampNeg))) (v13 + (sh_X4_share (v12 - x2) (se (1 : Int32).toNatClampNeg))) (n7 + 1)) := hq.trans (if_neg c17)
            refine lv_iload hx hb dX1_pagesLasting_83 (lv_at hl 5 rfl) ?_
            refine lv_iload_n hx hb dX1_pagesLasting_85 rfl (lv_at hl 2 rfl) ?_
            refine lv_isub hx hb dX1_pagesLasting_86 ?_
            refine lv_istore (lv' := [(5, .int (v12 - x2)), (0, .ref h0), (1, .int x1), (2, .int x2), (3, .int x3), (4, .int x4), (6, .int v13), (7, .int n7)]) hx hb dX1_pagesLasting_87 hl (by decide) rfl (fun ls hl => ?_)
            refine lv_iload hx hb dX1_pagesLasting_89 (lv_at hl 0 rfl) ?_
            refine lv_aload_n hx hb dX1_pagesLasting_91 rfl (lv_at hl 1 rfl) ?_
            refine va_get (D := D) (ci := 1) (v := .ref (a 0)) (C := RX1) (T := TX1) (N := 14) hx hb hts inA1 hown hK hP 0 rfl rfl 0 (by decide) (hts _ wd_fl_RX1_9) (fun _ h9 => h9) rfl dX1_pagesLasting_92 ?_
            refine lv_iconst (v := 1) hx hb dX1_pagesLasting_95 (by decide) ?_
            refine va_iald hx hb hK hP 1 0 rfl rfl (k_in (by decide)) dX1_pagesLasting_96 ?_
            have hPs : va_P D vwCl ([] ++ ([] ++ (MW cI h0 a se ki ha sl ch ci dk li re dt la us sp rf))) H := hP
            have hDs : va_D A ([] ++ ([] ++ (MW cI h0 a se ki ha sl ch ci dk li re dt la us sp rf))) := hD
            refine k_behi (X := []) (Y := (MW cI h0 a se ki ha sl ch ci dk li re dt la us sp rf)) (va_runSN (As := [.int (v12 - x2), .int (se (1 : Int32).toNatClampNeg)]) (rest := []) ⟨hx, hb, hml, hown, hts⟩ (c_X4_share l D cI cC cQ H.size (v12 - x2) (se (1 : Int32).toNatClampNeg)) ⟨kcnB hts hN wn_nl_RX1_84 wd_ini_RX4 wd_code_yX4_share rfl rfl hd_X4_share ⟨Nat.le_of_ble_eq_true rfl, Nat.le_of_ble_eq_true rfl⟩, hts _ wd_st_yX4_share, trivial⟩ ⟨in_blind, k_pre hK (pa_l (pa_r hPs)) (da_l (da_r hDs)) hN⟩ rfl rfl hl.1 rfl (lv_room (Nat.le_of_ble_eq_true rfl)) dX1_pagesLasting_97 ⟨Nat.le_of_ble_eq_true rfl, Nat.le_of_ble_eq_true rfl⟩) hPs hDs hS hA (fun r18 u19 H locs hw20 hP hD hS => ?_)
            have hP : va_P D vwCl (MW cI h0 a se ki ha sl ch ci dk li re dt la us sp rf) H := hP
            have hD : va_D A (MW cI h0 a se ki ha sl ch ci dk li re dt la us sp rf) := hD
            have hw20 : r18 = (sh_X4_share (v12 - x2) (se (1 : Int32).toNatClampNeg)) := hw20
            subst hw20
            refine lv_istore (lv' := [(8, .int (sh_X4_share (v12 - x2) (se (1 : Int32).toNatClampNeg))), (5, .int (v12 - x2)), (0, .ref h0), (1, .int x1), (2, .int x2), (3, .int x3), (4, .int x4), (6, .int v13), (7, .int n7)]) hx hb dX1_pagesLasting_100 hl (by decide) rfl (fun ls hl => ?_)
            refine lv_iload hx hb dX1_pagesLasting_102 (lv_at hl 1 rfl) ?_
            refine lv_iload hx hb dX1_pagesLasting_104 (lv_at hl 0 rfl) ?_
            refine lv_isub hx hb dX1_pagesLasting_106 ?_
            refine lv_istore (lv' := [(5, .int ((v12 - x2) - (sh_X4_share (v12 - x2) (se (1 : Int32).toNatClampNeg)))), (8, .int (sh_X4_share (v12 - x2) (se (1 : Int32).toNatClampNeg))), (0, .ref h0), (1, .int x1), (2, .int x2), (3, .int x3), (4, .int x4), (6, .int v13), (7, .int n7)]) hx hb dX1_pagesLasting_107 hl (by decide) rfl (fun ls hl => ?_)
            refine lv_iload hx hb dX1_pagesLasting_109 (lv_at hl 7 rfl) ?_
            refine lv_iload hx hb dX1_pagesLasting_111 (lv_at hl 1 rfl) ?_
            refine lv_iadd hx hb dX1_pagesLasting_113 ?_
            refine lv_istore (lv' := [(6, .int (v13 + (sh_X4_share (v12 - x2) (se (1 : Int32).toNatClampNeg)))), (5, .int ((v12 - x2) - (sh_X4_share (v12 - x2) (se (1 : Int32).toNatClampNeg)))), (8, .int (sh_X4_share (v12 - x2) (se (1 : Int32).toNatClampNeg))), (0, .ref h0), (1, .int x1), (2, .int x2), (3, .int x3), (4, .int x4), (7, .int n7)]) hx hb dX1_pagesLasting_114 hl (by decide) rfl (fun ls hl => ?_)
            refine lv_iinc (v := (n7 + 1)) (lv' := [(7, .int (n7 + 1)), (6, .int (v13 + (sh_X4_share (v12 - x2) (se (1 : Int32).toNatClampNeg)))), (5, .int ((v12 - x2) - (sh_X4_share (v12 - x2) (se (1 : Int32).toNatClampNeg)))), (8, .int (sh_X4_share (v12 - x2) (se (1 : Int32).toNatClampNeg))), (0, .ref h0), (1, .int x1), (2, .int x2), (3, .int x3), (4, .int x4)]) hx hb dX1_pagesLasting_116 hl (k := 8) rfl rfl (by decide) rfl (fun ls hl => ?_)
            refine lv_goto (tgt := 19) hx hb dX1_pagesLasting_119 (by decide) ?_
            exact ih (((v12 - x2) - (sh_X4_share (v12 - x2) (se (1 : Int32).toNatClampNeg)))) ((v13 + (sh_X4_share (v12 - x2) (se (1 : Int32).toNatClampNeg)))) ((n7 + 1)) _ _ _ (k_mu hmu c1)  hq hP hD hS (lv_sub hl [0, 1, 2, 4, 5, 6, 7, 8] rfl)
          · have hq : Xq = n7 := hq.trans (if_pos c17)
            refine lv_iload hx hb dX1_pagesLasting_80 (lv_at hl 7 rfl) ?_
            exact hret _ _ _ _ (n7) () dX1_pagesLasting_82 rfl (hq.symm.trans hX) hP hD hS
        refine lv_if_eq (tgt := 71) hx hb dX1_pagesLasting_27 (by decide) (fun c2 => ?_) (fun c2 => ?_)
        · skip
          exact K (hi5) (lo6) _ _ _ (by rw [if_pos c2]) hP hD hS (lv_sub hl [3, 4, 5, 6, 7, 2, 1, 0] rfl)
        · skip
          refine lv_iload hx hb dX1_pagesLasting_30 (lv_at hl 2 rfl) ?_
          refine lv_iload_n hx hb dX1_pagesLasting_32 rfl (lv_at hl 5 rfl) ?_
          have hPs : va_P D vwCl ([] ++ ([] ++ (MW cI h0 a se ki ha sl ch ci dk li re dt la us sp rf))) H := hP
          have hDs : va_D A ([] ++ ([] ++ (MW cI h0 a se ki ha sl ch ci dk li re dt la us sp rf))) := hD
          refine k_behi (X := []) (Y := (MW cI h0 a se ki ha sl ch ci dk li re dt la us sp rf)) (va_runS (As := [.int hi5, .int x2]) (rest := []) ⟨hx, hb, hml, hown, hts⟩ (c_X1_wouldBeDark l D cI cC cQ H.size hi5 x2) (kcwS hts wd_ml_RX1_105 wd_st_yX1_wouldBeDark wd_ini_RX1 wd_code_yX1_wouldBeDark rfl rfl hd_X1_wouldBeDark ⟨Nat.le_of_ble_eq_true rfl, Nat.le_of_ble_eq_true rfl⟩) ⟨in_blind, k_pre hK (pa_l (pa_r hPs)) (da_l (da_r hDs)) hN⟩ rfl rfl hl.1 rfl (lv_room (Nat.le_of_ble_eq_true rfl)) dX1_pagesLasting_33 ⟨Nat.le_of_ble_eq_true rfl, Nat.le_of_ble_eq_true rfl⟩) hPs hDs hS hA (fun r3 u4 H locs hw5 hP hD hS => ?_)
          have hP : va_P D vwCl (MW cI h0 a se ki ha sl ch ci dk li re dt la us sp rf) H := hP
          have hD : va_D A (MW cI h0 a se ki ha sl ch ci dk li re dt la us sp rf) := hD
          have hw5 : r3 = (sh_X1_wouldBeDark hi5 x2) := hw5
          subst hw5
          refine lv_if_ne (tgt := 71) hx hb dX1_pagesLasting_36 (by decide) (fun c6 => ?_) (fun c6 => ?_)
          · skip
            exact K (hi5) (lo6) _ _ _ (by rw [if_neg c2, if_neg c6]) hP hD hS (lv_sub hl [3, 4, 5, 6, 7, 2, 1, 0] rfl)
          · skip
            refine lv_iload hx hb dX1_pagesLasting_39 (lv_at hl 2 rfl) ?_
            refine lv_iload hx hb dX1_pagesLasting_41 (lv_at hl 1 rfl) ?_
            refine lv_iconst (v := 2) hx hb dX1_pagesLasting_43 (by decide) ?_
            refine lv_idiv hx hb dX1_pagesLasting_44 (by decide) ?_
            refine lv_iadd hx hb dX1_pagesLasting_45 ?_
            refine lv_iload_n hx hb dX1_pagesLasting_46 rfl (lv_at hl 5 rfl) ?_
            have hPs : va_P D vwCl ([] ++ ([] ++ (MW cI h0 a se ki ha sl ch ci dk li re dt la us sp rf))) H := hP
            have hDs : va_D A ([] ++ ([] ++ (MW cI h0 a se ki ha sl ch ci dk li re dt la us sp rf))) := hD
            refine k_behi (X := []) (Y := (MW cI h0 a se ki ha sl ch ci dk li re dt la us sp rf)) (va_runS (As := [.int (hi5 + (lo6 / 2)), .int x2]) (rest := []) ⟨hx, hb, hml, hown, hts⟩ (c_X1_wouldBeDark l D cI cC cQ H.size (hi5 + (lo6 / 2)) x2) (kcwS hts wd_ml_RX1_105 wd_st_yX1_wouldBeDark wd_ini_RX1 wd_code_yX1_wouldBeDark rfl rfl hd_X1_wouldBeDark ⟨Nat.le_of_ble_eq_true rfl, Nat.le_of_ble_eq_true rfl⟩) ⟨in_blind, k_pre hK (pa_l (pa_r hPs)) (da_l (da_r hDs)) hN⟩ rfl rfl hl.1 rfl (lv_room (Nat.le_of_ble_eq_true rfl)) dX1_pagesLasting_47 ⟨Nat.le_of_ble_eq_true rfl, Nat.le_of_ble_eq_true rfl⟩) hPs hDs hS hA (fun r7 u8 H locs hw9 hP hD hS => ?_)
            have hP : va_P D vwCl (MW cI h0 a se ki ha sl ch ci dk li re dt la us sp rf) H := hP
            have hD : va_D A (MW cI h0 a se ki ha sl ch ci dk li re dt la us sp rf) := hD
            have hw9 : r7 = (sh_X1_wouldBeDark (hi5 + (lo6 / 2)) x2) := hw9
            subst hw9
            refine lv_if_eq (tgt := 71) hx hb dX1_pagesLasting_50 (by decide) (fun c10 => ?_) (fun c10 => ?_)
            · skip
              exact K (hi5) (lo6) _ _ _ (by rw [if_neg c2, if_pos c6, if_pos c10]) hP hD hS (lv_sub hl [3, 4, 5, 6, 7, 2, 1, 0] rfl)
            · skip
              refine lv_iload hx hb dX1_pagesLasting_53 (lv_at hl 2 rfl) ?_
              refine lv_iload hx hb dX1_pagesLasting_55 (lv_at hl 1 rfl) ?_
              refine lv_iconst (v := 2) hx hb dX1_pagesLasting_57 (by decide) ?_
              refine lv_idiv hx hb dX1_pagesLasting_58 (by decide) ?_
              refine lv_iadd hx hb dX1_pagesLasting_59 ?_
              refine lv_istore (lv' := [(5, .int (hi5 + (lo6 / 2))), (7, .int n7), (6, .int lo6), (0, .ref h0), (1, .int x1), (2, .int x2), (3, .int x3), (4, .int x4)]) hx hb dX1_pagesLasting_60 hl (by decide) rfl (fun ls hl => ?_)
              refine lv_iload hx hb dX1_pagesLasting_62 (lv_at hl 2 rfl) ?_
              refine lv_iload hx hb dX1_pagesLasting_64 (lv_at hl 2 rfl) ?_
              refine lv_iconst (v := 2) hx hb dX1_pagesLasting_66 (by decide) ?_
              refine lv_idiv hx hb dX1_pagesLasting_67 (by decide) ?_
              refine lv_isub hx hb dX1_pagesLasting_68 ?_
              refine lv_istore (lv' := [(6, .int (lo6 - (lo6 / 2))), (5, .int (hi5 + (lo6 / 2))), (7, .int n7), (0, .ref h0), (1, .int x1), (2, .int x2), (3, .int x3), (4, .int x4)]) hx hb dX1_pagesLasting_69 hl (by decide) rfl (fun ls hl => ?_)
              exact K ((hi5 + (lo6 / 2))) ((lo6 - (lo6 / 2))) _ _ _ (by rw [if_neg c2, if_pos c6, if_neg c10]) hP hD hS (lv_sub hl [3, 4, 5, 6, 7, 1, 0, 2] rfl)
  exact L19 ((x4.toInt - (0 : Int32).toInt).toNat + 1) ((ha x1.toNatClampNeg)) ((sl x1.toNatClampNeg)) (0) _ _ _ (Nat.lt_succ_self _)  hq hP hD hS (lv_sub hl [0, 1, 2, 3, 4, 5, 6, 7] rfl)
def sh_X1_lastsShaken (se : Nat → Int32) (ki : Nat → Int32) (ha : Nat → Int32) (sl : Nat → Int32) (x1 : Int32) (x2 : Int32) (x3 : Int32) (x4 : Int32) : Int32 := (if (sh_X1_pagesLasting se ha sl x1 (sh_X1_tonerFor ki x1 x2 x3) 1 x4) < x4 then 0 else 1)
abbrev rm_X1_lastsShaken : Room := { frames := 2, cells := 0, slots := 0, locals := 49 }
theorem hd_X1_lastsShaken : hdT yX1_lastsShaken 4 := by decide +kernel
set_option maxHeartbeats 4000000 in
set_option maxRecDepth 100000 in
theorem c_X1_lastsShaken (l : Launch) (D : va_G) (cI cC cQ : ClassId) (sz : Nat) (h0 : Nat) (a : Nat → Nat) (se : Nat → Int32) (ki : Nat → Int32) (ha : Nat → Int32) (sl : Nat → Int32) (ch : Nat → Int32) (ci : Nat → Int32) (dk : Nat → Int32) (li : Nat → Int32) (re : Nat → Int32) (dt : Nat → Int32) (la : Nat → Int32) (us : Int32) (sp : Int32) (rf : Int32) (x1 : Int32) (x2 : Int32) (x3 : Int32) (x4 : Int32) (hi_x1 : vp_in x1 4) : Met l yX1_lastsShaken (wsO yX1_lastsShaken cX1_lastsShaken 5 (some .boolean)) rm_X1_lastsShaken (va_Pc [.ref h0, .int x1, .int x2, .int x3, .int x4] (inW D (TYS cI cC cQ) (MW cI h0 a se ki ha sl ch ci dk li re dt la us sp rf) sz)) (va_Qi (fun (r : Int32) (_ : Unit) => r = sh_X1_lastsShaken se ki ha sl x1 x2 x3 x4) (fun (u : Unit) => atW D (TYS cI cC cQ) (va_A (MW cI h0 a se ki ha sl ch ci dk li re dt la us sp rf) sz) (MW cI h0 a se ki ha sl ch ci dk li re dt la us sp rf)) (va_A (MW cI h0 a se ki ha sl ch ci dk li re dt la us sp rf) sz)) 0 0 (va_A (MW cI h0 a se ki ha sl ch ci dk li re dt la us sp rf) sz) := by
  refine k_meti .boolean rfl (by decide) (Nat.le_of_ble_eq_true rfl) ?_
  intro p e s m args below meth c A ls Q H locs hargs hret hx hb hts hown hml hname hN hA hS hP hK hD hl
  have hl : lv_has ls 5 [(0, .ref h0), (1, .int x1), (2, .int x2), (3, .int x3), (4, .int x4)] := hl
  obtain ⟨Xq, hX⟩ : ∃ Xq, Xq = sh_X1_lastsShaken se ki ha sl x1 x2 x3 x4 := ⟨_, rfl⟩
  have hq : Xq = (if (sh_X1_pagesLasting se ha sl x1 (sh_X1_tonerFor ki x1 x2 x3) 1 x4) < x4 then 0 else 1) := hX
  refine lv_aload_n hx hb dX1_lastsShaken_0 rfl (lv_at hl 0 rfl) ?_
  refine lv_iload_n hx hb dX1_lastsShaken_1 rfl (lv_at hl 1 rfl) ?_
  refine lv_aload_n hx hb dX1_lastsShaken_2 rfl (lv_at hl 0 rfl) ?_
  refine lv_iload_n hx hb dX1_lastsShaken_3 rfl (lv_at hl 1 rfl) ?_
  refine lv_iload_n hx hb dX1_lastsShaken_4 rfl (lv_at hl 2 rfl) ?_
  refine lv_iload_n hx hb dX1_lastsShaken_5 rfl (lv_at hl 3 rfl) ?_
  have hPs := k_self hP
  have hDs := k_selfD hD
  refine k_behi (X := []) (Y := []) (va_runV (As := [.int x1, .int x2, .int x3]) (rest := [.int x1, .ref h0]) ⟨hx, hb, hml, hown, hts⟩ (c_X1_tonerFor l D cI cC cQ H.size h0 a se ki ha sl ch ci dk li re dt la us sp rf x1 x2 x3 (hi_x1)) (kcwV hts wd_ml_RX1_61 wd_im_yX1_tonerFor wd_sel_yX1_tonerFor wd_ini_RX1 wd_code_yX1_tonerFor rfl rfl rfl hd_X1_tonerFor ⟨Nat.le_of_ble_eq_true rfl, Nat.le_of_ble_eq_true rfl⟩) ⟨in_blind, va_recv hK (pa_l (pa_r hPs)) (ci := 1) (q0 := 0) rfl rfl, k_pre hK (pa_l (pa_r hPs)) (da_l (da_r hDs)) hN⟩ rfl rfl hl.1 rfl (lv_room (Nat.le_of_ble_eq_true rfl)) dX1_lastsShaken_6 ⟨Nat.le_of_ble_eq_true rfl, Nat.le_of_ble_eq_true rfl⟩) hPs hDs hS hA (fun r1 u2 H locs hw3 hP hD hS => ?_)
  have hP := k_unP hP
  have hD := k_unD hD
  have hP : va_P D vwCl (MW cI h0 a se ki ha sl ch ci dk li re dt la us sp rf) H := hP
  have hD : va_D A (MW cI h0 a se ki ha sl ch ci dk li re dt la us sp rf) := hD
  have hw3 : r1 = (sh_X1_tonerFor ki x1 x2 x3) := hw3
  subst hw3
  refine lv_iconst (v := 1) hx hb dX1_lastsShaken_9 (by decide) ?_
  refine lv_iload hx hb dX1_lastsShaken_10 (lv_at hl 4 rfl) ?_
  have hPs := k_self hP
  have hDs := k_selfD hD
  refine k_behi (X := []) (Y := []) (va_runV (As := [.int x1, .int (sh_X1_tonerFor ki x1 x2 x3), .int 1, .int x4]) (rest := []) ⟨hx, hb, hml, hown, hts⟩ (c_X1_pagesLasting l D cI cC cQ H.size h0 a se ki ha sl ch ci dk li re dt la us sp rf x1 (sh_X1_tonerFor ki x1 x2 x3) 1 x4 (hi_x1)) (kcwV hts wd_ml_RX1_109 wd_im_yX1_pagesLasting wd_sel_yX1_pagesLasting wd_ini_RX1 wd_code_yX1_pagesLasting rfl rfl rfl hd_X1_pagesLasting ⟨Nat.le_of_ble_eq_true rfl, Nat.le_of_ble_eq_true rfl⟩) ⟨in_blind, va_recv hK (pa_l (pa_r hPs)) (ci := 1) (q0 := 0) rfl rfl, k_pre hK (pa_l (pa_r hPs)) (da_l (da_r hDs)) hN⟩ rfl rfl hl.1 rfl (lv_room (Nat.le_of_ble_eq_true rfl)) dX1_lastsShaken_12 ⟨Nat.le_of_ble_eq_true rfl, Nat.le_of_ble_eq_true rfl⟩) hPs hDs hS hA (fun r4 u5 H locs hw6 hP hD hS => ?_)
  have hP := k_unP hP
  have hD := k_unD hD
  have hP : va_P D vwCl (MW cI h0 a se ki ha sl ch ci dk li re dt la us sp rf) H := hP
  have hD : va_D A (MW cI h0 a se ki ha sl ch ci dk li re dt la us sp rf) := hD
  have hw6 : r4 = (sh_X1_pagesLasting se ha sl x1 (sh_X1_tonerFor ki x1 x2 x3) 1 x4) := hw6
  subst hw6
  refine lv_iload hx hb dX1_lastsShaken_15 (lv_at hl 4 rfl) ?_
  refine lv_icmp_lt (tgt := 24) hx hb dX1_lastsShaken_17 (by decide) (fun c7 => ?_) (fun c7 => ?_)
  · have hq : Xq = 0 := hq.trans (if_pos c7)
    refine lv_iconst (v := 0) hx hb dX1_lastsShaken_24 (by decide) ?_
    exact hret _ _ _ _ (0) () dX1_lastsShaken_25 rfl (hq.symm.trans hX) hP hD hS
  · have hq : Xq = 1 := hq.trans (if_neg c7)
    refine lv_iconst (v := 1) hx hb dX1_lastsShaken_20 (by decide) ?_
    refine lv_goto (tgt := 25) hx hb dX1_lastsShaken_21 (by decide) ?_
    exact hret _ _ _ _ (1) () dX1_lastsShaken_25 rfl (hq.symm.trans hX) hP hD hS
def lp_X1_handPageByPage_11 (se : Nat → Int32) (x2 : Int32) (x3 : Int32) : Nat → (Int32) → (Int32) → (Int32)
  | 0, _, _ => default
  | fu + 1, hi4, n5 => (if x3 ≤ n5 then hi4 else (lp_X1_handPageByPage_11 se x2 x3 fu ((hi4 - x2) - (sh_X4_share (hi4 - x2) (se (1 : Int32).toNatClampNeg))) (n5 + 1)))
def sh_X1_handPageByPage (se : Nat → Int32) (ha : Nat → Int32) (x1 : Int32) (x2 : Int32) (x3 : Int32) : Int32 := (lp_X1_handPageByPage_11 se x2 x3 ((x3.toInt - (0 : Int32).toInt).toNat + 1) (ha x1.toNatClampNeg) 0)
abbrev rm_X1_handPageByPage : Room := { frames := 1, cells := 0, slots := 0, locals := 21 }
theorem hd_X1_handPageByPage : hdT yX1_handPageByPage 3 := by decide +kernel
set_option maxHeartbeats 4000000 in
set_option maxRecDepth 100000 in
theorem c_X1_handPageByPage (l : Launch) (D : va_G) (cI cC cQ : ClassId) (sz : Nat) (h0 : Nat) (a : Nat → Nat) (se : Nat → Int32) (ki : Nat → Int32) (ha : Nat → Int32) (sl : Nat → Int32) (ch : Nat → Int32) (ci : Nat → Int32) (dk : Nat → Int32) (li : Nat → Int32) (re : Nat → Int32) (dt : Nat → Int32) (la : Nat → Int32) (us : Int32) (sp : Int32) (rf : Int32) (x1 : Int32) (x2 : Int32) (x3 : Int32) (hi_x1 : vp_in x1 4) : Met l yX1_handPageByPage (wsO yX1_handPageByPage cX1_handPageByPage 6 (some .int)) rm_X1_handPageByPage (va_Pc [.ref h0, .int x1, .int x2, .int x3] (inW D (TYS cI cC cQ) (MW cI h0 a se ki ha sl ch ci dk li re dt la us sp rf) sz)) (va_Qi (fun (r : Int32) (_ : Unit) => r = sh_X1_handPageByPage se ha x1 x2 x3) (fun (u : Unit) => atW D (TYS cI cC cQ) (va_A (MW cI h0 a se ki ha sl ch ci dk li re dt la us sp rf) sz) (MW cI h0 a se ki ha sl ch ci dk li re dt la us sp rf)) (va_A (MW cI h0 a se ki ha sl ch ci dk li re dt la us sp rf) sz)) 0 0 (va_A (MW cI h0 a se ki ha sl ch ci dk li re dt la us sp rf) sz) := by
  refine k_meti .int rfl (by decide) (Nat.le_of_ble_eq_true rfl) ?_
  intro p e s m args below meth c A ls Q H locs hargs hret hx hb hts hown hml hname hN hA hS hP hK hD hl
  have hl : lv_has ls 6 [(0, .ref h0), (1, .int x1), (2, .int x2), (3, .int x3)] := hl
  obtain ⟨Xq, hX⟩ : ∃ Xq, Xq = sh_X1_handPageByPage se ha x1 x2 x3 := ⟨_, rfl⟩
  have hq : Xq = (lp_X1_handPageByPage_11 se x2 x3 ((x3.toInt - (0 : Int32).toInt).toNat + 1) (ha x1.toNatClampNeg) 0) := hX
  refine lv_aload_n hx hb dX1_handPageByPage_0 rfl (lv_at hl 0 rfl) ?_
  refine va_get (D := D) (ci := 1) (v := .ref (a 2)) (C := RX1) (T := TX1) (N := 14) hx hb hts inA1 hown hK hP 0 rfl rfl 2 (by decide) (hts _ wd_fl_RX1_18) (fun _ h9 => h9) rfl dX1_handPageByPage_1 ?_
  refine lv_iload_n hx hb dX1_handPageByPage_4 rfl (lv_at hl 1 rfl) ?_
  refine va_iald hx hb hK hP 3 0 rfl rfl hi_x1 dX1_handPageByPage_5 ?_
  refine lv_istore (lv' := [(4, .int (ha x1.toNatClampNeg)), (0, .ref h0), (1, .int x1), (2, .int x2), (3, .int x3)]) hx hb dX1_handPageByPage_6 hl (by decide) rfl (fun ls hl => ?_)
  refine lv_iconst (v := 0) hx hb dX1_handPageByPage_8 (by decide) ?_
  refine lv_istore (lv' := [(5, .int 0), (4, .int (ha x1.toNatClampNeg)), (0, .ref h0), (1, .int x1), (2, .int x2), (3, .int x3)]) hx hb dX1_handPageByPage_9 hl (by decide) rfl (fun ls hl => ?_)
  have L11 : ∀ (fu : Nat) (hi4 : Int32) (n5 : Int32) (H : Heap) (locs : List Loc) (ls : Array Slot), (x3.toInt - (n5 : Int32).toInt).toNat < fu → Xq = lp_X1_handPageByPage_11 se x2 x3 fu hi4 n5 → va_P D vwCl (MW cI h0 a se ki ha sl ch ci dk li re dt la us sp rf) H → va_D A (MW cI h0 a se ki ha sl ch ci dk li re dt la us sp rf) → va_S A s.heap H locs → lv_has ls 6 [(5, .int n5), (4, .int hi4), (0, .ref h0), (1, .int x1), (2, .int x2), (3, .int x3)] → W p l e rm_X1_handPageByPage s m args below meth c H locs 0 0 Q (F0 m 11 ls []) := by
    intro fu
    induction fu with
    | zero => intro hi4 n5 H locs ls hmu; exact absurd hmu (Nat.not_lt_zero _)
    | succ fu ih =>
      intro hi4 n5 H locs ls hmu  hq hP hD hS hl
      have hq : Xq = (if x3 ≤ n5 then hi4 else (lp_X1_handPageByPage_11 se x2 x3 fu ((hi4 - x2) - (sh_X4_share (hi4 - x2) (se (1 : Int32).toNatClampNeg))) (n5 + 1))) := hq
      refine lv_iload hx hb dX1_handPageByPage_11 (lv_at hl 0 rfl) ?_
      refine lv_iload_n hx hb dX1_handPageByPage_13 rfl (lv_at hl 5 rfl) ?_
      refine lv_icmp_ge (tgt := 45) hx hb dX1_handPageByPage_14 (by decide) (fun c1 => ?_) (fun c1 => ?_)
      · have hq : Xq = hi4 := hq.trans (if_pos c1)
        refine lv_iload hx hb dX1_handPageByPage_45 (lv_at hl 1 rfl) ?_
        exact hret _ _ _ _ (hi4) () dX1_handPageByPage_47 rfl (hq.symm.trans hX) hP hD hS
      · have hq : Xq = (lp_X1_handPageByPage_11 se x2 x3 fu ((hi4 - x2) - (sh_X4_share (hi4 - x2) (se (1 : Int32).toNatClampNeg))) (n5 + 1)) := hq.trans (if_neg c1)
        refine lv_iload hx hb dX1_handPageByPage_17 (lv_at hl 1 rfl) ?_
        refine lv_iload_n hx hb dX1_handPageByPage_19 rfl (lv_at hl 4 rfl) ?_
        refine lv_isub hx hb dX1_handPageByPage_20 ?_
        refine lv_istore (lv' := [(4, .int (hi4 - x2)), (5, .int n5), (0, .ref h0), (1, .int x1), (2, .int x2), (3, .int x3)]) hx hb dX1_handPageByPage_21 hl (by decide) rfl (fun ls hl => ?_)
        refine lv_iload hx hb dX1_handPageByPage_23 (lv_at hl 0 rfl) ?_
        refine lv_iload hx hb dX1_handPageByPage_25 (lv_at hl 0 rfl) ?_
        refine lv_aload_n hx hb dX1_handPageByPage_27 rfl (lv_at hl 2 rfl) ?_
        refine va_get (D := D) (ci := 1) (v := .ref (a 0)) (C := RX1) (T := TX1) (N := 14) hx hb hts inA1 hown hK hP 0 rfl rfl 0 (by decide) (hts _ wd_fl_RX1_9) (fun _ h9 => h9) rfl dX1_handPageByPage_28 ?_
        refine lv_iconst (v := 1) hx hb dX1_handPageByPage_31 (by decide) ?_
        refine va_iald hx hb hK hP 1 0 rfl rfl (k_in (by decide)) dX1_handPageByPage_32 ?_
        have hPs : va_P D vwCl ([] ++ ([] ++ (MW cI h0 a se ki ha sl ch ci dk li re dt la us sp rf))) H := hP
        have hDs : va_D A ([] ++ ([] ++ (MW cI h0 a se ki ha sl ch ci dk li re dt la us sp rf))) := hD
        refine k_behi (X := []) (Y := (MW cI h0 a se ki ha sl ch ci dk li re dt la us sp rf)) (va_runSN (As := [.int (hi4 - x2), .int (se (1 : Int32).toNatClampNeg)]) (rest := [.int (hi4 - x2)]) ⟨hx, hb, hml, hown, hts⟩ (c_X4_share l D cI cC cQ H.size (hi4 - x2) (se (1 : Int32).toNatClampNeg)) ⟨kcnB hts hN wn_nl_RX1_84 wd_ini_RX4 wd_code_yX4_share rfl rfl hd_X4_share ⟨Nat.le_of_ble_eq_true rfl, Nat.le_of_ble_eq_true rfl⟩, hts _ wd_st_yX4_share, trivial⟩ ⟨in_blind, k_pre hK (pa_l (pa_r hPs)) (da_l (da_r hDs)) hN⟩ rfl rfl hl.1 rfl (lv_room (Nat.le_of_ble_eq_true rfl)) dX1_handPageByPage_33 ⟨Nat.le_of_ble_eq_true rfl, Nat.le_of_ble_eq_true rfl⟩) hPs hDs hS hA (fun r5 u6 H locs hw7 hP hD hS => ?_)
        have hP : va_P D vwCl (MW cI h0 a se ki ha sl ch ci dk li re dt la us sp rf) H := hP
        have hD : va_D A (MW cI h0 a se ki ha sl ch ci dk li re dt la us sp rf) := hD
        have hw7 : r5 = (sh_X4_share (hi4 - x2) (se (1 : Int32).toNatClampNeg)) := hw7
        subst hw7
        refine lv_isub hx hb dX1_handPageByPage_36 ?_
        refine lv_istore (lv' := [(4, .int ((hi4 - x2) - (sh_X4_share (hi4 - x2) (se (1 : Int32).toNatClampNeg)))), (5, .int n5), (0, .ref h0), (1, .int x1), (2, .int x2), (3, .int x3)]) hx hb dX1_handPageByPage_37 hl (by decide) rfl (fun ls hl => ?_)
        refine lv_iinc (v := (n5 + 1)) (lv' := [(5, .int (n5 + 1)), (4, .int ((hi4 - x2) - (sh_X4_share (hi4 - x2) (se (1 : Int32).toNatClampNeg)))), (0, .ref h0), (1, .int x1), (2, .int x2), (3, .int x3)]) hx hb dX1_handPageByPage_39 hl (k := 1) rfl rfl (by decide) rfl (fun ls hl => ?_)
        refine lv_goto (tgt := 11) hx hb dX1_handPageByPage_42 (by decide) ?_
        exact ih (((hi4 - x2) - (sh_X4_share (hi4 - x2) (se (1 : Int32).toNatClampNeg)))) ((n5 + 1)) _ _ _ (k_mu hmu c1)  hq hP hD hS (lv_sub hl [0, 1, 2, 3, 4, 5] rfl)
  exact L11 ((x3.toInt - (0 : Int32).toInt).toNat + 1) ((ha x1.toNatClampNeg)) (0) _ _ _ (Nat.lt_succ_self _)  hq hP hD hS (lv_sub hl [0, 1, 2, 3, 4, 5] rfl)
def lp_X1_handAddedUp_17 (se : Nat → Int32) (ha : Nat → Int32) (x1 : Int32) (x2 : Int32) (x3 : Int32) : Nat → (Int32) → (Int32) → (Int32) → (Int32)
  | 0, _, _, _ => default
  | fu + 1, us5, st6, n7 => (if x3 ≤ n7 then (((ha x1.toNatClampNeg) - us5) - st6) else (lp_X1_handAddedUp_17 se ha x1 x2 x3 fu (us5 + x2) (st6 + (sh_X4_share (((ha x1.toNatClampNeg) - (us5 + x2)) - st6) (se (1 : Int32).toNatClampNeg))) (n7 + 1)))
def sh_X1_handAddedUp (se : Nat → Int32) (ha : Nat → Int32) (x1 : Int32) (x2 : Int32) (x3 : Int32) : Int32 := (lp_X1_handAddedUp_17 se ha x1 x2 x3 ((x3.toInt - (0 : Int32).toInt).toNat + 1) 0 0 0)
abbrev rm_X1_handAddedUp : Room := { frames := 1, cells := 0, slots := 0, locals := 21 }
theorem hd_X1_handAddedUp : hdT yX1_handAddedUp 3 := by decide +kernel
set_option maxHeartbeats 4000000 in
set_option maxRecDepth 100000 in
theorem c_X1_handAddedUp (l : Launch) (D : va_G) (cI cC cQ : ClassId) (sz : Nat) (h0 : Nat) (a : Nat → Nat) (se : Nat → Int32) (ki : Nat → Int32) (ha : Nat → Int32) (sl : Nat → Int32) (ch : Nat → Int32) (ci : Nat → Int32) (dk : Nat → Int32) (li : Nat → Int32) (re : Nat → Int32) (dt : Nat → Int32) (la : Nat → Int32) (us : Int32) (sp : Int32) (rf : Int32) (x1 : Int32) (x2 : Int32) (x3 : Int32) (hi_x1 : vp_in x1 4) : Met l yX1_handAddedUp (wsO yX1_handAddedUp cX1_handAddedUp 8 (some .int)) rm_X1_handAddedUp (va_Pc [.ref h0, .int x1, .int x2, .int x3] (inW D (TYS cI cC cQ) (MW cI h0 a se ki ha sl ch ci dk li re dt la us sp rf) sz)) (va_Qi (fun (r : Int32) (_ : Unit) => r = sh_X1_handAddedUp se ha x1 x2 x3) (fun (u : Unit) => atW D (TYS cI cC cQ) (va_A (MW cI h0 a se ki ha sl ch ci dk li re dt la us sp rf) sz) (MW cI h0 a se ki ha sl ch ci dk li re dt la us sp rf)) (va_A (MW cI h0 a se ki ha sl ch ci dk li re dt la us sp rf) sz)) 0 0 (va_A (MW cI h0 a se ki ha sl ch ci dk li re dt la us sp rf) sz) := by
  refine k_meti .int rfl (by decide) (Nat.le_of_ble_eq_true rfl) ?_
  intro p e s m args below meth c A ls Q H locs hargs hret hx hb hts hown hml hname hN hA hS hP hK hD hl
  have hl : lv_has ls 8 [(0, .ref h0), (1, .int x1), (2, .int x2), (3, .int x3)] := hl
  obtain ⟨Xq, hX⟩ : ∃ Xq, Xq = sh_X1_handAddedUp se ha x1 x2 x3 := ⟨_, rfl⟩
  have hq : Xq = (lp_X1_handAddedUp_17 se ha x1 x2 x3 ((x3.toInt - (0 : Int32).toInt).toNat + 1) 0 0 0) := hX
  refine lv_aload_n hx hb dX1_handAddedUp_0 rfl (lv_at hl 0 rfl) ?_
  refine va_get (D := D) (ci := 1) (v := .ref (a 2)) (C := RX1) (T := TX1) (N := 14) hx hb hts inA1 hown hK hP 0 rfl rfl 2 (by decide) (hts _ wd_fl_RX1_18) (fun _ h9 => h9) rfl dX1_handAddedUp_1 ?_
  refine lv_iload_n hx hb dX1_handAddedUp_4 rfl (lv_at hl 1 rfl) ?_
  refine va_iald hx hb hK hP 3 0 rfl rfl hi_x1 dX1_handAddedUp_5 ?_
  refine lv_istore (lv' := [(4, .int (ha x1.toNatClampNeg)), (0, .ref h0), (1, .int x1), (2, .int x2), (3, .int x3)]) hx hb dX1_handAddedUp_6 hl (by decide) rfl (fun ls hl => ?_)
  refine lv_iconst (v := 0) hx hb dX1_handAddedUp_8 (by decide) ?_
  refine lv_istore (lv' := [(5, .int 0), (4, .int (ha x1.toNatClampNeg)), (0, .ref h0), (1, .int x1), (2, .int x2), (3, .int x3)]) hx hb dX1_handAddedUp_9 hl (by decide) rfl (fun ls hl => ?_)
  refine lv_iconst (v := 0) hx hb dX1_handAddedUp_11 (by decide) ?_
  refine lv_istore (lv' := [(6, .int 0), (5, .int 0), (4, .int (ha x1.toNatClampNeg)), (0, .ref h0), (1, .int x1), (2, .int x2), (3, .int x3)]) hx hb dX1_handAddedUp_12 hl (by decide) rfl (fun ls hl => ?_)
  refine lv_iconst (v := 0) hx hb dX1_handAddedUp_14 (by decide) ?_
  refine lv_istore (lv' := [(7, .int 0), (6, .int 0), (5, .int 0), (4, .int (ha x1.toNatClampNeg)), (0, .ref h0), (1, .int x1), (2, .int x2), (3, .int x3)]) hx hb dX1_handAddedUp_15 hl (by decide) rfl (fun ls hl => ?_)
  have L17 : ∀ (fu : Nat) (us5 : Int32) (st6 : Int32) (n7 : Int32) (H : Heap) (locs : List Loc) (ls : Array Slot), (x3.toInt - (n7 : Int32).toInt).toNat < fu → Xq = lp_X1_handAddedUp_17 se ha x1 x2 x3 fu us5 st6 n7 → va_P D vwCl (MW cI h0 a se ki ha sl ch ci dk li re dt la us sp rf) H → va_D A (MW cI h0 a se ki ha sl ch ci dk li re dt la us sp rf) → va_S A s.heap H locs → lv_has ls 8 [(7, .int n7), (6, .int st6), (5, .int us5), (4, .int (ha x1.toNatClampNeg)), (0, .ref h0), (1, .int x1), (2, .int x2), (3, .int x3)] → W p l e rm_X1_handAddedUp s m args below meth c H locs 0 0 Q (F0 m 17 ls []) := by
    intro fu
    induction fu with
    | zero => intro us5 st6 n7 H locs ls hmu; exact absurd hmu (Nat.not_lt_zero _)
    | succ fu ih =>
      intro us5 st6 n7 H locs ls hmu  hq hP hD hS hl
      have hq : Xq = (if x3 ≤ n7 then (((ha x1.toNatClampNeg) - us5) - st6) else (lp_X1_handAddedUp_17 se ha x1 x2 x3 fu (us5 + x2) (st6 + (sh_X4_share (((ha x1.toNatClampNeg) - (us5 + x2)) - st6) (se (1 : Int32).toNatClampNeg))) (n7 + 1))) := hq
      refine lv_iload hx hb dX1_handAddedUp_17 (lv_at hl 0 rfl) ?_
      refine lv_iload_n hx hb dX1_handAddedUp_19 rfl (lv_at hl 7 rfl) ?_
      refine lv_icmp_ge (tgt := 57) hx hb dX1_handAddedUp_20 (by decide) (fun c1 => ?_) (fun c1 => ?_)
      · have hq : Xq = (((ha x1.toNatClampNeg) - us5) - st6) := hq.trans (if_pos c1)
        refine lv_iload hx hb dX1_handAddedUp_57 (lv_at hl 3 rfl) ?_
        refine lv_iload hx hb dX1_handAddedUp_59 (lv_at hl 2 rfl) ?_
        refine lv_isub hx hb dX1_handAddedUp_61 ?_
        refine lv_iload hx hb dX1_handAddedUp_62 (lv_at hl 1 rfl) ?_
        refine lv_isub hx hb dX1_handAddedUp_64 ?_
        exact hret _ _ _ _ ((((ha x1.toNatClampNeg) - us5) - st6)) () dX1_handAddedUp_65 rfl (hq.symm.trans hX) hP hD hS
      · have hq : Xq = (lp_X1_handAddedUp_17 se ha x1 x2 x3 fu (us5 + x2) (st6 + (sh_X4_share (((ha x1.toNatClampNeg) - (us5 + x2)) - st6) (se (1 : Int32).toNatClampNeg))) (n7 + 1)) := hq.trans (if_neg c1)
        refine lv_iload hx hb dX1_handAddedUp_23 (lv_at hl 2 rfl) ?_
        refine lv_iload_n hx hb dX1_handAddedUp_25 rfl (lv_at hl 6 rfl) ?_
        refine lv_iadd hx hb dX1_handAddedUp_26 ?_
        refine lv_istore (lv' := [(5, .int (us5 + x2)), (7, .int n7), (6, .int st6), (4, .int (ha x1.toNatClampNeg)), (0, .ref h0), (1, .int x1), (2, .int x2), (3, .int x3)]) hx hb dX1_handAddedUp_27 hl (by decide) rfl (fun ls hl => ?_)
        refine lv_iload hx hb dX1_handAddedUp_29 (lv_at hl 2 rfl) ?_
        refine lv_iload hx hb dX1_handAddedUp_31 (lv_at hl 3 rfl) ?_
        refine lv_iload hx hb dX1_handAddedUp_33 (lv_at hl 0 rfl) ?_
        refine lv_isub hx hb dX1_handAddedUp_35 ?_
        refine lv_iload hx hb dX1_handAddedUp_36 (lv_at hl 2 rfl) ?_
        refine lv_isub hx hb dX1_handAddedUp_38 ?_
        refine lv_aload_n hx hb dX1_handAddedUp_39 rfl (lv_at hl 4 rfl) ?_
        refine va_get (D := D) (ci := 1) (v := .ref (a 0)) (C := RX1) (T := TX1) (N := 14) hx hb hts inA1 hown hK hP 0 rfl rfl 0 (by decide) (hts _ wd_fl_RX1_9) (fun _ h9 => h9) rfl dX1_handAddedUp_40 ?_
        refine lv_iconst (v := 1) hx hb dX1_handAddedUp_43 (by decide) ?_
        refine va_iald hx hb hK hP 1 0 rfl rfl (k_in (by decide)) dX1_handAddedUp_44 ?_
        have hPs : va_P D vwCl ([] ++ ([] ++ (MW cI h0 a se ki ha sl ch ci dk li re dt la us sp rf))) H := hP
        have hDs : va_D A ([] ++ ([] ++ (MW cI h0 a se ki ha sl ch ci dk li re dt la us sp rf))) := hD
        refine k_behi (X := []) (Y := (MW cI h0 a se ki ha sl ch ci dk li re dt la us sp rf)) (va_runSN (As := [.int (((ha x1.toNatClampNeg) - (us5 + x2)) - st6), .int (se (1 : Int32).toNatClampNeg)]) (rest := [.int st6]) ⟨hx, hb, hml, hown, hts⟩ (c_X4_share l D cI cC cQ H.size (((ha x1.toNatClampNeg) - (us5 + x2)) - st6) (se (1 : Int32).toNatClampNeg)) ⟨kcnB hts hN wn_nl_RX1_84 wd_ini_RX4 wd_code_yX4_share rfl rfl hd_X4_share ⟨Nat.le_of_ble_eq_true rfl, Nat.le_of_ble_eq_true rfl⟩, hts _ wd_st_yX4_share, trivial⟩ ⟨in_blind, k_pre hK (pa_l (pa_r hPs)) (da_l (da_r hDs)) hN⟩ rfl rfl hl.1 rfl (lv_room (Nat.le_of_ble_eq_true rfl)) dX1_handAddedUp_45 ⟨Nat.le_of_ble_eq_true rfl, Nat.le_of_ble_eq_true rfl⟩) hPs hDs hS hA (fun r5 u6 H locs hw7 hP hD hS => ?_)
        have hP : va_P D vwCl (MW cI h0 a se ki ha sl ch ci dk li re dt la us sp rf) H := hP
        have hD : va_D A (MW cI h0 a se ki ha sl ch ci dk li re dt la us sp rf) := hD
        have hw7 : r5 = (sh_X4_share (((ha x1.toNatClampNeg) - (us5 + x2)) - st6) (se (1 : Int32).toNatClampNeg)) := hw7
        subst hw7
        refine lv_iadd hx hb dX1_handAddedUp_48 ?_
        refine lv_istore (lv' := [(6, .int (st6 + (sh_X4_share (((ha x1.toNatClampNeg) - (us5 + x2)) - st6) (se (1 : Int32).toNatClampNeg)))), (5, .int (us5 + x2)), (7, .int n7), (4, .int (ha x1.toNatClampNeg)), (0, .ref h0), (1, .int x1), (2, .int x2), (3, .int x3)]) hx hb dX1_handAddedUp_49 hl (by decide) rfl (fun ls hl => ?_)
        refine lv_iinc (v := (n7 + 1)) (lv' := [(7, .int (n7 + 1)), (6, .int (st6 + (sh_X4_share (((ha x1.toNatClampNeg) - (us5 + x2)) - st6) (se (1 : Int32).toNatClampNeg)))), (5, .int (us5 + x2)), (4, .int (ha x1.toNatClampNeg)), (0, .ref h0), (1, .int x1), (2, .int x2), (3, .int x3)]) hx hb dX1_handAddedUp_51 hl (k := 2) rfl rfl (by decide) rfl (fun ls hl => ?_)
        refine lv_goto (tgt := 17) hx hb dX1_handAddedUp_54 (by decide) ?_
        exact ih ((us5 + x2)) ((st6 + (sh_X4_share (((ha x1.toNatClampNeg) - (us5 + x2)) - st6) (se (1 : Int32).toNatClampNeg)))) ((n7 + 1)) _ _ _ (k_mu hmu c1)  hq hP hD hS (lv_sub hl [0, 1, 2, 3, 4, 5, 6, 7] rfl)
  exact L17 ((x3.toInt - (0 : Int32).toInt).toNat + 1) (0) (0) (0) _ _ _ (Nat.lt_succ_self _)  hq hP hD hS (lv_sub hl [0, 1, 2, 3, 4, 5, 6, 7] rfl)
def sh_X1_becomeLike (se : Nat → Int32) (ki : Nat → Int32) (ha : Nat → Int32) (sl : Nat → Int32) (ch : Nat → Int32) (ci : Nat → Int32) (dk : Nat → Int32) (li : Nat → Int32) (re : Nat → Int32) (dt : Nat → Int32) (la : Nat → Int32) (se1 : Nat → Int32) (ki1 : Nat → Int32) (ha1 : Nat → Int32) (sl1 : Nat → Int32) (ch1 : Nat → Int32) (ci1 : Nat → Int32) (dk1 : Nat → Int32) (li1 : Nat → Int32) (re1 : Nat → Int32) (dt1 : Nat → Int32) (la1 : Nat → Int32) (us1 : Int32) (sp1 : Int32) (rf1 : Int32) : (Nat → Int32) × (Nat → Int32) × (Nat → Int32) × (Nat → Int32) × (Nat → Int32) × (Nat → Int32) × (Nat → Int32) × (Nat → Int32) × (Nat → Int32) × (Nat → Int32) × (Nat → Int32) × (Int32) × (Int32) × (Int32) := ((va_cpy se1 se (0 : Int32).toNatClampNeg (0 : Int32).toNatClampNeg (4 : Int32).toNatClampNeg), (va_cpy ki1 ki (0 : Int32).toNatClampNeg (0 : Int32).toNatClampNeg (4 : Int32).toNatClampNeg), (va_cpy ha1 ha (0 : Int32).toNatClampNeg (0 : Int32).toNatClampNeg (4 : Int32).toNatClampNeg), (va_cpy sl1 sl (0 : Int32).toNatClampNeg (0 : Int32).toNatClampNeg (4 : Int32).toNatClampNeg), (va_cpy ch1 ch (0 : Int32).toNatClampNeg (0 : Int32).toNatClampNeg (4 : Int32).toNatClampNeg), (va_cpy ci1 ci (0 : Int32).toNatClampNeg (0 : Int32).toNatClampNeg (2 : Int32).toNatClampNeg), (va_cpy dk1 dk (0 : Int32).toNatClampNeg (0 : Int32).toNatClampNeg (2 : Int32).toNatClampNeg), (va_cpy li1 li (0 : Int32).toNatClampNeg (0 : Int32).toNatClampNeg (2 : Int32).toNatClampNeg), (va_cpy re1 re (0 : Int32).toNatClampNeg (0 : Int32).toNatClampNeg (2 : Int32).toNatClampNeg), (va_cpy dt1 dt (0 : Int32).toNatClampNeg (0 : Int32).toNatClampNeg (2 : Int32).toNatClampNeg), (va_cpy la1 la (0 : Int32).toNatClampNeg (0 : Int32).toNatClampNeg (2 : Int32).toNatClampNeg), us1, sp1, rf1)
abbrev rm_X1_becomeLike : Room := { frames := 1, cells := 0, slots := 0, locals := 18 }
theorem hd_X1_becomeLike : hdT yX1_becomeLike 1 := by decide +kernel
set_option maxHeartbeats 4000000 in
set_option maxRecDepth 100000 in
theorem c_X1_becomeLike (l : Launch) (D : va_G) (cI cC cQ : ClassId) (sz : Nat) (h0 : Nat) (a : Nat → Nat) (h1 : Nat) (b : Nat → Nat) (se : Nat → Int32) (ki : Nat → Int32) (ha : Nat → Int32) (sl : Nat → Int32) (ch : Nat → Int32) (ci : Nat → Int32) (dk : Nat → Int32) (li : Nat → Int32) (re : Nat → Int32) (dt : Nat → Int32) (la : Nat → Int32) (us : Int32) (sp : Int32) (rf : Int32) (se1 : Nat → Int32) (ki1 : Nat → Int32) (ha1 : Nat → Int32) (sl1 : Nat → Int32) (ch1 : Nat → Int32) (ci1 : Nat → Int32) (dk1 : Nat → Int32) (li1 : Nat → Int32) (re1 : Nat → Int32) (dt1 : Nat → Int32) (la1 : Nat → Int32) (us1 : Int32) (sp1 : Int32) (rf1 : Int32)   : Met l yX1_becomeLike (wsO yX1_becomeLike cX1_becomeLike 2 none) rm_X1_becomeLike (va_Pc [.ref h0, .ref h1] (inW D (TYS cI cC cQ) (MW2 cI h0 a h1 b se ki ha sl ch ci dk li re dt la us sp rf se1 ki1 ha1 sl1 ch1 ci1 dk1 li1 re1 dt1 la1 us1 sp1 rf1) sz)) (va_Qv (fun (u : (Nat → Int32) × (Nat → Int32) × (Nat → Int32) × (Nat → Int32) × (Nat → Int32) × (Nat → Int32) × (Nat → Int32) × (Nat → Int32) × (Nat → Int32) × (Nat → Int32) × (Nat → Int32) × (Int32) × (Int32) × (Int32)) => u = sh_X1_becomeLike se ki ha sl ch ci dk li re dt la se1 ki1 ha1 sl1 ch1 ci1 dk1 li1 re1 dt1 la1 us1 sp1 rf1) (fun (u : (Nat → Int32) × (Nat → Int32) × (Nat → Int32) × (Nat → Int32) × (Nat → Int32) × (Nat → Int32) × (Nat → Int32) × (Nat → Int32) × (Nat → Int32) × (Nat → Int32) × (Nat → Int32) × (Int32) × (Int32) × (Int32)) => atW D (TYS cI cC cQ) (va_A (MW2 cI h0 a h1 b se ki ha sl ch ci dk li re dt la us sp rf se1 ki1 ha1 sl1 ch1 ci1 dk1 li1 re1 dt1 la1 us1 sp1 rf1) sz) (MW2 cI h0 a h1 b u.1 u.2.1 u.2.2.1 u.2.2.2.1 u.2.2.2.2.1 u.2.2.2.2.2.1 u.2.2.2.2.2.2.1 u.2.2.2.2.2.2.2.1 u.2.2.2.2.2.2.2.2.1 u.2.2.2.2.2.2.2.2.2.1 u.2.2.2.2.2.2.2.2.2.2.1 u.2.2.2.2.2.2.2.2.2.2.2.1 u.2.2.2.2.2.2.2.2.2.2.2.2.1 u.2.2.2.2.2.2.2.2.2.2.2.2.2 se1 ki1 ha1 sl1 ch1 ci1 dk1 li1 re1 dt1 la1 us1 sp1 rf1)) (va_A (MW2 cI h0 a h1 b se ki ha sl ch ci dk li re dt la us sp rf se1 ki1 ha1 sl1 ch1 ci1 dk1 li1 re1 dt1 la1 us1 sp1 rf1) sz)) 0 0 (va_A (MW2 cI h0 a h1 b se ki ha sl ch ci dk li re dt la us sp rf se1 ki1 ha1 sl1 ch1 ci1 dk1 li1 re1 dt1 la1 us1 sp1 rf1) sz) := by
  refine k_metv rfl (by decide) (Nat.le_of_ble_eq_true rfl) ?_
  intro p e s m args below meth c A ls Q H locs hargs hret hx hb hts hown hml hname hN hA hS hP hK hD hl
  have hl : lv_has ls 2 [(0, .ref h0), (1, .ref h1)] := hl
  obtain ⟨Xq, hX⟩ : ∃ Xq, Xq = sh_X1_becomeLike se ki ha sl ch ci dk li re dt la se1 ki1 ha1 sl1 ch1 ci1 dk1 li1 re1 dt1 la1 us1 sp1 rf1 := ⟨_, rfl⟩
  have hq : Xq = ((va_cpy se1 se (0 : Int32).toNatClampNeg (0 : Int32).toNatClampNeg (4 : Int32).toNatClampNeg), (va_cpy ki1 ki (0 : Int32).toNatClampNeg (0 : Int32).toNatClampNeg (4 : Int32).toNatClampNeg), (va_cpy ha1 ha (0 : Int32).toNatClampNeg (0 : Int32).toNatClampNeg (4 : Int32).toNatClampNeg), (va_cpy sl1 sl (0 : Int32).toNatClampNeg (0 : Int32).toNatClampNeg (4 : Int32).toNatClampNeg), (va_cpy ch1 ch (0 : Int32).toNatClampNeg (0 : Int32).toNatClampNeg (4 : Int32).toNatClampNeg), (va_cpy ci1 ci (0 : Int32).toNatClampNeg (0 : Int32).toNatClampNeg (2 : Int32).toNatClampNeg), (va_cpy dk1 dk (0 : Int32).toNatClampNeg (0 : Int32).toNatClampNeg (2 : Int32).toNatClampNeg), (va_cpy li1 li (0 : Int32).toNatClampNeg (0 : Int32).toNatClampNeg (2 : Int32).toNatClampNeg), (va_cpy re1 re (0 : Int32).toNatClampNeg (0 : Int32).toNatClampNeg (2 : Int32).toNatClampNeg), (va_cpy dt1 dt (0 : Int32).toNatClampNeg (0 : Int32).toNatClampNeg (2 : Int32).toNatClampNeg), (va_cpy la1 la (0 : Int32).toNatClampNeg (0 : Int32).toNatClampNeg (2 : Int32).toNatClampNeg), us1, sp1, rf1) := hX
  refine lv_aload_n hx hb dX1_becomeLike_0 rfl (lv_at hl 1 rfl) ?_
  refine va_get (D := D) (ci := 1) (v := .ref (b 0)) (C := RX1) (T := TX1) (N := 14) hx hb hts inA1 hown hK hP 12 rfl rfl 0 (by decide) (hts _ wd_fl_RX1_9) (fun _ h9 => h9) rfl dX1_becomeLike_1 ?_
  refine lv_iconst (v := 0) hx hb dX1_becomeLike_4 (by decide) ?_
  refine lv_aload_n hx hb dX1_becomeLike_5 rfl (lv_at hl 0 rfl) ?_
  refine va_get (D := D) (ci := 1) (v := .ref (a 0)) (C := RX1) (T := TX1) (N := 14) hx hb hts inA1 hown hK hP 0 rfl rfl 0 (by decide) (hts _ wd_fl_RX1_9) (fun _ h9 => h9) rfl dX1_becomeLike_6 ?_
  refine lv_iconst (v := 0) hx hb dX1_becomeLike_9 (by decide) ?_
  refine lv_iconst (v := 4) hx hb dX1_becomeLike_10 (by decide) ?_
  refine va_copyi hx hb (hml.trans hl.1.symm) hown (hts _ wd_ml_RX1_55) (hts _ wd_nat_arraycopyName) (hts _ wd_st_arraycopyName) (hts _ (wd_ini_RJ10)) hK hP hD hS 13 1 0 0 rfl rfl rfl rfl rfl (by decide) (by decide) (by decide) (by decide) (by decide) (fun i _ => rfl) (Nat.le_of_ble_eq_true rfl) (Nat.le_of_ble_eq_true rfl) dX1_becomeLike_11 (fun H locs hP hD hS => ?_)
  have hP : va_P D vwCl (MW2 cI h0 a h1 b (va_cpy se1 se (0 : Int32).toNatClampNeg (0 : Int32).toNatClampNeg (4 : Int32).toNatClampNeg) ki ha sl ch ci dk li re dt la us sp rf se1 ki1 ha1 sl1 ch1 ci1 dk1 li1 re1 dt1 la1 us1 sp1 rf1) H := hP
  have hD : va_D A (MW2 cI h0 a h1 b (va_cpy se1 se (0 : Int32).toNatClampNeg (0 : Int32).toNatClampNeg (4 : Int32).toNatClampNeg) ki ha sl ch ci dk li re dt la us sp rf se1 ki1 ha1 sl1 ch1 ci1 dk1 li1 re1 dt1 la1 us1 sp1 rf1) := hD
  refine lv_aload_n hx hb dX1_becomeLike_14 rfl (lv_at hl 1 rfl) ?_
  refine va_get (D := D) (ci := 1) (v := .ref (b 1)) (C := RX1) (T := TX1) (N := 14) hx hb hts inA1 hown hK hP 12 rfl rfl 1 (by decide) (hts _ wd_fl_RX1_15) (fun _ h9 => h9) rfl dX1_becomeLike_15 ?_
  refine lv_iconst (v := 0) hx hb dX1_becomeLike_18 (by decide) ?_
  refine lv_aload_n hx hb dX1_becomeLike_19 rfl (lv_at hl 0 rfl) ?_
  refine va_get (D := D) (ci := 1) (v := .ref (a 1)) (C := RX1) (T := TX1) (N := 14) hx hb hts inA1 hown hK hP 0 rfl rfl 1 (by decide) (hts _ wd_fl_RX1_15) (fun _ h9 => h9) rfl dX1_becomeLike_20 ?_
  refine lv_iconst (v := 0) hx hb dX1_becomeLike_23 (by decide) ?_
  refine lv_iconst (v := 4) hx hb dX1_becomeLike_24 (by decide) ?_
  refine va_copyi hx hb (hml.trans hl.1.symm) hown (hts _ wd_ml_RX1_55) (hts _ wd_nat_arraycopyName) (hts _ wd_st_arraycopyName) (hts _ (wd_ini_RJ10)) hK hP hD hS 14 2 0 0 rfl rfl rfl rfl rfl (by decide) (by decide) (by decide) (by decide) (by decide) (fun i _ => rfl) (Nat.le_of_ble_eq_true rfl) (Nat.le_of_ble_eq_true rfl) dX1_becomeLike_25 (fun H locs hP hD hS => ?_)
  have hP : va_P D vwCl (MW2 cI h0 a h1 b (va_cpy se1 se (0 : Int32).toNatClampNeg (0 : Int32).toNatClampNeg (4 : Int32).toNatClampNeg) (va_cpy ki1 ki (0 : Int32).toNatClampNeg (0 : Int32).toNatClampNeg (4 : Int32).toNatClampNeg) ha sl ch ci dk li re dt la us sp rf se1 ki1 ha1 sl1 ch1 ci1 dk1 li1 re1 dt1 la1 us1 sp1 rf1) H := hP
  have hD : va_D A (MW2 cI h0 a h1 b (va_cpy se1 se (0 : Int32).toNatClampNeg (0 : Int32).toNatClampNeg (4 : Int32).toNatClampNeg) (va_cpy ki1 ki (0 : Int32).toNatClampNeg (0 : Int32).toNatClampNeg (4 : Int32).toNatClampNeg) ha sl ch ci dk li re dt la us sp rf se1 ki1 ha1 sl1 ch1 ci1 dk1 li1 re1 dt1 la1 us1 sp1 rf1) := hD
  refine lv_aload_n hx hb dX1_becomeLike_28 rfl (lv_at hl 1 rfl) ?_
  refine va_get (D := D) (ci := 1) (v := .ref (b 2)) (C := RX1) (T := TX1) (N := 14) hx hb hts inA1 hown hK hP 12 rfl rfl 2 (by decide) (hts _ wd_fl_RX1_18) (fun _ h9 => h9) rfl dX1_becomeLike_29 ?_
  refine lv_iconst (v := 0) hx hb dX1_becomeLike_32 (by decide) ?_
  refine lv_aload_n hx hb dX1_becomeLike_33 rfl (lv_at hl 0 rfl) ?_
  refine va_get (D := D) (ci := 1) (v := .ref (a 2)) (C := RX1) (T := TX1) (N := 14) hx hb hts inA1 hown hK hP 0 rfl rfl 2 (by decide) (hts _ wd_fl_RX1_18) (fun _ h9 => h9) rfl dX1_becomeLike_34 ?_
  refine lv_iconst (v := 0) hx hb dX1_becomeLike_37 (by decide) ?_
  refine lv_iconst (v := 4) hx hb dX1_becomeLike_38 (by decide) ?_
  refine va_copyi hx hb (hml.trans hl.1.symm) hown (hts _ wd_ml_RX1_55) (hts _ wd_nat_arraycopyName) (hts _ wd_st_arraycopyName) (hts _ (wd_ini_RJ10)) hK hP hD hS 15 3 0 0 rfl rfl rfl rfl rfl (by decide) (by decide) (by decide) (by decide) (by decide) (fun i _ => rfl) (Nat.le_of_ble_eq_true rfl) (Nat.le_of_ble_eq_true rfl) dX1_becomeLike_39 (fun H locs hP hD hS => ?_)
  have hP : va_P D vwCl (MW2 cI h0 a h1 b (va_cpy se1 se (0 : Int32).toNatClampNeg (0 : Int32).toNatClampNeg (4 : Int32).toNatClampNeg) (va_cpy ki1 ki (0 : Int32).toNatClampNeg (0 : Int32).toNatClampNeg (4 : Int32).toNatClampNeg) (va_cpy ha1 ha (0 : Int32).toNatClampNeg (0 : Int32).toNatClampNeg (4 : Int32).toNatClampNeg) sl ch ci dk li re dt la us sp rf se1 ki1 ha1 sl1 ch1 ci1 dk1 li1 re1 dt1 la1 us1 sp1 rf1) H := hP
  have hD : va_D A (MW2 cI h0 a h1 b (va_cpy se1 se (0 : Int32).toNatClampNeg (0 : Int32).toNatClampNeg (4 : Int32).toNatClampNeg) (va_cpy ki1 ki (0 : Int32).toNatClampNeg (0 : Int32).toNatClampNeg (4 : Int32).toNatClampNeg) (va_cpy ha1 ha (0 : Int32).toNatClampNeg (0 : Int32).toNatClampNeg (4 : Int32).toNatClampNeg) sl ch ci dk li re dt la us sp rf se1 ki1 ha1 sl1 ch1 ci1 dk1 li1 re1 dt1 la1 us1 sp1 rf1) := hD
  refine lv_aload_n hx hb dX1_becomeLike_42 rfl (lv_at hl 1 rfl) ?_
  refine va_get (D := D) (ci := 1) (v := .ref (b 3)) (C := RX1) (T := TX1) (N := 14) hx hb hts inA1 hown hK hP 12 rfl rfl 3 (by decide) (hts _ wd_fl_RX1_21) (fun _ h9 => h9) rfl dX1_becomeLike_43 ?_
  refine lv_iconst (v := 0) hx hb dX1_becomeLike_46 (by decide) ?_
  refine lv_aload_n hx hb dX1_becomeLike_47 rfl (lv_at hl 0 rfl) ?_
  refine va_get (D := D) (ci := 1) (v := .ref (a 3)) (C := RX1) (T := TX1) (N := 14) hx hb hts inA1 hown hK hP 0 rfl rfl 3 (by decide) (hts _ wd_fl_RX1_21) (fun _ h9 => h9) rfl dX1_becomeLike_48 ?_
  refine lv_iconst (v := 0) hx hb dX1_becomeLike_51 (by decide) ?_
  refine lv_iconst (v := 4) hx hb dX1_becomeLike_52 (by decide) ?_
  refine va_copyi hx hb (hml.trans hl.1.symm) hown (hts _ wd_ml_RX1_55) (hts _ wd_nat_arraycopyName) (hts _ wd_st_arraycopyName) (hts _ (wd_ini_RJ10)) hK hP hD hS 16 4 0 0 rfl rfl rfl rfl rfl (by decide) (by decide) (by decide) (by decide) (by decide) (fun i _ => rfl) (Nat.le_of_ble_eq_true rfl) (Nat.le_of_ble_eq_true rfl) dX1_becomeLike_53 (fun H locs hP hD hS => ?_)
  have hP : va_P D vwCl (MW2 cI h0 a h1 b (va_cpy se1 se (0 : Int32).toNatClampNeg (0 : Int32).toNatClampNeg (4 : Int32).toNatClampNeg) (va_cpy ki1 ki (0 : Int32).toNatClampNeg (0 : Int32).toNatClampNeg (4 : Int32).toNatClampNeg) (va_cpy ha1 ha (0 : Int32).toNatClampNeg (0 : Int32).toNatClampNeg (4 : Int32).toNatClampNeg) (va_cpy sl1 sl (0 : Int32).toNatClampNeg (0 : Int32).toNatClampNeg (4 : Int32).toNatClampNeg) ch ci dk li re dt la us sp rf se1 ki1 ha1 sl1 ch1 ci1 dk1 li1 re1 dt1 la1 us1 sp1 rf1) H := hP
  have hD : va_D A (MW2 cI h0 a h1 b (va_cpy se1 se (0 : Int32).toNatClampNeg (0 : Int32).toNatClampNeg (4 : Int32).toNatClampNeg) (va_cpy ki1 ki (0 : Int32).toNatClampNeg (0 : Int32).toNatClampNeg (4 : Int32).toNatClampNeg) (va_cpy ha1 ha (0 : Int32).toNatClampNeg (0 : Int32).toNatClampNeg (4 : Int32).toNatClampNeg) (va_cpy sl1 sl (0 : Int32).toNatClampNeg (0 : Int32).toNatClampNeg (4 : Int32).toNatClampNeg) ch ci dk li re dt la us sp rf se1 ki1 ha1 sl1 ch1 ci1 dk1 li1 re1 dt1 la1 us1 sp1 rf1) := hD
  refine lv_aload_n hx hb dX1_becomeLike_56 rfl (lv_at hl 1 rfl) ?_
  refine va_get (D := D) (ci := 1) (v := .ref (b 4)) (C := RX1) (T := TX1) (N := 14) hx hb hts inA1 hown hK hP 12 rfl rfl 4 (by decide) (hts _ wd_fl_RX1_24) (fun _ h9 => h9) rfl dX1_becomeLike_57 ?_
  refine lv_iconst (v := 0) hx hb dX1_becomeLike_60 (by decide) ?_
  refine lv_aload_n hx hb dX1_becomeLike_61 rfl (lv_at hl 0 rfl) ?_
  refine va_get (D := D) (ci := 1) (v := .ref (a 4)) (C := RX1) (T := TX1) (N := 14) hx hb hts inA1 hown hK hP 0 rfl rfl 4 (by decide) (hts _ wd_fl_RX1_24) (fun _ h9 => h9) rfl dX1_becomeLike_62 ?_
  refine lv_iconst (v := 0) hx hb dX1_becomeLike_65 (by decide) ?_
  refine lv_iconst (v := 4) hx hb dX1_becomeLike_66 (by decide) ?_
  refine va_copyi hx hb (hml.trans hl.1.symm) hown (hts _ wd_ml_RX1_55) (hts _ wd_nat_arraycopyName) (hts _ wd_st_arraycopyName) (hts _ (wd_ini_RJ10)) hK hP hD hS 17 5 0 0 rfl rfl rfl rfl rfl (by decide) (by decide) (by decide) (by decide) (by decide) (fun i _ => rfl) (Nat.le_of_ble_eq_true rfl) (Nat.le_of_ble_eq_true rfl) dX1_becomeLike_67 (fun H locs hP hD hS => ?_)
  have hP : va_P D vwCl (MW2 cI h0 a h1 b (va_cpy se1 se (0 : Int32).toNatClampNeg (0 : Int32).toNatClampNeg (4 : Int32).toNatClampNeg) (va_cpy ki1 ki (0 : Int32).toNatClampNeg (0 : Int32).toNatClampNeg (4 : Int32).toNatClampNeg) (va_cpy ha1 ha (0 : Int32).toNatClampNeg (0 : Int32).toNatClampNeg (4 : Int32).toNatClampNeg) (va_cpy sl1 sl (0 : Int32).toNatClampNeg (0 : Int32).toNatClampNeg (4 : Int32).toNatClampNeg) (va_cpy ch1 ch (0 : Int32).toNatClampNeg (0 : Int32).toNatClampNeg (4 : Int32).toNatClampNeg) ci dk li re dt la us sp rf se1 ki1 ha1 sl1 ch1 ci1 dk1 li1 re1 dt1 la1 us1 sp1 rf1) H := hP
  have hD : va_D A (MW2 cI h0 a h1 b (va_cpy se1 se (0 : Int32).toNatClampNeg (0 : Int32).toNatClampNeg (4 : Int32).toNatClampNeg) (va_cpy ki1 ki (0 : Int32).toNatClampNeg (0 : Int32).toNatClampNeg (4 : Int32).toNatClampNeg) (va_cpy ha1 ha (0 : Int32).toNatClampNeg (0 : Int32).toNatClampNeg (4 : Int32).toNatClampNeg) (va_cpy sl1 sl (0 : Int32).toNatClampNeg (0 : Int32).toNatClampNeg (4 : Int32).toNatClampNeg) (va_cpy ch1 ch (0 : Int32).toNatClampNeg (0 : Int32).toNatClampNeg (4 : Int32).toNatClampNeg) ci dk li re dt la us sp rf se1 ki1 ha1 sl1 ch1 ci1 dk1 li1 re1 dt1 la1 us1 sp1 rf1) := hD
  refine lv_aload_n hx hb dX1_becomeLike_70 rfl (lv_at hl 1 rfl) ?_
  refine va_get (D := D) (ci := 1) (v := .ref (b 5)) (C := RX1) (T := TX1) (N := 14) hx hb hts inA1 hown hK hP 12 rfl rfl 5 (by decide) (hts _ wd_fl_RX1_27) (fun _ h9 => h9) rfl dX1_becomeLike_71 ?_
  refine lv_iconst (v := 0) hx hb dX1_becomeLike_74 (by decide) ?_
  refine lv_aload_n hx hb dX1_becomeLike_75 rfl (lv_at hl 0 rfl) ?_
  refine va_get (D := D) (ci := 1) (v := .ref (a 5)) (C := RX1) (T := TX1) (N := 14) hx hb hts inA1 hown hK hP 0 rfl rfl 5 (by decide) (hts _ wd_fl_RX1_27) (fun _ h9 => h9) rfl dX1_becomeLike_76 ?_
  refine lv_iconst (v := 0) hx hb dX1_becomeLike_79 (by decide) ?_
  refine lv_iconst (v := 2) hx hb dX1_becomeLike_80 (by decide) ?_
  refine va_copyi hx hb (hml.trans hl.1.symm) hown (hts _ wd_ml_RX1_55) (hts _ wd_nat_arraycopyName) (hts _ wd_st_arraycopyName) (hts _ (wd_ini_RJ10)) hK hP hD hS 18 6 0 0 rfl rfl rfl rfl rfl (by decide) (by decide) (by decide) (by decide) (by decide) (fun i _ => rfl) (Nat.le_of_ble_eq_true rfl) (Nat.le_of_ble_eq_true rfl) dX1_becomeLike_81 (fun H locs hP hD hS => ?_)
  have hP : va_P D vwCl (MW2 cI h0 a h1 b (va_cpy se1 se (0 : Int32).toNatClampNeg (0 : Int32).toNatClampNeg (4 : Int32).toNatClampNeg) (va_cpy ki1 ki (0 : Int32).toNatClampNeg (0 : Int32).toNatClampNeg (4 : Int32).toNatClampNeg) (va_cpy ha1 ha (0 : Int32).toNatClampNeg (0 : Int32).toNatClampNeg (4 : Int32).toNatClampNeg) (va_cpy sl1 sl (0 : Int32).toNatClampNeg (0 : Int32).toNatClampNeg (4 : Int32).toNatClampNeg) (va_cpy ch1 ch (0 : Int32).toNatClampNeg (0 : Int32).toNatClampNeg (4 : Int32).toNatClampNeg) (va_cpy ci1 ci (0 : Int32).toNatClampNeg (0 : Int32).toNatClampNeg (2 : Int32).toNatClampNeg) dk li re dt la us sp rf se1 ki1 ha1 sl1 ch1 ci1 dk1 li1 re1 dt1 la1 us1 sp1 rf1) H := hP
  have hD : va_D A (MW2 cI h0 a h1 b (va_cpy se1 se (0 : Int32).toNatClampNeg (0 : Int32).toNatClampNeg (4 : Int32).toNatClampNeg) (va_cpy ki1 ki (0 : Int32).toNatClampNeg (0 : Int32).toNatClampNeg (4 : Int32).toNatClampNeg) (va_cpy ha1 ha (0 : Int32).toNatClampNeg (0 : Int32).toNatClampNeg (4 : Int32).toNatClampNeg) (va_cpy sl1 sl (0 : Int32).toNatClampNeg (0 : Int32).toNatClampNeg (4 : Int32).toNatClampNeg) (va_cpy ch1 ch (0 : Int32).toNatClampNeg (0 : Int32).toNatClampNeg (4 : Int32).toNatClampNeg) (va_cpy ci1 ci (0 : Int32).toNatClampNeg (0 : Int32).toNatClampNeg (2 : Int32).toNatClampNeg) dk li re dt la us sp rf se1 ki1 ha1 sl1 ch1 ci1 dk1 li1 re1 dt1 la1 us1 sp1 rf1) := hD
  refine lv_aload_n hx hb dX1_becomeLike_84 rfl (lv_at hl 1 rfl) ?_
  refine va_get (D := D) (ci := 1) (v := .ref (b 6)) (C := RX1) (T := TX1) (N := 14) hx hb hts inA1 hown hK hP 12 rfl rfl 6 (by decide) (hts _ wd_fl_RX1_30) (fun _ h9 => h9) rfl dX1_becomeLike_85 ?_
  refine lv_iconst (v := 0) hx hb dX1_becomeLike_88 (by decide) ?_
  refine lv_aload_n hx hb dX1_becomeLike_89 rfl (lv_at hl 0 rfl) ?_
  refine va_get (D := D) (ci := 1) (v := .ref (a 6)) (C := RX1) (T := TX1) (N := 14) hx hb hts inA1 hown hK hP 0 rfl rfl 6 (by decide) (hts _ wd_fl_RX1_30) (fun _ h9 => h9) rfl dX1_becomeLike_90 ?_
  refine lv_iconst (v := 0) hx hb dX1_becomeLike_93 (by decide) ?_
  refine lv_iconst (v := 2) hx hb dX1_becomeLike_94 (by decide) ?_
  refine va_copyi hx hb (hml.trans hl.1.symm) hown (hts _ wd_ml_RX1_55) (hts _ wd_nat_arraycopyName) (hts _ wd_st_arraycopyName) (hts _ (wd_ini_RJ10)) hK hP hD hS 19 7 0 0 rfl rfl rfl rfl rfl (by decide) (by decide) (by decide) (by decide) (by decide) (fun i _ => rfl) (Nat.le_of_ble_eq_true rfl) (Nat.le_of_ble_eq_true rfl) dX1_becomeLike_95 (fun H locs hP hD hS => ?_)
  have hP : va_P D vwCl (MW2 cI h0 a h1 b (va_cpy se1 se (0 : Int32).toNatClampNeg (0 : Int32).toNatClampNeg (4 : Int32).toNatClampNeg) (va_cpy ki1 ki (0 : Int32).toNatClampNeg (0 : Int32).toNatClampNeg (4 : Int32).toNatClampNeg) (va_cpy ha1 ha (0 : Int32).toNatClampNeg (0 : Int32).toNatClampNeg (4 : Int32).toNatClampNeg) (va_cpy sl1 sl (0 : Int32).toNatClampNeg (0 : Int32).toNatClampNeg (4 : Int32).toNatClampNeg) (va_cpy ch1 ch (0 : Int32).toNatClampNeg (0 : Int32).toNatClampNeg (4 : Int32).toNatClampNeg) (va_cpy ci1 ci (0 : Int32).toNatClampNeg (0 : Int32).toNatClampNeg (2 : Int32).toNatClampNeg) (va_cpy dk1 dk (0 : Int32).toNatClampNeg (0 : Int32).toNatClampNeg (2 : Int32).toNatClampNeg) li re dt la us sp rf se1 ki1 ha1 sl1 ch1 ci1 dk1 li1 re1 dt1 la1 us1 sp1 rf1) H := hP
  have hD : va_D A (MW2 cI h0 a h1 b (va_cpy se1 se (0 : Int32).toNatClampNeg (0 : Int32).toNatClampNeg (4 : Int32).toNatClampNeg) (va_cpy ki1 ki (0 : Int32).toNatClampNeg (0 : Int32).toNatClampNeg (4 : Int32).toNatClampNeg) (va_cpy ha1 ha (0 : Int32).toNatClampNeg (0 : Int32).toNatClampNeg (4 : Int32).toNatClampNeg) (va_cpy sl1 sl (0 : Int32).toNatClampNeg (0 : Int32).toNatClampNeg (4 : Int32).toNatClampNeg) (va_cpy ch1 ch (0 : Int32).toNatClampNeg (0 : Int32).toNatClampNeg (4 : Int32).toNatClampNeg) (va_cpy ci1 ci (0 : Int32).toNatClampNeg (0 : Int32).toNatClampNeg (2 : Int32).toNatClampNeg) (va_cpy dk1 dk (0 : Int32).toNatClampNeg (0 : Int32).toNatClampNeg (2 : Int32).toNatClampNeg) li re dt la us sp rf se1 ki1 ha1 sl1 ch1 ci1 dk1 li1 re1 dt1 la1 us1 sp1 rf1) := hD
  refine lv_aload_n hx hb dX1_becomeLike_98 rfl (lv_at hl 1 rfl) ?_
  refine va_get (D := D) (ci := 1) (v := .ref (b 7)) (C := RX1) (T := TX1) (N := 14) hx hb hts inA1 hown hK hP 12 rfl rfl 7 (by decide) (hts _ wd_fl_RX1_33) (fun _ h9 => h9) rfl dX1_becomeLike_99 ?_
  refine lv_iconst (v := 0) hx hb dX1_becomeLike_102 (by decide) ?_
  refine lv_aload_n hx hb dX1_becomeLike_103 rfl (lv_at hl 0 rfl) ?_
  refine va_get (D := D) (ci := 1) (v := .ref (a 7)) (C := RX1) (T := TX1) (N := 14) hx hb hts inA1 hown hK hP 0 rfl rfl 7 (by decide) (hts _ wd_fl_RX1_33) (fun _ h9 => h9) rfl dX1_becomeLike_104 ?_
  refine lv_iconst (v := 0) hx hb dX1_becomeLike_107 (by decide) ?_
  refine lv_iconst (v := 2) hx hb dX1_becomeLike_108 (by decide) ?_
  refine va_copyi hx hb (hml.trans hl.1.symm) hown (hts _ wd_ml_RX1_55) (hts _ wd_nat_arraycopyName) (hts _ wd_st_arraycopyName) (hts _ (wd_ini_RJ10)) hK hP hD hS 20 8 0 0 rfl rfl rfl rfl rfl (by decide) (by decide) (by decide) (by decide) (by decide) (fun i _ => rfl) (Nat.le_of_ble_eq_true rfl) (Nat.le_of_ble_eq_true rfl) dX1_becomeLike_109 (fun H locs hP hD hS => ?_)
  have hP : va_P D vwCl (MW2 cI h0 a h1 b (va_cpy se1 se (0 : Int32).toNatClampNeg (0 : Int32).toNatClampNeg (4 : Int32).toNatClampNeg) (va_cpy ki1 ki (0 : Int32).toNatClampNeg (0 : Int32).toNatClampNeg (4 : Int32).toNatClampNeg) (va_cpy ha1 ha (0 : Int32).toNatClampNeg (0 : Int32).toNatClampNeg (4 : Int32).toNatClampNeg) (va_cpy sl1 sl (0 : Int32).toNatClampNeg (0 : Int32).toNatClampNeg (4 : Int32).toNatClampNeg) (va_cpy ch1 ch (0 : Int32).toNatClampNeg (0 : Int32).toNatClampNeg (4 : Int32).toNatClampNeg) (va_cpy ci1 ci (0 : Int32).toNatClampNeg (0 : Int32).toNatClampNeg (2 : Int32).toNatClampNeg) (va_cpy dk1 dk (0 : Int32).toNatClampNeg (0 : Int32).toNatClampNeg (2 : Int32).toNatClampNeg) (va_cpy li1 li (0 : Int32).toNatClampNeg (0 : Int32).toNatClampNeg (2 : Int32).toNatClampNeg) re dt la us sp rf se1 ki1 ha1 sl1 ch1 ci1 dk1 li1 re1 dt1 la1 us1 sp1 rf1) H := hP
  have hD : va_D A (MW2 cI h0 a h1 b (va_cpy se1 se (0 : Int32).toNatClampNeg (0 : Int32).toNatClampNeg (4 : Int32).toNatClampNeg) (va_cpy ki1 ki (0 : Int32).toNatClampNeg (0 : Int32).toNatClampNeg (4 : Int32).toNatClampNeg) (va_cpy ha1 ha (0 : Int32).toNatClampNeg (0 : Int32).toNatClampNeg (4 : Int32).toNatClampNeg) (va_cpy sl1 sl (0 : Int32).toNatClampNeg (0 : Int32).toNatClampNeg (4 : Int32).toNatClampNeg) (va_cpy ch1 ch (0 : Int32).toNatClampNeg (0 : Int32).toNatClampNeg (4 : Int32).toNatClampNeg) (va_cpy ci1 ci (0 : Int32).toNatClampNeg (0 : Int32).toNatClampNeg (2 : Int32).toNatClampNeg) (va_cpy dk1 dk (0 : Int32).toNatClampNeg (0 : Int32).toNatClampNeg (2 : Int32).toNatClampNeg) (va_cpy li1 li (0 : Int32).toNatClampNeg (0 : Int32).toNatClampNeg (2 : Int32).toNatClampNeg) re dt la us sp rf se1 ki1 ha1 sl1 ch1 ci1 dk1 li1 re1 dt1 la1 us1 sp1 rf1) := hD
  refine lv_aload_n hx hb dX1_becomeLike_112 rfl (lv_at hl 1 rfl) ?_
  refine va_get (D := D) (ci := 1) (v := .ref (b 8)) (C := RX1) (T := TX1) (N := 14) hx hb hts inA1 hown hK hP 12 rfl rfl 8 (by decide) (hts _ wd_fl_RX1_36) (fun _ h9 => h9) rfl dX1_becomeLike_113 ?_
  refine lv_iconst (v := 0) hx hb dX1_becomeLike_116 (by decide) ?_
  refine lv_aload_n hx hb dX1_becomeLike_117 rfl (lv_at hl 0 rfl) ?_
  refine va_get (D := D) (ci := 1) (v := .ref (a 8)) (C := RX1) (T := TX1) (N := 14) hx hb hts inA1 hown hK hP 0 rfl rfl 8 (by decide) (hts _ wd_fl_RX1_36) (fun _ h9 => h9) rfl dX1_becomeLike_118 ?_
  refine lv_iconst (v := 0) hx hb dX1_becomeLike_121 (by decide) ?_
  refine lv_iconst (v := 2) hx hb dX1_becomeLike_122 (by decide) ?_
  refine va_copyi hx hb (hml.trans hl.1.symm) hown (hts _ wd_ml_RX1_55) (hts _ wd_nat_arraycopyName) (hts _ wd_st_arraycopyName) (hts _ (wd_ini_RJ10)) hK hP hD hS 21 9 0 0 rfl rfl rfl rfl rfl (by decide) (by decide) (by decide) (by decide) (by decide) (fun i _ => rfl) (Nat.le_of_ble_eq_true rfl) (Nat.le_of_ble_eq_true rfl) dX1_becomeLike_123 (fun H locs hP hD hS => ?_)
  have hP : va_P D vwCl (MW2 cI h0 a h1 b (va_cpy se1 se (0 : Int32).toNatClampNeg (0 : Int32).toNatClampNeg (4 : Int32).toNatClampNeg) (va_cpy ki1 ki (0 : Int32).toNatClampNeg (0 : Int32).toNatClampNeg (4 : Int32).toNatClampNeg) (va_cpy ha1 ha (0 : Int32).toNatClampNeg (0 : Int32).toNatClampNeg (4 : Int32).toNatClampNeg) (va_cpy sl1 sl (0 : Int32).toNatClampNeg (0 : Int32).toNatClampNeg (4 : Int32).toNatClampNeg) (va_cpy ch1 ch (0 : Int32).toNatClampNeg (0 : Int32).toNatClampNeg (4 : Int32).toNatClampNeg) (va_cpy ci1 ci (0 : Int32).toNatClampNeg (0 : Int32).toNatClampNeg (2 : Int32).toNatClampNeg) (va_cpy dk1 dk (0 : Int32).toNatClampNeg (0 : Int32).toNatClampNeg (2 : Int32).toNatClampNeg) (va_cpy li1 li (0 : Int32).toNatClampNeg (0 : Int32).toNatClampNeg (2 : Int32).toNatClampNeg) (va_cpy re1 re (0 : Int32).toNatClampNeg (0 : Int32).toNatClampNeg (2 : Int32).toNatClampNeg) dt la us sp rf se1 ki1 ha1 sl1 ch1 ci1 dk1 li1 re1 dt1 la1 us1 sp1 rf1) H := hP
  have hD : va_D A (MW2 cI h0 a h1 b (va_cpy se1 se (0 : Int32).toNatClampNeg (0 : Int32).toNatClampNeg (4 : Int32).toNatClampNeg) (va_cpy ki1 ki (0 : Int32).toNatClampNeg (0 : Int32).toNatClampNeg (4 : Int32).toNatClampNeg) (va_cpy ha1 ha (0 : Int32).toNatClampNeg (0 : Int32).toNatClampNeg (4 : Int32).toNatClampNeg) (va_cpy sl1 sl (0 : Int32).toNatClampNeg (0 : Int32).toNatClampNeg (4 : Int32).toNatClampNeg) (va_cpy ch1 ch (0 : Int32).toNatClampNeg (0 : Int32).toNatClampNeg (4 : Int32).toNatClampNeg) (va_cpy ci1 ci (0 : Int32).toNatClampNeg (0 : Int32).toNatClampNeg (2 : Int32).toNatClampNeg) (va_cpy dk1 dk (0 : Int32).toNatClampNeg (0 : Int32).toNatClampNeg (2 : Int32).toNatClampNeg) (va_cpy li1 li (0 : Int32).toNatClampNeg (0 : Int32).toNatClampNeg (2 : Int32).toNatClampNeg) (va_cpy re1 re (0 : Int32).toNatClampNeg (0 : Int32).toNatClampNeg (2 : Int32).toNatClampNeg) dt la us sp rf se1 ki1 ha1 sl1 ch1 ci1 dk1 li1 re1 dt1 la1 us1 sp1 rf1) := hD
  refine lv_aload_n hx hb dX1_becomeLike_126 rfl (lv_at hl 1 rfl) ?_
  refine va_get (D := D) (ci := 1) (v := .ref (b 9)) (C := RX1) (T := TX1) (N := 14) hx hb hts inA1 hown hK hP 12 rfl rfl 9 (by decide) (hts _ wd_fl_RX1_39) (fun _ h9 => h9) rfl dX1_becomeLike_127 ?_
  refine lv_iconst (v := 0) hx hb dX1_becomeLike_130 (by decide) ?_
  refine lv_aload_n hx hb dX1_becomeLike_131 rfl (lv_at hl 0 rfl) ?_
  refine va_get (D := D) (ci := 1) (v := .ref (a 9)) (C := RX1) (T := TX1) (N := 14) hx hb hts inA1 hown hK hP 0 rfl rfl 9 (by decide) (hts _ wd_fl_RX1_39) (fun _ h9 => h9) rfl dX1_becomeLike_132 ?_
  refine lv_iconst (v := 0) hx hb dX1_becomeLike_135 (by decide) ?_
  refine lv_iconst (v := 2) hx hb dX1_becomeLike_136 (by decide) ?_
  refine va_copyi hx hb (hml.trans hl.1.symm) hown (hts _ wd_ml_RX1_55) (hts _ wd_nat_arraycopyName) (hts _ wd_st_arraycopyName) (hts _ (wd_ini_RJ10)) hK hP hD hS 22 10 0 0 rfl rfl rfl rfl rfl (by decide) (by decide) (by decide) (by decide) (by decide) (fun i _ => rfl) (Nat.le_of_ble_eq_true rfl) (Nat.le_of_ble_eq_true rfl) dX1_becomeLike_137 (fun H locs hP hD hS => ?_)
  have hP : va_P D vwCl (MW2 cI h0 a h1 b (va_cpy se1 se (0 : Int32).toNatClampNeg (0 : Int32).toNatClampNeg (4 : Int32).toNatClampNeg) (va_cpy ki1 ki (0 : Int32).toNatClampNeg (0 : Int32).toNatClampNeg (4 : Int32).toNatClampNeg) (va_cpy ha1 ha (0 : Int32).toNatClampNeg (0 : Int32).toNatClampNeg (4 : Int32).toNatClampNeg) (va_cpy sl1 sl (0 : Int32).toNatClampNeg (0 : Int32).toNatClampNeg (4 : Int32).toNatClampNeg) (va_cpy ch1 ch (0 : Int32).toNatClampNeg (0 : Int32).toNatClampNeg (4 : Int32).toNatClampNeg) (va_cpy ci1 ci (0 : Int32).toNatClampNeg (0 : Int32).toNatClampNeg (2 : Int32).toNatClampNeg) (va_cpy dk1 dk (0 : Int32).toNatClampNeg (0 : Int32).toNatClampNeg (2 : Int32).toNatClampNeg) (va_cpy li1 li (0 : Int32).toNatClampNeg (0 : Int32).toNatClampNeg (2 : Int32).toNatClampNeg) (va_cpy re1 re (0 : Int32).toNatClampNeg (0 : Int32).toNatClampNeg (2 : Int32).toNatClampNeg) (va_cpy dt1 dt (0 : Int32).toNatClampNeg (0 : Int32).toNatClampNeg (2 : Int32).toNatClampNeg) la us sp rf se1 ki1 ha1 sl1 ch1 ci1 dk1 li1 re1 dt1 la1 us1 sp1 rf1) H := hP
  have hD : va_D A (MW2 cI h0 a h1 b (va_cpy se1 se (0 : Int32).toNatClampNeg (0 : Int32).toNatClampNeg (4 : Int32).toNatClampNeg) (va_cpy ki1 ki (0 : Int32).toNatClampNeg (0 : Int32).toNatClampNeg (4 : Int32).toNatClampNeg) (va_cpy ha1 ha (0 : Int32).toNatClampNeg (0 : Int32).toNatClampNeg (4 : Int32).toNatClampNeg) (va_cpy sl1 sl (0 : Int32).toNatClampNeg (0 : Int32).toNatClampNeg (4 : Int32).toNatClampNeg) (va_cpy ch1 ch (0 : Int32).toNatClampNeg (0 : Int32).toNatClampNeg (4 : Int32).toNatClampNeg) (va_cpy ci1 ci (0 : Int32).toNatClampNeg (0 : Int32).toNatClampNeg (2 : Int32).toNatClampNeg) (va_cpy dk1 dk (0 : Int32).toNatClampNeg (0 : Int32).toNatClampNeg (2 : Int32).toNatClampNeg) (va_cpy li1 li (0 : Int32).toNatClampNeg (0 : Int32).toNatClampNeg (2 : Int32).toNatClampNeg) (va_cpy re1 re (0 : Int32).toNatClampNeg (0 : Int32).toNatClampNeg (2 : Int32).toNatClampNeg) (va_cpy dt1 dt (0 : Int32).toNatClampNeg (0 : Int32).toNatClampNeg (2 : Int32).toNatClampNeg) la us sp rf se1 ki1 ha1 sl1 ch1 ci1 dk1 li1 re1 dt1 la1 us1 sp1 rf1) := hD
  refine lv_aload_n hx hb dX1_becomeLike_140 rfl (lv_at hl 1 rfl) ?_
  refine va_get (D := D) (ci := 1) (v := .ref (b 10)) (C := RX1) (T := TX1) (N := 14) hx hb hts inA1 hown hK hP 12 rfl rfl 10 (by decide) (hts _ wd_fl_RX1_42) (fun _ h9 => h9) rfl dX1_becomeLike_141 ?_
  refine lv_iconst (v := 0) hx hb dX1_becomeLike_144 (by decide) ?_
  refine lv_aload_n hx hb dX1_becomeLike_145 rfl (lv_at hl 0 rfl) ?_
  refine va_get (D := D) (ci := 1) (v := .ref (a 10)) (C := RX1) (T := TX1) (N := 14) hx hb hts inA1 hown hK hP 0 rfl rfl 10 (by decide) (hts _ wd_fl_RX1_42) (fun _ h9 => h9) rfl dX1_becomeLike_146 ?_
  refine lv_iconst (v := 0) hx hb dX1_becomeLike_149 (by decide) ?_
  refine lv_iconst (v := 2) hx hb dX1_becomeLike_150 (by decide) ?_
  refine va_copyi hx hb (hml.trans hl.1.symm) hown (hts _ wd_ml_RX1_55) (hts _ wd_nat_arraycopyName) (hts _ wd_st_arraycopyName) (hts _ (wd_ini_RJ10)) hK hP hD hS 23 11 0 0 rfl rfl rfl rfl rfl (by decide) (by decide) (by decide) (by decide) (by decide) (fun i _ => rfl) (Nat.le_of_ble_eq_true rfl) (Nat.le_of_ble_eq_true rfl) dX1_becomeLike_151 (fun H locs hP hD hS => ?_)
  have hP : va_P D vwCl (MW2 cI h0 a h1 b (va_cpy se1 se (0 : Int32).toNatClampNeg (0 : Int32).toNatClampNeg (4 : Int32).toNatClampNeg) (va_cpy ki1 ki (0 : Int32).toNatClampNeg (0 : Int32).toNatClampNeg (4 : Int32).toNatClampNeg) (va_cpy ha1 ha (0 : Int32).toNatClampNeg (0 : Int32).toNatClampNeg (4 : Int32).toNatClampNeg) (va_cpy sl1 sl (0 : Int32).toNatClampNeg (0 : Int32).toNatClampNeg (4 : Int32).toNatClampNeg) (va_cpy ch1 ch (0 : Int32).toNatClampNeg (0 : Int32).toNatClampNeg (4 : Int32).toNatClampNeg) (va_cpy ci1 ci (0 : Int32).toNatClampNeg (0 : Int32).toNatClampNeg (2 : Int32).toNatClampNeg) (va_cpy dk1 dk (0 : Int32).toNatClampNeg (0 : Int32).toNatClampNeg (2 : Int32).toNatClampNeg) (va_cpy li1 li (0 : Int32).toNatClampNeg (0 : Int32).toNatClampNeg (2 : Int32).toNatClampNeg) (va_cpy re1 re (0 : Int32).toNatClampNeg (0 : Int32).toNatClampNeg (2 : Int32).toNatClampNeg) (va_cpy dt1 dt (0 : Int32).toNatClampNeg (0 : Int32).toNatClampNeg (2 : Int32).toNatClampNeg) (va_cpy la1 la (0 : Int32).toNatClampNeg (0 : Int32).toNatClampNeg (2 : Int32).toNatClampNeg) us sp rf se1 ki1 ha1 sl1 ch1 ci1 dk1 li1 re1 dt1 la1 us1 sp1 rf1) H := hP
  have hD : va_D A (MW2 cI h0 a h1 b (va_cpy se1 se (0 : Int32).toNatClampNeg (0 : Int32).toNatClampNeg (4 : Int32).toNatClampNeg) (va_cpy ki1 ki (0 : Int32).toNatClampNeg (0 : Int32).toNatClampNeg (4 : Int32).toNatClampNeg) (va_cpy ha1 ha (0 : Int32).toNatClampNeg (0 : Int32).toNatClampNeg (4 : Int32).toNatClampNeg) (va_cpy sl1 sl (0 : Int32).toNatClampNeg (0 : Int32).toNatClampNeg (4 : Int32).toNatClampNeg) (va_cpy ch1 ch (0 : Int32).toNatClampNeg (0 : Int32).toNatClampNeg (4 : Int32).toNatClampNeg) (va_cpy ci1 ci (0 : Int32).toNatClampNeg (0 : Int32).toNatClampNeg (2 : Int32).toNatClampNeg) (va_cpy dk1 dk (0 : Int32).toNatClampNeg (0 : Int32).toNatClampNeg (2 : Int32).toNatClampNeg) (va_cpy li1 li (0 : Int32).toNatClampNeg (0 : Int32).toNatClampNeg (2 : Int32).toNatClampNeg) (va_cpy re1 re (0 : Int32).toNatClampNeg (0 : Int32).toNatClampNeg (2 : Int32).toNatClampNeg) (va_cpy dt1 dt (0 : Int32).toNatClampNeg (0 : Int32).toNatClampNeg (2 : Int32).toNatClampNeg) (va_cpy la1 la (0 : Int32).toNatClampNeg (0 : Int32).toNatClampNeg (2 : Int32).toNatClampNeg) us sp rf se1 ki1 ha1 sl1 ch1 ci1 dk1 li1 re1 dt1 la1 us1 sp1 rf1) := hD
  refine lv_aload_n hx hb dX1_becomeLike_154 rfl (lv_at hl 0 rfl) ?_
  refine lv_aload_n hx hb dX1_becomeLike_155 rfl (lv_at hl 1 rfl) ?_
  refine va_get (D := D) (ci := 1) (v := .int us1) (C := RX1) (T := TX1) (N := 14) hx hb hts inA1 hown hK hP 12 rfl rfl 11 (by decide) (hts _ wd_fl_RX1_45) (fun _ h9 => h9) rfl dX1_becomeLike_156 ?_
  refine va_put (D := D) (ci := 1) (v := .int us1) (ty := .int) (C := RX1) (T := TX1) (N := 14) hx hb hts inA1 tyX1 tyX1_ok nmX1 hown hK hP hD hS 0 rfl rfl 11 (by decide) (hts _ wd_fl_RX1_45) (fun _ h9 => h9) rfl (by decide +kernel) rfl rfl (Nat.le_of_ble_eq_true rfl) dX1_becomeLike_159 (fun H locs hP hD hS => ?_)
  have hP : va_P D vwCl (MW2 cI h0 a h1 b (va_cpy se1 se (0 : Int32).toNatClampNeg (0 : Int32).toNatClampNeg (4 : Int32).toNatClampNeg) (va_cpy ki1 ki (0 : Int32).toNatClampNeg (0 : Int32).toNatClampNeg (4 : Int32).toNatClampNeg) (va_cpy ha1 ha (0 : Int32).toNatClampNeg (0 : Int32).toNatClampNeg (4 : Int32).toNatClampNeg) (va_cpy sl1 sl (0 : Int32).toNatClampNeg (0 : Int32).toNatClampNeg (4 : Int32).toNatClampNeg) (va_cpy ch1 ch (0 : Int32).toNatClampNeg (0 : Int32).toNatClampNeg (4 : Int32).toNatClampNeg) (va_cpy ci1 ci (0 : Int32).toNatClampNeg (0 : Int32).toNatClampNeg (2 : Int32).toNatClampNeg) (va_cpy dk1 dk (0 : Int32).toNatClampNeg (0 : Int32).toNatClampNeg (2 : Int32).toNatClampNeg) (va_cpy li1 li (0 : Int32).toNatClampNeg (0 : Int32).toNatClampNeg (2 : Int32).toNatClampNeg) (va_cpy re1 re (0 : Int32).toNatClampNeg (0 : Int32).toNatClampNeg (2 : Int32).toNatClampNeg) (va_cpy dt1 dt (0 : Int32).toNatClampNeg (0 : Int32).toNatClampNeg (2 : Int32).toNatClampNeg) (va_cpy la1 la (0 : Int32).toNatClampNeg (0 : Int32).toNatClampNeg (2 : Int32).toNatClampNeg) us1 sp rf se1 ki1 ha1 sl1 ch1 ci1 dk1 li1 re1 dt1 la1 us1 sp1 rf1) H := hP
  have hD : va_D A (MW2 cI h0 a h1 b (va_cpy se1 se (0 : Int32).toNatClampNeg (0 : Int32).toNatClampNeg (4 : Int32).toNatClampNeg) (va_cpy ki1 ki (0 : Int32).toNatClampNeg (0 : Int32).toNatClampNeg (4 : Int32).toNatClampNeg) (va_cpy ha1 ha (0 : Int32).toNatClampNeg (0 : Int32).toNatClampNeg (4 : Int32).toNatClampNeg) (va_cpy sl1 sl (0 : Int32).toNatClampNeg (0 : Int32).toNatClampNeg (4 : Int32).toNatClampNeg) (va_cpy ch1 ch (0 : Int32).toNatClampNeg (0 : Int32).toNatClampNeg (4 : Int32).toNatClampNeg) (va_cpy ci1 ci (0 : Int32).toNatClampNeg (0 : Int32).toNatClampNeg (2 : Int32).toNatClampNeg) (va_cpy dk1 dk (0 : Int32).toNatClampNeg (0 : Int32).toNatClampNeg (2 : Int32).toNatClampNeg) (va_cpy li1 li (0 : Int32).toNatClampNeg (0 : Int32).toNatClampNeg (2 : Int32).toNatClampNeg) (va_cpy re1 re (0 : Int32).toNatClampNeg (0 : Int32).toNatClampNeg (2 : Int32).toNatClampNeg) (va_cpy dt1 dt (0 : Int32).toNatClampNeg (0 : Int32).toNatClampNeg (2 : Int32).toNatClampNeg) (va_cpy la1 la (0 : Int32).toNatClampNeg (0 : Int32).toNatClampNeg (2 : Int32).toNatClampNeg) us1 sp rf se1 ki1 ha1 sl1 ch1 ci1 dk1 li1 re1 dt1 la1 us1 sp1 rf1) := hD
  refine lv_aload_n hx hb dX1_becomeLike_162 rfl (lv_at hl 0 rfl) ?_
  refine lv_aload_n hx hb dX1_becomeLike_163 rfl (lv_at hl 1 rfl) ?_
  refine va_get (D := D) (ci := 1) (v := .int sp1) (C := RX1) (T := TX1) (N := 14) hx hb hts inA1 hown hK hP 12 rfl rfl 12 (by decide) (hts _ wd_fl_RX1_49) (fun _ h9 => h9) rfl dX1_becomeLike_164 ?_
  refine va_put (D := D) (ci := 1) (v := .int sp1) (ty := .int) (C := RX1) (T := TX1) (N := 14) hx hb hts inA1 tyX1 tyX1_ok nmX1 hown hK hP hD hS 0 rfl rfl 12 (by decide) (hts _ wd_fl_RX1_49) (fun _ h9 => h9) rfl (by decide +kernel) rfl rfl (Nat.le_of_ble_eq_true rfl) dX1_becomeLike_167 (fun H locs hP hD hS => ?_)
  have hP : va_P D vwCl (MW2 cI h0 a h1 b (va_cpy se1 se (0 : Int32).toNatClampNeg (0 : Int32).toNatClampNeg (4 : Int32).toNatClampNeg) (va_cpy ki1 ki (0 : Int32).toNatClampNeg (0 : Int32).toNatClampNeg (4 : Int32).toNatClampNeg) (va_cpy ha1 ha (0 : Int32).toNatClampNeg (0 : Int32).toNatClampNeg (4 : Int32).toNatClampNeg) (va_cpy sl1 sl (0 : Int32).toNatClampNeg (0 : Int32).toNatClampNeg (4 : Int32).toNatClampNeg) (va_cpy ch1 ch (0 : Int32).toNatClampNeg (0 : Int32).toNatClampNeg (4 : Int32).toNatClampNeg) (va_cpy ci1 ci (0 : Int32).toNatClampNeg (0 : Int32).toNatClampNeg (2 : Int32).toNatClampNeg) (va_cpy dk1 dk (0 : Int32).toNatClampNeg (0 : Int32).toNatClampNeg (2 : Int32).toNatClampNeg) (va_cpy li1 li (0 : Int32).toNatClampNeg (0 : Int32).toNatClampNeg (2 : Int32).toNatClampNeg) (va_cpy re1 re (0 : Int32).toNatClampNeg (0 : Int32).toNatClampNeg (2 : Int32).toNatClampNeg) (va_cpy dt1 dt (0 : Int32).toNatClampNeg (0 : Int32).toNatClampNeg (2 : Int32).toNatClampNeg) (va_cpy la1 la (0 : Int32).toNatClampNeg (0 : Int32).toNatClampNeg (2 : Int32).toNatClampNeg) us1 sp1 rf se1 ki1 ha1 sl1 ch1 ci1 dk1 li1 re1 dt1 la1 us1 sp1 rf1) H := hP
  have hD : va_D A (MW2 cI h0 a h1 b (va_cpy se1 se (0 : Int32).toNatClampNeg (0 : Int32).toNatClampNeg (4 : Int32).toNatClampNeg) (va_cpy ki1 ki (0 : Int32).toNatClampNeg (0 : Int32).toNatClampNeg (4 : Int32).toNatClampNeg) (va_cpy ha1 ha (0 : Int32).toNatClampNeg (0 : Int32).toNatClampNeg (4 : Int32).toNatClampNeg) (va_cpy sl1 sl (0 : Int32).toNatClampNeg (0 : Int32).toNatClampNeg (4 : Int32).toNatClampNeg) (va_cpy ch1 ch (0 : Int32).toNatClampNeg (0 : Int32).toNatClampNeg (4 : Int32).toNatClampNeg) (va_cpy ci1 ci (0 : Int32).toNatClampNeg (0 : Int32).toNatClampNeg (2 : Int32).toNatClampNeg) (va_cpy dk1 dk (0 : Int32).toNatClampNeg (0 : Int32).toNatClampNeg (2 : Int32).toNatClampNeg) (va_cpy li1 li (0 : Int32).toNatClampNeg (0 : Int32).toNatClampNeg (2 : Int32).toNatClampNeg) (va_cpy re1 re (0 : Int32).toNatClampNeg (0 : Int32).toNatClampNeg (2 : Int32).toNatClampNeg) (va_cpy dt1 dt (0 : Int32).toNatClampNeg (0 : Int32).toNatClampNeg (2 : Int32).toNatClampNeg) (va_cpy la1 la (0 : Int32).toNatClampNeg (0 : Int32).toNatClampNeg (2 : Int32).toNatClampNeg) us1 sp1 rf se1 ki1 ha1 sl1 ch1 ci1 dk1 li1 re1 dt1 la1 us1 sp1 rf1) := hD
  refine lv_aload_n hx hb dX1_becomeLike_170 rfl (lv_at hl 0 rfl) ?_
  refine lv_aload_n hx hb dX1_becomeLike_171 rfl (lv_at hl 1 rfl) ?_
  refine va_get (D := D) (ci := 1) (v := .int rf1) (C := RX1) (T := TX1) (N := 14) hx hb hts inA1 hown hK hP 12 rfl rfl 13 (by decide) (hts _ wd_fl_RX1_52) (fun _ h9 => h9) rfl dX1_becomeLike_172 ?_
  refine va_put (D := D) (ci := 1) (v := .int rf1) (ty := .int) (C := RX1) (T := TX1) (N := 14) hx hb hts inA1 tyX1 tyX1_ok nmX1 hown hK hP hD hS 0 rfl rfl 13 (by decide) (hts _ wd_fl_RX1_52) (fun _ h9 => h9) rfl (by decide +kernel) rfl rfl (Nat.le_of_ble_eq_true rfl) dX1_becomeLike_175 (fun H locs hP hD hS => ?_)
  have hP : va_P D vwCl (MW2 cI h0 a h1 b (va_cpy se1 se (0 : Int32).toNatClampNeg (0 : Int32).toNatClampNeg (4 : Int32).toNatClampNeg) (va_cpy ki1 ki (0 : Int32).toNatClampNeg (0 : Int32).toNatClampNeg (4 : Int32).toNatClampNeg) (va_cpy ha1 ha (0 : Int32).toNatClampNeg (0 : Int32).toNatClampNeg (4 : Int32).toNatClampNeg) (va_cpy sl1 sl (0 : Int32).toNatClampNeg (0 : Int32).toNatClampNeg (4 : Int32).toNatClampNeg) (va_cpy ch1 ch (0 : Int32).toNatClampNeg (0 : Int32).toNatClampNeg (4 : Int32).toNatClampNeg) (va_cpy ci1 ci (0 : Int32).toNatClampNeg (0 : Int32).toNatClampNeg (2 : Int32).toNatClampNeg) (va_cpy dk1 dk (0 : Int32).toNatClampNeg (0 : Int32).toNatClampNeg (2 : Int32).toNatClampNeg) (va_cpy li1 li (0 : Int32).toNatClampNeg (0 : Int32).toNatClampNeg (2 : Int32).toNatClampNeg) (va_cpy re1 re (0 : Int32).toNatClampNeg (0 : Int32).toNatClampNeg (2 : Int32).toNatClampNeg) (va_cpy dt1 dt (0 : Int32).toNatClampNeg (0 : Int32).toNatClampNeg (2 : Int32).toNatClampNeg) (va_cpy la1 la (0 : Int32).toNatClampNeg (0 : Int32).toNatClampNeg (2 : Int32).toNatClampNeg) us1 sp1 rf1 se1 ki1 ha1 sl1 ch1 ci1 dk1 li1 re1 dt1 la1 us1 sp1 rf1) H := hP
  have hD : va_D A (MW2 cI h0 a h1 b (va_cpy se1 se (0 : Int32).toNatClampNeg (0 : Int32).toNatClampNeg (4 : Int32).toNatClampNeg) (va_cpy ki1 ki (0 : Int32).toNatClampNeg (0 : Int32).toNatClampNeg (4 : Int32).toNatClampNeg) (va_cpy ha1 ha (0 : Int32).toNatClampNeg (0 : Int32).toNatClampNeg (4 : Int32).toNatClampNeg) (va_cpy sl1 sl (0 : Int32).toNatClampNeg (0 : Int32).toNatClampNeg (4 : Int32).toNatClampNeg) (va_cpy ch1 ch (0 : Int32).toNatClampNeg (0 : Int32).toNatClampNeg (4 : Int32).toNatClampNeg) (va_cpy ci1 ci (0 : Int32).toNatClampNeg (0 : Int32).toNatClampNeg (2 : Int32).toNatClampNeg) (va_cpy dk1 dk (0 : Int32).toNatClampNeg (0 : Int32).toNatClampNeg (2 : Int32).toNatClampNeg) (va_cpy li1 li (0 : Int32).toNatClampNeg (0 : Int32).toNatClampNeg (2 : Int32).toNatClampNeg) (va_cpy re1 re (0 : Int32).toNatClampNeg (0 : Int32).toNatClampNeg (2 : Int32).toNatClampNeg) (va_cpy dt1 dt (0 : Int32).toNatClampNeg (0 : Int32).toNatClampNeg (2 : Int32).toNatClampNeg) (va_cpy la1 la (0 : Int32).toNatClampNeg (0 : Int32).toNatClampNeg (2 : Int32).toNatClampNeg) us1 sp1 rf1 se1 ki1 ha1 sl1 ch1 ci1 dk1 li1 re1 dt1 la1 us1 sp1 rf1) := hD
  exact hret _ _ _ _ ((va_cpy se1 se (0 : Int32).toNatClampNeg (0 : Int32).toNatClampNeg (4 : Int32).toNatClampNeg), (va_cpy ki1 ki (0 : Int32).toNatClampNeg (0 : Int32).toNatClampNeg (4 : Int32).toNatClampNeg), (va_cpy ha1 ha (0 : Int32).toNatClampNeg (0 : Int32).toNatClampNeg (4 : Int32).toNatClampNeg), (va_cpy sl1 sl (0 : Int32).toNatClampNeg (0 : Int32).toNatClampNeg (4 : Int32).toNatClampNeg), (va_cpy ch1 ch (0 : Int32).toNatClampNeg (0 : Int32).toNatClampNeg (4 : Int32).toNatClampNeg), (va_cpy ci1 ci (0 : Int32).toNatClampNeg (0 : Int32).toNatClampNeg (2 : Int32).toNatClampNeg), (va_cpy dk1 dk (0 : Int32).toNatClampNeg (0 : Int32).toNatClampNeg (2 : Int32).toNatClampNeg), (va_cpy li1 li (0 : Int32).toNatClampNeg (0 : Int32).toNatClampNeg (2 : Int32).toNatClampNeg), (va_cpy re1 re (0 : Int32).toNatClampNeg (0 : Int32).toNatClampNeg (2 : Int32).toNatClampNeg), (va_cpy dt1 dt (0 : Int32).toNatClampNeg (0 : Int32).toNatClampNeg (2 : Int32).toNatClampNeg), (va_cpy la1 la (0 : Int32).toNatClampNeg (0 : Int32).toNatClampNeg (2 : Int32).toNatClampNeg), us1, sp1, rf1) dX1_becomeLike_178 (hq.symm.trans hX) hP hD hS
end
section
/-- the cells of the reference -/
abbrev MO (cI : ClassId) (h0 : Nat) (a : Nat → Nat) (sv pa : Nat → Int32) (pn : Int32) (sn : Nat → Int32) (kp : Int32) (pd : Nat → Int32) (ln : Int32) (so : Nat → Int32) (po wr lt fr sc tm hd st : Int32) : va_W := [(h0, .inr (5, [.ref (a 0), .ref (a 1), .int pn, .ref (a 2), .int kp, .ref (a 3), .int ln, .ref (a 4), .int po, .int wr, .int lt, .int fr, .int sc, .int tm, .int hd, .int st])), (a 0, .inl (cI, 35, .inl sv)), (a 1, .inl (cI, 140, .inl pa)), (a 2, .inl (cI, 35, .inl sn)), (a 3, .inl (cI, 60, .inl pd)), (a 4, .inl (cI, 4, .inl so))]
theorem vp_row {p k : Int32} (hp : vp_in p 4) (hk : vp_in k 35) : vp_in (35 * p + k) 140 := by
  rw [vp_in_iff] at *
  have e1 : (35 * p).toInt = 35 * p.toInt := by
    rw [Int32.toInt_mul]
    exact Int.bmod_eq_of_le (by simp; omega) (by simp; omega)
  have e2 : (35 * p + k).toInt = 35 * p.toInt + k.toInt := by
    rw [Int32.toInt_add, e1]
    exact Int.bmod_eq_of_le (by simp; omega) (by simp; omega)
  omega
theorem k_up {k N : Int32} (h : ¬ k < 0) (c : ¬ N ≤ k) (hN : N.toInt ≤ 1000000) : ¬ k + 1 < 0 := by
  rw [Int32.lt_iff_toInt_lt] at *
  rw [Int32.le_iff_toInt_le] at c
  have e : (k + 1).toInt = k.toInt + 1 := by
    have : (0 : Int32).toInt = 0 := rfl
    rw [Int32.toInt_add]
    exact Int.bmod_eq_of_le (by simp; omega) (by simp; omega)
  have : (0 : Int32).toInt = 0 := rfl
  omega
theorem vp_not4 {x : Int32} (h : vp_in x 5) (c : ¬ x = 4) : vp_in x 4 := by
  rw [vp_in_iff] at *
  have := k_ne c
  have : (4 : Int32).toInt = 4 := rfl
  omega
theorem vp_decr {x k : Int32} {n : Nat} (h : vp_in x (n + 1)) (c : ¬ x = k) (hk : k.toInt = n) : vp_in x n := by
  rw [vp_in_iff] at *
  have := k_ne c
  omega
theorem vp_pred {x : Int32} (h : vp_in x 5) (c : ¬ x = 0) : vp_in (x - 1) 4 := by
  rw [vp_in_iff] at *
  have := k_ne c
  have : (0 : Int32).toInt = 0 := rfl
  have e : (x - 1).toInt = x.toInt - 1 := by
    rw [Int32.toInt_sub]
    exact Int.bmod_eq_of_le (by simp; omega) (by simp; omega)
  omega

def sh_X5_in (x1 : Int32) (x2 : Int32) (x3 : Int32) : Int32 := (if x1 < x2 then 0 else (if x3 < x1 then 0 else 1))
abbrev rm_X5_in : Room := { frames := 0, cells := 0, slots := 0, locals := 0 }
theorem hd_X5_in : hdT yX5_in 3 := by decide +kernel
set_option maxHeartbeats 4000000 in
set_option maxRecDepth 100000 in
theorem c_X5_in (l : Launch) (D : va_G) (cI cC cQ : ClassId) (sz : Nat)  (x1 : Int32) (x2 : Int32) (x3 : Int32)  : Met l yX5_in (wsO yX5_in cX5_in 3 (some .boolean)) rm_X5_in (va_Pc [.int x1, .int x2, .int x3] (inW D (TYS cI cC cQ) [] sz)) (va_Qi (fun (r : Int32) (_ : Unit) => r = sh_X5_in x1 x2 x3) (fun (u : Unit) => atW D (TYS cI cC cQ) (va_A [] sz) []) (va_A [] sz)) 0 0 (va_A [] sz) := by
  refine k_meti .boolean rfl (by decide) (Nat.le_of_ble_eq_true rfl) ?_
  intro p e s m args below meth c A ls Q H locs hargs hret hx hb hts hown hml hname hN hA hS hP hK hD hl
  have hl : lv_has ls 3 [(0, .int x1), (1, .int x2), (2, .int x3)] := hl
  obtain ⟨Xq, hX⟩ : ∃ Xq, Xq = sh_X5_in x1 x2 x3 := ⟨_, rfl⟩
  have hq : Xq = (if x1 < x2 then 0 else (if x3 < x1 then 0 else 1)) := hX
  refine lv_iload_n hx hb dX5_in_0 rfl (lv_at hl 0 rfl) ?_
  refine lv_iload_n hx hb dX5_in_1 rfl (lv_at hl 1 rfl) ?_
  refine lv_icmp_lt (tgt := 14) hx hb dX5_in_2 (by decide) (fun c1 => ?_) (fun c1 => ?_)
  · have hq : Xq = 0 := hq.trans (if_pos c1)
    refine lv_iconst (v := 0) hx hb dX5_in_14 (by decide) ?_
    exact hret _ _ _ _ (0) () dX5_in_15 rfl (hq.symm.trans hX) hP hD hS
  · have hq : Xq = (if x3 < x1 then 0 else 1) := hq.trans (if_neg c1)
    refine lv_iload_n hx hb dX5_in_5 rfl (lv_at hl 0 rfl) ?_
    refine lv_iload_n hx hb dX5_in_6 rfl (lv_at hl 2 rfl) ?_
    refine lv_icmp_gt (tgt := 14) hx hb dX5_in_7 (by decide) (fun c2 => ?_) (fun c2 => ?_)
    · have hq : Xq = 0 := hq.trans (if_pos c2)
      refine lv_iconst (v := 0) hx hb dX5_in_14 (by decide) ?_
      exact hret _ _ _ _ (0) () dX5_in_15 rfl (hq.symm.trans hX) hP hD hS
    · have hq : Xq = 1 := hq.trans (if_neg c2)
      refine lv_iconst (v := 1) hx hb dX5_in_10 (by decide) ?_
      refine lv_goto (tgt := 15) hx hb dX5_in_11 (by decide) ?_
      exact hret _ _ _ _ (1) () dX5_in_15 rfl (hq.symm.trans hX) hP hD hS
theorem in01 {a b c : Int32} : narrow .boolean (.int (sh_X5_in a b c)) = .int (sh_X5_in a b c) := by
  unfold sh_X5_in
  split
  · rfl
  · split <;> rfl
theorem inIn {x hi : Int32} {n : Nat} (h : ¬ sh_X5_in x 0 hi = 0) (hn : hi.toInt + 1 = n) : vp_in x n := by
  unfold sh_X5_in at h
  split at h
  · exact absurd rfl h
  · split at h
    · exact absurd rfl h
    · rename_i h1 h2
      rw [vp_in_iff]
      rw [Int32.lt_iff_toInt_lt] at h1 h2
      have : (0 : Int32).toInt = 0 := rfl
      omega
def sh_X5_isCup (x1 : Int32) : Int32 := (sh_X5_in x1 0 3)
abbrev rm_X5_isCup : Room := { frames := 1, cells := 0, slots := 0, locals := 22 }
theorem hd_X5_isCup : hdT yX5_isCup 1 := by decide +kernel
set_option maxHeartbeats 4000000 in
set_option maxRecDepth 100000 in
theorem c_X5_isCup (l : Launch) (D : va_G) (cI cC cQ : ClassId) (sz : Nat)  (x1 : Int32)  : Met l yX5_isCup (wsO yX5_isCup cX5_isCup 1 (some .boolean)) rm_X5_isCup (va_Pc [.int x1] (inW D (TYS cI cC cQ) [] sz)) (va_Qi (fun (r : Int32) (_ : Unit) => r = sh_X5_isCup x1) (fun (u : Unit) => atW D (TYS cI cC cQ) (va_A [] sz) []) (va_A [] sz)) 0 0 (va_A [] sz) := by
  refine k_meti .boolean rfl (by decide) (Nat.le_of_ble_eq_true rfl) ?_
  intro p e s m args below meth c A ls Q H locs hargs hret hx hb hts hown hml hname hN hA hS hP hK hD hl
  have hl : lv_has ls 1 [(0, .int x1)] := hl
  obtain ⟨Xq, hX⟩ : ∃ Xq, Xq = sh_X5_isCup x1 := ⟨_, rfl⟩
  have hq : Xq = (sh_X5_in x1 0 3) := hX
  refine lv_iload_n hx hb dX5_isCup_0 rfl (lv_at hl 0 rfl) ?_
  refine lv_iconst (v := 0) hx hb dX5_isCup_1 (by decide) ?_
  refine lv_iconst (v := 3) hx hb dX5_isCup_2 (by decide) ?_
  have hPs := k_self hP
  have hDs := k_selfD hD
  refine k_behi (X := []) (Y := []) (va_runS (As := [.int x1, .int 0, .int 3]) (rest := []) ⟨hx, hb, hml, hown, hts⟩ (c_X5_in l D cI cC cQ H.size x1 0 3) (kcwS hts wd_ml_RX5_25 wd_st_yX5_in wd_ini_RX5 wd_code_yX5_in rfl rfl hd_X5_in ⟨Nat.le_of_ble_eq_true rfl, Nat.le_of_ble_eq_true rfl⟩) ⟨in_blind, k_pre hK (pa_l (pa_r hPs)) (da_l (da_r hDs)) hN⟩ rfl rfl hl.1 rfl (lv_room (Nat.le_of_ble_eq_true rfl)) dX5_isCup_3 ⟨Nat.le_of_ble_eq_true rfl, Nat.le_of_ble_eq_true rfl⟩) hPs hDs hS hA (fun r1 u2 H locs hw3 hP hD hS => ?_)
  have hP := k_unP hP
  have hD := k_unD hD
  have hP : va_P D vwCl [] H := hP
  have hD : va_D A [] := hD
  have hw3 : r1 = (sh_X5_in x1 0 3) := hw3
  subst hw3
  exact hret _ _ _ _ ((sh_X5_in x1 0 3)) () dX5_isCup_6 in01 (hq.symm.trans hX) hP hD hS
def sh_X5_isPrinter (x1 : Int32) : Int32 := (sh_X5_in x1 0 1)
abbrev rm_X5_isPrinter : Room := { frames := 1, cells := 0, slots := 0, locals := 22 }
theorem hd_X5_isPrinter : hdT yX5_isPrinter 1 := by decide +kernel
set_option maxHeartbeats 4000000 in
set_option maxRecDepth 100000 in
theorem c_X5_isPrinter (l : Launch) (D : va_G) (cI cC cQ : ClassId) (sz : Nat)  (x1 : Int32)  : Met l yX5_isPrinter (wsO yX5_isPrinter cX5_isPrinter 1 (some .boolean)) rm_X5_isPrinter (va_Pc [.int x1] (inW D (TYS cI cC cQ) [] sz)) (va_Qi (fun (r : Int32) (_ : Unit) => r = sh_X5_isPrinter x1) (fun (u : Unit) => atW D (TYS cI cC cQ) (va_A [] sz) []) (va_A [] sz)) 0 0 (va_A [] sz) := by
  refine k_meti .boolean rfl (by decide) (Nat.le_of_ble_eq_true rfl) ?_
  intro p e s m args below meth c A ls Q H locs hargs hret hx hb hts hown hml hname hN hA hS hP hK hD hl
  have hl : lv_has ls 1 [(0, .int x1)] := hl
  obtain ⟨Xq, hX⟩ : ∃ Xq, Xq = sh_X5_isPrinter x1 := ⟨_, rfl⟩
  have hq : Xq = (sh_X5_in x1 0 1) := hX
  refine lv_iload_n hx hb dX5_isPrinter_0 rfl (lv_at hl 0 rfl) ?_
  refine lv_iconst (v := 0) hx hb dX5_isPrinter_1 (by decide) ?_
  refine lv_iconst (v := 1) hx hb dX5_isPrinter_2 (by decide) ?_
  have hPs := k_self hP
  have hDs := k_selfD hD
  refine k_behi (X := []) (Y := []) (va_runS (As := [.int x1, .int 0, .int 1]) (rest := []) ⟨hx, hb, hml, hown, hts⟩ (c_X5_in l D cI cC cQ H.size x1 0 1) (kcwS hts wd_ml_RX5_25 wd_st_yX5_in wd_ini_RX5 wd_code_yX5_in rfl rfl hd_X5_in ⟨Nat.le_of_ble_eq_true rfl, Nat.le_of_ble_eq_true rfl⟩) ⟨in_blind, k_pre hK (pa_l (pa_r hPs)) (da_l (da_r hDs)) hN⟩ rfl rfl hl.1 rfl (lv_room (Nat.le_of_ble_eq_true rfl)) dX5_isPrinter_3 ⟨Nat.le_of_ble_eq_true rfl, Nat.le_of_ble_eq_true rfl⟩) hPs hDs hS hA (fun r1 u2 H locs hw3 hP hD hS => ?_)
  have hP := k_unP hP
  have hD := k_unD hD
  have hP : va_P D vwCl [] H := hP
  have hD : va_D A [] := hD
  have hw3 : r1 = (sh_X5_in x1 0 1) := hw3
  subst hw3
  exact hret _ _ _ _ ((sh_X5_in x1 0 1)) () dX5_isPrinter_6 in01 (hq.symm.trans hX) hP hD hS
def sh_X5_areDots (x1 : Int32) : Int32 := (sh_X5_in x1 1 999)
abbrev rm_X5_areDots : Room := { frames := 1, cells := 0, slots := 0, locals := 22 }
theorem hd_X5_areDots : hdT yX5_areDots 1 := by decide +kernel
set_option maxHeartbeats 4000000 in
set_option maxRecDepth 100000 in
theorem c_X5_areDots (l : Launch) (D : va_G) (cI cC cQ : ClassId) (sz : Nat)  (x1 : Int32)  : Met l yX5_areDots (wsO yX5_areDots cX5_areDots 1 (some .boolean)) rm_X5_areDots (va_Pc [.int x1] (inW D (TYS cI cC cQ) [] sz)) (va_Qi (fun (r : Int32) (_ : Unit) => r = sh_X5_areDots x1) (fun (u : Unit) => atW D (TYS cI cC cQ) (va_A [] sz) []) (va_A [] sz)) 0 0 (va_A [] sz) := by
  refine k_meti .boolean rfl (by decide) (Nat.le_of_ble_eq_true rfl) ?_
  intro p e s m args below meth c A ls Q H locs hargs hret hx hb hts hown hml hname hN hA hS hP hK hD hl
  have hl : lv_has ls 1 [(0, .int x1)] := hl
  obtain ⟨Xq, hX⟩ : ∃ Xq, Xq = sh_X5_areDots x1 := ⟨_, rfl⟩
  have hq : Xq = (sh_X5_in x1 1 999) := hX
  refine lv_iload_n hx hb dX5_areDots_0 rfl (lv_at hl 0 rfl) ?_
  refine lv_iconst (v := 1) hx hb dX5_areDots_1 (by decide) ?_
  refine lv_sipush (v := 999) hx hb dX5_areDots_2 (by decide) ?_
  have hPs := k_self hP
  have hDs := k_selfD hD
  refine k_behi (X := []) (Y := []) (va_runS (As := [.int x1, .int 1, .int 999]) (rest := []) ⟨hx, hb, hml, hown, hts⟩ (c_X5_in l D cI cC cQ H.size x1 1 999) (kcwS hts wd_ml_RX5_25 wd_st_yX5_in wd_ini_RX5 wd_code_yX5_in rfl rfl hd_X5_in ⟨Nat.le_of_ble_eq_true rfl, Nat.le_of_ble_eq_true rfl⟩) ⟨in_blind, k_pre hK (pa_l (pa_r hPs)) (da_l (da_r hDs)) hN⟩ rfl rfl hl.1 rfl (lv_room (Nat.le_of_ble_eq_true rfl)) dX5_areDots_5 ⟨Nat.le_of_ble_eq_true rfl, Nat.le_of_ble_eq_true rfl⟩) hPs hDs hS hA (fun r1 u2 H locs hw3 hP hD hS => ?_)
  have hP := k_unP hP
  have hD := k_unD hD
  have hP : va_P D vwCl [] H := hP
  have hD : va_D A [] := hD
  have hw3 : r1 = (sh_X5_in x1 1 999) := hw3
  subst hw3
  exact hret _ _ _ _ ((sh_X5_in x1 1 999)) () dX5_areDots_8 in01 (hq.symm.trans hX) hP hD hS
theorem mIn4 {x : Int32} (h : ¬ sh_X5_isCup x = 0) : vp_in x 4 := inIn h (by decide)
theorem mIn2 {x : Int32} (h : ¬ sh_X5_isPrinter x = 0) : vp_in x 2 := inIn h (by decide)
def sh_X5_lowest (x1 : Int32) : Int32 := (kb (if x1 = 1 then 2 else (if x1 = 2 then 0 else 1)) (fun z_v4 => z_v4))
abbrev rm_X5_lowest : Room := { frames := 0, cells := 0, slots := 0, locals := 0 }
theorem hd_X5_lowest : hdT yX5_lowest 1 := by decide +kernel
set_option maxHeartbeats 4000000 in
set_option maxRecDepth 100000 in
theorem c_X5_lowest (l : Launch) (D : va_G) (cI cC cQ : ClassId) (sz : Nat)  (x1 : Int32)  : Met l yX5_lowest (wsO yX5_lowest cX5_lowest 1 (some .int)) rm_X5_lowest (va_Pc [.int x1] (inW D (TYS cI cC cQ) [] sz)) (va_Qi (fun (r : Int32) (_ : Unit) => r = sh_X5_lowest x1) (fun (u : Unit) => atW D (TYS cI cC cQ) (va_A [] sz) []) (va_A [] sz)) 0 0 (va_A [] sz) := by
  refine k_meti .int rfl (by decide) (Nat.le_of_ble_eq_true rfl) ?_
  intro p e s m args below meth c A ls Q H locs hargs hret hx hb hts hown hml hname hN hA hS hP hK hD hl
  have hl : lv_has ls 1 [(0, .int x1)] := hl
  obtain ⟨Xq, hX⟩ : ∃ Xq, Xq = sh_X5_lowest x1 := ⟨_, rfl⟩
  have hq : Xq = (kb (if x1 = 1 then 2 else (if x1 = 2 then 0 else 1)) (fun z_v4 => z_v4)) := hX
  refine lv_iload_n hx hb dX5_lowest_0 rfl (lv_at hl 0 rfl) ?_
  refine lv_iconst (v := 1) hx hb dX5_lowest_1 (by decide) ?_
  have K : ∀ (v4 : Int32) (H : Heap) (locs : List Loc) (ls : Array Slot), v4 = (if x1 = 1 then 2 else (if x1 = 2 then 0 else 1)) → va_P D vwCl [] H → va_D A [] → va_S A s.heap H locs → lv_has ls 1 [(0, .int x1)] → W p l e rm_X5_lowest s m args below meth c H locs 0 0 Q (F0 m 19 ls [.int v4]) := by
    intro v4 H locs ls hv3 hP hD hS hl
    have hq : Xq = v4 := by rw [← hv3] at hq; exact hq
    exact hret _ _ _ _ (v4) () dX5_lowest_19 rfl (hq.symm.trans hX) hP hD hS
  refine lv_icmp_ne (tgt := 9) hx hb dX5_lowest_2 (by decide) (fun c1 => ?_) (fun c1 => ?_)
  · skip
    refine lv_iload_n hx hb dX5_lowest_9 rfl (lv_at hl 0 rfl) ?_
    refine lv_iconst (v := 2) hx hb dX5_lowest_10 (by decide) ?_
    refine lv_icmp_ne (tgt := 18) hx hb dX5_lowest_11 (by decide) (fun c2 => ?_) (fun c2 => ?_)
    · skip
      refine lv_iconst (v := 1) hx hb dX5_lowest_18 (by decide) ?_
      exact K (1) _ _ _ (by rw [if_neg c1, if_neg c2]) hP hD hS (lv_sub hl [0] rfl)
    · skip
      refine lv_iconst (v := 0) hx hb dX5_lowest_14 (by decide) ?_
      refine lv_goto (tgt := 19) hx hb dX5_lowest_15 (by decide) ?_
      exact K (0) _ _ _ (by rw [if_neg c1, if_pos c2]) hP hD hS (lv_sub hl [0] rfl)
  · skip
    refine lv_iconst (v := 2) hx hb dX5_lowest_5 (by decide) ?_
    refine lv_goto (tgt := 19) hx hb dX5_lowest_6 (by decide) ?_
    exact K (2) _ _ _ (by rw [if_pos c1]) hP hD hS (lv_sub hl [0] rfl)
def sh_X5_highest (x1 : Int32) : Int32 := (kb (if x1 = 0 then 5 else (if x1 = 1 then 50 else (if x1 = 2 then 1 else 500))) (fun z_v5 => z_v5))
abbrev rm_X5_highest : Room := { frames := 0, cells := 0, slots := 0, locals := 0 }
theorem hd_X5_highest : hdT yX5_highest 1 := by decide +kernel
set_option maxHeartbeats 4000000 in
set_option maxRecDepth 100000 in
theorem c_X5_highest (l : Launch) (D : va_G) (cI cC cQ : ClassId) (sz : Nat)  (x1 : Int32)  : Met l yX5_highest (wsO yX5_highest cX5_highest 1 (some .int)) rm_X5_highest (va_Pc [.int x1] (inW D (TYS cI cC cQ) [] sz)) (va_Qi (fun (r : Int32) (_ : Unit) => r = sh_X5_highest x1) (fun (u : Unit) => atW D (TYS cI cC cQ) (va_A [] sz) []) (va_A [] sz)) 0 0 (va_A [] sz) := by
  refine k_meti .int rfl (by decide) (Nat.le_of_ble_eq_true rfl) ?_
  intro p e s m args below meth c A ls Q H locs hargs hret hx hb hts hown hml hname hN hA hS hP hK hD hl
  have hl : lv_has ls 1 [(0, .int x1)] := hl
  obtain ⟨Xq, hX⟩ : ∃ Xq, Xq = sh_X5_highest x1 := ⟨_, rfl⟩
  have hq : Xq = (kb (if x1 = 0 then 5 else (if x1 = 1 then 50 else (if x1 = 2 then 1 else 500))) (fun z_v5 => z_v5)) := hX
  refine lv_iload_n hx hb dX5_highest_0 rfl (lv_at hl 0 rfl) ?_
  have K : ∀ (v5 : Int32) (H : Heap) (locs : List Loc) (ls : Array Slot), v5 = (if x1 = 0 then 5 else (if x1 = 1 then 50 else (if x1 = 2 then 1 else 500))) → va_P D vwCl [] H → va_D A [] → va_S A s.heap H locs → lv_has ls 1 [(0, .int x1)] → W p l e rm_X5_highest s m args below meth c H locs 0 0 Q (F0 m 30 ls [.int v5]) := by
    intro v5 H locs ls hv4 hP hD hS hl
    have hq : Xq = v5 := by rw [← hv4] at hq; exact hq
    exact hret _ _ _ _ (v5) () dX5_highest_30 rfl (hq.symm.trans hX) hP hD hS
  refine lv_if_ne (tgt := 8) hx hb dX5_highest_1 (by decide) (fun c1 => ?_) (fun c1 => ?_)
  · skip
    refine lv_iload_n hx hb dX5_highest_8 rfl (lv_at hl 0 rfl) ?_
    refine lv_iconst (v := 1) hx hb dX5_highest_9 (by decide) ?_
    refine lv_icmp_ne (tgt := 18) hx hb dX5_highest_10 (by decide) (fun c2 => ?_) (fun c2 => ?_)
    · skip
      refine lv_iload_n hx hb dX5_highest_18 rfl (lv_at hl 0 rfl) ?_
      refine lv_iconst (v := 2) hx hb dX5_highest_19 (by decide) ?_
      refine lv_icmp_ne (tgt := 27) hx hb dX5_highest_20 (by decide) (fun c3 => ?_) (fun c3 => ?_)
      · skip
        refine lv_sipush (v := 500) hx hb dX5_highest_27 (by decide) ?_
        exact K (500) _ _ _ (by rw [if_neg c1, if_neg c2, if_neg c3]) hP hD hS (lv_sub hl [0] rfl)
      · skip
        refine lv_iconst (v := 1) hx hb dX5_highest_23 (by decide) ?_
        refine lv_goto (tgt := 30) hx hb dX5_highest_24 (by decide) ?_
        exact K (1) _ _ _ (by rw [if_neg c1, if_neg c2, if_pos c3]) hP hD hS (lv_sub hl [0] rfl)
    · skip
      refine lv_bipush (v := 50) hx hb dX5_highest_13 (by decide) ?_
      refine lv_goto (tgt := 30) hx hb dX5_highest_15 (by decide) ?_
      exact K (50) _ _ _ (by rw [if_neg c1, if_pos c2]) hP hD hS (lv_sub hl [0] rfl)
  · skip
    refine lv_iconst (v := 5) hx hb dX5_highest_4 (by decide) ?_
    refine lv_goto (tgt := 30) hx hb dX5_highest_5 (by decide) ?_
    exact K (5) _ _ _ (by rw [if_pos c1]) hP hD hS (lv_sub hl [0] rfl)
def lp_X5_records_49 (sv : Nat → Int32) : Nat → (Int32) → (Nat → Int32) → (Int32) → ((Nat → Int32) × (Int32))
  | 0, _, _, _ => default
  | fu + 1, k2, l_pa, l_pn => (if 35 ≤ k2 then (l_pa, (l_pn + 1)) else (lp_X5_records_49 sv fu (k2 + 1) (upd l_pa ((35 * l_pn) + k2).toNatClampNeg (sv k2.toNatClampNeg)) l_pn))
def lp_X5_records_10 (sv : Nat → Int32) (pn : Int32) : Nat → (Int32) → (Nat → Int32) → ((Nat → Int32) × (Int32))
  | 0, _, _ => default
  | fu + 1, k1, l_pa => (if 105 ≤ k1 then (lp_X5_records_49 sv (((35 : Int32).toInt - (0 : Int32).toInt).toNat + 1) 0 l_pa (pn - 1)) else (lp_X5_records_10 sv pn fu (k1 + 1) (upd l_pa k1.toNatClampNeg (l_pa (35 + k1).toNatClampNeg))))
def sh_X5_records (sv : Nat → Int32) (pa : Nat → Int32) (pn : Int32) : (Nat → Int32) × (Int32) := (if pn = 4 then (lp_X5_records_10 sv pn (((105 : Int32).toInt - (0 : Int32).toInt).toNat + 1) 0 pa) else (lp_X5_records_49 sv (((35 : Int32).toInt - (0 : Int32).toInt).toNat + 1) 0 pa pn))
abbrev rm_X5_records : Room := { frames := 0, cells := 0, slots := 0, locals := 0 }
theorem hd_X5_records : hdT yX5_records 0 := by decide +kernel
set_option maxHeartbeats 4000000 in
set_option maxRecDepth 100000 in
theorem c_X5_records (l : Launch) (D : va_G) (cI cC cQ : ClassId) (sz : Nat) (h0 : Nat) (a : Nat → Nat) (sv : Nat → Int32) (pa : Nat → Int32) (pn : Int32) (sn : Nat → Int32) (kp : Int32) (pd : Nat → Int32) (ln : Int32) (so : Nat → Int32) (po : Int32) (wr : Int32) (lt : Int32) (fr : Int32) (sc : Int32) (tm : Int32) (hd : Int32) (st : Int32)  (hpn0 : vp_in pn 5) : Met l yX5_records (wsO yX5_records cX5_records 2 none) rm_X5_records (va_Pc [.ref h0] (inW D (TYS cI cC cQ) (MO cI h0 a sv pa pn sn kp pd ln so po wr lt fr sc tm hd st) sz)) (va_Qv (fun (u : (Nat → Int32) × (Int32)) => u = sh_X5_records sv pa pn) (fun (u : (Nat → Int32) × (Int32)) => atW D (TYS cI cC cQ) (va_A (MO cI h0 a sv pa pn sn kp pd ln so po wr lt fr sc tm hd st) sz) (MO cI h0 a sv u.1 u.2 sn kp pd ln so po wr lt fr sc tm hd st)) (va_A (MO cI h0 a sv pa pn sn kp pd ln so po wr lt fr sc tm hd st) sz)) 0 0 (va_A (MO cI h0 a sv pa pn sn kp pd ln so po wr lt fr sc tm hd st) sz) := by
  refine k_metv rfl (by decide) (Nat.le_of_ble_eq_true rfl) ?_
  intro p e s m args below meth c A ls Q H locs hargs hret hx hb hts hown hml hname hN hA hS hP hK hD hl
  have hl : lv_has ls 2 [(0, .ref h0)] := hl
  obtain ⟨Xq, hX⟩ : ∃ Xq, Xq = sh_X5_records sv pa pn := ⟨_, rfl⟩
  have hq : Xq = (if pn = 4 then (lp_X5_records_10 sv pn (((105 : Int32).toInt - (0 : Int32).toInt).toNat + 1) 0 pa) else (lp_X5_records_49 sv (((35 : Int32).toInt - (0 : Int32).toInt).toNat + 1) 0 pa pn)) := hX
  refine lv_aload_n hx hb dX5_records_0 rfl (lv_at hl 0 rfl) ?_
  refine va_get (D := D) (ci := 5) (v := .int pn) (C := RX5) (T := TX5) (N := 16) hx hb hts inA5 hown hK hP 0 rfl rfl 2 (by decide) (hts _ wd_fl_RX5_29) (fun _ h9 => h9) rfl dX5_records_1 ?_
  refine lv_iconst (v := 4) hx hb dX5_records_4 (by decide) ?_
  refine lv_icmp_ne (tgt := 47) hx hb dX5_records_5 (by decide) (fun c1 => ?_) (fun c1 => ?_)
  · have hq : Xq = (lp_X5_records_49 sv (((35 : Int32).toInt - (0 : Int32).toInt).toNat + 1) 0 pa pn) := hq.trans (if_neg c1)
    refine lv_iconst (v := 0) hx hb dX5_records_47 (by decide) ?_
    refine lv_istore_n (lv' := [(1, .int 0), (0, .ref h0)]) hx hb dX5_records_48 rfl hl (by decide) rfl (fun ls hl => ?_)
    have L49 : ∀ (fu : Nat) (k2 : Int32) (l_pa : Nat → Int32) (l_pn : Int32) (H : Heap) (locs : List Loc) (ls : Array Slot), ((35 : Int32).toInt - (k2 : Int32).toInt).toNat < fu → (¬ k2 < 0) → (vp_in l_pn 4) → Xq = lp_X5_records_49 sv fu k2 l_pa l_pn → va_P D vwCl (MO cI h0 a sv l_pa l_pn sn kp pd ln so po wr lt fr sc tm hd st) H → va_D A (MO cI h0 a sv l_pa l_pn sn kp pd ln so po wr lt fr sc tm hd st) → va_S A s.heap H locs → lv_has ls 2 [(1, .int k2), (0, .ref h0)] → W p l e rm_X5_records s m args below meth c H locs 0 0 Q (F0 m 49 ls []) := by
      intro fu
      induction fu with
      | zero => intro k2 l_pa l_pn H locs ls hmu; exact absurd hmu (Nat.not_lt_zero _)
      | succ fu ih =>
        intro k2 l_pa l_pn H locs ls hmu hk hpn hq hP hD hS hl
        have hq : Xq = (if 35 ≤ k2 then (l_pa, (l_pn + 1)) else (lp_X5_records_49 sv fu (k2 + 1) (upd l_pa ((35 * l_pn) + k2).toNatClampNeg (sv k2.toNatClampNeg)) l_pn)) := hq
        refine lv_iload_n hx hb dX5_records_49 rfl (lv_at hl 0 rfl) ?_
        refine lv_bipush (v := 35) hx hb dX5_records_50 (by decide) ?_
        refine lv_icmp_ge (tgt := 81) hx hb dX5_records_52 (by decide) (fun c2 => ?_) (fun c2 => ?_)
        · have hq : Xq = (l_pa, (l_pn + 1)) := hq.trans (if_pos c2)
          refine lv_aload_n hx hb dX5_records_81 rfl (lv_at hl 1 rfl) ?_
          refine lv_dup hx hb dX5_records_82 rfl ?_
          refine va_get (D := D) (ci := 5) (v := .int l_pn) (C := RX5) (T := TX5) (N := 16) hx hb hts inA5 hown hK hP 0 rfl rfl 2 (by decide) (hts _ wd_fl_RX5_29) (fun _ h9 => h9) rfl dX5_records_83 ?_
          refine lv_iconst (v := 1) hx hb dX5_records_86 (by decide) ?_
          refine lv_iadd hx hb dX5_records_87 ?_
          refine va_put (D := D) (ci := 5) (v := .int (l_pn + 1)) (ty := .int) (C := RX5) (T := TX5) (N := 16) hx hb hts inA5 tyX5 tyX5_ok nmX5 hown hK hP hD hS 0 rfl rfl 2 (by decide) (hts _ wd_fl_RX5_29) (fun _ h9 => h9) rfl (by decide +kernel) rfl rfl (Nat.le_of_ble_eq_true rfl) dX5_records_88 (fun H locs hP hD hS => ?_)
          have hP : va_P D vwCl (MO cI h0 a sv l_pa (l_pn + 1) sn kp pd ln so po wr lt fr sc tm hd st) H := hP
          have hD : va_D A (MO cI h0 a sv l_pa (l_pn + 1) sn kp pd ln so po wr lt fr sc tm hd st) := hD
          exact hret _ _ _ _ (l_pa, (l_pn + 1)) dX5_records_91 (hq.symm.trans hX) hP hD hS
        · have hq : Xq = (lp_X5_records_49 sv fu (k2 + 1) (upd l_pa ((35 * l_pn) + k2).toNatClampNeg (sv k2.toNatClampNeg)) l_pn) := hq.trans (if_neg c2)
          refine lv_aload_n hx hb dX5_records_55 rfl (lv_at hl 1 rfl) ?_
          refine va_get (D := D) (ci := 5) (v := .ref (a 1)) (C := RX5) (T := TX5) (N := 16) hx hb hts inA5 hown hK hP 0 rfl rfl 1 (by decide) (hts _ wd_fl_RX5_13) (fun _ h9 => h9) rfl dX5_records_56 ?_
          refine lv_bipush (v := 35) hx hb dX5_records_59 (by decide) ?_
          refine lv_aload_n hx hb dX5_records_61 rfl (lv_at hl 1 rfl) ?_
          refine va_get (D := D) (ci := 5) (v := .int l_pn) (C := RX5) (T := TX5) (N := 16) hx hb hts inA5 hown hK hP 0 rfl rfl 2 (by decide) (hts _ wd_fl_RX5_29) (fun _ h9 => h9) rfl dX5_records_62 ?_
          refine lv_imul hx hb dX5_records_65 ?_
          refine lv_iload_n hx hb dX5_records_66 rfl (lv_at hl 0 rfl) ?_
          refine lv_iadd hx hb dX5_records_67 ?_
          refine lv_aload_n hx hb dX5_records_68 rfl (lv_at hl 1 rfl) ?_
          refine va_get (D := D) (ci := 5) (v := .ref (a 0)) (C := RX5) (T := TX5) (N := 16) hx hb hts inA5 hown hK hP 0 rfl rfl 0 (by decide) (hts _ wd_fl_RX5_7) (fun _ h9 => h9) rfl dX5_records_69 ?_
          refine lv_iload_n hx hb dX5_records_72 rfl (lv_at hl 0 rfl) ?_
          refine va_iald hx hb hK hP 1 0 rfl rfl (vp_of_le (n := 35) hk c2 (by decide)) dX5_records_73 ?_
          refine va_iast hx hb hK hP hD hS 2 0 rfl rfl (vp_row hpn (vp_of_le (n := 35) hk c2 (by decide))) dX5_records_74 (fun H locs hP hD hS => ?_)
          have hP : va_P D vwCl (MO cI h0 a sv (upd l_pa ((35 * l_pn) + k2).toNatClampNeg (sv k2.toNatClampNeg)) l_pn sn kp pd ln so po wr lt fr sc tm hd st) H := hP
          have hD : va_D A (MO cI h0 a sv (upd l_pa ((35 * l_pn) + k2).toNatClampNeg (sv k2.toNatClampNeg)) l_pn sn kp pd ln so po wr lt fr sc tm hd st) := hD
          refine lv_iinc (v := (k2 + 1)) (lv' := [(1, .int (k2 + 1)), (0, .ref h0)]) hx hb dX5_records_75 hl (k := 0) rfl rfl (by decide) rfl (fun ls hl => ?_)
          refine lv_goto (tgt := 49) hx hb dX5_records_78 (by decide) ?_
          exact ih ((k2 + 1)) ((upd l_pa ((35 * l_pn) + k2).toNatClampNeg (sv k2.toNatClampNeg))) (l_pn) _ _ _ (k_mu hmu c2) (k_up hk c2 (by decide)) (hpn) hq hP hD hS (lv_sub hl [0, 1] rfl)
    exact L49 (((35 : Int32).toInt - (0 : Int32).toInt).toNat + 1) (0) (pa) (pn) _ _ _ (Nat.lt_succ_self _) (by decide) (vp_not4 hpn0 c1) hq hP hD hS (lv_sub hl [0, 1] rfl)
  · have hq : Xq = (lp_X5_records_10 sv pn (((105 : Int32).toInt - (0 : Int32).toInt).toNat + 1) 0 pa) := hq.trans (if_pos c1)
    refine lv_iconst (v := 0) hx hb dX5_records_8 (by decide) ?_
    refine lv_istore_n (lv' := [(1, .int 0), (0, .ref h0)]) hx hb dX5_records_9 rfl hl (by decide) rfl (fun ls hl => ?_)
    have L10 : ∀ (fu : Nat) (k1 : Int32) (l_pa : Nat → Int32) (H : Heap) (locs : List Loc) (ls : Array Slot), ((105 : Int32).toInt - (k1 : Int32).toInt).toNat < fu → (¬ k1 < 0) → Xq = lp_X5_records_10 sv pn fu k1 l_pa → va_P D vwCl (MO cI h0 a sv l_pa pn sn kp pd ln so po wr lt fr sc tm hd st) H → va_D A (MO cI h0 a sv l_pa pn sn kp pd ln so po wr lt fr sc tm hd st) → va_S A s.heap H locs → lv_has ls 2 [(1, .int k1), (0, .ref h0)] → W p l e rm_X5_records s m args below meth c H locs 0 0 Q (F0 m 10 ls []) := by
      intro fu
      induction fu with
      | zero => intro k1 l_pa H locs ls hmu; exact absurd hmu (Nat.not_lt_zero _)
      | succ fu ih =>
        intro k1 l_pa H locs ls hmu hk hq hP hD hS hl
        have hq : Xq = (if 105 ≤ k1 then (lp_X5_records_49 sv (((35 : Int32).toInt - (0 : Int32).toInt).toNat + 1) 0 l_pa (pn - 1)) else (lp_X5_records_10 sv pn fu (k1 + 1) (upd l_pa k1.toNatClampNeg (l_pa (35 + k1).toNatClampNeg)))) := hq
        refine lv_iload_n hx hb dX5_records_10 rfl (lv_at hl 0 rfl) ?_
        refine lv_bipush (v := 105) hx hb dX5_records_11 (by decide) ?_
        refine lv_icmp_ge (tgt := 37) hx hb dX5_records_13 (by decide) (fun c3 => ?_) (fun c3 => ?_)
        · have hq : Xq = (lp_X5_records_49 sv (((35 : Int32).toInt - (0 : Int32).toInt).toNat + 1) 0 l_pa (pn - 1)) := hq.trans (if_pos c3)
          refine lv_aload_n hx hb dX5_records_37 rfl (lv_at hl 1 rfl) ?_
          refine lv_dup hx hb dX5_records_38 rfl ?_
          refine va_get (D := D) (ci := 5) (v := .int pn) (C := RX5) (T := TX5) (N := 16) hx hb hts inA5 hown hK hP 0 rfl rfl 2 (by decide) (hts _ wd_fl_RX5_29) (fun _ h9 => h9) rfl dX5_records_39 ?_
          refine lv_iconst (v := 1) hx hb dX5_records_42 (by decide) ?_
          refine lv_isub hx hb dX5_records_43 ?_
          refine va_put (D := D) (ci := 5) (v := .int (pn - 1)) (ty := .int) (C := RX5) (T := TX5) (N := 16) hx hb hts inA5 tyX5 tyX5_ok nmX5 hown hK hP hD hS 0 rfl rfl 2 (by decide) (hts _ wd_fl_RX5_29) (fun _ h9 => h9) rfl (by decide +kernel) rfl rfl (Nat.le_of_ble_eq_true rfl) dX5_records_44 (fun H locs hP hD hS => ?_)
          have hP : va_P D vwCl (MO cI h0 a sv l_pa (pn - 1) sn kp pd ln so po wr lt fr sc tm hd st) H := hP
          have hD : va_D A (MO cI h0 a sv l_pa (pn - 1) sn kp pd ln so po wr lt fr sc tm hd st) := hD
          refine lv_iconst (v := 0) hx hb dX5_records_47 (by decide) ?_
          refine lv_istore_n (lv' := [(1, .int 0), (0, .ref h0)]) hx hb dX5_records_48 rfl hl (by decide) rfl (fun ls hl => ?_)
          have L49 : ∀ (fu : Nat) (k2 : Int32) (l_pa : Nat → Int32) (l_pn : Int32) (H : Heap) (locs : List Loc) (ls : Array Slot), ((35 : Int32).toInt - (k2 : Int32).toInt).toNat < fu → (¬ k2 < 0) → (vp_in l_pn 4) → Xq = lp_X5_records_49 sv fu k2 l_pa l_pn → va_P D vwCl (MO cI h0 a sv l_pa l_pn sn kp pd ln so po wr lt fr sc tm hd st) H → va_D A (MO cI h0 a sv l_pa l_pn sn kp pd ln so po wr lt fr sc tm hd st) → va_S A s.heap H locs → lv_has ls 2 [(1, .int k2), (0, .ref h0)] → W p l e rm_X5_records s m args below meth c H locs 0 0 Q (F0 m 49 ls []) := by
            intro fu
            induction fu with
            | zero => intro k2 l_pa l_pn H locs ls hmu; exact absurd hmu (Nat.not_lt_zero _)
            | succ fu ih =>
              intro k2 l_pa l_pn H locs ls hmu hk hpn hq hP hD hS hl
              have hq : Xq = (if 35 ≤ k2 then (l_pa, (l_pn + 1)) else (lp_X5_records_49 sv fu (k2 + 1) (upd l_pa ((35 * l_pn) + k2).toNatClampNeg (sv k2.toNatClampNeg)) l_pn)) := hq
              refine lv_iload_n hx hb dX5_records_49 rfl (lv_at hl 0 rfl) ?_
              refine lv_bipush (v := 35) hx hb dX5_records_50 (by decide) ?_
              refine lv_icmp_ge (tgt := 81) hx hb dX5_records_52 (by decide) (fun c4 => ?_) (fun c4 => ?_)
              · have hq : Xq = (l_pa, (l_pn + 1)) := hq.trans (if_pos c4)
                refine lv_aload_n hx hb dX5_records_81 rfl (lv_at hl 1 rfl) ?_
                refine lv_dup hx hb dX5_records_82 rfl ?_
                refine va_get (D := D) (ci := 5) (v := .int l_pn) (C := RX5) (T := TX5) (N := 16) hx hb hts inA5 hown hK hP 0 rfl rfl 2 (by decide) (hts _ wd_fl_RX5_29) (fun _ h9 => h9) rfl dX5_records_83 ?_
                refine lv_iconst (v := 1) hx hb dX5_records_86 (by decide) ?_
                refine lv_iadd hx hb dX5_records_87 ?_
                refine va_put (D := D) (ci := 5) (v := .int (l_pn + 1)) (ty := .int) (C := RX5) (T := TX5) (N := 16) hx hb hts inA5 tyX5 tyX5_ok nmX5 hown hK hP hD hS 0 rfl rfl 2 (by decide) (hts _ wd_fl_RX5_29) (fun _ h9 => h9) rfl (by decide +kernel) rfl rfl (Nat.le_of_ble_eq_true rfl) dX5_records_88 (fun H locs hP hD hS => ?_)
                have hP : va_P D vwCl (MO cI h0 a sv l_pa (l_pn + 1) sn kp pd ln so po wr lt fr sc tm hd st) H := hP
                have hD : va_D A (MO cI h0 a sv l_pa (l_pn + 1) sn kp pd ln so po wr lt fr sc tm hd st) := hD
                exact hret _ _ _ _ (l_pa, (l_pn + 1)) dX5_records_91 (hq.symm.trans hX) hP hD hS
              · have hq : Xq = (lp_X5_records_49 sv fu (k2 + 1) (upd l_pa ((35 * l_pn) + k2).toNatClampNeg (sv k2.toNatClampNeg)) l_pn) := hq.trans (if_neg c4)
                refine lv_aload_n hx hb dX5_records_55 rfl (lv_at hl 1 rfl) ?_
                refine va_get (D := D) (ci := 5) (v := .ref (a 1)) (C := RX5) (T := TX5) (N := 16) hx hb hts inA5 hown hK hP 0 rfl rfl 1 (by decide) (hts _ wd_fl_RX5_13) (fun _ h9 => h9) rfl dX5_records_56 ?_
                refine lv_bipush (v := 35) hx hb dX5_records_59 (by decide) ?_
                refine lv_aload_n hx hb dX5_records_61 rfl (lv_at hl 1 rfl) ?_
                refine va_get (D := D) (ci := 5) (v := .int l_pn) (C := RX5) (T := TX5) (N := 16) hx hb hts inA5 hown hK hP 0 rfl rfl 2 (by decide) (hts _ wd_fl_RX5_29) (fun _ h9 => h9) rfl dX5_records_62 ?_
                refine lv_imul hx hb dX5_records_65 ?_
                refine lv_iload_n hx hb dX5_records_66 rfl (lv_at hl 0 rfl) ?_
                refine lv_iadd hx hb dX5_records_67 ?_
                refine lv_aload_n hx hb dX5_records_68 rfl (lv_at hl 1 rfl) ?_
                refine va_get (D := D) (ci := 5) (v := .ref (a 0)) (C := RX5) (T := TX5) (N := 16) hx hb hts inA5 hown hK hP 0 rfl rfl 0 (by decide) (hts _ wd_fl_RX5_7) (fun _ h9 => h9) rfl dX5_records_69 ?_
                refine lv_iload_n hx hb dX5_records_72 rfl (lv_at hl 0 rfl) ?_
                refine va_iald hx hb hK hP 1 0 rfl rfl (vp_of_le (n := 35) hk c4 (by decide)) dX5_records_73 ?_
                refine va_iast hx hb hK hP hD hS 2 0 rfl rfl (vp_row hpn (vp_of_le (n := 35) hk c4 (by decide))) dX5_records_74 (fun H locs hP hD hS => ?_)
                have hP : va_P D vwCl (MO cI h0 a sv (upd l_pa ((35 * l_pn) + k2).toNatClampNeg (sv k2.toNatClampNeg)) l_pn sn kp pd ln so po wr lt fr sc tm hd st) H := hP
                have hD : va_D A (MO cI h0 a sv (upd l_pa ((35 * l_pn) + k2).toNatClampNeg (sv k2.toNatClampNeg)) l_pn sn kp pd ln so po wr lt fr sc tm hd st) := hD
                refine lv_iinc (v := (k2 + 1)) (lv' := [(1, .int (k2 + 1)), (0, .ref h0)]) hx hb dX5_records_75 hl (k := 0) rfl rfl (by decide) rfl (fun ls hl => ?_)
                refine lv_goto (tgt := 49) hx hb dX5_records_78 (by decide) ?_
                exact ih ((k2 + 1)) ((upd l_pa ((35 * l_pn) + k2).toNatClampNeg (sv k2.toNatClampNeg))) (l_pn) _ _ _ (k_mu hmu c4) (k_up hk c4 (by decide)) (hpn) hq hP hD hS (lv_sub hl [0, 1] rfl)
          exact L49 (((35 : Int32).toInt - (0 : Int32).toInt).toNat + 1) (0) (l_pa) ((pn - 1)) _ _ _ (Nat.lt_succ_self _) (by decide) (by rw [c1]; exact k_in (by decide)) hq hP hD hS (lv_sub hl [0, 1] rfl)
        · have hq : Xq = (lp_X5_records_10 sv pn fu (k1 + 1) (upd l_pa k1.toNatClampNeg (l_pa (35 + k1).toNatClampNeg))) := hq.trans (if_neg c3)
          refine lv_aload_n hx hb dX5_records_16 rfl (lv_at hl 1 rfl) ?_
          refine va_get (D := D) (ci := 5) (v := .ref (a 1)) (C := RX5) (T := TX5) (N := 16) hx hb hts inA5 hown hK hP 0 rfl rfl 1 (by decide) (hts _ wd_fl_RX5_13) (fun _ h9 => h9) rfl dX5_records_17 ?_
          refine lv_iload_n hx hb dX5_records_20 rfl (lv_at hl 0 rfl) ?_
          refine lv_aload_n hx hb dX5_records_21 rfl (lv_at hl 1 rfl) ?_
          refine va_get (D := D) (ci := 5) (v := .ref (a 1)) (C := RX5) (T := TX5) (N := 16) hx hb hts inA5 hown hK hP 0 rfl rfl 1 (by decide) (hts _ wd_fl_RX5_13) (fun _ h9 => h9) rfl dX5_records_22 ?_
          refine lv_bipush (v := 35) hx hb dX5_records_25 (by decide) ?_
          refine lv_iload_n hx hb dX5_records_27 rfl (lv_at hl 0 rfl) ?_
          refine lv_iadd hx hb dX5_records_28 ?_
          refine va_iald hx hb hK hP 2 0 rfl rfl (vp_add (vp_of_le (n := 105) hk c3 (by decide)) (by decide) (by decide) (by decide)) dX5_records_29 ?_
          refine va_iast hx hb hK hP hD hS 2 0 rfl rfl (vp_mono (vp_of_le (n := 105) hk c3 (by decide)) (by decide) (by decide)) dX5_records_30 (fun H locs hP hD hS => ?_)
          have hP : va_P D vwCl (MO cI h0 a sv (upd l_pa k1.toNatClampNeg (l_pa (35 + k1).toNatClampNeg)) pn sn kp pd ln so po wr lt fr sc tm hd st) H := hP
          have hD : va_D A (MO cI h0 a sv (upd l_pa k1.toNatClampNeg (l_pa (35 + k1).toNatClampNeg)) pn sn kp pd ln so po wr lt fr sc tm hd st) := hD
          refine lv_iinc (v := (k1 + 1)) (lv' := [(1, .int (k1 + 1)), (0, .ref h0)]) hx hb dX5_records_31 hl (k := 0) rfl rfl (by decide) rfl (fun ls hl => ?_)
          refine lv_goto (tgt := 10) hx hb dX5_records_34 (by decide) ?_
          exact ih ((k1 + 1)) ((upd l_pa k1.toNatClampNeg (l_pa (35 + k1).toNatClampNeg))) _ _ _ (k_mu hmu c3) (k_up hk c3 (by decide)) hq hP hD hS (lv_sub hl [0, 1] rfl)
    exact L10 (((105 : Int32).toInt - (0 : Int32).toInt).toNat + 1) (0) (pa) _ _ _ (Nat.lt_succ_self _) (by decide) hq hP hD hS (lv_sub hl [0, 1] rfl)
def sh_X5_need (sv : Nat → Int32) (x1 : Int32) (x2 : Int32) (x3 : Int32) : Int32 := (kb (if (sv (0 + x1).toNatClampNeg) = 0 then (x2 * x3) else (if (sv (0 + x1).toNatClampNeg) = 1 then (((x2 * x3) * 3) / 4) else (((x2 * x3) * 9) / 8))) (fun z_v4 => z_v4))
abbrev rm_X5_need : Room := { frames := 0, cells := 0, slots := 0, locals := 0 }
theorem hd_X5_need : hdT yX5_need 3 := by decide +kernel
set_option maxHeartbeats 4000000 in
set_option maxRecDepth 100000 in
theorem c_X5_need (l : Launch) (D : va_G) (cI cC cQ : ClassId) (sz : Nat) (h0 : Nat) (a : Nat → Nat) (sv : Nat → Int32) (pa : Nat → Int32) (pn : Int32) (sn : Nat → Int32) (kp : Int32) (pd : Nat → Int32) (ln : Int32) (so : Nat → Int32) (po : Int32) (wr : Int32) (lt : Int32) (fr : Int32) (sc : Int32) (tm : Int32) (hd : Int32) (st : Int32) (x1 : Int32) (x2 : Int32) (x3 : Int32) (hi_x1 : vp_in x1 4) : Met l yX5_need (wsO yX5_need cX5_need 5 (some .int)) rm_X5_need (va_Pc [.ref h0, .int x1, .int x2, .int x3] (inW D (TYS cI cC cQ) (MO cI h0 a sv pa pn sn kp pd ln so po wr lt fr sc tm hd st) sz)) (va_Qi (fun (r : Int32) (_ : Unit) => r = sh_X5_need sv x1 x2 x3) (fun (u : Unit) => atW D (TYS cI cC cQ) (va_A (MO cI h0 a sv pa pn sn kp pd ln so po wr lt fr sc tm hd st) sz) (MO cI h0 a sv pa pn sn kp pd ln so po wr lt fr sc tm hd st)) (va_A (MO cI h0 a sv pa pn sn kp pd ln so po wr lt fr sc tm hd st) sz)) 0 0 (va_A (MO cI h0 a sv pa pn sn kp pd ln so po wr lt fr sc tm hd st) sz) := by
  refine k_meti .int rfl (by decide) (Nat.le_of_ble_eq_true rfl) ?_
  intro p e s m args below meth c A ls Q H locs hargs hret hx hb hts hown hml hname hN hA hS hP hK hD hl
  have hl : lv_has ls 5 [(0, .ref h0), (1, .int x1), (2, .int x2), (3, .int x3)] := hl
  obtain ⟨Xq, hX⟩ : ∃ Xq, Xq = sh_X5_need sv x1 x2 x3 := ⟨_, rfl⟩
  have hq : Xq = (kb (if (sv (0 + x1).toNatClampNeg) = 0 then (x2 * x3) else (if (sv (0 + x1).toNatClampNeg) = 1 then (((x2 * x3) * 3) / 4) else (((x2 * x3) * 9) / 8))) (fun z_v4 => z_v4)) := hX
  refine lv_iload_n hx hb dX5_need_0 rfl (lv_at hl 2 rfl) ?_
  refine lv_iload_n hx hb dX5_need_1 rfl (lv_at hl 3 rfl) ?_
  refine lv_imul hx hb dX5_need_2 ?_
  refine lv_istore (lv' := [(4, .int (x2 * x3)), (0, .ref h0), (1, .int x1), (2, .int x2), (3, .int x3)]) hx hb dX5_need_3 hl (by decide) rfl (fun ls hl => ?_)
  refine lv_aload_n hx hb dX5_need_5 rfl (lv_at hl 1 rfl) ?_
  refine va_get (D := D) (ci := 5) (v := .ref (a 0)) (C := RX5) (T := TX5) (N := 16) hx hb hts inA5 hown hK hP 0 rfl rfl 0 (by decide) (hts _ wd_fl_RX5_7) (fun _ h9 => h9) rfl dX5_need_6 ?_
  refine lv_iconst (v := 0) hx hb dX5_need_9 (by decide) ?_
  refine lv_iload_n hx hb dX5_need_10 rfl (lv_at hl 2 rfl) ?_
  refine lv_iadd hx hb dX5_need_11 ?_
  refine va_iald hx hb hK hP 1 0 rfl rfl (vp_add hi_x1 (by decide) (by decide) (by decide)) dX5_need_12 ?_
  have K : ∀ (v4 : Int32) (H : Heap) (locs : List Loc) (ls : Array Slot), v4 = (if (sv (0 + x1).toNatClampNeg) = 0 then (x2 * x3) else (if (sv (0 + x1).toNatClampNeg) = 1 then (((x2 * x3) * 3) / 4) else (((x2 * x3) * 9) / 8))) → va_P D vwCl (MO cI h0 a sv pa pn sn kp pd ln so po wr lt fr sc tm hd st) H → va_D A (MO cI h0 a sv pa pn sn kp pd ln so po wr lt fr sc tm hd st) → va_S A s.heap H locs → lv_has ls 5 [(0, .ref h0), (1, .int x1), (2, .int x2), (3, .int x3), (4, .int (x2 * x3))] → W p l e rm_X5_need s m args below meth c H locs 0 0 Q (F0 m 50 ls [.int v4]) := by
    intro v4 H locs ls hv3 hP hD hS hl
    have hq : Xq = v4 := by rw [← hv3] at hq; exact hq
    exact hret _ _ _ _ (v4) () dX5_need_50 rfl (hq.symm.trans hX) hP hD hS
  refine lv_if_ne (tgt := 21) hx hb dX5_need_13 (by decide) (fun c1 => ?_) (fun c1 => ?_)
  · skip
    refine lv_aload_n hx hb dX5_need_21 rfl (lv_at hl 1 rfl) ?_
    refine va_get (D := D) (ci := 5) (v := .ref (a 0)) (C := RX5) (T := TX5) (N := 16) hx hb hts inA5 hown hK hP 0 rfl rfl 0 (by decide) (hts _ wd_fl_RX5_7) (fun _ h9 => h9) rfl dX5_need_22 ?_
    refine lv_iconst (v := 0) hx hb dX5_need_25 (by decide) ?_
    refine lv_iload_n hx hb dX5_need_26 rfl (lv_at hl 2 rfl) ?_
    refine lv_iadd hx hb dX5_need_27 ?_
    refine va_iald hx hb hK hP 1 0 rfl rfl (vp_add hi_x1 (by decide) (by decide) (by decide)) dX5_need_28 ?_
    refine lv_iconst (v := 1) hx hb dX5_need_29 (by decide) ?_
    refine lv_icmp_ne (tgt := 42) hx hb dX5_need_30 (by decide) (fun c2 => ?_) (fun c2 => ?_)
    · skip
      refine lv_iload hx hb dX5_need_42 (lv_at hl 0 rfl) ?_
      refine lv_bipush (v := 9) hx hb dX5_need_44 (by decide) ?_
      refine lv_imul hx hb dX5_need_46 ?_
      refine lv_bipush (v := 8) hx hb dX5_need_47 (by decide) ?_
      refine lv_idiv hx hb dX5_need_49 (by decide) ?_
      exact K ((((x2 * x3) * 9) / 8)) _ _ _ (by rw [if_neg c1, if_neg c2]) hP hD hS (lv_sub hl [1, 2, 3, 4, 0] rfl)
    · skip
      refine lv_iload hx hb dX5_need_33 (lv_at hl 0 rfl) ?_
      refine lv_iconst (v := 3) hx hb dX5_need_35 (by decide) ?_
      refine lv_imul hx hb dX5_need_36 ?_
      refine lv_iconst (v := 4) hx hb dX5_need_37 (by decide) ?_
      refine lv_idiv hx hb dX5_need_38 (by decide) ?_
      refine lv_goto (tgt := 50) hx hb dX5_need_39 (by decide) ?_
      exact K ((((x2 * x3) * 3) / 4)) _ _ _ (by rw [if_neg c1, if_pos c2]) hP hD hS (lv_sub hl [1, 2, 3, 4, 0] rfl)
  · skip
    refine lv_iload hx hb dX5_need_16 (lv_at hl 0 rfl) ?_
    refine lv_goto (tgt := 50) hx hb dX5_need_18 (by decide) ?_
    exact K ((x2 * x3)) _ _ _ (by rw [if_pos c1]) hP hD hS (lv_sub hl [1, 2, 3, 4, 0] rfl)
def sh_X5_counted (sv : Nat → Int32) (x1 : Int32) (x2 : Int32) : Int32 := (kb (if (sv (0 + x1).toNatClampNeg) = 2 then (x2 * (sv (31 : Int32).toNatClampNeg)) else (sh_X5_need sv x1 x2 (sv (31 : Int32).toNatClampNeg))) (fun z_v6 => z_v6))
abbrev rm_X5_counted : Room := { frames := 1, cells := 0, slots := 0, locals := 24 }
theorem hd_X5_counted : hdT yX5_counted 2 := by decide +kernel
set_option maxHeartbeats 4000000 in
set_option maxRecDepth 100000 in
theorem c_X5_counted (l : Launch) (D : va_G) (cI cC cQ : ClassId) (sz : Nat) (h0 : Nat) (a : Nat → Nat) (sv : Nat → Int32) (pa : Nat → Int32) (pn : Int32) (sn : Nat → Int32) (kp : Int32) (pd : Nat → Int32) (ln : Int32) (so : Nat → Int32) (po : Int32) (wr : Int32) (lt : Int32) (fr : Int32) (sc : Int32) (tm : Int32) (hd : Int32) (st : Int32) (x1 : Int32) (x2 : Int32) (hi_x1 : vp_in x1 4) : Met l yX5_counted (wsO yX5_counted cX5_counted 3 (some .int)) rm_X5_counted (va_Pc [.ref h0, .int x1, .int x2] (inW D (TYS cI cC cQ) (MO cI h0 a sv pa pn sn kp pd ln so po wr lt fr sc tm hd st) sz)) (va_Qi (fun (r : Int32) (_ : Unit) => r = sh_X5_counted sv x1 x2) (fun (u : Unit) => atW D (TYS cI cC cQ) (va_A (MO cI h0 a sv pa pn sn kp pd ln so po wr lt fr sc tm hd st) sz) (MO cI h0 a sv pa pn sn kp pd ln so po wr lt fr sc tm hd st)) (va_A (MO cI h0 a sv pa pn sn kp pd ln so po wr lt fr sc tm hd st) sz)) 0 0 (va_A (MO cI h0 a sv pa pn sn kp pd ln so po wr lt fr sc tm hd st) sz) := by
  refine k_meti .int rfl (by decide) (Nat.le_of_ble_eq_true rfl) ?_
  intro p e s m args below meth c A ls Q H locs hargs hret hx hb hts hown hml hname hN hA hS hP hK hD hl
  have hl : lv_has ls 3 [(0, .ref h0), (1, .int x1), (2, .int x2)] := hl
  obtain ⟨Xq, hX⟩ : ∃ Xq, Xq = sh_X5_counted sv x1 x2 := ⟨_, rfl⟩
  have hq : Xq = (kb (if (sv (0 + x1).toNatClampNeg) = 2 then (x2 * (sv (31 : Int32).toNatClampNeg)) else (sh_X5_need sv x1 x2 (sv (31 : Int32).toNatClampNeg))) (fun z_v6 => z_v6)) := hX
  refine lv_aload_n hx hb dX5_counted_0 rfl (lv_at hl 0 rfl) ?_
  refine va_get (D := D) (ci := 5) (v := .ref (a 0)) (C := RX5) (T := TX5) (N := 16) hx hb hts inA5 hown hK hP 0 rfl rfl 0 (by decide) (hts _ wd_fl_RX5_7) (fun _ h9 => h9) rfl dX5_counted_1 ?_
  refine lv_iconst (v := 0) hx hb dX5_counted_4 (by decide) ?_
  refine lv_iload_n hx hb dX5_counted_5 rfl (lv_at hl 1 rfl) ?_
  refine lv_iadd hx hb dX5_counted_6 ?_
  refine va_iald hx hb hK hP 1 0 rfl rfl (vp_add hi_x1 (by decide) (by decide) (by decide)) dX5_counted_7 ?_
  refine lv_iconst (v := 2) hx hb dX5_counted_8 (by decide) ?_
  have K : ∀ (v6 : Int32) (H : Heap) (locs : List Loc) (ls : Array Slot), v6 = (if (sv (0 + x1).toNatClampNeg) = 2 then (x2 * (sv (31 : Int32).toNatClampNeg)) else (sh_X5_need sv x1 x2 (sv (31 : Int32).toNatClampNeg))) → va_P D vwCl (MO cI h0 a sv pa pn sn kp pd ln so po wr lt fr sc tm hd st) H → va_D A (MO cI h0 a sv pa pn sn kp pd ln so po wr lt fr sc tm hd st) → va_S A s.heap H locs → lv_has ls 3 [(0, .ref h0), (1, .int x1), (2, .int x2)] → W p l e rm_X5_counted s m args below meth c H locs 0 0 Q (F0 m 37 ls [.int v6]) := by
    intro v6 H locs ls hv5 hP hD hS hl
    have hq : Xq = v6 := by rw [← hv5] at hq; exact hq
    exact hret _ _ _ _ (v6) () dX5_counted_37 rfl (hq.symm.trans hX) hP hD hS
  refine lv_icmp_ne (tgt := 24) hx hb dX5_counted_9 (by decide) (fun c1 => ?_) (fun c1 => ?_)
  · skip
    refine lv_aload_n hx hb dX5_counted_24 rfl (lv_at hl 0 rfl) ?_
    refine lv_iload_n hx hb dX5_counted_25 rfl (lv_at hl 1 rfl) ?_
    refine lv_iload_n hx hb dX5_counted_26 rfl (lv_at hl 2 rfl) ?_
    refine lv_aload_n hx hb dX5_counted_27 rfl (lv_at hl 0 rfl) ?_
    refine va_get (D := D) (ci := 5) (v := .ref (a 0)) (C := RX5) (T := TX5) (N := 16) hx hb hts inA5 hown hK hP 0 rfl rfl 0 (by decide) (hts _ wd_fl_RX5_7) (fun _ h9 => h9) rfl dX5_counted_28 ?_
    refine lv_bipush (v := 31) hx hb dX5_counted_31 (by decide) ?_
    refine va_iald hx hb hK hP 1 0 rfl rfl (k_in (by decide)) dX5_counted_33 ?_
    have hPs := k_self hP
    have hDs := k_selfD hD
    refine k_behi (X := []) (Y := []) (va_runV (As := [.int x1, .int x2, .int (sv (31 : Int32).toNatClampNeg)]) (rest := []) ⟨hx, hb, hml, hown, hts⟩ (c_X5_need l D cI cC cQ H.size h0 a sv pa pn sn kp pd ln so po wr lt fr sc tm hd st x1 x2 (sv (31 : Int32).toNatClampNeg) (hi_x1)) (kcwV hts wd_ml_RX5_33 wd_im_yX5_need wd_sel_yX5_need wd_ini_RX5 wd_code_yX5_need rfl rfl rfl hd_X5_need ⟨Nat.le_of_ble_eq_true rfl, Nat.le_of_ble_eq_true rfl⟩) ⟨in_blind, va_recv hK (pa_l (pa_r hPs)) (ci := 5) (q0 := 0) rfl rfl, k_pre hK (pa_l (pa_r hPs)) (da_l (da_r hDs)) hN⟩ rfl rfl hl.1 rfl (lv_room (Nat.le_of_ble_eq_true rfl)) dX5_counted_34 ⟨Nat.le_of_ble_eq_true rfl, Nat.le_of_ble_eq_true rfl⟩) hPs hDs hS hA (fun r2 u3 H locs hw4 hP hD hS => ?_)
    have hP := k_unP hP
    have hD := k_unD hD
    have hP : va_P D vwCl (MO cI h0 a sv pa pn sn kp pd ln so po wr lt fr sc tm hd st) H := hP
    have hD : va_D A (MO cI h0 a sv pa pn sn kp pd ln so po wr lt fr sc tm hd st) := hD
    have hw4 : r2 = (sh_X5_need sv x1 x2 (sv (31 : Int32).toNatClampNeg)) := hw4
    subst hw4
    exact K ((sh_X5_need sv x1 x2 (sv (31 : Int32).toNatClampNeg))) _ _ _ (by rw [if_neg c1]) hP hD hS (lv_sub hl [0, 1, 2] rfl)
  · skip
    refine lv_iload_n hx hb dX5_counted_12 rfl (lv_at hl 2 rfl) ?_
    refine lv_aload_n hx hb dX5_counted_13 rfl (lv_at hl 0 rfl) ?_
    refine va_get (D := D) (ci := 5) (v := .ref (a 0)) (C := RX5) (T := TX5) (N := 16) hx hb hts inA5 hown hK hP 0 rfl rfl 0 (by decide) (hts _ wd_fl_RX5_7) (fun _ h9 => h9) rfl dX5_counted_14 ?_
    refine lv_bipush (v := 31) hx hb dX5_counted_17 (by decide) ?_
    refine va_iald hx hb hK hP 1 0 rfl rfl (k_in (by decide)) dX5_counted_19 ?_
    refine lv_imul hx hb dX5_counted_20 ?_
    refine lv_goto (tgt := 37) hx hb dX5_counted_21 (by decide) ?_
    exact K ((x2 * (sv (31 : Int32).toNatClampNeg))) _ _ _ (by rw [if_pos c1]) hP hD hS (lv_sub hl [0, 1, 2] rfl)
def sh_X5_where (sv : Nat → Int32) (x1 : Int32) : Int32 := (if (sv (16 : Int32).toNatClampNeg) = x1 then 0 else (if (sv (17 : Int32).toNatClampNeg) = x1 then 1 else (-1)))
abbrev rm_X5_where : Room := { frames := 0, cells := 0, slots := 0, locals := 0 }
theorem hd_X5_where : hdT yX5_where 1 := by decide +kernel
set_option maxHeartbeats 4000000 in
set_option maxRecDepth 100000 in
theorem c_X5_where (l : Launch) (D : va_G) (cI cC cQ : ClassId) (sz : Nat) (h0 : Nat) (a : Nat → Nat) (sv : Nat → Int32) (pa : Nat → Int32) (pn : Int32) (sn : Nat → Int32) (kp : Int32) (pd : Nat → Int32) (ln : Int32) (so : Nat → Int32) (po : Int32) (wr : Int32) (lt : Int32) (fr : Int32) (sc : Int32) (tm : Int32) (hd : Int32) (st : Int32) (x1 : Int32)  : Met l yX5_where (wsO yX5_where cX5_where 2 (some .int)) rm_X5_where (va_Pc [.ref h0, .int x1] (inW D (TYS cI cC cQ) (MO cI h0 a sv pa pn sn kp pd ln so po wr lt fr sc tm hd st) sz)) (va_Qi (fun (r : Int32) (_ : Unit) => r = sh_X5_where sv x1) (fun (u : Unit) => atW D (TYS cI cC cQ) (va_A (MO cI h0 a sv pa pn sn kp pd ln so po wr lt fr sc tm hd st) sz) (MO cI h0 a sv pa pn sn kp pd ln so po wr lt fr sc tm hd st)) (va_A (MO cI h0 a sv pa pn sn kp pd ln so po wr lt fr sc tm hd st) sz)) 0 0 (va_A (MO cI h0 a sv pa pn sn kp pd ln so po wr lt fr sc tm hd st) sz) := by
  refine k_meti .int rfl (by decide) (Nat.le_of_ble_eq_true rfl) ?_
  intro p e s m args below meth c A ls Q H locs hargs hret hx hb hts hown hml hname hN hA hS hP hK hD hl
  have hl : lv_has ls 2 [(0, .ref h0), (1, .int x1)] := hl
  obtain ⟨Xq, hX⟩ : ∃ Xq, Xq = sh_X5_where sv x1 := ⟨_, rfl⟩
  have hq : Xq = (if (sv (16 : Int32).toNatClampNeg) = x1 then 0 else (if (sv (17 : Int32).toNatClampNeg) = x1 then 1 else (-1))) := hX
  refine lv_aload_n hx hb dX5_where_0 rfl (lv_at hl 0 rfl) ?_
  refine va_get (D := D) (ci := 5) (v := .ref (a 0)) (C := RX5) (T := TX5) (N := 16) hx hb hts inA5 hown hK hP 0 rfl rfl 0 (by decide) (hts _ wd_fl_RX5_7) (fun _ h9 => h9) rfl dX5_where_1 ?_
  refine lv_bipush (v := 16) hx hb dX5_where_4 (by decide) ?_
  refine va_iald hx hb hK hP 1 0 rfl rfl (k_in (by decide)) dX5_where_6 ?_
  refine lv_iload_n hx hb dX5_where_7 rfl (lv_at hl 1 rfl) ?_
  refine lv_icmp_ne (tgt := 15) hx hb dX5_where_8 (by decide) (fun c1 => ?_) (fun c1 => ?_)
  · have hq : Xq = (if (sv (17 : Int32).toNatClampNeg) = x1 then 1 else (-1)) := hq.trans (if_neg c1)
    refine lv_aload_n hx hb dX5_where_15 rfl (lv_at hl 0 rfl) ?_
    refine va_get (D := D) (ci := 5) (v := .ref (a 0)) (C := RX5) (T := TX5) (N := 16) hx hb hts inA5 hown hK hP 0 rfl rfl 0 (by decide) (hts _ wd_fl_RX5_7) (fun _ h9 => h9) rfl dX5_where_16 ?_
    refine lv_bipush (v := 17) hx hb dX5_where_19 (by decide) ?_
    refine va_iald hx hb hK hP 1 0 rfl rfl (k_in (by decide)) dX5_where_21 ?_
    refine lv_iload_n hx hb dX5_where_22 rfl (lv_at hl 1 rfl) ?_
    refine lv_icmp_ne (tgt := 30) hx hb dX5_where_23 (by decide) (fun c2 => ?_) (fun c2 => ?_)
    · have hq : Xq = (-1) := hq.trans (if_neg c2)
      refine lv_iconst (v := (-1)) hx hb dX5_where_30 (by decide) ?_
      exact hret _ _ _ _ ((-1)) () dX5_where_31 rfl (hq.symm.trans hX) hP hD hS
    · have hq : Xq = 1 := hq.trans (if_pos c2)
      refine lv_iconst (v := 1) hx hb dX5_where_26 (by decide) ?_
      refine lv_goto (tgt := 31) hx hb dX5_where_27 (by decide) ?_
      exact hret _ _ _ _ (1) () dX5_where_31 rfl (hq.symm.trans hX) hP hD hS
  · have hq : Xq = 0 := hq.trans (if_pos c1)
    refine lv_iconst (v := 0) hx hb dX5_where_11 (by decide) ?_
    refine lv_goto (tgt := 31) hx hb dX5_where_12 (by decide) ?_
    exact hret _ _ _ _ (0) () dX5_where_31 rfl (hq.symm.trans hX) hP hD hS
def sh_X5_tonerOf (sv : Nat → Int32) (x1 : Int32) : Int32 := ((sv (4 + x1).toNatClampNeg) + (sv (8 + x1).toNatClampNeg))
abbrev rm_X5_tonerOf : Room := { frames := 0, cells := 0, slots := 0, locals := 0 }
theorem hd_X5_tonerOf : hdT yX5_tonerOf 1 := by decide +kernel
set_option maxHeartbeats 4000000 in
set_option maxRecDepth 100000 in
theorem c_X5_tonerOf (l : Launch) (D : va_G) (cI cC cQ : ClassId) (sz : Nat) (h0 : Nat) (a : Nat → Nat) (sv : Nat → Int32) (pa : Nat → Int32) (pn : Int32) (sn : Nat → Int32) (kp : Int32) (pd : Nat → Int32) (ln : Int32) (so : Nat → Int32) (po : Int32) (wr : Int32) (lt : Int32) (fr : Int32) (sc : Int32) (tm : Int32) (hd : Int32) (st : Int32) (x1 : Int32) (hi_x1 : vp_in x1 4) : Met l yX5_tonerOf (wsO yX5_tonerOf cX5_tonerOf 2 (some .int)) rm_X5_tonerOf (va_Pc [.ref h0, .int x1] (inW D (TYS cI cC cQ) (MO cI h0 a sv pa pn sn kp pd ln so po wr lt fr sc tm hd st) sz)) (va_Qi (fun (r : Int32) (_ : Unit) => r = sh_X5_tonerOf sv x1) (fun (u : Unit) => atW D (TYS cI cC cQ) (va_A (MO cI h0 a sv pa pn sn kp pd ln so po wr lt fr sc tm hd st) sz) (MO cI h0 a sv pa pn sn kp pd ln so po wr lt fr sc tm hd st)) (va_A (MO cI h0 a sv pa pn sn kp pd ln so po wr lt fr sc tm hd st) sz)) 0 0 (va_A (MO cI h0 a sv pa pn sn kp pd ln so po wr lt fr sc tm hd st) sz) := by
  refine k_meti .int rfl (by decide) (Nat.le_of_ble_eq_true rfl) ?_
  intro p e s m args below meth c A ls Q H locs hargs hret hx hb hts hown hml hname hN hA hS hP hK hD hl
  have hl : lv_has ls 2 [(0, .ref h0), (1, .int x1)] := hl
  obtain ⟨Xq, hX⟩ : ∃ Xq, Xq = sh_X5_tonerOf sv x1 := ⟨_, rfl⟩
  have hq : Xq = ((sv (4 + x1).toNatClampNeg) + (sv (8 + x1).toNatClampNeg)) := hX
  refine lv_aload_n hx hb dX5_tonerOf_0 rfl (lv_at hl 0 rfl) ?_
  refine va_get (D := D) (ci := 5) (v := .ref (a 0)) (C := RX5) (T := TX5) (N := 16) hx hb hts inA5 hown hK hP 0 rfl rfl 0 (by decide) (hts _ wd_fl_RX5_7) (fun _ h9 => h9) rfl dX5_tonerOf_1 ?_
  refine lv_iconst (v := 4) hx hb dX5_tonerOf_4 (by decide) ?_
  refine lv_iload_n hx hb dX5_tonerOf_5 rfl (lv_at hl 1 rfl) ?_
  refine lv_iadd hx hb dX5_tonerOf_6 ?_
  refine va_iald hx hb hK hP 1 0 rfl rfl (vp_add hi_x1 (by decide) (by decide) (by decide)) dX5_tonerOf_7 ?_
  refine lv_aload_n hx hb dX5_tonerOf_8 rfl (lv_at hl 0 rfl) ?_
  refine va_get (D := D) (ci := 5) (v := .ref (a 0)) (C := RX5) (T := TX5) (N := 16) hx hb hts inA5 hown hK hP 0 rfl rfl 0 (by decide) (hts _ wd_fl_RX5_7) (fun _ h9 => h9) rfl dX5_tonerOf_9 ?_
  refine lv_bipush (v := 8) hx hb dX5_tonerOf_12 (by decide) ?_
  refine lv_iload_n hx hb dX5_tonerOf_14 rfl (lv_at hl 1 rfl) ?_
  refine lv_iadd hx hb dX5_tonerOf_15 ?_
  refine va_iald hx hb hK hP 1 0 rfl rfl (vp_add hi_x1 (by decide) (by decide) (by decide)) dX5_tonerOf_16 ?_
  refine lv_iadd hx hb dX5_tonerOf_17 ?_
  exact hret _ _ _ _ (((sv (4 + x1).toNatClampNeg) + (sv (8 + x1).toNatClampNeg))) () dX5_tonerOf_18 rfl (hq.symm.trans hX) hP hD hS
def sh_X5_toner (sv : Nat → Int32) : Int32 := ((((0 + (sh_X5_tonerOf sv 0)) + (sh_X5_tonerOf sv 1)) + (sh_X5_tonerOf sv 2)) + (sh_X5_tonerOf sv 3))
abbrev rm_X5_toner : Room := { frames := 1, cells := 0, slots := 0, locals := 21 }
theorem hd_X5_toner : hdT yX5_toner 0 := by decide +kernel
set_option maxHeartbeats 4000000 in
set_option maxRecDepth 100000 in
theorem c_X5_toner (l : Launch) (D : va_G) (cI cC cQ : ClassId) (sz : Nat) (h0 : Nat) (a : Nat → Nat) (sv : Nat → Int32) (pa : Nat → Int32) (pn : Int32) (sn : Nat → Int32) (kp : Int32) (pd : Nat → Int32) (ln : Int32) (so : Nat → Int32) (po : Int32) (wr : Int32) (lt : Int32) (fr : Int32) (sc : Int32) (tm : Int32) (hd : Int32) (st : Int32)   : Met l yX5_toner (wsO yX5_toner cX5_toner 3 (some .int)) rm_X5_toner (va_Pc [.ref h0] (inW D (TYS cI cC cQ) (MO cI h0 a sv pa pn sn kp pd ln so po wr lt fr sc tm hd st) sz)) (va_Qi (fun (r : Int32) (_ : Unit) => r = sh_X5_toner sv) (fun (u : Unit) => atW D (TYS cI cC cQ) (va_A (MO cI h0 a sv pa pn sn kp pd ln so po wr lt fr sc tm hd st) sz) (MO cI h0 a sv pa pn sn kp pd ln so po wr lt fr sc tm hd st)) (va_A (MO cI h0 a sv pa pn sn kp pd ln so po wr lt fr sc tm hd st) sz)) 0 0 (va_A (MO cI h0 a sv pa pn sn kp pd ln so po wr lt fr sc tm hd st) sz) := by
  refine k_meti .int rfl (by decide) (Nat.le_of_ble_eq_true rfl) ?_
  intro p e s m args below meth c A ls Q H locs hargs hret hx hb hts hown hml hname hN hA hS hP hK hD hl
  have hl : lv_has ls 3 [(0, .ref h0)] := hl
  obtain ⟨Xq, hX⟩ : ∃ Xq, Xq = sh_X5_toner sv := ⟨_, rfl⟩
  have hq : Xq = ((((0 + (sh_X5_tonerOf sv 0)) + (sh_X5_tonerOf sv 1)) + (sh_X5_tonerOf sv 2)) + (sh_X5_tonerOf sv 3)) := hX
  refine lv_iconst (v := 0) hx hb dX5_toner_0 (by decide) ?_
  refine lv_istore_n (lv' := [(1, .int 0), (0, .ref h0)]) hx hb dX5_toner_1 rfl hl (by decide) rfl (fun ls hl => ?_)
  refine lv_iconst (v := 0) hx hb dX5_toner_2 (by decide) ?_
  refine lv_istore_n (lv' := [(2, .int 0), (1, .int 0), (0, .ref h0)]) hx hb dX5_toner_3 rfl hl (by decide) rfl (fun ls hl => ?_)
  refine lv_iload_n hx hb dX5_toner_4 rfl (lv_at hl 0 rfl) ?_
  refine lv_iconst (v := 4) hx hb dX5_toner_5 (by decide) ?_
  refine lv_icmp_ge (tgt := 23) hx hb dX5_toner_6 (by decide) (fun c9 => absurd c9 (by decide)) (fun _ => ?_)
  refine lv_iload_n hx hb dX5_toner_9 rfl (lv_at hl 1 rfl) ?_
  refine lv_aload_n hx hb dX5_toner_10 rfl (lv_at hl 2 rfl) ?_
  refine lv_iload_n hx hb dX5_toner_11 rfl (lv_at hl 0 rfl) ?_
  have hPs := k_self hP
  have hDs := k_selfD hD
  refine k_behi (X := []) (Y := []) (va_runV (As := [.int 0]) (rest := [.int 0]) ⟨hx, hb, hml, hown, hts⟩ (c_X5_tonerOf l D cI cC cQ H.size h0 a sv pa pn sn kp pd ln so po wr lt fr sc tm hd st 0 ((k_in (by decide)))) (kcwV hts wd_ml_RX5_37 wd_im_yX5_tonerOf wd_sel_yX5_tonerOf wd_ini_RX5 wd_code_yX5_tonerOf rfl rfl rfl hd_X5_tonerOf ⟨Nat.le_of_ble_eq_true rfl, Nat.le_of_ble_eq_true rfl⟩) ⟨in_blind, va_recv hK (pa_l (pa_r hPs)) (ci := 5) (q0 := 0) rfl rfl, k_pre hK (pa_l (pa_r hPs)) (da_l (da_r hDs)) hN⟩ rfl rfl hl.1 rfl (lv_room (Nat.le_of_ble_eq_true rfl)) dX5_toner_12 ⟨Nat.le_of_ble_eq_true rfl, Nat.le_of_ble_eq_true rfl⟩) hPs hDs hS hA (fun r1 u2 H locs hw3 hP hD hS => ?_)
  have hP := k_unP hP
  have hD := k_unD hD
  have hP : va_P D vwCl (MO cI h0 a sv pa pn sn kp pd ln so po wr lt fr sc tm hd st) H := hP
  have hD : va_D A (MO cI h0 a sv pa pn sn kp pd ln so po wr lt fr sc tm hd st) := hD
  have hw3 : r1 = (sh_X5_tonerOf sv 0) := hw3
  subst hw3
  refine lv_iadd hx hb dX5_toner_15 ?_
  refine lv_istore_n (lv' := [(1, .int (0 + (sh_X5_tonerOf sv 0))), (2, .int 0), (0, .ref h0)]) hx hb dX5_toner_16 rfl hl (by decide) rfl (fun ls hl => ?_)
  refine lv_iinc (v := 1) (lv' := [(2, .int 1), (1, .int (0 + (sh_X5_tonerOf sv 0))), (0, .ref h0)]) hx hb dX5_toner_17 hl (k := 1) rfl (by decide) (by decide) rfl (fun ls hl => ?_)
  refine lv_goto (tgt := 4) hx hb dX5_toner_20 (by decide) ?_
  refine lv_iload_n hx hb dX5_toner_4 rfl (lv_at hl 0 rfl) ?_
  refine lv_iconst (v := 4) hx hb dX5_toner_5 (by decide) ?_
  refine lv_icmp_ge (tgt := 23) hx hb dX5_toner_6 (by decide) (fun c9 => absurd c9 (by decide)) (fun _ => ?_)
  refine lv_iload_n hx hb dX5_toner_9 rfl (lv_at hl 1 rfl) ?_
  refine lv_aload_n hx hb dX5_toner_10 rfl (lv_at hl 2 rfl) ?_
  refine lv_iload_n hx hb dX5_toner_11 rfl (lv_at hl 0 rfl) ?_
  have hPs := k_self hP
  have hDs := k_selfD hD
  refine k_behi (X := []) (Y := []) (va_runV (As := [.int 1]) (rest := [.int (0 + (sh_X5_tonerOf sv 0))]) ⟨hx, hb, hml, hown, hts⟩ (c_X5_tonerOf l D cI cC cQ H.size h0 a sv pa pn sn kp pd ln so po wr lt fr sc tm hd st 1 ((k_in (by decide)))) (kcwV hts wd_ml_RX5_37 wd_im_yX5_tonerOf wd_sel_yX5_tonerOf wd_ini_RX5 wd_code_yX5_tonerOf rfl rfl rfl hd_X5_tonerOf ⟨Nat.le_of_ble_eq_true rfl, Nat.le_of_ble_eq_true rfl⟩) ⟨in_blind, va_recv hK (pa_l (pa_r hPs)) (ci := 5) (q0 := 0) rfl rfl, k_pre hK (pa_l (pa_r hPs)) (da_l (da_r hDs)) hN⟩ rfl rfl hl.1 rfl (lv_room (Nat.le_of_ble_eq_true rfl)) dX5_toner_12 ⟨Nat.le_of_ble_eq_true rfl, Nat.le_of_ble_eq_true rfl⟩) hPs hDs hS hA (fun r4 u5 H locs hw6 hP hD hS => ?_)
  have hP := k_unP hP
  have hD := k_unD hD
  have hP : va_P D vwCl (MO cI h0 a sv pa pn sn kp pd ln so po wr lt fr sc tm hd st) H := hP
  have hD : va_D A (MO cI h0 a sv pa pn sn kp pd ln so po wr lt fr sc tm hd st) := hD
  have hw6 : r4 = (sh_X5_tonerOf sv 1) := hw6
  subst hw6
  refine lv_iadd hx hb dX5_toner_15 ?_
  refine lv_istore_n (lv' := [(1, .int ((0 + (sh_X5_tonerOf sv 0)) + (sh_X5_tonerOf sv 1))), (2, .int 1), (0, .ref h0)]) hx hb dX5_toner_16 rfl hl (by decide) rfl (fun ls hl => ?_)
  refine lv_iinc (v := 2) (lv' := [(2, .int 2), (1, .int ((0 + (sh_X5_tonerOf sv 0)) + (sh_X5_tonerOf sv 1))), (0, .ref h0)]) hx hb dX5_toner_17 hl (k := 1) rfl (by decide) (by decide) rfl (fun ls hl => ?_)
  refine lv_goto (tgt := 4) hx hb dX5_toner_20 (by decide) ?_
  refine lv_iload_n hx hb dX5_toner_4 rfl (lv_at hl 0 rfl) ?_
  refine lv_iconst (v := 4) hx hb dX5_toner_5 (by decide) ?_
  refine lv_icmp_ge (tgt := 23) hx hb dX5_toner_6 (by decide) (fun c9 => absurd c9 (by decide)) (fun _ => ?_)
  refine lv_iload_n hx hb dX5_toner_9 rfl (lv_at hl 1 rfl) ?_
  refine lv_aload_n hx hb dX5_toner_10 rfl (lv_at hl 2 rfl) ?_
  refine lv_iload_n hx hb dX5_toner_11 rfl (lv_at hl 0 rfl) ?_
  have hPs := k_self hP
  have hDs := k_selfD hD
  refine k_behi (X := []) (Y := []) (va_runV (As := [.int 2]) (rest := [.int ((0 + (sh_X5_tonerOf sv 0)) + (sh_X5_tonerOf sv 1))]) ⟨hx, hb, hml, hown, hts⟩ (c_X5_tonerOf l D cI cC cQ H.size h0 a sv pa pn sn kp pd ln so po wr lt fr sc tm hd st 2 ((k_in (by decide)))) (kcwV hts wd_ml_RX5_37 wd_im_yX5_tonerOf wd_sel_yX5_tonerOf wd_ini_RX5 wd_code_yX5_tonerOf rfl rfl rfl hd_X5_tonerOf ⟨Nat.le_of_ble_eq_true rfl, Nat.le_of_ble_eq_true rfl⟩) ⟨in_blind, va_recv hK (pa_l (pa_r hPs)) (ci := 5) (q0 := 0) rfl rfl, k_pre hK (pa_l (pa_r hPs)) (da_l (da_r hDs)) hN⟩ rfl rfl hl.1 rfl (lv_room (Nat.le_of_ble_eq_true rfl)) dX5_toner_12 ⟨Nat.le_of_ble_eq_true rfl, Nat.le_of_ble_eq_true rfl⟩) hPs hDs hS hA (fun r7 u8 H locs hw9 hP hD hS => ?_)
  have hP := k_unP hP
  have hD := k_unD hD
  have hP : va_P D vwCl (MO cI h0 a sv pa pn sn kp pd ln so po wr lt fr sc tm hd st) H := hP
  have hD : va_D A (MO cI h0 a sv pa pn sn kp pd ln so po wr lt fr sc tm hd st) := hD
  have hw9 : r7 = (sh_X5_tonerOf sv 2) := hw9
  subst hw9
  refine lv_iadd hx hb dX5_toner_15 ?_
  refine lv_istore_n (lv' := [(1, .int (((0 + (sh_X5_tonerOf sv 0)) + (sh_X5_tonerOf sv 1)) + (sh_X5_tonerOf sv 2))), (2, .int 2), (0, .ref h0)]) hx hb dX5_toner_16 rfl hl (by decide) rfl (fun ls hl => ?_)
  refine lv_iinc (v := 3) (lv' := [(2, .int 3), (1, .int (((0 + (sh_X5_tonerOf sv 0)) + (sh_X5_tonerOf sv 1)) + (sh_X5_tonerOf sv 2))), (0, .ref h0)]) hx hb dX5_toner_17 hl (k := 1) rfl (by decide) (by decide) rfl (fun ls hl => ?_)
  refine lv_goto (tgt := 4) hx hb dX5_toner_20 (by decide) ?_
  refine lv_iload_n hx hb dX5_toner_4 rfl (lv_at hl 0 rfl) ?_
  refine lv_iconst (v := 4) hx hb dX5_toner_5 (by decide) ?_
  refine lv_icmp_ge (tgt := 23) hx hb dX5_toner_6 (by decide) (fun c9 => absurd c9 (by decide)) (fun _ => ?_)
  refine lv_iload_n hx hb dX5_toner_9 rfl (lv_at hl 1 rfl) ?_
  refine lv_aload_n hx hb dX5_toner_10 rfl (lv_at hl 2 rfl) ?_
  refine lv_iload_n hx hb dX5_toner_11 rfl (lv_at hl 0 rfl) ?_
  have hPs := k_self hP
  have hDs := k_selfD hD
  refine k_behi (X := []) (Y := []) (va_runV (As := [.int 3]) (rest := [.int (((0 + (sh_X5_tonerOf sv 0)) + (sh_X5_tonerOf sv 1)) + (sh_X5_tonerOf sv 2))]) ⟨hx, hb, hml, hown, hts⟩ (c_X5_tonerOf l D cI cC cQ H.size h0 a sv pa pn sn kp pd ln so po wr lt fr sc tm hd st 3 ((k_in (by decide)))) (kcwV hts wd_ml_RX5_37 wd_im_yX5_tonerOf wd_sel_yX5_tonerOf wd_ini_RX5 wd_code_yX5_tonerOf rfl rfl rfl hd_X5_tonerOf ⟨Nat.le_of_ble_eq_true rfl, Nat.le_of_ble_eq_true rfl⟩) ⟨in_blind, va_recv hK (pa_l (pa_r hPs)) (ci := 5) (q0 := 0) rfl rfl, k_pre hK (pa_l (pa_r hPs)) (da_l (da_r hDs)) hN⟩ rfl rfl hl.1 rfl (lv_room (Nat.le_of_ble_eq_true rfl)) dX5_toner_12 ⟨Nat.le_of_ble_eq_true rfl, Nat.le_of_ble_eq_true rfl⟩) hPs hDs hS hA (fun r10 u11 H locs hw12 hP hD hS => ?_)
  have hP := k_unP hP
  have hD := k_unD hD
  have hP : va_P D vwCl (MO cI h0 a sv pa pn sn kp pd ln so po wr lt fr sc tm hd st) H := hP
  have hD : va_D A (MO cI h0 a sv pa pn sn kp pd ln so po wr lt fr sc tm hd st) := hD
  have hw12 : r10 = (sh_X5_tonerOf sv 3) := hw12
  subst hw12
  refine lv_iadd hx hb dX5_toner_15 ?_
  refine lv_istore_n (lv' := [(1, .int ((((0 + (sh_X5_tonerOf sv 0)) + (sh_X5_tonerOf sv 1)) + (sh_X5_tonerOf sv 2)) + (sh_X5_tonerOf sv 3))), (2, .int 3), (0, .ref h0)]) hx hb dX5_toner_16 rfl hl (by decide) rfl (fun ls hl => ?_)
  refine lv_iinc (v := 4) (lv' := [(2, .int 4), (1, .int ((((0 + (sh_X5_tonerOf sv 0)) + (sh_X5_tonerOf sv 1)) + (sh_X5_tonerOf sv 2)) + (sh_X5_tonerOf sv 3))), (0, .ref h0)]) hx hb dX5_toner_17 hl (k := 1) rfl (by decide) (by decide) rfl (fun ls hl => ?_)
  refine lv_goto (tgt := 4) hx hb dX5_toner_20 (by decide) ?_
  refine lv_iload_n hx hb dX5_toner_4 rfl (lv_at hl 0 rfl) ?_
  refine lv_iconst (v := 4) hx hb dX5_toner_5 (by decide) ?_
  refine lv_icmp_ge (tgt := 23) hx hb dX5_toner_6 (by decide) (fun _ => ?_) (fun c9 => absurd c9 (by decide))
  refine lv_iload_n hx hb dX5_toner_23 rfl (lv_at hl 1 rfl) ?_
  exact hret _ _ _ _ (((((0 + (sh_X5_tonerOf sv 0)) + (sh_X5_tonerOf sv 1)) + (sh_X5_tonerOf sv 2)) + (sh_X5_tonerOf sv 3))) () dX5_toner_24 rfl (hq.symm.trans hX) hP hD hS
def sh_X5_shakes (sv : Nat → Int32) (x1 : Int32) : Int32 × (Nat → Int32) := (((sv (8 + x1).toNatClampNeg) / 2), (upd (upd sv (8 + x1).toNatClampNeg ((sv (8 + x1).toNatClampNeg) - ((sv (8 + x1).toNatClampNeg) / 2))) (4 + x1).toNatClampNeg (((upd sv (8 + x1).toNatClampNeg ((sv (8 + x1).toNatClampNeg) - ((sv (8 + x1).toNatClampNeg) / 2))) (4 + x1).toNatClampNeg) + ((sv (8 + x1).toNatClampNeg) / 2))))
abbrev rm_X5_shakes : Room := { frames := 0, cells := 0, slots := 0, locals := 0 }
theorem hd_X5_shakes : hdT yX5_shakes 1 := by decide +kernel
set_option maxHeartbeats 4000000 in
set_option maxRecDepth 100000 in
theorem c_X5_shakes (l : Launch) (D : va_G) (cI cC cQ : ClassId) (sz : Nat) (h0 : Nat) (a : Nat → Nat) (sv : Nat → Int32) (pa : Nat → Int32) (pn : Int32) (sn : Nat → Int32) (kp : Int32) (pd : Nat → Int32) (ln : Int32) (so : Nat → Int32) (po : Int32) (wr : Int32) (lt : Int32) (fr : Int32) (sc : Int32) (tm : Int32) (hd : Int32) (st : Int32) (x1 : Int32) (hi_x1 : vp_in x1 4) : Met l yX5_shakes (wsO yX5_shakes cX5_shakes 3 (some .int)) rm_X5_shakes (va_Pc [.ref h0, .int x1] (inW D (TYS cI cC cQ) (MO cI h0 a sv pa pn sn kp pd ln so po wr lt fr sc tm hd st) sz)) (va_Qi (fun (r : Int32) (u : (Nat → Int32)) => (r, u) = sh_X5_shakes sv x1) (fun (u : (Nat → Int32)) => atW D (TYS cI cC cQ) (va_A (MO cI h0 a sv pa pn sn kp pd ln so po wr lt fr sc tm hd st) sz) (MO cI h0 a u pa pn sn kp pd ln so po wr lt fr sc tm hd st)) (va_A (MO cI h0 a sv pa pn sn kp pd ln so po wr lt fr sc tm hd st) sz)) 0 0 (va_A (MO cI h0 a sv pa pn sn kp pd ln so po wr lt fr sc tm hd st) sz) := by
  refine k_meti .int rfl (by decide) (Nat.le_of_ble_eq_true rfl) ?_
  intro p e s m args below meth c A ls Q H locs hargs hret hx hb hts hown hml hname hN hA hS hP hK hD hl
  have hl : lv_has ls 3 [(0, .ref h0), (1, .int x1)] := hl
  obtain ⟨Xq, hX⟩ : ∃ Xq, Xq = sh_X5_shakes sv x1 := ⟨_, rfl⟩
  have hq : Xq = (((sv (8 + x1).toNatClampNeg) / 2), (upd (upd sv (8 + x1).toNatClampNeg ((sv (8 + x1).toNatClampNeg) - ((sv (8 + x1).toNatClampNeg) / 2))) (4 + x1).toNatClampNeg (((upd sv (8 + x1).toNatClampNeg ((sv (8 + x1).toNatClampNeg) - ((sv (8 + x1).toNatClampNeg) / 2))) (4 + x1).toNatClampNeg) + ((sv (8 + x1).toNatClampNeg) / 2)))) := hX
  refine lv_aload_n hx hb dX5_shakes_0 rfl (lv_at hl 0 rfl) ?_
  refine va_get (D := D) (ci := 5) (v := .ref (a 0)) (C := RX5) (T := TX5) (N := 16) hx hb hts inA5 hown hK hP 0 rfl rfl 0 (by decide) (hts _ wd_fl_RX5_7) (fun _ h9 => h9) rfl dX5_shakes_1 ?_
  refine lv_bipush (v := 8) hx hb dX5_shakes_4 (by decide) ?_
  refine lv_iload_n hx hb dX5_shakes_6 rfl (lv_at hl 1 rfl) ?_
  refine lv_iadd hx hb dX5_shakes_7 ?_
  refine va_iald hx hb hK hP 1 0 rfl rfl (vp_add hi_x1 (by decide) (by decide) (by decide)) dX5_shakes_8 ?_
  refine lv_iconst (v := 2) hx hb dX5_shakes_9 (by decide) ?_
  refine lv_idiv hx hb dX5_shakes_10 (by decide) ?_
  refine lv_istore_n (lv' := [(2, .int ((sv (8 + x1).toNatClampNeg) / 2)), (0, .ref h0), (1, .int x1)]) hx hb dX5_shakes_11 rfl hl (by decide) rfl (fun ls hl => ?_)
  refine lv_aload_n hx hb dX5_shakes_12 rfl (lv_at hl 1 rfl) ?_
  refine va_get (D := D) (ci := 5) (v := .ref (a 0)) (C := RX5) (T := TX5) (N := 16) hx hb hts inA5 hown hK hP 0 rfl rfl 0 (by decide) (hts _ wd_fl_RX5_7) (fun _ h9 => h9) rfl dX5_shakes_13 ?_
  refine lv_bipush (v := 8) hx hb dX5_shakes_16 (by decide) ?_
  refine lv_iload_n hx hb dX5_shakes_18 rfl (lv_at hl 2 rfl) ?_
  refine lv_iadd hx hb dX5_shakes_19 ?_
  refine lv_dup2_11 hx hb dX5_shakes_20 rfl rfl ?_
  refine va_iald hx hb hK hP 1 0 rfl rfl (vp_add hi_x1 (by decide) (by decide) (by decide)) dX5_shakes_21 ?_
  refine lv_iload_n hx hb dX5_shakes_22 rfl (lv_at hl 0 rfl) ?_
  refine lv_isub hx hb dX5_shakes_23 ?_
  refine va_iast hx hb hK hP hD hS 1 0 rfl rfl (vp_add hi_x1 (by decide) (by decide) (by decide)) dX5_shakes_24 (fun H locs hP hD hS => ?_)
  have hP : va_P D vwCl (MO cI h0 a (upd sv (8 + x1).toNatClampNeg ((sv (8 + x1).toNatClampNeg) - ((sv (8 + x1).toNatClampNeg) / 2))) pa pn sn kp pd ln so po wr lt fr sc tm hd st) H := hP
  have hD : va_D A (MO cI h0 a (upd sv (8 + x1).toNatClampNeg ((sv (8 + x1).toNatClampNeg) - ((sv (8 + x1).toNatClampNeg) / 2))) pa pn sn kp pd ln so po wr lt fr sc tm hd st) := hD
  refine lv_aload_n hx hb dX5_shakes_25 rfl (lv_at hl 1 rfl) ?_
  refine va_get (D := D) (ci := 5) (v := .ref (a 0)) (C := RX5) (T := TX5) (N := 16) hx hb hts inA5 hown hK hP 0 rfl rfl 0 (by decide) (hts _ wd_fl_RX5_7) (fun _ h9 => h9) rfl dX5_shakes_26 ?_
  refine lv_iconst (v := 4) hx hb dX5_shakes_29 (by decide) ?_
  refine lv_iload_n hx hb dX5_shakes_30 rfl (lv_at hl 2 rfl) ?_
  refine lv_iadd hx hb dX5_shakes_31 ?_
  refine lv_dup2_11 hx hb dX5_shakes_32 rfl rfl ?_
  refine va_iald hx hb hK hP 1 0 rfl rfl (vp_add hi_x1 (by decide) (by decide) (by decide)) dX5_shakes_33 ?_
  refine lv_iload_n hx hb dX5_shakes_34 rfl (lv_at hl 0 rfl) ?_
  refine lv_iadd hx hb dX5_shakes_35 ?_
  refine va_iast hx hb hK hP hD hS 1 0 rfl rfl (vp_add hi_x1 (by decide) (by decide) (by decide)) dX5_shakes_36 (fun H locs hP hD hS => ?_)
  have hP : va_P D vwCl (MO cI h0 a (upd (upd sv (8 + x1).toNatClampNeg ((sv (8 + x1).toNatClampNeg) - ((sv (8 + x1).toNatClampNeg) / 2))) (4 + x1).toNatClampNeg (((upd sv (8 + x1).toNatClampNeg ((sv (8 + x1).toNatClampNeg) - ((sv (8 + x1).toNatClampNeg) / 2))) (4 + x1).toNatClampNeg) + ((sv (8 + x1).toNatClampNeg) / 2))) pa pn sn kp pd ln so po wr lt fr sc tm hd st) H := hP
  have hD : va_D A (MO cI h0 a (upd (upd sv (8 + x1).toNatClampNeg ((sv (8 + x1).toNatClampNeg) - ((sv (8 + x1).toNatClampNeg) / 2))) (4 + x1).toNatClampNeg (((upd sv (8 + x1).toNatClampNeg ((sv (8 + x1).toNatClampNeg) - ((sv (8 + x1).toNatClampNeg) / 2))) (4 + x1).toNatClampNeg) + ((sv (8 + x1).toNatClampNeg) / 2))) pa pn sn kp pd ln so po wr lt fr sc tm hd st) := hD
  refine lv_iload_n hx hb dX5_shakes_37 rfl (lv_at hl 0 rfl) ?_
  exact hret _ _ _ _ (((sv (8 + x1).toNatClampNeg) / 2)) (upd (upd sv (8 + x1).toNatClampNeg ((sv (8 + x1).toNatClampNeg) - ((sv (8 + x1).toNatClampNeg) / 2))) (4 + x1).toNatClampNeg (((upd sv (8 + x1).toNatClampNeg ((sv (8 + x1).toNatClampNeg) - ((sv (8 + x1).toNatClampNeg) / 2))) (4 + x1).toNatClampNeg) + ((sv (8 + x1).toNatClampNeg) / 2))) dX5_shakes_38 rfl (hq.symm.trans hX) hP hD hS
def sh_X5_clear (ln : Int32) : Int32 × (Int32) := (ln, 0)
abbrev rm_X5_clear : Room := { frames := 0, cells := 0, slots := 0, locals := 0 }
theorem hd_X5_clear : hdT yX5_clear 0 := by decide +kernel
set_option maxHeartbeats 4000000 in
set_option maxRecDepth 100000 in
theorem c_X5_clear (l : Launch) (D : va_G) (cI cC cQ : ClassId) (sz : Nat) (h0 : Nat) (a : Nat → Nat) (sv : Nat → Int32) (pa : Nat → Int32) (pn : Int32) (sn : Nat → Int32) (kp : Int32) (pd : Nat → Int32) (ln : Int32) (so : Nat → Int32) (po : Int32) (wr : Int32) (lt : Int32) (fr : Int32) (sc : Int32) (tm : Int32) (hd : Int32) (st : Int32)   : Met l yX5_clear (wsO yX5_clear cX5_clear 2 (some .int)) rm_X5_clear (va_Pc [.ref h0] (inW D (TYS cI cC cQ) (MO cI h0 a sv pa pn sn kp pd ln so po wr lt fr sc tm hd st) sz)) (va_Qi (fun (r : Int32) (u : (Int32)) => (r, u) = sh_X5_clear ln) (fun (u : (Int32)) => atW D (TYS cI cC cQ) (va_A (MO cI h0 a sv pa pn sn kp pd ln so po wr lt fr sc tm hd st) sz) (MO cI h0 a sv pa pn sn kp pd u so po wr lt fr sc tm hd st)) (va_A (MO cI h0 a sv pa pn sn kp pd ln so po wr lt fr sc tm hd st) sz)) 0 0 (va_A (MO cI h0 a sv pa pn sn kp pd ln so po wr lt fr sc tm hd st) sz) := by
  refine k_meti .int rfl (by decide) (Nat.le_of_ble_eq_true rfl) ?_
  intro p e s m args below meth c A ls Q H locs hargs hret hx hb hts hown hml hname hN hA hS hP hK hD hl
  have hl : lv_has ls 2 [(0, .ref h0)] := hl
  obtain ⟨Xq, hX⟩ : ∃ Xq, Xq = sh_X5_clear ln := ⟨_, rfl⟩
  have hq : Xq = (ln, 0) := hX
  refine lv_aload_n hx hb dX5_clear_0 rfl (lv_at hl 0 rfl) ?_
  refine va_get (D := D) (ci := 5) (v := .int ln) (C := RX5) (T := TX5) (N := 16) hx hb hts inA5 hown hK hP 0 rfl rfl 6 (by decide) (hts _ wd_fl_RX5_82) (fun _ h9 => h9) rfl dX5_clear_1 ?_
  refine lv_istore_n (lv' := [(1, .int ln), (0, .ref h0)]) hx hb dX5_clear_4 rfl hl (by decide) rfl (fun ls hl => ?_)
  refine lv_aload_n hx hb dX5_clear_5 rfl (lv_at hl 1 rfl) ?_
  refine lv_iconst (v := 0) hx hb dX5_clear_6 (by decide) ?_
  refine va_put (D := D) (ci := 5) (v := .int 0) (ty := .int) (C := RX5) (T := TX5) (N := 16) hx hb hts inA5 tyX5 tyX5_ok nmX5 hown hK hP hD hS 0 rfl rfl 6 (by decide) (hts _ wd_fl_RX5_82) (fun _ h9 => h9) rfl (by decide +kernel) rfl rfl (Nat.le_of_ble_eq_true rfl) dX5_clear_7 (fun H locs hP hD hS => ?_)
  have hP : va_P D vwCl (MO cI h0 a sv pa pn sn kp pd 0 so po wr lt fr sc tm hd st) H := hP
  have hD : va_D A (MO cI h0 a sv pa pn sn kp pd 0 so po wr lt fr sc tm hd st) := hD
  refine lv_iload_n hx hb dX5_clear_10 rfl (lv_at hl 0 rfl) ?_
  exact hret _ _ _ _ (ln) 0 dX5_clear_11 rfl (hq.symm.trans hX) hP hD hS
def sh_X5_darkPages (sv : Nat → Int32) : Int32 := ((sv (18 : Int32).toNatClampNeg) + (sv (19 : Int32).toNatClampNeg))
abbrev rm_X5_darkPages : Room := { frames := 0, cells := 0, slots := 0, locals := 0 }
theorem hd_X5_darkPages : hdT yX5_darkPages 0 := by decide +kernel
set_option maxHeartbeats 4000000 in
set_option maxRecDepth 100000 in
theorem c_X5_darkPages (l : Launch) (D : va_G) (cI cC cQ : ClassId) (sz : Nat) (h0 : Nat) (a : Nat → Nat) (sv : Nat → Int32) (pa : Nat → Int32) (pn : Int32) (sn : Nat → Int32) (kp : Int32) (pd : Nat → Int32) (ln : Int32) (so : Nat → Int32) (po : Int32) (wr : Int32) (lt : Int32) (fr : Int32) (sc : Int32) (tm : Int32) (hd : Int32) (st : Int32)   : Met l yX5_darkPages (wsO yX5_darkPages cX5_darkPages 1 (some .int)) rm_X5_darkPages (va_Pc [.ref h0] (inW D (TYS cI cC cQ) (MO cI h0 a sv pa pn sn kp pd ln so po wr lt fr sc tm hd st) sz)) (va_Qi (fun (r : Int32) (_ : Unit) => r = sh_X5_darkPages sv) (fun (u : Unit) => atW D (TYS cI cC cQ) (va_A (MO cI h0 a sv pa pn sn kp pd ln so po wr lt fr sc tm hd st) sz) (MO cI h0 a sv pa pn sn kp pd ln so po wr lt fr sc tm hd st)) (va_A (MO cI h0 a sv pa pn sn kp pd ln so po wr lt fr sc tm hd st) sz)) 0 0 (va_A (MO cI h0 a sv pa pn sn kp pd ln so po wr lt fr sc tm hd st) sz) := by
  refine k_meti .int rfl (by decide) (Nat.le_of_ble_eq_true rfl) ?_
  intro p e s m args below meth c A ls Q H locs hargs hret hx hb hts hown hml hname hN hA hS hP hK hD hl
  have hl : lv_has ls 1 [(0, .ref h0)] := hl
  obtain ⟨Xq, hX⟩ : ∃ Xq, Xq = sh_X5_darkPages sv := ⟨_, rfl⟩
  have hq : Xq = ((sv (18 : Int32).toNatClampNeg) + (sv (19 : Int32).toNatClampNeg)) := hX
  refine lv_aload_n hx hb dX5_darkPages_0 rfl (lv_at hl 0 rfl) ?_
  refine va_get (D := D) (ci := 5) (v := .ref (a 0)) (C := RX5) (T := TX5) (N := 16) hx hb hts inA5 hown hK hP 0 rfl rfl 0 (by decide) (hts _ wd_fl_RX5_7) (fun _ h9 => h9) rfl dX5_darkPages_1 ?_
  refine lv_bipush (v := 18) hx hb dX5_darkPages_4 (by decide) ?_
  refine va_iald hx hb hK hP 1 0 rfl rfl (k_in (by decide)) dX5_darkPages_6 ?_
  refine lv_aload_n hx hb dX5_darkPages_7 rfl (lv_at hl 0 rfl) ?_
  refine va_get (D := D) (ci := 5) (v := .ref (a 0)) (C := RX5) (T := TX5) (N := 16) hx hb hts inA5 hown hK hP 0 rfl rfl 0 (by decide) (hts _ wd_fl_RX5_7) (fun _ h9 => h9) rfl dX5_darkPages_8 ?_
  refine lv_bipush (v := 19) hx hb dX5_darkPages_11 (by decide) ?_
  refine va_iald hx hb hK hP 1 0 rfl rfl (k_in (by decide)) dX5_darkPages_13 ?_
  refine lv_iadd hx hb dX5_darkPages_14 ?_
  exact hret _ _ _ _ (((sv (18 : Int32).toNatClampNeg) + (sv (19 : Int32).toNatClampNeg))) () dX5_darkPages_15 rfl (hq.symm.trans hX) hP hD hS
def sh_X5_allPages (sv : Nat → Int32) : Int32 := (((sh_X5_darkPages sv) + (sv (20 : Int32).toNatClampNeg)) + (sv (21 : Int32).toNatClampNeg))
abbrev rm_X5_allPages : Room := { frames := 1, cells := 0, slots := 0, locals := 20 }
theorem hd_X5_allPages : hdT yX5_allPages 0 := by decide +kernel
set_option maxHeartbeats 4000000 in
set_option maxRecDepth 100000 in
theorem c_X5_allPages (l : Launch) (D : va_G) (cI cC cQ : ClassId) (sz : Nat) (h0 : Nat) (a : Nat → Nat) (sv : Nat → Int32) (pa : Nat → Int32) (pn : Int32) (sn : Nat → Int32) (kp : Int32) (pd : Nat → Int32) (ln : Int32) (so : Nat → Int32) (po : Int32) (wr : Int32) (lt : Int32) (fr : Int32) (sc : Int32) (tm : Int32) (hd : Int32) (st : Int32)   : Met l yX5_allPages (wsO yX5_allPages cX5_allPages 1 (some .int)) rm_X5_allPages (va_Pc [.ref h0] (inW D (TYS cI cC cQ) (MO cI h0 a sv pa pn sn kp pd ln so po wr lt fr sc tm hd st) sz)) (va_Qi (fun (r : Int32) (_ : Unit) => r = sh_X5_allPages sv) (fun (u : Unit) => atW D (TYS cI cC cQ) (va_A (MO cI h0 a sv pa pn sn kp pd ln so po wr lt fr sc tm hd st) sz) (MO cI h0 a sv pa pn sn kp pd ln so po wr lt fr sc tm hd st)) (va_A (MO cI h0 a sv pa pn sn kp pd ln so po wr lt fr sc tm hd st) sz)) 0 0 (va_A (MO cI h0 a sv pa pn sn kp pd ln so po wr lt fr sc tm hd st) sz) := by
  refine k_meti .int rfl (by decide) (Nat.le_of_ble_eq_true rfl) ?_
  intro p e s m args below meth c A ls Q H locs hargs hret hx hb hts hown hml hname hN hA hS hP hK hD hl
  have hl : lv_has ls 1 [(0, .ref h0)] := hl
  obtain ⟨Xq, hX⟩ : ∃ Xq, Xq = sh_X5_allPages sv := ⟨_, rfl⟩
  have hq : Xq = (((sh_X5_darkPages sv) + (sv (20 : Int32).toNatClampNeg)) + (sv (21 : Int32).toNatClampNeg)) := hX
  refine lv_aload_n hx hb dX5_allPages_0 rfl (lv_at hl 0 rfl) ?_
  have hPs := k_self hP
  have hDs := k_selfD hD
  refine k_behi (X := []) (Y := []) (va_runV (As := []) (rest := []) ⟨hx, hb, hml, hown, hts⟩ (c_X5_darkPages l D cI cC cQ H.size h0 a sv pa pn sn kp pd ln so po wr lt fr sc tm hd st ) (kcwV hts wd_ml_RX5_135 wd_im_yX5_darkPages wd_sel_yX5_darkPages wd_ini_RX5 wd_code_yX5_darkPages rfl rfl rfl hd_X5_darkPages ⟨Nat.le_of_ble_eq_true rfl, Nat.le_of_ble_eq_true rfl⟩) ⟨in_blind, va_recv hK (pa_l (pa_r hPs)) (ci := 5) (q0 := 0) rfl rfl, k_pre hK (pa_l (pa_r hPs)) (da_l (da_r hDs)) hN⟩ rfl rfl hl.1 rfl (lv_room (Nat.le_of_ble_eq_true rfl)) dX5_allPages_1 ⟨Nat.le_of_ble_eq_true rfl, Nat.le_of_ble_eq_true rfl⟩) hPs hDs hS hA (fun r1 u2 H locs hw3 hP hD hS => ?_)
  have hP := k_unP hP
  have hD := k_unD hD
  have hP : va_P D vwCl (MO cI h0 a sv pa pn sn kp pd ln so po wr lt fr sc tm hd st) H := hP
  have hD : va_D A (MO cI h0 a sv pa pn sn kp pd ln so po wr lt fr sc tm hd st) := hD
  have hw3 : r1 = (sh_X5_darkPages sv) := hw3
  subst hw3
  refine lv_aload_n hx hb dX5_allPages_4 rfl (lv_at hl 0 rfl) ?_
  refine va_get (D := D) (ci := 5) (v := .ref (a 0)) (C := RX5) (T := TX5) (N := 16) hx hb hts inA5 hown hK hP 0 rfl rfl 0 (by decide) (hts _ wd_fl_RX5_7) (fun _ h9 => h9) rfl dX5_allPages_5 ?_
  refine lv_bipush (v := 20) hx hb dX5_allPages_8 (by decide) ?_
  refine va_iald hx hb hK hP 1 0 rfl rfl (k_in (by decide)) dX5_allPages_10 ?_
  refine lv_iadd hx hb dX5_allPages_11 ?_
  refine lv_aload_n hx hb dX5_allPages_12 rfl (lv_at hl 0 rfl) ?_
  refine va_get (D := D) (ci := 5) (v := .ref (a 0)) (C := RX5) (T := TX5) (N := 16) hx hb hts inA5 hown hK hP 0 rfl rfl 0 (by decide) (hts _ wd_fl_RX5_7) (fun _ h9 => h9) rfl dX5_allPages_13 ?_
  refine lv_bipush (v := 21) hx hb dX5_allPages_16 (by decide) ?_
  refine va_iald hx hb hK hP 1 0 rfl rfl (k_in (by decide)) dX5_allPages_18 ?_
  refine lv_iadd hx hb dX5_allPages_19 ?_
  exact hret _ _ _ _ ((((sh_X5_darkPages sv) + (sv (20 : Int32).toNatClampNeg)) + (sv (21 : Int32).toNatClampNeg))) () dX5_allPages_20 rfl (hq.symm.trans hX) hP hD hS
def sh_X5_isDark (hd : Int32) (x1 : Int32) : Int32 := (if hd ≤ 0 then 0 else (if hd < x1 then 0 else 1))
abbrev rm_X5_isDark : Room := { frames := 0, cells := 0, slots := 0, locals := 0 }
theorem hd_X5_isDark : hdT yX5_isDark 1 := by decide +kernel
set_option maxHeartbeats 4000000 in
set_option maxRecDepth 100000 in
theorem c_X5_isDark (l : Launch) (D : va_G) (cI cC cQ : ClassId) (sz : Nat) (h0 : Nat) (a : Nat → Nat) (sv : Nat → Int32) (pa : Nat → Int32) (pn : Int32) (sn : Nat → Int32) (kp : Int32) (pd : Nat → Int32) (ln : Int32) (so : Nat → Int32) (po : Int32) (wr : Int32) (lt : Int32) (fr : Int32) (sc : Int32) (tm : Int32) (hd : Int32) (st : Int32) (x1 : Int32)  : Met l yX5_isDark (wsO yX5_isDark cX5_isDark 2 (some .boolean)) rm_X5_isDark (va_Pc [.ref h0, .int x1] (inW D (TYS cI cC cQ) (MO cI h0 a sv pa pn sn kp pd ln so po wr lt fr sc tm hd st) sz)) (va_Qi (fun (r : Int32) (_ : Unit) => r = sh_X5_isDark hd x1) (fun (u : Unit) => atW D (TYS cI cC cQ) (va_A (MO cI h0 a sv pa pn sn kp pd ln so po wr lt fr sc tm hd st) sz) (MO cI h0 a sv pa pn sn kp pd ln so po wr lt fr sc tm hd st)) (va_A (MO cI h0 a sv pa pn sn kp pd ln so po wr lt fr sc tm hd st) sz)) 0 0 (va_A (MO cI h0 a sv pa pn sn kp pd ln so po wr lt fr sc tm hd st) sz) := by
  refine k_meti .boolean rfl (by decide) (Nat.le_of_ble_eq_true rfl) ?_
  intro p e s m args below meth c A ls Q H locs hargs hret hx hb hts hown hml hname hN hA hS hP hK hD hl
  have hl : lv_has ls 2 [(0, .ref h0), (1, .int x1)] := hl
  obtain ⟨Xq, hX⟩ : ∃ Xq, Xq = sh_X5_isDark hd x1 := ⟨_, rfl⟩
  have hq : Xq = (if hd ≤ 0 then 0 else (if hd < x1 then 0 else 1)) := hX
  refine lv_aload_n hx hb dX5_isDark_0 rfl (lv_at hl 0 rfl) ?_
  refine va_get (D := D) (ci := 5) (v := .int hd) (C := RX5) (T := TX5) (N := 16) hx hb hts inA5 hown hK hP 0 rfl rfl 14 (by decide) (hts _ wd_fl_RX5_150) (fun _ h9 => h9) rfl dX5_isDark_1 ?_
  refine lv_if_le (tgt := 19) hx hb dX5_isDark_4 (by decide) (fun c1 => ?_) (fun c1 => ?_)
  · have hq : Xq = 0 := hq.trans (if_pos c1)
    refine lv_iconst (v := 0) hx hb dX5_isDark_19 (by decide) ?_
    exact hret _ _ _ _ (0) () dX5_isDark_20 rfl (hq.symm.trans hX) hP hD hS
  · have hq : Xq = (if hd < x1 then 0 else 1) := hq.trans (if_neg c1)
    refine lv_aload_n hx hb dX5_isDark_7 rfl (lv_at hl 0 rfl) ?_
    refine va_get (D := D) (ci := 5) (v := .int hd) (C := RX5) (T := TX5) (N := 16) hx hb hts inA5 hown hK hP 0 rfl rfl 14 (by decide) (hts _ wd_fl_RX5_150) (fun _ h9 => h9) rfl dX5_isDark_8 ?_
    refine lv_iload_n hx hb dX5_isDark_11 rfl (lv_at hl 1 rfl) ?_
    refine lv_icmp_lt (tgt := 19) hx hb dX5_isDark_12 (by decide) (fun c2 => ?_) (fun c2 => ?_)
    · have hq : Xq = 0 := hq.trans (if_pos c2)
      refine lv_iconst (v := 0) hx hb dX5_isDark_19 (by decide) ?_
      exact hret _ _ _ _ (0) () dX5_isDark_20 rfl (hq.symm.trans hX) hP hD hS
    · have hq : Xq = 1 := hq.trans (if_neg c2)
      refine lv_iconst (v := 1) hx hb dX5_isDark_15 (by decide) ?_
      refine lv_goto (tgt := 20) hx hb dX5_isDark_16 (by decide) ?_
      exact hret _ _ _ _ (1) () dX5_isDark_20 rfl (hq.symm.trans hX) hP hD hS
def lp_X5_undo_22 (pa : Nat → Int32) (pn : Int32) : Nat → (Int32) → (Nat → Int32) → (Int32 × (Nat → Int32) × (Int32))
  | 0, _, _ => default
  | fu + 1, k1, l_sv => (if 35 ≤ k1 then ((pn - 1), l_sv, (pn - 1)) else (lp_X5_undo_22 pa pn fu (k1 + 1) (upd l_sv k1.toNatClampNeg (pa ((35 * (pn - 1)) + k1).toNatClampNeg))))
def sh_X5_undo (sv : Nat → Int32) (pa : Nat → Int32) (pn : Int32) : Int32 × (Nat → Int32) × (Int32) := (if pn = 0 then ((-2), sv, pn) else (lp_X5_undo_22 pa pn (((35 : Int32).toInt - (0 : Int32).toInt).toNat + 1) 0 sv))
abbrev rm_X5_undo : Room := { frames := 0, cells := 0, slots := 0, locals := 0 }
theorem hd_X5_undo : hdT yX5_undo 0 := by decide +kernel
set_option maxHeartbeats 4000000 in
set_option maxRecDepth 100000 in
theorem c_X5_undo (l : Launch) (D : va_G) (cI cC cQ : ClassId) (sz : Nat) (h0 : Nat) (a : Nat → Nat) (sv : Nat → Int32) (pa : Nat → Int32) (pn : Int32) (sn : Nat → Int32) (kp : Int32) (pd : Nat → Int32) (ln : Int32) (so : Nat → Int32) (po : Int32) (wr : Int32) (lt : Int32) (fr : Int32) (sc : Int32) (tm : Int32) (hd : Int32) (st : Int32)  (hpn0 : vp_in pn 5) : Met l yX5_undo (wsO yX5_undo cX5_undo 2 (some .int)) rm_X5_undo (va_Pc [.ref h0] (inW D (TYS cI cC cQ) (MO cI h0 a sv pa pn sn kp pd ln so po wr lt fr sc tm hd st) sz)) (va_Qi (fun (r : Int32) (u : (Nat → Int32) × (Int32)) => (r, u) = sh_X5_undo sv pa pn) (fun (u : (Nat → Int32) × (Int32)) => atW D (TYS cI cC cQ) (va_A (MO cI h0 a sv pa pn sn kp pd ln so po wr lt fr sc tm hd st) sz) (MO cI h0 a u.1 pa u.2 sn kp pd ln so po wr lt fr sc tm hd st)) (va_A (MO cI h0 a sv pa pn sn kp pd ln so po wr lt fr sc tm hd st) sz)) 0 0 (va_A (MO cI h0 a sv pa pn sn kp pd ln so po wr lt fr sc tm hd st) sz) := by
  refine k_meti .int rfl (by decide) (Nat.le_of_ble_eq_true rfl) ?_
  intro p e s m args below meth c A ls Q H locs hargs hret hx hb hts hown hml hname hN hA hS hP hK hD hl
  have hl : lv_has ls 2 [(0, .ref h0)] := hl
  obtain ⟨Xq, hX⟩ : ∃ Xq, Xq = sh_X5_undo sv pa pn := ⟨_, rfl⟩
  have hq : Xq = (if pn = 0 then ((-2), sv, pn) else (lp_X5_undo_22 pa pn (((35 : Int32).toInt - (0 : Int32).toInt).toNat + 1) 0 sv)) := hX
  refine lv_aload_n hx hb dX5_undo_0 rfl (lv_at hl 0 rfl) ?_
  refine va_get (D := D) (ci := 5) (v := .int pn) (C := RX5) (T := TX5) (N := 16) hx hb hts inA5 hown hK hP 0 rfl rfl 2 (by decide) (hts _ wd_fl_RX5_29) (fun _ h9 => h9) rfl dX5_undo_1 ?_
  refine lv_if_ne (tgt := 10) hx hb dX5_undo_4 (by decide) (fun c1 => ?_) (fun c1 => ?_)
  · have hq : Xq = (lp_X5_undo_22 pa pn (((35 : Int32).toInt - (0 : Int32).toInt).toNat + 1) 0 sv) := hq.trans (if_neg c1)
    refine lv_aload_n hx hb dX5_undo_10 rfl (lv_at hl 0 rfl) ?_
    refine lv_dup hx hb dX5_undo_11 rfl ?_
    refine va_get (D := D) (ci := 5) (v := .int pn) (C := RX5) (T := TX5) (N := 16) hx hb hts inA5 hown hK hP 0 rfl rfl 2 (by decide) (hts _ wd_fl_RX5_29) (fun _ h9 => h9) rfl dX5_undo_12 ?_
    refine lv_iconst (v := 1) hx hb dX5_undo_15 (by decide) ?_
    refine lv_isub hx hb dX5_undo_16 ?_
    refine va_put (D := D) (ci := 5) (v := .int (pn - 1)) (ty := .int) (C := RX5) (T := TX5) (N := 16) hx hb hts inA5 tyX5 tyX5_ok nmX5 hown hK hP hD hS 0 rfl rfl 2 (by decide) (hts _ wd_fl_RX5_29) (fun _ h9 => h9) rfl (by decide +kernel) rfl rfl (Nat.le_of_ble_eq_true rfl) dX5_undo_17 (fun H locs hP hD hS => ?_)
    have hP : va_P D vwCl (MO cI h0 a sv pa (pn - 1) sn kp pd ln so po wr lt fr sc tm hd st) H := hP
    have hD : va_D A (MO cI h0 a sv pa (pn - 1) sn kp pd ln so po wr lt fr sc tm hd st) := hD
    refine lv_iconst (v := 0) hx hb dX5_undo_20 (by decide) ?_
    refine lv_istore_n (lv' := [(1, .int 0), (0, .ref h0)]) hx hb dX5_undo_21 rfl hl (by decide) rfl (fun ls hl => ?_)
    have L22 : ∀ (fu : Nat) (k1 : Int32) (l_sv : Nat → Int32) (H : Heap) (locs : List Loc) (ls : Array Slot), ((35 : Int32).toInt - (k1 : Int32).toInt).toNat < fu → (¬ k1 < 0) → Xq = lp_X5_undo_22 pa pn fu k1 l_sv → va_P D vwCl (MO cI h0 a l_sv pa (pn - 1) sn kp pd ln so po wr lt fr sc tm hd st) H → va_D A (MO cI h0 a l_sv pa (pn - 1) sn kp pd ln so po wr lt fr sc tm hd st) → va_S A s.heap H locs → lv_has ls 2 [(1, .int k1), (0, .ref h0)] → W p l e rm_X5_undo s m args below meth c H locs 0 0 Q (F0 m 22 ls []) := by
      intro fu
      induction fu with
      | zero => intro k1 l_sv H locs ls hmu; exact absurd hmu (Nat.not_lt_zero _)
      | succ fu ih =>
        intro k1 l_sv H locs ls hmu hk hq hP hD hS hl
        have hq : Xq = (if 35 ≤ k1 then ((pn - 1), l_sv, (pn - 1)) else (lp_X5_undo_22 pa pn fu (k1 + 1) (upd l_sv k1.toNatClampNeg (pa ((35 * (pn - 1)) + k1).toNatClampNeg)))) := hq
        refine lv_iload_n hx hb dX5_undo_22 rfl (lv_at hl 0 rfl) ?_
        refine lv_bipush (v := 35) hx hb dX5_undo_23 (by decide) ?_
        refine lv_icmp_ge (tgt := 54) hx hb dX5_undo_25 (by decide) (fun c2 => ?_) (fun c2 => ?_)
        · have hq : Xq = ((pn - 1), l_sv, (pn - 1)) := hq.trans (if_pos c2)
          refine lv_aload_n hx hb dX5_undo_54 rfl (lv_at hl 1 rfl) ?_
          refine va_get (D := D) (ci := 5) (v := .int (pn - 1)) (C := RX5) (T := TX5) (N := 16) hx hb hts inA5 hown hK hP 0 rfl rfl 2 (by decide) (hts _ wd_fl_RX5_29) (fun _ h9 => h9) rfl dX5_undo_55 ?_
          exact hret _ _ _ _ ((pn - 1)) (l_sv, (pn - 1)) dX5_undo_58 rfl (hq.symm.trans hX) hP hD hS
        · have hq : Xq = (lp_X5_undo_22 pa pn fu (k1 + 1) (upd l_sv k1.toNatClampNeg (pa ((35 * (pn - 1)) + k1).toNatClampNeg))) := hq.trans (if_neg c2)
          refine lv_aload_n hx hb dX5_undo_28 rfl (lv_at hl 1 rfl) ?_
          refine va_get (D := D) (ci := 5) (v := .ref (a 0)) (C := RX5) (T := TX5) (N := 16) hx hb hts inA5 hown hK hP 0 rfl rfl 0 (by decide) (hts _ wd_fl_RX5_7) (fun _ h9 => h9) rfl dX5_undo_29 ?_
          refine lv_iload_n hx hb dX5_undo_32 rfl (lv_at hl 0 rfl) ?_
          refine lv_aload_n hx hb dX5_undo_33 rfl (lv_at hl 1 rfl) ?_
          refine va_get (D := D) (ci := 5) (v := .ref (a 1)) (C := RX5) (T := TX5) (N := 16) hx hb hts inA5 hown hK hP 0 rfl rfl 1 (by decide) (hts _ wd_fl_RX5_13) (fun _ h9 => h9) rfl dX5_undo_34 ?_
          refine lv_bipush (v := 35) hx hb dX5_undo_37 (by decide) ?_
          refine lv_aload_n hx hb dX5_undo_39 rfl (lv_at hl 1 rfl) ?_
          refine va_get (D := D) (ci := 5) (v := .int (pn - 1)) (C := RX5) (T := TX5) (N := 16) hx hb hts inA5 hown hK hP 0 rfl rfl 2 (by decide) (hts _ wd_fl_RX5_29) (fun _ h9 => h9) rfl dX5_undo_40 ?_
          refine lv_imul hx hb dX5_undo_43 ?_
          refine lv_iload_n hx hb dX5_undo_44 rfl (lv_at hl 0 rfl) ?_
          refine lv_iadd hx hb dX5_undo_45 ?_
          refine va_iald hx hb hK hP 2 0 rfl rfl (vp_row (vp_pred hpn0 c1) (vp_of_le (n := 35) hk c2 (by decide))) dX5_undo_46 ?_
          refine va_iast hx hb hK hP hD hS 1 0 rfl rfl (vp_of_le (n := 35) hk c2 (by decide)) dX5_undo_47 (fun H locs hP hD hS => ?_)
          have hP : va_P D vwCl (MO cI h0 a (upd l_sv k1.toNatClampNeg (pa ((35 * (pn - 1)) + k1).toNatClampNeg)) pa (pn - 1) sn kp pd ln so po wr lt fr sc tm hd st) H := hP
          have hD : va_D A (MO cI h0 a (upd l_sv k1.toNatClampNeg (pa ((35 * (pn - 1)) + k1).toNatClampNeg)) pa (pn - 1) sn kp pd ln so po wr lt fr sc tm hd st) := hD
          refine lv_iinc (v := (k1 + 1)) (lv' := [(1, .int (k1 + 1)), (0, .ref h0)]) hx hb dX5_undo_48 hl (k := 0) rfl rfl (by decide) rfl (fun ls hl => ?_)
          refine lv_goto (tgt := 22) hx hb dX5_undo_51 (by decide) ?_
          exact ih ((k1 + 1)) ((upd l_sv k1.toNatClampNeg (pa ((35 * (pn - 1)) + k1).toNatClampNeg))) _ _ _ (k_mu hmu c2) (k_up hk c2 (by decide)) hq hP hD hS (lv_sub hl [0, 1] rfl)
    exact L22 (((35 : Int32).toInt - (0 : Int32).toInt).toNat + 1) (0) (sv) _ _ _ (Nat.lt_succ_self _) (by decide) hq hP hD hS (lv_sub hl [0, 1] rfl)
  · have hq : Xq = ((-2), sv, pn) := hq.trans (if_pos c1)
    refine lv_bipush (v := (-2)) hx hb dX5_undo_7 (by decide) ?_
    exact hret _ _ _ _ ((-2)) (sv, pn) dX5_undo_9 rfl (hq.symm.trans hX) hP hD hS
def lp_X5_save_2 (sv : Nat → Int32) : Nat → (Int32) → (Nat → Int32) → (Int32 × (Nat → Int32) × (Int32))
  | 0, _, _ => default
  | fu + 1, k1, l_sn => (if 35 ≤ k1 then ((sh_X5_toner sv), l_sn, 1) else (lp_X5_save_2 sv fu (k1 + 1) (upd l_sn k1.toNatClampNeg (sv k1.toNatClampNeg))))
def sh_X5_save (sv : Nat → Int32) (sn : Nat → Int32) : Int32 × (Nat → Int32) × (Int32) := (lp_X5_save_2 sv (((35 : Int32).toInt - (0 : Int32).toInt).toNat + 1) 0 sn)
abbrev rm_X5_save : Room := { frames := 2, cells := 0, slots := 0, locals := 43 }
theorem hd_X5_save : hdT yX5_save 0 := by decide +kernel
set_option maxHeartbeats 4000000 in
set_option maxRecDepth 100000 in
theorem c_X5_save (l : Launch) (D : va_G) (cI cC cQ : ClassId) (sz : Nat) (h0 : Nat) (a : Nat → Nat) (sv : Nat → Int32) (pa : Nat → Int32) (pn : Int32) (sn : Nat → Int32) (kp : Int32) (pd : Nat → Int32) (ln : Int32) (so : Nat → Int32) (po : Int32) (wr : Int32) (lt : Int32) (fr : Int32) (sc : Int32) (tm : Int32) (hd : Int32) (st : Int32)   : Met l yX5_save (wsO yX5_save cX5_save 2 (some .int)) rm_X5_save (va_Pc [.ref h0] (inW D (TYS cI cC cQ) (MO cI h0 a sv pa pn sn kp pd ln so po wr lt fr sc tm hd st) sz)) (va_Qi (fun (r : Int32) (u : (Nat → Int32) × (Int32)) => (r, u) = sh_X5_save sv sn) (fun (u : (Nat → Int32) × (Int32)) => atW D (TYS cI cC cQ) (va_A (MO cI h0 a sv pa pn sn kp pd ln so po wr lt fr sc tm hd st) sz) (MO cI h0 a sv pa pn u.1 u.2 pd ln so po wr lt fr sc tm hd st)) (va_A (MO cI h0 a sv pa pn sn kp pd ln so po wr lt fr sc tm hd st) sz)) 0 0 (va_A (MO cI h0 a sv pa pn sn kp pd ln so po wr lt fr sc tm hd st) sz) := by
  refine k_meti .int rfl (by decide) (Nat.le_of_ble_eq_true rfl) ?_
  intro p e s m args below meth c A ls Q H locs hargs hret hx hb hts hown hml hname hN hA hS hP hK hD hl
  have hl : lv_has ls 2 [(0, .ref h0)] := hl
  obtain ⟨Xq, hX⟩ : ∃ Xq, Xq = sh_X5_save sv sn := ⟨_, rfl⟩
  have hq : Xq = (lp_X5_save_2 sv (((35 : Int32).toInt - (0 : Int32).toInt).toNat + 1) 0 sn) := hX
  refine lv_iconst (v := 0) hx hb dX5_save_0 (by decide) ?_
  refine lv_istore_n (lv' := [(1, .int 0), (0, .ref h0)]) hx hb dX5_save_1 rfl hl (by decide) rfl (fun ls hl => ?_)
  have L2 : ∀ (fu : Nat) (k1 : Int32) (l_sn : Nat → Int32) (H : Heap) (locs : List Loc) (ls : Array Slot), ((35 : Int32).toInt - (k1 : Int32).toInt).toNat < fu → (¬ k1 < 0) → Xq = lp_X5_save_2 sv fu k1 l_sn → va_P D vwCl (MO cI h0 a sv pa pn l_sn kp pd ln so po wr lt fr sc tm hd st) H → va_D A (MO cI h0 a sv pa pn l_sn kp pd ln so po wr lt fr sc tm hd st) → va_S A s.heap H locs → lv_has ls 2 [(1, .int k1), (0, .ref h0)] → W p l e rm_X5_save s m args below meth c H locs 0 0 Q (F0 m 2 ls []) := by
    intro fu
    induction fu with
    | zero => intro k1 l_sn H locs ls hmu; exact absurd hmu (Nat.not_lt_zero _)
    | succ fu ih =>
      intro k1 l_sn H locs ls hmu hk hq hP hD hS hl
      have hq : Xq = (if 35 ≤ k1 then ((sh_X5_toner sv), l_sn, 1) else (lp_X5_save_2 sv fu (k1 + 1) (upd l_sn k1.toNatClampNeg (sv k1.toNatClampNeg)))) := hq
      refine lv_iload_n hx hb dX5_save_2 rfl (lv_at hl 0 rfl) ?_
      refine lv_bipush (v := 35) hx hb dX5_save_3 (by decide) ?_
      refine lv_icmp_ge (tgt := 26) hx hb dX5_save_5 (by decide) (fun c1 => ?_) (fun c1 => ?_)
      · have hq : Xq = ((sh_X5_toner sv), l_sn, 1) := hq.trans (if_pos c1)
        refine lv_aload_n hx hb dX5_save_26 rfl (lv_at hl 1 rfl) ?_
        refine lv_iconst (v := 1) hx hb dX5_save_27 (by decide) ?_
        refine va_put (D := D) (ci := 5) (v := .int 1) (ty := .boolean) (C := RX5) (T := TX5) (N := 16) hx hb hts inA5 tyX5 tyX5_ok nmX5 hown hK hP hD hS 0 rfl rfl 4 (by decide) (hts _ wd_fl_RX5_163) (fun _ h9 => h9) rfl (by decide +kernel) rfl rfl (Nat.le_of_ble_eq_true rfl) dX5_save_28 (fun H locs hP hD hS => ?_)
        have hP : va_P D vwCl (MO cI h0 a sv pa pn l_sn 1 pd ln so po wr lt fr sc tm hd st) H := hP
        have hD : va_D A (MO cI h0 a sv pa pn l_sn 1 pd ln so po wr lt fr sc tm hd st) := hD
        refine lv_aload_n hx hb dX5_save_31 rfl (lv_at hl 1 rfl) ?_
        have hPs := k_self hP
        have hDs := k_selfD hD
        refine k_behi (X := []) (Y := []) (va_runV (As := []) (rest := []) ⟨hx, hb, hml, hown, hts⟩ (c_X5_toner l D cI cC cQ H.size h0 a sv pa pn l_sn 1 pd ln so po wr lt fr sc tm hd st ) (kcwV hts wd_ml_RX5_138 wd_im_yX5_toner wd_sel_yX5_toner wd_ini_RX5 wd_code_yX5_toner rfl rfl rfl hd_X5_toner ⟨Nat.le_of_ble_eq_true rfl, Nat.le_of_ble_eq_true rfl⟩) ⟨in_blind, va_recv hK (pa_l (pa_r hPs)) (ci := 5) (q0 := 0) rfl rfl, k_pre hK (pa_l (pa_r hPs)) (da_l (da_r hDs)) hN⟩ rfl rfl hl.1 rfl (lv_room (Nat.le_of_ble_eq_true rfl)) dX5_save_32 ⟨Nat.le_of_ble_eq_true rfl, Nat.le_of_ble_eq_true rfl⟩) hPs hDs hS hA (fun r2 u3 H locs hw4 hP hD hS => ?_)
        have hP := k_unP hP
        have hD := k_unD hD
        have hP : va_P D vwCl (MO cI h0 a sv pa pn l_sn 1 pd ln so po wr lt fr sc tm hd st) H := hP
        have hD : va_D A (MO cI h0 a sv pa pn l_sn 1 pd ln so po wr lt fr sc tm hd st) := hD
        have hw4 : r2 = (sh_X5_toner sv) := hw4
        subst hw4
        exact hret _ _ _ _ ((sh_X5_toner sv)) (l_sn, 1) dX5_save_35 rfl (hq.symm.trans hX) hP hD hS
      · have hq : Xq = (lp_X5_save_2 sv fu (k1 + 1) (upd l_sn k1.toNatClampNeg (sv k1.toNatClampNeg))) := hq.trans (if_neg c1)
        refine lv_aload_n hx hb dX5_save_8 rfl (lv_at hl 1 rfl) ?_
        refine va_get (D := D) (ci := 5) (v := .ref (a 2)) (C := RX5) (T := TX5) (N := 16) hx hb hts inA5 hown hK hP 0 rfl rfl 3 (by decide) (hts _ wd_fl_RX5_16) (fun _ h9 => h9) rfl dX5_save_9 ?_
        refine lv_iload_n hx hb dX5_save_12 rfl (lv_at hl 0 rfl) ?_
        refine lv_aload_n hx hb dX5_save_13 rfl (lv_at hl 1 rfl) ?_
        refine va_get (D := D) (ci := 5) (v := .ref (a 0)) (C := RX5) (T := TX5) (N := 16) hx hb hts inA5 hown hK hP 0 rfl rfl 0 (by decide) (hts _ wd_fl_RX5_7) (fun _ h9 => h9) rfl dX5_save_14 ?_
        refine lv_iload_n hx hb dX5_save_17 rfl (lv_at hl 0 rfl) ?_
        refine va_iald hx hb hK hP 1 0 rfl rfl (vp_of_le (n := 35) hk c1 (by decide)) dX5_save_18 ?_
        refine va_iast hx hb hK hP hD hS 3 0 rfl rfl (vp_of_le (n := 35) hk c1 (by decide)) dX5_save_19 (fun H locs hP hD hS => ?_)
        have hP : va_P D vwCl (MO cI h0 a sv pa pn (upd l_sn k1.toNatClampNeg (sv k1.toNatClampNeg)) kp pd ln so po wr lt fr sc tm hd st) H := hP
        have hD : va_D A (MO cI h0 a sv pa pn (upd l_sn k1.toNatClampNeg (sv k1.toNatClampNeg)) kp pd ln so po wr lt fr sc tm hd st) := hD
        refine lv_iinc (v := (k1 + 1)) (lv' := [(1, .int (k1 + 1)), (0, .ref h0)]) hx hb dX5_save_20 hl (k := 0) rfl rfl (by decide) rfl (fun ls hl => ?_)
        refine lv_goto (tgt := 2) hx hb dX5_save_23 (by decide) ?_
        exact ih ((k1 + 1)) ((upd l_sn k1.toNatClampNeg (sv k1.toNatClampNeg))) _ _ _ (k_mu hmu c1) (k_up hk c1 (by decide)) hq hP hD hS (lv_sub hl [0, 1] rfl)
  exact L2 (((35 : Int32).toInt - (0 : Int32).toInt).toNat + 1) (0) (sn) _ _ _ (Nat.lt_succ_self _) (by decide) hq hP hD hS (lv_sub hl [0, 1] rfl)
def lp_X5_restore_16 (f5 : Nat → Int32) (v6 : Int32) (sn : Nat → Int32) : Nat → (Int32) → (Nat → Int32) → (Int32 × (Nat → Int32) × (Nat → Int32) × (Int32))
  | 0, _, _ => default
  | fu + 1, k1, l_sv => (if 35 ≤ k1 then ((sh_X5_toner l_sv), l_sv, f5, v6) else (lp_X5_restore_16 f5 v6 sn fu (k1 + 1) (upd l_sv k1.toNatClampNeg (sn k1.toNatClampNeg))))
def sh_X5_restore (sv : Nat → Int32) (pa : Nat → Int32) (pn : Int32) (sn : Nat → Int32) (kp : Int32) : Int32 × (Nat → Int32) × (Nat → Int32) × (Int32) := (if kp = 0 then ((-2), sv, pa, pn) else (kb (sh_X5_records sv pa pn) (fun z_f5 => (lp_X5_restore_16 z_f5.1 z_f5.2 sn (((35 : Int32).toInt - (0 : Int32).toInt).toNat + 1) 0 sv))))
abbrev rm_X5_restore : Room := { frames := 2, cells := 0, slots := 0, locals := 43 }
theorem hd_X5_restore : hdT yX5_restore 0 := by decide +kernel
set_option maxHeartbeats 4000000 in
set_option maxRecDepth 100000 in
theorem c_X5_restore (l : Launch) (D : va_G) (cI cC cQ : ClassId) (sz : Nat) (h0 : Nat) (a : Nat → Nat) (sv : Nat → Int32) (pa : Nat → Int32) (pn : Int32) (sn : Nat → Int32) (kp : Int32) (pd : Nat → Int32) (ln : Int32) (so : Nat → Int32) (po : Int32) (wr : Int32) (lt : Int32) (fr : Int32) (sc : Int32) (tm : Int32) (hd : Int32) (st : Int32)  (hpn0 : vp_in pn 5) : Met l yX5_restore (wsO yX5_restore cX5_restore 2 (some .int)) rm_X5_restore (va_Pc [.ref h0] (inW D (TYS cI cC cQ) (MO cI h0 a sv pa pn sn kp pd ln so po wr lt fr sc tm hd st) sz)) (va_Qi (fun (r : Int32) (u : (Nat → Int32) × (Nat → Int32) × (Int32)) => (r, u) = sh_X5_restore sv pa pn sn kp) (fun (u : (Nat → Int32) × (Nat → Int32) × (Int32)) => atW D (TYS cI cC cQ) (va_A (MO cI h0 a sv pa pn sn kp pd ln so po wr lt fr sc tm hd st) sz) (MO cI h0 a u.1 u.2.1 u.2.2 sn kp pd ln so po wr lt fr sc tm hd st)) (va_A (MO cI h0 a sv pa pn sn kp pd ln so po wr lt fr sc tm hd st) sz)) 0 0 (va_A (MO cI h0 a sv pa pn sn kp pd ln so po wr lt fr sc tm hd st) sz) := by
  refine k_meti .int rfl (by decide) (Nat.le_of_ble_eq_true rfl) ?_
  intro p e s m args below meth c A ls Q H locs hargs hret hx hb hts hown hml hname hN hA hS hP hK hD hl
  have hl : lv_has ls 2 [(0, .ref h0)] := hl
  obtain ⟨Xq, hX⟩ : ∃ Xq, Xq = sh_X5_restore sv pa pn sn kp := ⟨_, rfl⟩
  have hq : Xq = (if kp = 0 then ((-2), sv, pa, pn) else (kb (sh_X5_records sv pa pn) (fun z_f5 => (lp_X5_restore_16 z_f5.1 z_f5.2 sn (((35 : Int32).toInt - (0 : Int32).toInt).toNat + 1) 0 sv)))) := hX
  refine lv_aload_n hx hb dX5_restore_0 rfl (lv_at hl 0 rfl) ?_
  refine va_get (D := D) (ci := 5) (v := .int kp) (C := RX5) (T := TX5) (N := 16) hx hb hts inA5 hown hK hP 0 rfl rfl 4 (by decide) (hts _ wd_fl_RX5_163) (fun _ h9 => h9) rfl dX5_restore_1 ?_
  refine lv_if_ne (tgt := 10) hx hb dX5_restore_4 (by decide) (fun c1 => ?_) (fun c1 => ?_)
  · have hq : Xq = (kb (sh_X5_records sv pa pn) (fun z_f5 => (lp_X5_restore_16 z_f5.1 z_f5.2 sn (((35 : Int32).toInt - (0 : Int32).toInt).toNat + 1) 0 sv))) := hq.trans (if_neg c1)
    refine lv_aload_n hx hb dX5_restore_10 rfl (lv_at hl 0 rfl) ?_
    have hPs := k_self hP
    have hDs := k_selfD hD
    refine k_behv (X := []) (Y := []) (va_runV (As := []) (rest := []) ⟨hx, hb, hml, hown, hts⟩ (c_X5_records l D cI cC cQ H.size h0 a sv pa pn sn kp pd ln so po wr lt fr sc tm hd st (hpn0)) (kcwV hts wd_ml_RX5_55 wd_im_yX5_records wd_sel_yX5_records wd_ini_RX5 wd_code_yX5_records rfl rfl rfl hd_X5_records ⟨Nat.le_of_ble_eq_true rfl, Nat.le_of_ble_eq_true rfl⟩) ⟨in_blind, va_recv hK (pa_l (pa_r hPs)) (ci := 5) (q0 := 0) rfl rfl, k_pre hK (pa_l (pa_r hPs)) (da_l (da_r hDs)) hN⟩ rfl rfl hl.1 rfl (lv_room (Nat.le_of_ble_eq_true rfl)) dX5_restore_11 ⟨Nat.le_of_ble_eq_true rfl, Nat.le_of_ble_eq_true rfl⟩) hPs hDs hS hA (fun u3 H locs hw4 hP hD hS => ?_)
    obtain ⟨f5, v6⟩ := u3
    have hP := k_unP hP
    have hD := k_unD hD
    have hP : va_P D vwCl (MO cI h0 a sv f5 v6 sn kp pd ln so po wr lt fr sc tm hd st) H := hP
    have hD : va_D A (MO cI h0 a sv f5 v6 sn kp pd ln so po wr lt fr sc tm hd st) := hD
    have hw4 : (f5, v6) = (sh_X5_records sv pa pn) := hw4
    have hq : Xq = (lp_X5_restore_16 f5 v6 sn (((35 : Int32).toInt - (0 : Int32).toInt).toNat + 1) 0 sv) := by rw [← hw4] at hq; exact hq
    refine lv_iconst (v := 0) hx hb dX5_restore_14 (by decide) ?_
    refine lv_istore_n (lv' := [(1, .int 0), (0, .ref h0)]) hx hb dX5_restore_15 rfl hl (by decide) rfl (fun ls hl => ?_)
    have L16 : ∀ (fu : Nat) (k1 : Int32) (l_sv : Nat → Int32) (H : Heap) (locs : List Loc) (ls : Array Slot), ((35 : Int32).toInt - (k1 : Int32).toInt).toNat < fu → (¬ k1 < 0) → Xq = lp_X5_restore_16 f5 v6 sn fu k1 l_sv → va_P D vwCl (MO cI h0 a l_sv f5 v6 sn kp pd ln so po wr lt fr sc tm hd st) H → va_D A (MO cI h0 a l_sv f5 v6 sn kp pd ln so po wr lt fr sc tm hd st) → va_S A s.heap H locs → lv_has ls 2 [(1, .int k1), (0, .ref h0)] → W p l e rm_X5_restore s m args below meth c H locs 0 0 Q (F0 m 16 ls []) := by
      intro fu
      induction fu with
      | zero => intro k1 l_sv H locs ls hmu; exact absurd hmu (Nat.not_lt_zero _)
      | succ fu ih =>
        intro k1 l_sv H locs ls hmu hk hq hP hD hS hl
        have hq : Xq = (if 35 ≤ k1 then ((sh_X5_toner l_sv), l_sv, f5, v6) else (lp_X5_restore_16 f5 v6 sn fu (k1 + 1) (upd l_sv k1.toNatClampNeg (sn k1.toNatClampNeg)))) := hq
        refine lv_iload_n hx hb dX5_restore_16 rfl (lv_at hl 0 rfl) ?_
        refine lv_bipush (v := 35) hx hb dX5_restore_17 (by decide) ?_
        refine lv_icmp_ge (tgt := 40) hx hb dX5_restore_19 (by decide) (fun c7 => ?_) (fun c7 => ?_)
        · have hq : Xq = ((sh_X5_toner l_sv), l_sv, f5, v6) := hq.trans (if_pos c7)
          refine lv_aload_n hx hb dX5_restore_40 rfl (lv_at hl 1 rfl) ?_
          have hPs := k_self hP
          have hDs := k_selfD hD
          refine k_behi (X := []) (Y := []) (va_runV (As := []) (rest := []) ⟨hx, hb, hml, hown, hts⟩ (c_X5_toner l D cI cC cQ H.size h0 a l_sv f5 v6 sn kp pd ln so po wr lt fr sc tm hd st ) (kcwV hts wd_ml_RX5_138 wd_im_yX5_toner wd_sel_yX5_toner wd_ini_RX5 wd_code_yX5_toner rfl rfl rfl hd_X5_toner ⟨Nat.le_of_ble_eq_true rfl, Nat.le_of_ble_eq_true rfl⟩) ⟨in_blind, va_recv hK (pa_l (pa_r hPs)) (ci := 5) (q0 := 0) rfl rfl, k_pre hK (pa_l (pa_r hPs)) (da_l (da_r hDs)) hN⟩ rfl rfl hl.1 rfl (lv_room (Nat.le_of_ble_eq_true rfl)) dX5_restore_41 ⟨Nat.le_of_ble_eq_true rfl, Nat.le_of_ble_eq_true rfl⟩) hPs hDs hS hA (fun r8 u9 H locs hw10 hP hD hS => ?_)
          have hP := k_unP hP
          have hD := k_unD hD
          have hP : va_P D vwCl (MO cI h0 a l_sv f5 v6 sn kp pd ln so po wr lt fr sc tm hd st) H := hP
          have hD : va_D A (MO cI h0 a l_sv f5 v6 sn kp pd ln so po wr lt fr sc tm hd st) := hD
          have hw10 : r8 = (sh_X5_toner l_sv) := hw10
          subst hw10
          exact hret _ _ _ _ ((sh_X5_toner l_sv)) (l_sv, f5, v6) dX5_restore_44 rfl (hq.symm.trans hX) hP hD hS
        · have hq : Xq = (lp_X5_restore_16 f5 v6 sn fu (k1 + 1) (upd l_sv k1.toNatClampNeg (sn k1.toNatClampNeg))) := hq.trans (if_neg c7)
          refine lv_aload_n hx hb dX5_restore_22 rfl (lv_at hl 1 rfl) ?_
          refine va_get (D := D) (ci := 5) (v := .ref (a 0)) (C := RX5) (T := TX5) (N := 16) hx hb hts inA5 hown hK hP 0 rfl rfl 0 (by decide) (hts _ wd_fl_RX5_7) (fun _ h9 => h9) rfl dX5_restore_23 ?_
          refine lv_iload_n hx hb dX5_restore_26 rfl (lv_at hl 0 rfl) ?_
          refine lv_aload_n hx hb dX5_restore_27 rfl (lv_at hl 1 rfl) ?_
          refine va_get (D := D) (ci := 5) (v := .ref (a 2)) (C := RX5) (T := TX5) (N := 16) hx hb hts inA5 hown hK hP 0 rfl rfl 3 (by decide) (hts _ wd_fl_RX5_16) (fun _ h9 => h9) rfl dX5_restore_28 ?_
          refine lv_iload_n hx hb dX5_restore_31 rfl (lv_at hl 0 rfl) ?_
          refine va_iald hx hb hK hP 3 0 rfl rfl (vp_of_le (n := 35) hk c7 (by decide)) dX5_restore_32 ?_
          refine va_iast hx hb hK hP hD hS 1 0 rfl rfl (vp_of_le (n := 35) hk c7 (by decide)) dX5_restore_33 (fun H locs hP hD hS => ?_)
          have hP : va_P D vwCl (MO cI h0 a (upd l_sv k1.toNatClampNeg (sn k1.toNatClampNeg)) f5 v6 sn kp pd ln so po wr lt fr sc tm hd st) H := hP
          have hD : va_D A (MO cI h0 a (upd l_sv k1.toNatClampNeg (sn k1.toNatClampNeg)) f5 v6 sn kp pd ln so po wr lt fr sc tm hd st) := hD
          refine lv_iinc (v := (k1 + 1)) (lv' := [(1, .int (k1 + 1)), (0, .ref h0)]) hx hb dX5_restore_34 hl (k := 0) rfl rfl (by decide) rfl (fun ls hl => ?_)
          refine lv_goto (tgt := 16) hx hb dX5_restore_37 (by decide) ?_
          exact ih ((k1 + 1)) ((upd l_sv k1.toNatClampNeg (sn k1.toNatClampNeg))) _ _ _ (k_mu hmu c7) (k_up hk c7 (by decide)) hq hP hD hS (lv_sub hl [0, 1] rfl)
    exact L16 (((35 : Int32).toInt - (0 : Int32).toInt).toNat + 1) (0) (sv) _ _ _ (Nat.lt_succ_self _) (by decide) hq hP hD hS (lv_sub hl [0, 1] rfl)
  · have hq : Xq = ((-2), sv, pa, pn) := hq.trans (if_pos c1)
    refine lv_bipush (v := (-2)) hx hb dX5_restore_7 (by decide) ?_
    exact hret _ _ _ _ ((-2)) (sv, pa, pn) dX5_restore_9 rfl (hq.symm.trans hX) hP hD hS
def sh_X5_shake (sv : Nat → Int32) (pa : Nat → Int32) (pn : Int32) (x1 : Int32) : Int32 × (Nat → Int32) × (Nat → Int32) × (Int32) := (if (sh_X5_isCup x1) = 0 then ((-1), sv, pa, pn) else (kb (sh_X5_records sv pa pn) (fun z_f8 => (kb (sh_X5_shakes sv x1) (fun z_r10 => (z_r10.1, z_r10.2, z_f8.1, z_f8.2))))))
abbrev rm_X5_shake : Room := { frames := 2, cells := 0, slots := 0, locals := 42 }
theorem hd_X5_shake : hdT yX5_shake 1 := by decide +kernel
set_option maxHeartbeats 4000000 in
set_option maxRecDepth 100000 in
theorem c_X5_shake (l : Launch) (D : va_G) (cI cC cQ : ClassId) (sz : Nat) (h0 : Nat) (a : Nat → Nat) (sv : Nat → Int32) (pa : Nat → Int32) (pn : Int32) (sn : Nat → Int32) (kp : Int32) (pd : Nat → Int32) (ln : Int32) (so : Nat → Int32) (po : Int32) (wr : Int32) (lt : Int32) (fr : Int32) (sc : Int32) (tm : Int32) (hd : Int32) (st : Int32) (x1 : Int32) (hpn0 : vp_in pn 5) : Met l yX5_shake (wsO yX5_shake cX5_shake 2 (some .int)) rm_X5_shake (va_Pc [.ref h0, .int x1] (inW D (TYS cI cC cQ) (MO cI h0 a sv pa pn sn kp pd ln so po wr lt fr sc tm hd st) sz)) (va_Qi (fun (r : Int32) (u : (Nat → Int32) × (Nat → Int32) × (Int32)) => (r, u) = sh_X5_shake sv pa pn x1) (fun (u : (Nat → Int32) × (Nat → Int32) × (Int32)) => atW D (TYS cI cC cQ) (va_A (MO cI h0 a sv pa pn sn kp pd ln so po wr lt fr sc tm hd st) sz) (MO cI h0 a u.1 u.2.1 u.2.2 sn kp pd ln so po wr lt fr sc tm hd st)) (va_A (MO cI h0 a sv pa pn sn kp pd ln so po wr lt fr sc tm hd st) sz)) 0 0 (va_A (MO cI h0 a sv pa pn sn kp pd ln so po wr lt fr sc tm hd st) sz) := by
  refine k_meti .int rfl (by decide) (Nat.le_of_ble_eq_true rfl) ?_
  intro p e s m args below meth c A ls Q H locs hargs hret hx hb hts hown hml hname hN hA hS hP hK hD hl
  have hl : lv_has ls 2 [(0, .ref h0), (1, .int x1)] := hl
  obtain ⟨Xq, hX⟩ : ∃ Xq, Xq = sh_X5_shake sv pa pn x1 := ⟨_, rfl⟩
  have hq : Xq = (if (sh_X5_isCup x1) = 0 then ((-1), sv, pa, pn) else (kb (sh_X5_records sv pa pn) (fun z_f8 => (kb (sh_X5_shakes sv x1) (fun z_r10 => (z_r10.1, z_r10.2, z_f8.1, z_f8.2)))))) := hX
  refine lv_iload_n hx hb dX5_shake_0 rfl (lv_at hl 1 rfl) ?_
  have hPs : va_P D vwCl ([] ++ ([] ++ (MO cI h0 a sv pa pn sn kp pd ln so po wr lt fr sc tm hd st))) H := hP
  have hDs : va_D A ([] ++ ([] ++ (MO cI h0 a sv pa pn sn kp pd ln so po wr lt fr sc tm hd st))) := hD
  refine k_behi (X := []) (Y := (MO cI h0 a sv pa pn sn kp pd ln so po wr lt fr sc tm hd st)) (va_runS (As := [.int x1]) (rest := []) ⟨hx, hb, hml, hown, hts⟩ (c_X5_isCup l D cI cC cQ H.size x1) (kcwS hts wd_ml_RX5_61 wd_st_yX5_isCup wd_ini_RX5 wd_code_yX5_isCup rfl rfl hd_X5_isCup ⟨Nat.le_of_ble_eq_true rfl, Nat.le_of_ble_eq_true rfl⟩) ⟨in_blind, k_pre hK (pa_l (pa_r hPs)) (da_l (da_r hDs)) hN⟩ rfl rfl hl.1 rfl (lv_room (Nat.le_of_ble_eq_true rfl)) dX5_shake_1 ⟨Nat.le_of_ble_eq_true rfl, Nat.le_of_ble_eq_true rfl⟩) hPs hDs hS hA (fun r1 u2 H locs hw3 hP hD hS => ?_)
  have hP : va_P D vwCl (MO cI h0 a sv pa pn sn kp pd ln so po wr lt fr sc tm hd st) H := hP
  have hD : va_D A (MO cI h0 a sv pa pn sn kp pd ln so po wr lt fr sc tm hd st) := hD
  have hw3 : r1 = (sh_X5_isCup x1) := hw3
  subst hw3
  refine lv_if_ne (tgt := 9) hx hb dX5_shake_4 (by decide) (fun c4 => ?_) (fun c4 => ?_)
  · have hq : Xq = (kb (sh_X5_records sv pa pn) (fun z_f8 => (kb (sh_X5_shakes sv x1) (fun z_r10 => (z_r10.1, z_r10.2, z_f8.1, z_f8.2))))) := hq.trans (if_neg c4)
    refine lv_aload_n hx hb dX5_shake_9 rfl (lv_at hl 0 rfl) ?_
    have hPs := k_self hP
    have hDs := k_selfD hD
    refine k_behv (X := []) (Y := []) (va_runV (As := []) (rest := []) ⟨hx, hb, hml, hown, hts⟩ (c_X5_records l D cI cC cQ H.size h0 a sv pa pn sn kp pd ln so po wr lt fr sc tm hd st (hpn0)) (kcwV hts wd_ml_RX5_55 wd_im_yX5_records wd_sel_yX5_records wd_ini_RX5 wd_code_yX5_records rfl rfl rfl hd_X5_records ⟨Nat.le_of_ble_eq_true rfl, Nat.le_of_ble_eq_true rfl⟩) ⟨in_blind, va_recv hK (pa_l (pa_r hPs)) (ci := 5) (q0 := 0) rfl rfl, k_pre hK (pa_l (pa_r hPs)) (da_l (da_r hDs)) hN⟩ rfl rfl hl.1 rfl (lv_room (Nat.le_of_ble_eq_true rfl)) dX5_shake_10 ⟨Nat.le_of_ble_eq_true rfl, Nat.le_of_ble_eq_true rfl⟩) hPs hDs hS hA (fun u6 H locs hw7 hP hD hS => ?_)
    obtain ⟨f8, v9⟩ := u6
    have hP := k_unP hP
    have hD := k_unD hD
    have hP : va_P D vwCl (MO cI h0 a sv f8 v9 sn kp pd ln so po wr lt fr sc tm hd st) H := hP
    have hD : va_D A (MO cI h0 a sv f8 v9 sn kp pd ln so po wr lt fr sc tm hd st) := hD
    have hw7 : (f8, v9) = (sh_X5_records sv pa pn) := hw7
    have hq : Xq = (kb (sh_X5_shakes sv x1) (fun z_r10 => (z_r10.1, z_r10.2, f8, v9))) := by rw [← hw7] at hq; exact hq
    refine lv_aload_n hx hb dX5_shake_13 rfl (lv_at hl 0 rfl) ?_
    refine lv_iload_n hx hb dX5_shake_14 rfl (lv_at hl 1 rfl) ?_
    have hPs := k_self hP
    have hDs := k_selfD hD
    refine k_behi (X := []) (Y := []) (va_runV (As := [.int x1]) (rest := []) ⟨hx, hb, hml, hown, hts⟩ (c_X5_shakes l D cI cC cQ H.size h0 a sv f8 v9 sn kp pd ln so po wr lt fr sc tm hd st x1 ((mIn4 c4))) (kcwV hts wd_ml_RX5_64 wd_im_yX5_shakes wd_sel_yX5_shakes wd_ini_RX5 wd_code_yX5_shakes rfl rfl rfl hd_X5_shakes ⟨Nat.le_of_ble_eq_true rfl, Nat.le_of_ble_eq_true rfl⟩) ⟨in_blind, va_recv hK (pa_l (pa_r hPs)) (ci := 5) (q0 := 0) rfl rfl, k_pre hK (pa_l (pa_r hPs)) (da_l (da_r hDs)) hN⟩ rfl rfl hl.1 rfl (lv_room (Nat.le_of_ble_eq_true rfl)) dX5_shake_15 ⟨Nat.le_of_ble_eq_true rfl, Nat.le_of_ble_eq_true rfl⟩) hPs hDs hS hA (fun r10 u11 H locs hw12 hP hD hS => ?_)
    obtain ⟨f13, rfl⟩ : ∃ z, z = u11 := ⟨_, rfl⟩
    have hP := k_unP hP
    have hD := k_unD hD
    have hP : va_P D vwCl (MO cI h0 a f13 f8 v9 sn kp pd ln so po wr lt fr sc tm hd st) H := hP
    have hD : va_D A (MO cI h0 a f13 f8 v9 sn kp pd ln so po wr lt fr sc tm hd st) := hD
    have hw12 : (r10, f13) = (sh_X5_shakes sv x1) := hw12
    have hq : Xq = (r10, f13, f8, v9) := by rw [← hw12] at hq; exact hq
    exact hret _ _ _ _ (r10) (f13, f8, v9) dX5_shake_18 rfl (hq.symm.trans hX) hP hD hS
  · have hq : Xq = ((-1), sv, pa, pn) := hq.trans (if_pos c4)
    refine lv_iconst (v := (-1)) hx hb dX5_shake_7 (by decide) ?_
    exact hret _ _ _ _ ((-1)) (sv, pa, pn) dX5_shake_8 rfl (hq.symm.trans hX) hP hD hS
def sh_X5_append (pd : Nat → Int32) (ln : Int32) (x1 : Int32) : Int32 × (Nat → Int32) × (Int32) := (if (sh_X5_in x1 33 126) = 0 then ((-1), pd, ln) else (if ln = 60 then ((-3), pd, ln) else ((ln + 1), (upd pd ln.toNatClampNeg x1), (ln + 1))))
abbrev rm_X5_append : Room := { frames := 1, cells := 0, slots := 0, locals := 22 }
theorem hd_X5_append : hdT yX5_append 1 := by decide +kernel
set_option maxHeartbeats 4000000 in
set_option maxRecDepth 100000 in
theorem c_X5_append (l : Launch) (D : va_G) (cI cC cQ : ClassId) (sz : Nat) (h0 : Nat) (a : Nat → Nat) (sv : Nat → Int32) (pa : Nat → Int32) (pn : Int32) (sn : Nat → Int32) (kp : Int32) (pd : Nat → Int32) (ln : Int32) (so : Nat → Int32) (po : Int32) (wr : Int32) (lt : Int32) (fr : Int32) (sc : Int32) (tm : Int32) (hd : Int32) (st : Int32) (x1 : Int32) (hln : vp_in ln 61) : Met l yX5_append (wsO yX5_append cX5_append 2 (some .int)) rm_X5_append (va_Pc [.ref h0, .int x1] (inW D (TYS cI cC cQ) (MO cI h0 a sv pa pn sn kp pd ln so po wr lt fr sc tm hd st) sz)) (va_Qi (fun (r : Int32) (u : (Nat → Int32) × (Int32)) => (r, u) = sh_X5_append pd ln x1) (fun (u : (Nat → Int32) × (Int32)) => atW D (TYS cI cC cQ) (va_A (MO cI h0 a sv pa pn sn kp pd ln so po wr lt fr sc tm hd st) sz) (MO cI h0 a sv pa pn sn kp u.1 u.2 so po wr lt fr sc tm hd st)) (va_A (MO cI h0 a sv pa pn sn kp pd ln so po wr lt fr sc tm hd st) sz)) 0 0 (va_A (MO cI h0 a sv pa pn sn kp pd ln so po wr lt fr sc tm hd st) sz) := by
  refine k_meti .int rfl (by decide) (Nat.le_of_ble_eq_true rfl) ?_
  intro p e s m args below meth c A ls Q H locs hargs hret hx hb hts hown hml hname hN hA hS hP hK hD hl
  have hl : lv_has ls 2 [(0, .ref h0), (1, .int x1)] := hl
  obtain ⟨Xq, hX⟩ : ∃ Xq, Xq = sh_X5_append pd ln x1 := ⟨_, rfl⟩
  have hq : Xq = (if (sh_X5_in x1 33 126) = 0 then ((-1), pd, ln) else (if ln = 60 then ((-3), pd, ln) else ((ln + 1), (upd pd ln.toNatClampNeg x1), (ln + 1)))) := hX
  refine lv_iload_n hx hb dX5_append_0 rfl (lv_at hl 1 rfl) ?_
  refine lv_bipush (v := 33) hx hb dX5_append_1 (by decide) ?_
  refine lv_bipush (v := 126) hx hb dX5_append_3 (by decide) ?_
  have hPs : va_P D vwCl ([] ++ ([] ++ (MO cI h0 a sv pa pn sn kp pd ln so po wr lt fr sc tm hd st))) H := hP
  have hDs : va_D A ([] ++ ([] ++ (MO cI h0 a sv pa pn sn kp pd ln so po wr lt fr sc tm hd st))) := hD
  refine k_behi (X := []) (Y := (MO cI h0 a sv pa pn sn kp pd ln so po wr lt fr sc tm hd st)) (va_runS (As := [.int x1, .int 33, .int 126]) (rest := []) ⟨hx, hb, hml, hown, hts⟩ (c_X5_in l D cI cC cQ H.size x1 33 126) (kcwS hts wd_ml_RX5_25 wd_st_yX5_in wd_ini_RX5 wd_code_yX5_in rfl rfl hd_X5_in ⟨Nat.le_of_ble_eq_true rfl, Nat.le_of_ble_eq_true rfl⟩) ⟨in_blind, k_pre hK (pa_l (pa_r hPs)) (da_l (da_r hDs)) hN⟩ rfl rfl hl.1 rfl (lv_room (Nat.le_of_ble_eq_true rfl)) dX5_append_5 ⟨Nat.le_of_ble_eq_true rfl, Nat.le_of_ble_eq_true rfl⟩) hPs hDs hS hA (fun r1 u2 H locs hw3 hP hD hS => ?_)
  have hP : va_P D vwCl (MO cI h0 a sv pa pn sn kp pd ln so po wr lt fr sc tm hd st) H := hP
  have hD : va_D A (MO cI h0 a sv pa pn sn kp pd ln so po wr lt fr sc tm hd st) := hD
  have hw3 : r1 = (sh_X5_in x1 33 126) := hw3
  subst hw3
  refine lv_if_ne (tgt := 13) hx hb dX5_append_8 (by decide) (fun c4 => ?_) (fun c4 => ?_)
  · have hq : Xq = (if ln = 60 then ((-3), pd, ln) else ((ln + 1), (upd pd ln.toNatClampNeg x1), (ln + 1))) := hq.trans (if_neg c4)
    refine lv_aload_n hx hb dX5_append_13 rfl (lv_at hl 0 rfl) ?_
    refine va_get (D := D) (ci := 5) (v := .int ln) (C := RX5) (T := TX5) (N := 16) hx hb hts inA5 hown hK hP 0 rfl rfl 6 (by decide) (hts _ wd_fl_RX5_82) (fun _ h9 => h9) rfl dX5_append_14 ?_
    refine lv_bipush (v := 60) hx hb dX5_append_17 (by decide) ?_
    refine lv_icmp_ne (tgt := 25) hx hb dX5_append_19 (by decide) (fun c5 => ?_) (fun c5 => ?_)
    · have hq : Xq = ((ln + 1), (upd pd ln.toNatClampNeg x1), (ln + 1)) := hq.trans (if_neg c5)
      refine lv_aload_n hx hb dX5_append_25 rfl (lv_at hl 0 rfl) ?_
      refine va_get (D := D) (ci := 5) (v := .ref (a 3)) (C := RX5) (T := TX5) (N := 16) hx hb hts inA5 hown hK hP 0 rfl rfl 5 (by decide) (hts _ wd_fl_RX5_19) (fun _ h9 => h9) rfl dX5_append_26 ?_
      refine lv_aload_n hx hb dX5_append_29 rfl (lv_at hl 0 rfl) ?_
      refine va_get (D := D) (ci := 5) (v := .int ln) (C := RX5) (T := TX5) (N := 16) hx hb hts inA5 hown hK hP 0 rfl rfl 6 (by decide) (hts _ wd_fl_RX5_82) (fun _ h9 => h9) rfl dX5_append_30 ?_
      refine lv_iload_n hx hb dX5_append_33 rfl (lv_at hl 1 rfl) ?_
      refine va_iast hx hb hK hP hD hS 4 0 rfl rfl (vp_decr hln c5 (by decide)) dX5_append_34 (fun H locs hP hD hS => ?_)
      have hP : va_P D vwCl (MO cI h0 a sv pa pn sn kp (upd pd ln.toNatClampNeg x1) ln so po wr lt fr sc tm hd st) H := hP
      have hD : va_D A (MO cI h0 a sv pa pn sn kp (upd pd ln.toNatClampNeg x1) ln so po wr lt fr sc tm hd st) := hD
      refine lv_aload_n hx hb dX5_append_35 rfl (lv_at hl 0 rfl) ?_
      refine lv_dup hx hb dX5_append_36 rfl ?_
      refine va_get (D := D) (ci := 5) (v := .int ln) (C := RX5) (T := TX5) (N := 16) hx hb hts inA5 hown hK hP 0 rfl rfl 6 (by decide) (hts _ wd_fl_RX5_82) (fun _ h9 => h9) rfl dX5_append_37 ?_
      refine lv_iconst (v := 1) hx hb dX5_append_40 (by decide) ?_
      refine lv_iadd hx hb dX5_append_41 ?_
      refine va_put (D := D) (ci := 5) (v := .int (ln + 1)) (ty := .int) (C := RX5) (T := TX5) (N := 16) hx hb hts inA5 tyX5 tyX5_ok nmX5 hown hK hP hD hS 0 rfl rfl 6 (by decide) (hts _ wd_fl_RX5_82) (fun _ h9 => h9) rfl (by decide +kernel) rfl rfl (Nat.le_of_ble_eq_true rfl) dX5_append_42 (fun H locs hP hD hS => ?_)
      have hP : va_P D vwCl (MO cI h0 a sv pa pn sn kp (upd pd ln.toNatClampNeg x1) (ln + 1) so po wr lt fr sc tm hd st) H := hP
      have hD : va_D A (MO cI h0 a sv pa pn sn kp (upd pd ln.toNatClampNeg x1) (ln + 1) so po wr lt fr sc tm hd st) := hD
      refine lv_aload_n hx hb dX5_append_45 rfl (lv_at hl 0 rfl) ?_
      refine va_get (D := D) (ci := 5) (v := .int (ln + 1)) (C := RX5) (T := TX5) (N := 16) hx hb hts inA5 hown hK hP 0 rfl rfl 6 (by decide) (hts _ wd_fl_RX5_82) (fun _ h9 => h9) rfl dX5_append_46 ?_
      exact hret _ _ _ _ ((ln + 1)) ((upd pd ln.toNatClampNeg x1), (ln + 1)) dX5_append_49 rfl (hq.symm.trans hX) hP hD hS
    · have hq : Xq = ((-3), pd, ln) := hq.trans (if_pos c5)
      refine lv_bipush (v := (-3)) hx hb dX5_append_22 (by decide) ?_
      exact hret _ _ _ _ ((-3)) (pd, ln) dX5_append_24 rfl (hq.symm.trans hX) hP hD hS
  · have hq : Xq = ((-1), pd, ln) := hq.trans (if_pos c4)
    refine lv_iconst (v := (-1)) hx hb dX5_append_11 (by decide) ?_
    exact hret _ _ _ _ ((-1)) (pd, ln) dX5_append_12 rfl (hq.symm.trans hX) hP hD hS
def sh_X5_why (so : Nat → Int32) (x1 : Int32) : Int32 := (if (sh_X5_in x1 0 3) = 0 then (-1) else (if (so (0 : Int32).toNatClampNeg) = 0 then (-4) else (so x1.toNatClampNeg)))
abbrev rm_X5_why : Room := { frames := 1, cells := 0, slots := 0, locals := 22 }
theorem hd_X5_why : hdT yX5_why 1 := by decide +kernel
set_option maxHeartbeats 4000000 in
set_option maxRecDepth 100000 in
theorem c_X5_why (l : Launch) (D : va_G) (cI cC cQ : ClassId) (sz : Nat) (h0 : Nat) (a : Nat → Nat) (sv : Nat → Int32) (pa : Nat → Int32) (pn : Int32) (sn : Nat → Int32) (kp : Int32) (pd : Nat → Int32) (ln : Int32) (so : Nat → Int32) (po : Int32) (wr : Int32) (lt : Int32) (fr : Int32) (sc : Int32) (tm : Int32) (hd : Int32) (st : Int32) (x1 : Int32)  : Met l yX5_why (wsO yX5_why cX5_why 2 (some .int)) rm_X5_why (va_Pc [.ref h0, .int x1] (inW D (TYS cI cC cQ) (MO cI h0 a sv pa pn sn kp pd ln so po wr lt fr sc tm hd st) sz)) (va_Qi (fun (r : Int32) (_ : Unit) => r = sh_X5_why so x1) (fun (u : Unit) => atW D (TYS cI cC cQ) (va_A (MO cI h0 a sv pa pn sn kp pd ln so po wr lt fr sc tm hd st) sz) (MO cI h0 a sv pa pn sn kp pd ln so po wr lt fr sc tm hd st)) (va_A (MO cI h0 a sv pa pn sn kp pd ln so po wr lt fr sc tm hd st) sz)) 0 0 (va_A (MO cI h0 a sv pa pn sn kp pd ln so po wr lt fr sc tm hd st) sz) := by
  refine k_meti .int rfl (by decide) (Nat.le_of_ble_eq_true rfl) ?_
  intro p e s m args below meth c A ls Q H locs hargs hret hx hb hts hown hml hname hN hA hS hP hK hD hl
  have hl : lv_has ls 2 [(0, .ref h0), (1, .int x1)] := hl
  obtain ⟨Xq, hX⟩ : ∃ Xq, Xq = sh_X5_why so x1 := ⟨_, rfl⟩
  have hq : Xq = (if (sh_X5_in x1 0 3) = 0 then (-1) else (if (so (0 : Int32).toNatClampNeg) = 0 then (-4) else (so x1.toNatClampNeg))) := hX
  refine lv_iload_n hx hb dX5_why_0 rfl (lv_at hl 1 rfl) ?_
  refine lv_iconst (v := 0) hx hb dX5_why_1 (by decide) ?_
  refine lv_iconst (v := 3) hx hb dX5_why_2 (by decide) ?_
  have hPs : va_P D vwCl ([] ++ ([] ++ (MO cI h0 a sv pa pn sn kp pd ln so po wr lt fr sc tm hd st))) H := hP
  have hDs : va_D A ([] ++ ([] ++ (MO cI h0 a sv pa pn sn kp pd ln so po wr lt fr sc tm hd st))) := hD
  refine k_behi (X := []) (Y := (MO cI h0 a sv pa pn sn kp pd ln so po wr lt fr sc tm hd st)) (va_runS (As := [.int x1, .int 0, .int 3]) (rest := []) ⟨hx, hb, hml, hown, hts⟩ (c_X5_in l D cI cC cQ H.size x1 0 3) (kcwS hts wd_ml_RX5_25 wd_st_yX5_in wd_ini_RX5 wd_code_yX5_in rfl rfl hd_X5_in ⟨Nat.le_of_ble_eq_true rfl, Nat.le_of_ble_eq_true rfl⟩) ⟨in_blind, k_pre hK (pa_l (pa_r hPs)) (da_l (da_r hDs)) hN⟩ rfl rfl hl.1 rfl (lv_room (Nat.le_of_ble_eq_true rfl)) dX5_why_3 ⟨Nat.le_of_ble_eq_true rfl, Nat.le_of_ble_eq_true rfl⟩) hPs hDs hS hA (fun r1 u2 H locs hw3 hP hD hS => ?_)
  have hP : va_P D vwCl (MO cI h0 a sv pa pn sn kp pd ln so po wr lt fr sc tm hd st) H := hP
  have hD : va_D A (MO cI h0 a sv pa pn sn kp pd ln so po wr lt fr sc tm hd st) := hD
  have hw3 : r1 = (sh_X5_in x1 0 3) := hw3
  subst hw3
  refine lv_if_ne (tgt := 11) hx hb dX5_why_6 (by decide) (fun c4 => ?_) (fun c4 => ?_)
  · have hq : Xq = (if (so (0 : Int32).toNatClampNeg) = 0 then (-4) else (so x1.toNatClampNeg)) := hq.trans (if_neg c4)
    refine lv_aload_n hx hb dX5_why_11 rfl (lv_at hl 0 rfl) ?_
    refine va_get (D := D) (ci := 5) (v := .ref (a 4)) (C := RX5) (T := TX5) (N := 16) hx hb hts inA5 hown hK hP 0 rfl rfl 7 (by decide) (hts _ wd_fl_RX5_22) (fun _ h9 => h9) rfl dX5_why_12 ?_
    refine lv_iconst (v := 0) hx hb dX5_why_15 (by decide) ?_
    refine va_iald hx hb hK hP 5 0 rfl rfl (k_in (by decide)) dX5_why_16 ?_
    refine lv_if_ne (tgt := 25) hx hb dX5_why_17 (by decide) (fun c5 => ?_) (fun c5 => ?_)
    · have hq : Xq = (so x1.toNatClampNeg) := hq.trans (if_neg c5)
      refine lv_aload_n hx hb dX5_why_25 rfl (lv_at hl 0 rfl) ?_
      refine va_get (D := D) (ci := 5) (v := .ref (a 4)) (C := RX5) (T := TX5) (N := 16) hx hb hts inA5 hown hK hP 0 rfl rfl 7 (by decide) (hts _ wd_fl_RX5_22) (fun _ h9 => h9) rfl dX5_why_26 ?_
      refine lv_iload_n hx hb dX5_why_29 rfl (lv_at hl 1 rfl) ?_
      refine va_iald hx hb hK hP 5 0 rfl rfl (inIn c4 (by decide)) dX5_why_30 ?_
      exact hret _ _ _ _ ((so x1.toNatClampNeg)) () dX5_why_31 rfl (hq.symm.trans hX) hP hD hS
    · have hq : Xq = (-4) := hq.trans (if_pos c5)
      refine lv_bipush (v := (-4)) hx hb dX5_why_20 (by decide) ?_
      refine lv_goto (tgt := 31) hx hb dX5_why_22 (by decide) ?_
      exact hret _ _ _ _ ((-4)) () dX5_why_31 rfl (hq.symm.trans hX) hP hD hS
  · have hq : Xq = (-1) := hq.trans (if_pos c4)
    refine lv_iconst (v := (-1)) hx hb dX5_why_9 (by decide) ?_
    exact hret _ _ _ _ ((-1)) () dX5_why_10 rfl (hq.symm.trans hX) hP hD hS
end
