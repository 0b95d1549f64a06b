section
-- ===== PART A: goes FIRST, ahead of the names: the tables' words, and 'selects' of the private methods out of them =====
/-- a private method of a class that the tables say can be made, by its rows of tables_1 -/
def lw_okq (q : MethodName × Nat) : Prop := (q.1.cls ≠ "java/lang/invoke/MethodHandle" ∧ q.1.cls ≠ "java/lang/invoke/VarHandle") ∧ Cond.instantiable q.1.cls q.2 ∈ tables_1 ∧ Cond.privateMethod q.1 ∈ tables_1 ∧ Cond.instanceMethod q.1 ∈ tables_1
theorem lw_p0 : lw_okq (⟨"ShaftPlay", "takeTape", "(Z)I"⟩, 7) := ⟨⟨by decide +kernel, by decide +kernel⟩, List.mem_of_getElem? (i := 13) (by decide +kernel), List.mem_of_getElem? (i := 209) (by decide +kernel), List.mem_of_getElem? (i := 210) (by decide +kernel)⟩
theorem lw_p1 : lw_okq (⟨"ShaftPlay", "isCam", "(I)Z"⟩, 7) := ⟨⟨by decide +kernel, by decide +kernel⟩, List.mem_of_getElem? (i := 13) (by decide +kernel), List.mem_of_getElem? (i := 239) (by decide +kernel), List.mem_of_getElem? (i := 240) (by decide +kernel)⟩
theorem lw_p2 : lw_okq (⟨"ShaftPlay", "isFigure", "(I)Z"⟩, 7) := ⟨⟨by decide +kernel, by decide +kernel⟩, List.mem_of_getElem? (i := 13) (by decide +kernel), List.mem_of_getElem? (i := 268) (by decide +kernel), List.mem_of_getElem? (i := 269) (by decide +kernel)⟩
theorem lw_p3 : lw_okq (⟨"ShaftPlay", "shareCams", "()I"⟩, 7) := ⟨⟨by decide +kernel, by decide +kernel⟩, List.mem_of_getElem? (i := 13) (by decide +kernel), List.mem_of_getElem? (i := 421) (by decide +kernel), List.mem_of_getElem? (i := 422) (by decide +kernel)⟩
theorem lw_p4 : lw_okq (⟨"ShaftPlay", "refusalOf", "(IIII)I"⟩, 7) := ⟨⟨by decide +kernel, by decide +kernel⟩, List.mem_of_getElem? (i := 13) (by decide +kernel), List.mem_of_getElem? (i := 509) (by decide +kernel), List.mem_of_getElem? (i := 510) (by decide +kernel)⟩
theorem lw_p5 : lw_okq (⟨"ShaftPlay", "isSo", "(LShaftPlay$Sheet;II)Z"⟩, 7) := ⟨⟨by decide +kernel, by decide +kernel⟩, List.mem_of_getElem? (i := 13) (by decide +kernel), List.mem_of_getElem? (i := 527) (by decide +kernel), List.mem_of_getElem? (i := 528) (by decide +kernel)⟩
theorem lw_p6 : lw_okq (⟨"ShaftPlayModel", "takeSigns", "(Z)I"⟩, 15) := ⟨⟨by decide +kernel, by decide +kernel⟩, List.mem_of_getElem? (i := 571) (by decide +kernel), List.mem_of_getElem? (i := 638) (by decide +kernel), List.mem_of_getElem? (i := 639) (by decide +kernel)⟩
theorem lw_p7 : lw_okq (⟨"ShaftPlayModel", "isCam", "(I)Z"⟩, 15) := ⟨⟨by decide +kernel, by decide +kernel⟩, List.mem_of_getElem? (i := 571) (by decide +kernel), List.mem_of_getElem? (i := 651) (by decide +kernel), List.mem_of_getElem? (i := 652) (by decide +kernel)⟩
theorem lw_p8 : lw_okq (⟨"ShaftPlayModel", "isGood", "(II)Z"⟩, 15) := ⟨⟨by decide +kernel, by decide +kernel⟩, List.mem_of_getElem? (i := 571) (by decide +kernel), List.mem_of_getElem? (i := 668) (by decide +kernel), List.mem_of_getElem? (i := 669) (by decide +kernel)⟩
theorem lw_p9 : lw_okq (⟨"ShaftPlayModel", "isFigure", "(I)Z"⟩, 15) := ⟨⟨by decide +kernel, by decide +kernel⟩, List.mem_of_getElem? (i := 571) (by decide +kernel), List.mem_of_getElem? (i := 677) (by decide +kernel), List.mem_of_getElem? (i := 678) (by decide +kernel)⟩
theorem lw_p10 : lw_okq (⟨"ShaftPlayModel", "heightOf", "(II)I"⟩, 15) := ⟨⟨by decide +kernel, by decide +kernel⟩, List.mem_of_getElem? (i := 571) (by decide +kernel), List.mem_of_getElem? (i := 700) (by decide +kernel), List.mem_of_getElem? (i := 701) (by decide +kernel)⟩
theorem lw_p11 : lw_okq (⟨"ShaftPlayModel", "hairOf", "(II)I"⟩, 15) := ⟨⟨by decide +kernel, by decide +kernel⟩, List.mem_of_getElem? (i := 571) (by decide +kernel), List.mem_of_getElem? (i := 704) (by decide +kernel), List.mem_of_getElem? (i := 705) (by decide +kernel)⟩
theorem lw_p12 : lw_okq (⟨"ShaftPlayModel", "aheadOf", "(I)I"⟩, 15) := ⟨⟨by decide +kernel, by decide +kernel⟩, List.mem_of_getElem? (i := 571) (by decide +kernel), List.mem_of_getElem? (i := 708) (by decide +kernel), List.mem_of_getElem? (i := 709) (by decide +kernel)⟩
theorem lw_p13 : lw_okq (⟨"ShaftPlayModel", "upsOf", "(I)I"⟩, 15) := ⟨⟨by decide +kernel, by decide +kernel⟩, List.mem_of_getElem? (i := 571) (by decide +kernel), List.mem_of_getElem? (i := 716) (by decide +kernel), List.mem_of_getElem? (i := 717) (by decide +kernel)⟩
theorem lw_p14 : lw_okq (⟨"ShaftPlayModel", "strikesOf", "(II)I"⟩, 15) := ⟨⟨by decide +kernel, by decide +kernel⟩, List.mem_of_getElem? (i := 571) (by decide +kernel), List.mem_of_getElem? (i := 724) (by decide +kernel), List.mem_of_getElem? (i := 725) (by decide +kernel)⟩
theorem lw_p15 : lw_okq (⟨"ShaftPlayModel", "behind", "(I)I"⟩, 15) := ⟨⟨by decide +kernel, by decide +kernel⟩, List.mem_of_getElem? (i := 571) (by decide +kernel), List.mem_of_getElem? (i := 736) (by decide +kernel), List.mem_of_getElem? (i := 737) (by decide +kernel)⟩
def lw_privs_1 : List (MethodName × Nat) := [(⟨"ShaftPlay", "takeTape", "(Z)I"⟩, 7), (⟨"ShaftPlay", "isCam", "(I)Z"⟩, 7), (⟨"ShaftPlay", "isFigure", "(I)Z"⟩, 7), (⟨"ShaftPlay", "shareCams", "()I"⟩, 7), (⟨"ShaftPlay", "refusalOf", "(IIII)I"⟩, 7), (⟨"ShaftPlay", "isSo", "(LShaftPlay$Sheet;II)Z"⟩, 7), (⟨"ShaftPlayModel", "takeSigns", "(Z)I"⟩, 15), (⟨"ShaftPlayModel", "isCam", "(I)Z"⟩, 15), (⟨"ShaftPlayModel", "isGood", "(II)Z"⟩, 15), (⟨"ShaftPlayModel", "isFigure", "(I)Z"⟩, 15), (⟨"ShaftPlayModel", "heightOf", "(II)I"⟩, 15), (⟨"ShaftPlayModel", "hairOf", "(II)I"⟩, 15), (⟨"ShaftPlayModel", "aheadOf", "(I)I"⟩, 15), (⟨"ShaftPlayModel", "upsOf", "(I)I"⟩, 15), (⟨"ShaftPlayModel", "strikesOf", "(II)I"⟩, 15), (⟨"ShaftPlayModel", "behind", "(I)I"⟩, 15)]
theorem lw_r1 : ∀ q ∈ lw_privs_1, lw_okq q := List.forall_mem_cons.mpr ⟨lw_p0, List.forall_mem_cons.mpr ⟨lw_p1, List.forall_mem_cons.mpr ⟨lw_p2, List.forall_mem_cons.mpr ⟨lw_p3, List.forall_mem_cons.mpr ⟨lw_p4, List.forall_mem_cons.mpr ⟨lw_p5, List.forall_mem_cons.mpr ⟨lw_p6, List.forall_mem_cons.mpr ⟨lw_p7, List.forall_mem_cons.mpr ⟨lw_p8, List.forall_mem_cons.mpr ⟨lw_p9, List.forall_mem_cons.mpr ⟨lw_p10, List.forall_mem_cons.mpr ⟨lw_p11, List.forall_mem_cons.mpr ⟨lw_p12, List.forall_mem_cons.mpr ⟨lw_p13, List.forall_mem_cons.mpr ⟨lw_p14, List.forall_mem_cons.mpr ⟨lw_p15, fun _ h => absurd h List.not_mem_nil⟩⟩⟩⟩⟩⟩⟩⟩⟩⟩⟩⟩⟩⟩⟩⟩
theorem lw_p16 : lw_okq (⟨"ShaftPlayModel", "sharesBy", "(I)Z"⟩, 15) := ⟨⟨by decide +kernel, by decide +kernel⟩, List.mem_of_getElem? (i := 571) (by decide +kernel), List.mem_of_getElem? (i := 753) (by decide +kernel), List.mem_of_getElem? (i := 754) (by decide +kernel)⟩
theorem lw_p17 : lw_okq (⟨"ShaftPlayModel", "camsUsed", "(I)I"⟩, 15) := ⟨⟨by decide +kernel, by decide +kernel⟩, List.mem_of_getElem? (i := 571) (by decide +kernel), List.mem_of_getElem? (i := 757) (by decide +kernel), List.mem_of_getElem? (i := 758) (by decide +kernel)⟩
theorem lw_p18 : lw_okq (⟨"ShaftPlayModel", "puts", "(I)Z"⟩, 15) := ⟨⟨by decide +kernel, by decide +kernel⟩, List.mem_of_getElem? (i := 571) (by decide +kernel), List.mem_of_getElem? (i := 761) (by decide +kernel), List.mem_of_getElem? (i := 762) (by decide +kernel)⟩
theorem lw_p19 : lw_okq (⟨"ShaftPlayModel", "bars", "(IIII)I"⟩, 15) := ⟨⟨by decide +kernel, by decide +kernel⟩, List.mem_of_getElem? (i := 571) (by decide +kernel), List.mem_of_getElem? (i := 819) (by decide +kernel), List.mem_of_getElem? (i := 820) (by decide +kernel)⟩
theorem lw_p20 : lw_okq (⟨"ShaftPlayModel", "isSo", "(I)Z"⟩, 15) := ⟨⟨by decide +kernel, by decide +kernel⟩, List.mem_of_getElem? (i := 571) (by decide +kernel), List.mem_of_getElem? (i := 823) (by decide +kernel), List.mem_of_getElem? (i := 824) (by decide +kernel)⟩
def lw_privs_2 : List (MethodName × Nat) := [(⟨"ShaftPlayModel", "sharesBy", "(I)Z"⟩, 15), (⟨"ShaftPlayModel", "camsUsed", "(I)I"⟩, 15), (⟨"ShaftPlayModel", "puts", "(I)Z"⟩, 15), (⟨"ShaftPlayModel", "bars", "(IIII)I"⟩, 15), (⟨"ShaftPlayModel", "isSo", "(I)Z"⟩, 15)]
theorem lw_r2 : ∀ q ∈ lw_privs_2, lw_okq q := List.forall_mem_cons.mpr ⟨lw_p16, List.forall_mem_cons.mpr ⟨lw_p17, List.forall_mem_cons.mpr ⟨lw_p18, List.forall_mem_cons.mpr ⟨lw_p19, List.forall_mem_cons.mpr ⟨lw_p20, fun _ h => absurd h List.not_mem_nil⟩⟩⟩⟩⟩
def lw_privs : List (MethodName × Nat) := lw_privs_1 ++ (lw_privs_2)
def lw_tbl : List Cond := k2_sels lw_privs ++ tables_1
theorem lw_privs_ok : ∀ q ∈ lw_privs, lw_okq q := by
  show ∀ q ∈ lw_privs_1 ++ (lw_privs_2), lw_okq q
  exact List.forall_mem_append.mpr ⟨lw_r1, lw_r2⟩
end
section
/-! ===== BEGIN printed: names, fields, word lists, decode rows ===== -/
def RX0 : String := "ShaftPlay$Figure"
def TX0 : u_T := fun k => match k with
  | 0 => ("ShaftPlay$Figure", "kind", "I", false)
  | 1 => ("ShaftPlay$Figure", "cam", "I", false)
  | 2 => ("ShaftPlay$Figure", "lag", "I", false)
  | 3 => ("ShaftPlay$Figure", "place", "I", false)
  | 4 => ("ShaftPlay$Figure", "wishedUp", "I", false)
  | _ => ("ShaftPlay$Figure", "wishedDown", "I", false)
def tyX0 : Nat → FieldType := fun k => match k with
  | 0 => .int
  | 1 => .int
  | 2 => .int
  | 3 => .int
  | 4 => .int
  | _ => .int
abbrev wsX00 : List Cond := u_ws RX0 TX0 6
theorem nmX0 : ∀ a, a < 6 → ∀ b, b < 6 → a ≠ b → (TX0 a).2.1 ≠ (TX0 b).2.1 := by decide +kernel
theorem tyX0_ok : ∀ k, k < 6 → parseFieldDescriptor (TX0 k).2.2.1 = some (tyX0 k) := by decide +kernel
abbrev cX0_init : ByteArray := prog_2_method_1_code
def yX0_init : MethodName := ⟨RX0, "<init>", "()V"⟩
abbrev cX0_changeKind : ByteArray := prog_2_method_2_code
def yX0_changeKind : MethodName := ⟨RX0, "changeKind", "(I)I"⟩
abbrev cX0_changeCam : ByteArray := prog_2_method_3_code
def yX0_changeCam : MethodName := ⟨RX0, "changeCam", "(I)I"⟩
abbrev cX0_changeLag : ByteArray := prog_2_method_4_code
def yX0_changeLag : MethodName := ⟨RX0, "changeLag", "(I)I"⟩
abbrev cX0_changePlace : ByteArray := prog_2_method_5_code
def yX0_changePlace : MethodName := ⟨RX0, "changePlace", "(I)I"⟩
abbrev cX0_wishFor : ByteArray := prog_2_method_6_code
def yX0_wishFor : MethodName := ⟨RX0, "wishFor", "([I)I"⟩
abbrev cX0_missedWith : ByteArray := prog_2_method_7_code
def yX0_missedWith : MethodName := ⟨RX0, "missedWith", "(I)I"⟩
abbrev cX0_becomeLike : ByteArray := prog_2_method_8_code
def yX0_becomeLike : MethodName := ⟨RX0, "becomeLike", "(LShaftPlay$Figure;)V"⟩
def RX1 : String := "ShaftPlay$Play"
def TX1 : u_T := fun k => match k with
  | 0 => ("ShaftPlay$Play", "hairs", "[[I", true)
  | 1 => ("ShaftPlay$Play", "camCount", "I", false)
  | 2 => ("ShaftPlay$Play", "figures", "[LShaftPlay$Figure;", true)
  | 3 => ("ShaftPlay$Play", "figureCount", "I", false)
  | 4 => ("ShaftPlay$Play", "upFrom", "I", false)
  | 5 => ("ShaftPlay$Play", "backwards", "I", false)
  | 6 => ("ShaftPlay$Play", "angle", "I", false)
  | 7 => ("ShaftPlay$Play", "passed", "I", false)
  | 8 => ("ShaftPlay$Play", "beatsAt", "[I", true)
  | _ => ("ShaftPlay$Play", "stepsOf", "[I", true)
def tyX1 : Nat → FieldType := fun k => match k with
  | 0 => .array (.array .int)
  | 1 => .int
  | 2 => .array (.object "ShaftPlay$Figure")
  | 3 => .int
  | 4 => .int
  | 5 => .int
  | 6 => .int
  | 7 => .int
  | 8 => .array .int
  | _ => .array .int
abbrev wsX10 : List Cond := u_ws RX1 TX1 10
theorem nmX1 : ∀ a, a < 10 → ∀ b, b < 10 → a ≠ b → (TX1 a).2.1 ≠ (TX1 b).2.1 := by decide +kernel
theorem tyX1_ok : ∀ k, k < 10 → parseFieldDescriptor (TX1 k).2.2.1 = some (tyX1 k) := by decide +kernel
abbrev cX1_init : ByteArray := prog_3_method_1_code
def yX1_init : MethodName := ⟨RX1, "<init>", "()V"⟩
abbrev cX1_becomeLike : ByteArray := prog_3_method_2_code
def yX1_becomeLike : MethodName := ⟨RX1, "becomeLike", "(LShaftPlay$Play;)V"⟩
abbrev cX1_addCam : ByteArray := prog_3_method_3_code
def yX1_addCam : MethodName := ⟨RX1, "addCam", "([I)I"⟩
abbrev cX1_addFigure : ByteArray := prog_3_method_4_code
def yX1_addFigure : MethodName := ⟨RX1, "addFigure", "(IIII)I"⟩
abbrev cX1_oneBehind : ByteArray := prog_3_method_5_code
def yX1_oneBehind : MethodName := ⟨RX1, "oneBehind", "(I)I"⟩
abbrev cX1_someAhead : ByteArray := prog_3_method_6_code
def yX1_someAhead : MethodName := ⟨RX1, "someAhead", "(II)I"⟩
abbrev cX1_hairOf : ByteArray := prog_3_method_7_code
def yX1_hairOf : MethodName := ⟨RX1, "hairOf", "([ILShaftPlay$Figure;I)I"⟩
abbrev cX1_heightOn : ByteArray := prog_3_method_8_code
def yX1_heightOn : MethodName := ⟨RX1, "heightOn", "([ILShaftPlay$Figure;I)I"⟩
abbrev cX1_slowHeight : ByteArray := prog_3_method_9_code
def yX1_slowHeight : MethodName := ⟨RX1, "slowHeight", "([ILShaftPlay$Figure;I)I"⟩
abbrev cX1_upsOn : ByteArray := prog_3_method_10_code
def yX1_upsOn : MethodName := ⟨RX1, "upsOn", "([ILShaftPlay$Figure;)I"⟩
abbrev cX1_upsOf : ByteArray := prog_3_method_11_code
def yX1_upsOf : MethodName := ⟨RX1, "upsOf", "(LShaftPlay$Figure;)I"⟩
abbrev cX1_figuresUpNow : ByteArray := prog_3_method_12_code
def yX1_figuresUpNow : MethodName := ⟨RX1, "figuresUpNow", "()I"⟩
abbrev cX1_strikesOf : ByteArray := prog_3_method_13_code
def yX1_strikesOf : MethodName := ⟨RX1, "strikesOf", "(LShaftPlay$Figure;LShaftPlay$Figure;)I"⟩
abbrev cX1_strikesInTurning : ByteArray := prog_3_method_14_code
def yX1_strikesInTurning : MethodName := ⟨RX1, "strikesInTurning", "(I)I"⟩
abbrev cX1_anglesToCome : ByteArray := prog_3_method_15_code
def yX1_anglesToCome : MethodName := ⟨RX1, "anglesToCome", "(I)I"⟩
abbrev cX1_goOn : ByteArray := prog_3_method_16_code
def yX1_goOn : MethodName := ⟨RX1, "goOn", "(I)V"⟩
abbrev cX1_pegsBy : ByteArray := prog_3_method_17_code
def yX1_pegsBy : MethodName := ⟨RX1, "pegsBy", "(LShaftPlay$Figure;I)I"⟩
abbrev cX1_beatsTill : ByteArray := prog_3_method_18_code
def yX1_beatsTill : MethodName := ⟨RX1, "beatsTill", "(I)I"⟩
abbrev cX1_angleAfter : ByteArray := prog_3_method_19_code
def yX1_angleAfter : MethodName := ⟨RX1, "angleAfter", "(I)I"⟩
def RX2 : String := "ShaftPlay$Sharing"
def TX2 : u_T := fun k => match k with
  | 0 => ("ShaftPlay$Sharing", "cam", "[I", true)
  | 1 => ("ShaftPlay$Sharing", "lag", "[I", true)
  | _ => ("ShaftPlay$Sharing", "lagsTogether", "[[I", true)
def tyX2 : Nat → FieldType := fun k => match k with
  | 0 => .array .int
  | 1 => .array .int
  | _ => .array (.array .int)
abbrev wsX20 : List Cond := u_ws RX2 TX2 3
theorem nmX2 : ∀ a, a < 3 → ∀ b, b < 3 → a ≠ b → (TX2 a).2.1 ≠ (TX2 b).2.1 := by decide +kernel
theorem tyX2_ok : ∀ k, k < 3 → parseFieldDescriptor (TX2 k).2.2.1 = some (tyX2 k) := by decide +kernel
abbrev cX2_init : ByteArray := prog_4_method_1_code
def yX2_init : MethodName := ⟨RX2, "<init>", "()V"⟩
abbrev cX2_compare : ByteArray := prog_4_method_2_code
def yX2_compare : MethodName := ⟨RX2, "compare", "([LShaftPlay$Figure;I)V"⟩
abbrev cX2_lagsOf : ByteArray := prog_4_method_3_code
def yX2_lagsOf : MethodName := ⟨RX2, "lagsOf", "(LShaftPlay$Figure;LShaftPlay$Figure;)I"⟩
abbrev cX2_lagsOn : ByteArray := prog_4_method_4_code
def yX2_lagsOn : MethodName := ⟨RX2, "lagsOn", "(II)I"⟩
def RX3 : String := "ShaftPlay$Sheet"
def TX3 : u_T := fun k => match k with
  | 0 => ("ShaftPlay$Sheet", "items", "[J", true)
  | 1 => ("ShaftPlay$Sheet", "lane", "I", false)
  | _ => ("ShaftPlay$Sheet", "size", "I", false)
def tyX3 : Nat → FieldType := fun k => match k with
  | 0 => .array .long
  | 1 => .int
  | _ => .int
abbrev wsX30 : List Cond := u_ws RX3 TX3 3
theorem nmX3 : ∀ a, a < 3 → ∀ b, b < 3 → a ≠ b → (TX3 a).2.1 ≠ (TX3 b).2.1 := by decide +kernel
theorem tyX3_ok : ∀ k, k < 3 → parseFieldDescriptor (TX3 k).2.2.1 = some (tyX3 k) := by decide +kernel
abbrev cX3_init : ByteArray := prog_5_method_1_code
def yX3_init : MethodName := ⟨RX3, "<init>", "()V"⟩
abbrev cX3_isNothing : ByteArray := prog_5_method_2_code
def yX3_isNothing : MethodName := ⟨RX3, "isNothing", "()Z"⟩
abbrev cX3_begin : ByteArray := prog_5_method_3_code
def yX3_begin : MethodName := ⟨RX3, "begin", "(II)V"⟩
abbrev cX3_end : ByteArray := prog_5_method_4_code
def yX3_end : MethodName := ⟨RX3, "end", "()I"⟩
abbrev cX3_hasItems : ByteArray := prog_5_method_5_code
def yX3_hasItems : MethodName := ⟨RX3, "hasItems", "(II)Z"⟩
abbrev cX3_put : ByteArray := prog_5_method_6_code
def yX3_put : MethodName := ⟨RX3, "put", "(IJ)V"⟩
def RX4 : String := "ShaftPlay$Tape"
def TX4 : u_T := fun k => match k with
  | 0 => ("ShaftPlay$Tape", "bytes", "[I", true)
  | 1 => ("ShaftPlay$Tape", "signs", "[I", true)
  | _ => ("ShaftPlay$Tape", "length", "I", false)
def tyX4 : Nat → FieldType := fun k => match k with
  | 0 => .array .int
  | 1 => .array .int
  | _ => .int
abbrev wsX40 : List Cond := u_ws RX4 TX4 3
theorem nmX4 : ∀ a, a < 3 → ∀ b, b < 3 → a ≠ b → (TX4 a).2.1 ≠ (TX4 b).2.1 := by decide +kernel
theorem tyX4_ok : ∀ k, k < 3 → parseFieldDescriptor (TX4 k).2.2.1 = some (tyX4 k) := by decide +kernel
abbrev cX4_init : ByteArray := prog_6_method_1_code
def yX4_init : MethodName := ⟨RX4, "<init>", "()V"⟩
abbrev cX4_append : ByteArray := prog_6_method_2_code
def yX4_append : MethodName := ⟨RX4, "append", "(JI)I"⟩
abbrev cX4_clear : ByteArray := prog_6_method_3_code
def yX4_clear : MethodName := ⟨RX4, "clear", "()V"⟩
abbrev cX4_read : ByteArray := prog_6_method_4_code
def yX4_read : MethodName := ⟨RX4, "read", "(Z)I"⟩
abbrev cX4_digitOf : ByteArray := prog_6_method_5_code
def yX4_digitOf : MethodName := ⟨RX4, "digitOf", "(I)I"⟩
abbrev cX4_wishSignOf : ByteArray := prog_6_method_6_code
def yX4_wishSignOf : MethodName := ⟨RX4, "wishSignOf", "(I)I"⟩
def RX5 : String := "ShaftPlay"
def TX5 : u_T := fun k => match k with
  | 0 => ("ShaftPlay", "now", "LShaftPlay$Play;", true)
  | 1 => ("ShaftPlay", "imaged", "LShaftPlay$Play;", true)
  | 2 => ("ShaftPlay", "hasImage", "Z", false)
  | 3 => ("ShaftPlay", "tape", "LShaftPlay$Tape;", true)
  | 4 => ("ShaftPlay", "sheets", "[LShaftPlay$Sheet;", true)
  | 5 => ("ShaftPlay", "sharing", "LShaftPlay$Sharing;", true)
  | _ => ("ShaftPlay", "wornHairs", "[I", true)
def tyX5 : Nat → FieldType := fun k => match k with
  | 0 => .object "ShaftPlay$Play"
  | 1 => .object "ShaftPlay$Play"
  | 2 => .boolean
  | 3 => .object "ShaftPlay$Tape"
  | 4 => .array (.object "ShaftPlay$Sheet")
  | 5 => .object "ShaftPlay$Sharing"
  | _ => .array .int
abbrev wsX50 : List Cond := u_ws RX5 TX5 7
theorem nmX5 : ∀ a, a < 7 → ∀ b, b < 7 → a ≠ b → (TX5 a).2.1 ≠ (TX5 b).2.1 := by decide +kernel
theorem tyX5_ok : ∀ k, k < 7 → parseFieldDescriptor (TX5 k).2.2.1 = some (tyX5 k) := by decide +kernel
abbrev cX5_init : ByteArray := prog_1_method_1_code
def yX5_init : MethodName := ⟨RX5, "<init>", "()V"⟩
abbrev cX5_type : ByteArray := prog_1_method_2_code
def yX5_type : MethodName := ⟨RX5, "type", "(JI)I"⟩
abbrev cX5_cam : ByteArray := prog_1_method_3_code
def yX5_cam : MethodName := ⟨RX5, "cam", "()I"⟩
abbrev cX5_cut : ByteArray := prog_1_method_4_code
def yX5_cut : MethodName := ⟨RX5, "cut", "(III)I"⟩
abbrev cX5_told : ByteArray := prog_1_method_5_code
def yX5_told : MethodName := ⟨RX5, "told", "(II)I"⟩
abbrev cX5_figure : ByteArray := prog_1_method_6_code
def yX5_figure : MethodName := ⟨RX5, "figure", "(IIII)I"⟩
abbrev cX5_set : ByteArray := prog_1_method_7_code
def yX5_set : MethodName := ⟨RX5, "set", "(III)I"⟩
abbrev cX5_wish : ByteArray := prog_1_method_8_code
def yX5_wish : MethodName := ⟨RX5, "wish", "(I)I"⟩
abbrev cX5_line : ByteArray := prog_1_method_9_code
def yX5_line : MethodName := ⟨RX5, "line", "(I)I"⟩
abbrev cX5_way : ByteArray := prog_1_method_10_code
def yX5_way : MethodName := ⟨RX5, "way", "(I)I"⟩
abbrev cX5_count : ByteArray := prog_1_method_11_code
def yX5_count : MethodName := ⟨RX5, "count", "(I)I"⟩
abbrev cX5_height : ByteArray := prog_1_method_12_code
def yX5_height : MethodName := ⟨RX5, "height", "(II)I"⟩
abbrev cX5_ups : ByteArray := prog_1_method_13_code
def yX5_ups : MethodName := ⟨RX5, "ups", "(I)I"⟩
abbrev cX5_turn : ByteArray := prog_1_method_14_code
def yX5_turn : MethodName := ⟨RX5, "turn", "(I)I"⟩
abbrev cX5_strikes : ByteArray := prog_1_method_15_code
def yX5_strikes : MethodName := ⟨RX5, "strikes", "(II)I"⟩
abbrev cX5_wear : ByteArray := prog_1_method_16_code
def yX5_wear : MethodName := ⟨RX5, "wear", "(I)I"⟩
abbrev cX5_missed : ByteArray := prog_1_method_17_code
def yX5_missed : MethodName := ⟨RX5, "missed", "(I)I"⟩
abbrev cX5_fewest : ByteArray := prog_1_method_18_code
def yX5_fewest : MethodName := ⟨RX5, "fewest", "()I"⟩
abbrev cX5_share : ByteArray := prog_1_method_19_code
def yX5_share : MethodName := ⟨RX5, "share", "(II)I"⟩
abbrev cX5_pegs : ByteArray := prog_1_method_20_code
def yX5_pegs : MethodName := ⟨RX5, "pegs", "(II)I"⟩
abbrev cX5_beats : ByteArray := prog_1_method_21_code
def yX5_beats : MethodName := ⟨RX5, "beats", "(II)I"⟩
abbrev cX5_when : ByteArray := prog_1_method_22_code
def yX5_when : MethodName := ⟨RX5, "when", "(I)I"⟩
abbrev cX5_at : ByteArray := prog_1_method_23_code
def yX5_at : MethodName := ⟨RX5, "at", "(I)I"⟩
abbrev cX5_hand : ByteArray := prog_1_method_24_code
def yX5_hand : MethodName := ⟨RX5, "hand", "(II)I"⟩
abbrev cX5_whose : ByteArray := prog_1_method_25_code
def yX5_whose : MethodName := ⟨RX5, "whose", "(I)I"⟩
abbrev cX5_image : ByteArray := prog_1_method_26_code
def yX5_image : MethodName := ⟨RX5, "image", "()I"⟩
abbrev cX5_restore : ByteArray := prog_1_method_27_code
def yX5_restore : MethodName := ⟨RX5, "restore", "()I"⟩
abbrev cX5_worn : ByteArray := prog_1_method_28_code
def yX5_worn : MethodName := ⟨RX5, "worn", "(IIII)I"⟩
abbrev cX5_film : ByteArray := prog_1_method_29_code
def yX5_film : MethodName := ⟨RX5, "film", "(IIII)I"⟩
abbrev cX5_sheet : ByteArray := prog_1_method_30_code
def yX5_sheet : MethodName := ⟨RX5, "sheet", "(III)I"⟩
abbrev cX5_drop : ByteArray := prog_1_method_31_code
def yX5_drop : MethodName := ⟨RX5, "drop", "(I)I"⟩
abbrev cX5_item : ByteArray := prog_1_method_32_code
def yX5_item : MethodName := ⟨RX5, "item", "(IIIJ)I"⟩
abbrev cX5_copy : ByteArray := prog_1_method_33_code
def yX5_copy : MethodName := ⟨RX5, "copy", "(IIIII)I"⟩
abbrev cX5_isWithin : ByteArray := prog_1_method_34_code
def yX5_isWithin : MethodName := ⟨RX5, "isWithin", "(III)Z"⟩
abbrev cX5_isAngle : ByteArray := prog_1_method_35_code
def yX5_isAngle : MethodName := ⟨RX5, "isAngle", "(I)Z"⟩
abbrev cX5_isKind : ByteArray := prog_1_method_36_code
def yX5_isKind : MethodName := ⟨RX5, "isKind", "(I)Z"⟩
abbrev cX5_isPlace : ByteArray := prog_1_method_37_code
def yX5_isPlace : MethodName := ⟨RX5, "isPlace", "(I)Z"⟩
abbrev cX5_isSheet : ByteArray := prog_1_method_38_code
def yX5_isSheet : MethodName := ⟨RX5, "isSheet", "(I)Z"⟩
abbrev cX5_isLane : ByteArray := prog_1_method_39_code
def yX5_isLane : MethodName := ⟨RX5, "isLane", "(I)Z"⟩
abbrev cX5_isCam : ByteArray := prog_1_method_40_code
def yX5_isCam : MethodName := ⟨RX5, "isCam", "(I)Z"⟩
abbrev cX5_isFigure : ByteArray := prog_1_method_41_code
def yX5_isFigure : MethodName := ⟨RX5, "isFigure", "(I)Z"⟩
abbrev cX5_areBytesOfTape : ByteArray := prog_1_method_42_code
def yX5_areBytesOfTape : MethodName := ⟨RX5, "areBytesOfTape", "(JI)Z"⟩
abbrev cX5_refusalOf : ByteArray := prog_1_method_43_code
def yX5_refusalOf : MethodName := ⟨RX5, "refusalOf", "(IIII)I"⟩
abbrev cX5_byteOf : ByteArray := prog_1_method_44_code
def yX5_byteOf : MethodName := ⟨RX5, "byteOf", "(JI)I"⟩
abbrev cX5_angleOf : ByteArray := prog_1_method_45_code
def yX5_angleOf : MethodName := ⟨RX5, "angleOf", "(I)I"⟩
abbrev cX5_movedOn : ByteArray := prog_1_method_46_code
def yX5_movedOn : MethodName := ⟨RX5, "movedOn", "(II)I"⟩
abbrev cX5_takeTape : ByteArray := prog_1_method_47_code
def yX5_takeTape : MethodName := ⟨RX5, "takeTape", "(Z)I"⟩
abbrev cX5_stepsIn : ByteArray := prog_1_method_48_code
def yX5_stepsIn : MethodName := ⟨RX5, "stepsIn", "([I)I"⟩
abbrev cX5_lessenInto : ByteArray := prog_1_method_49_code
def yX5_lessenInto : MethodName := ⟨RX5, "lessenInto", "([I[II)V"⟩
abbrev cX5_wornBy : ByteArray := prog_1_method_50_code
def yX5_wornBy : MethodName := ⟨RX5, "wornBy", "([II)I"⟩
abbrev cX5_wornByOneTurn : ByteArray := prog_1_method_51_code
def yX5_wornByOneTurn : MethodName := ⟨RX5, "wornByOneTurn", "([I)I"⟩
abbrev cX5_isSo : ByteArray := prog_1_method_52_code
def yX5_isSo : MethodName := ⟨RX5, "isSo", "(LShaftPlay$Sheet;II)Z"⟩
abbrev cX5_shareCams : ByteArray := prog_1_method_53_code
def yX5_shareCams : MethodName := ⟨RX5, "shareCams", "()I"⟩
abbrev cX5_isSeated : ByteArray := prog_1_method_54_code
def yX5_isSeated : MethodName := ⟨RX5, "isSeated", "(LShaftPlay$Sharing;IIII)Z"⟩
def RX6 : String := "ShaftPlayModel"
def TX6 : u_T := fun k => match k with
  | 0 => ("ShaftPlayModel", "w", "[I", true)
  | 1 => ("ShaftPlayModel", "isKept", "Z", false)
  | 2 => ("ShaftPlayModel", "tape", "[I", true)
  | 3 => ("ShaftPlayModel", "taped", "I", false)
  | 4 => ("ShaftPlayModel", "signs", "[I", true)
  | 5 => ("ShaftPlayModel", "hairs", "[I", true)
  | 6 => ("ShaftPlayModel", "first", "[I", true)
  | 7 => ("ShaftPlayModel", "cams", "[I", true)
  | 8 => ("ShaftPlayModel", "lags", "[I", true)
  | 9 => ("ShaftPlayModel", "asksUp", "[I", true)
  | 10 => ("ShaftPlayModel", "asksDown", "[I", true)
  | 11 => ("ShaftPlayModel", "lanes", "[I", true)
  | 12 => ("ShaftPlayModel", "sizes", "[I", true)
  | 13 => ("ShaftPlayModel", "items", "[J", true)
  | _ => ("ShaftPlayModel", "taken", "[J", true)
def tyX6 : Nat → FieldType := fun k => match k with
  | 0 => .array .int
  | 1 => .boolean
  | 2 => .array .int
  | 3 => .int
  | 4 => .array .int
  | 5 => .array .int
  | 6 => .array .int
  | 7 => .array .int
  | 8 => .array .int
  | 9 => .array .int
  | 10 => .array .int
  | 11 => .array .int
  | 12 => .array .int
  | 13 => .array .long
  | _ => .array .long
abbrev wsX60 : List Cond := u_ws RX6 TX6 15
theorem nmX6 : ∀ a, a < 15 → ∀ b, b < 15 → a ≠ b → (TX6 a).2.1 ≠ (TX6 b).2.1 := by decide +kernel
theorem tyX6_ok : ∀ k, k < 15 → parseFieldDescriptor (TX6 k).2.2.1 = some (tyX6 k) := by decide +kernel
abbrev cX6_init : ByteArray := prog_8_method_1_code
def yX6_init : MethodName := ⟨RX6, "<init>", "()V"⟩
abbrev cX6_in : ByteArray := prog_8_method_3_code
def yX6_in : MethodName := ⟨RX6, "in", "(JJJ)Z"⟩
abbrev cX6_has : ByteArray := prog_8_method_4_code
def yX6_has : MethodName := ⟨RX6, "has", "(II)Z"⟩
abbrev cX6_ones : ByteArray := prog_8_method_5_code
def yX6_ones : MethodName := ⟨RX6, "ones", "(I)I"⟩
abbrev cX6_isAngle : ByteArray := prog_8_method_6_code
def yX6_isAngle : MethodName := ⟨RX6, "isAngle", "(I)Z"⟩
abbrev cX6_isCam : ByteArray := prog_8_method_7_code
def yX6_isCam : MethodName := ⟨RX6, "isCam", "(I)Z"⟩
abbrev cX6_isFigure : ByteArray := prog_8_method_8_code
def yX6_isFigure : MethodName := ⟨RX6, "isFigure", "(I)Z"⟩
abbrev cX6_type : ByteArray := prog_8_method_9_code
def yX6_type : MethodName := ⟨RX6, "type", "(JI)I"⟩
abbrev cX6_isSign : ByteArray := prog_8_method_10_code
def yX6_isSign : MethodName := ⟨RX6, "isSign", "(IZ)Z"⟩
abbrev cX6_takeSigns : ByteArray := prog_8_method_11_code
def yX6_takeSigns : MethodName := ⟨RX6, "takeSigns", "(Z)I"⟩
abbrev cX6_cam : ByteArray := prog_8_method_12_code
def yX6_cam : MethodName := ⟨RX6, "cam", "()I"⟩
abbrev cX6_cut : ByteArray := prog_8_method_13_code
def yX6_cut : MethodName := ⟨RX6, "cut", "(III)I"⟩
abbrev cX6_told : ByteArray := prog_8_method_14_code
def yX6_told : MethodName := ⟨RX6, "told", "(II)I"⟩
abbrev cX6_isGood : ByteArray := prog_8_method_15_code
def yX6_isGood : MethodName := ⟨RX6, "isGood", "(II)Z"⟩
abbrev cX6_figure : ByteArray := prog_8_method_16_code
def yX6_figure : MethodName := ⟨RX6, "figure", "(IIII)I"⟩
abbrev cX6_set : ByteArray := prog_8_method_17_code
def yX6_set : MethodName := ⟨RX6, "set", "(III)I"⟩
abbrev cX6_wish : ByteArray := prog_8_method_18_code
def yX6_wish : MethodName := ⟨RX6, "wish", "(I)I"⟩
abbrev cX6_line : ByteArray := prog_8_method_19_code
def yX6_line : MethodName := ⟨RX6, "line", "(I)I"⟩
abbrev cX6_way : ByteArray := prog_8_method_20_code
def yX6_way : MethodName := ⟨RX6, "way", "(I)I"⟩
abbrev cX6_aheadOf : ByteArray := prog_8_method_21_code
def yX6_aheadOf : MethodName := ⟨RX6, "aheadOf", "(I)I"⟩
abbrev cX6_behind : ByteArray := prog_8_method_22_code
def yX6_behind : MethodName := ⟨RX6, "behind", "(I)I"⟩
abbrev cX6_hairOf : ByteArray := prog_8_method_23_code
def yX6_hairOf : MethodName := ⟨RX6, "hairOf", "(II)I"⟩
abbrev cX6_heightOf : ByteArray := prog_8_method_24_code
def yX6_heightOf : MethodName := ⟨RX6, "heightOf", "(II)I"⟩
abbrev cX6_upsOf : ByteArray := prog_8_method_25_code
def yX6_upsOf : MethodName := ⟨RX6, "upsOf", "(I)I"⟩
abbrev cX6_height : ByteArray := prog_8_method_26_code
def yX6_height : MethodName := ⟨RX6, "height", "(II)I"⟩
abbrev cX6_ups : ByteArray := prog_8_method_27_code
def yX6_ups : MethodName := ⟨RX6, "ups", "(I)I"⟩
abbrev cX6_strikesOf : ByteArray := prog_8_method_28_code
def yX6_strikesOf : MethodName := ⟨RX6, "strikesOf", "(II)I"⟩
abbrev cX6_strikes : ByteArray := prog_8_method_29_code
def yX6_strikes : MethodName := ⟨RX6, "strikes", "(II)I"⟩
abbrev cX6_turn : ByteArray := prog_8_method_30_code
def yX6_turn : MethodName := ⟨RX6, "turn", "(I)I"⟩
abbrev cX6_wear : ByteArray := prog_8_method_31_code
def yX6_wear : MethodName := ⟨RX6, "wear", "(I)I"⟩
abbrev cX6_missed : ByteArray := prog_8_method_32_code
def yX6_missed : MethodName := ⟨RX6, "missed", "(I)I"⟩
abbrev cX6_turned : ByteArray := prog_8_method_33_code
def yX6_turned : MethodName := ⟨RX6, "turned", "(II)I"⟩
abbrev cX6_puts : ByteArray := prog_8_method_34_code
def yX6_puts : MethodName := ⟨RX6, "puts", "(I)Z"⟩
abbrev cX6_camsUsed : ByteArray := prog_8_method_35_code
def yX6_camsUsed : MethodName := ⟨RX6, "camsUsed", "(I)I"⟩
abbrev cX6_sharesBy : ByteArray := prog_8_method_36_code
def yX6_sharesBy : MethodName := ⟨RX6, "sharesBy", "(I)Z"⟩
abbrev cX6_fewest : ByteArray := prog_8_method_37_code
def yX6_fewest : MethodName := ⟨RX6, "fewest", "()I"⟩
abbrev cX6_share : ByteArray := prog_8_method_38_code
def yX6_share : MethodName := ⟨RX6, "share", "(II)I"⟩
abbrev cX6_pegs : ByteArray := prog_8_method_39_code
def yX6_pegs : MethodName := ⟨RX6, "pegs", "(II)I"⟩
abbrev cX6_beats : ByteArray := prog_8_method_40_code
def yX6_beats : MethodName := ⟨RX6, "beats", "(II)I"⟩
abbrev cX6_when : ByteArray := prog_8_method_41_code
def yX6_when : MethodName := ⟨RX6, "when", "(I)I"⟩
abbrev cX6_at : ByteArray := prog_8_method_42_code
def yX6_at : MethodName := ⟨RX6, "at", "(I)I"⟩
abbrev cX6_hand : ByteArray := prog_8_method_43_code
def yX6_hand : MethodName := ⟨RX6, "hand", "(II)I"⟩
abbrev cX6_whose : ByteArray := prog_8_method_44_code
def yX6_whose : MethodName := ⟨RX6, "whose", "(I)I"⟩
abbrev cX6_image : ByteArray := prog_8_method_45_code
def yX6_image : MethodName := ⟨RX6, "image", "()I"⟩
abbrev cX6_restore : ByteArray := prog_8_method_46_code
def yX6_restore : MethodName := ⟨RX6, "restore", "()I"⟩
abbrev cX6_count : ByteArray := prog_8_method_47_code
def yX6_count : MethodName := ⟨RX6, "count", "(I)I"⟩
abbrev cX6_isSheet : ByteArray := prog_8_method_48_code
def yX6_isSheet : MethodName := ⟨RX6, "isSheet", "(I)Z"⟩
abbrev cX6_bars : ByteArray := prog_8_method_49_code
def yX6_bars : MethodName := ⟨RX6, "bars", "(IIII)I"⟩
abbrev cX6_cutTo : ByteArray := prog_8_method_50_code
def yX6_cutTo : MethodName := ⟨RX6, "cutTo", "(IJ)J"⟩
abbrev cX6_isSo : ByteArray := prog_8_method_51_code
def yX6_isSo : MethodName := ⟨RX6, "isSo", "(I)Z"⟩
abbrev cX6_worn : ByteArray := prog_8_method_52_code
def yX6_worn : MethodName := ⟨RX6, "worn", "(IIII)I"⟩
abbrev cX6_film : ByteArray := prog_8_method_53_code
def yX6_film : MethodName := ⟨RX6, "film", "(IIII)I"⟩
abbrev cX6_sheet : ByteArray := prog_8_method_54_code
def yX6_sheet : MethodName := ⟨RX6, "sheet", "(III)I"⟩
abbrev cX6_drop : ByteArray := prog_8_method_55_code
def yX6_drop : MethodName := ⟨RX6, "drop", "(I)I"⟩
abbrev cX6_item : ByteArray := prog_8_method_56_code
def yX6_item : MethodName := ⟨RX6, "item", "(IIIJ)I"⟩
abbrev cX6_copy : ByteArray := prog_8_method_57_code
def yX6_copy : MethodName := ⟨RX6, "copy", "(IIIII)I"⟩
def RJ6 : String := "java/lang/Integer"
def TJ6 : u_T := fun k => match k with
  | _ => ("", "", "", false)
def tyJ6 : Nat → FieldType := fun k => match k with
  | _ => .int
abbrev wsJ60 : List Cond := u_ws RJ6 TJ6 0
theorem nmJ6 : ∀ a, a < 0 → ∀ b, b < 0 → a ≠ b → (TJ6 a).2.1 ≠ (TJ6 b).2.1 := by decide +kernel
theorem tyJ6_ok : ∀ k, k < 0 → parseFieldDescriptor (TJ6 k).2.2.1 = some (tyJ6 k) := by decide +kernel
abbrev cJ6_bitCount_0f7a4 : ByteArray := prog_9_method_49_code
def yJ6_bitCount_0f7a4 : MethodName := ⟨RJ6, "bitCount", "(I)I"⟩
def RJ9 : String := "java/lang/Math"
def TJ9 : u_T := fun k => match k with
  | _ => ("", "", "", false)
def tyJ9 : Nat → FieldType := fun k => match k with
  | _ => .int
abbrev wsJ90 : List Cond := u_ws RJ9 TJ9 0
theorem nmJ9 : ∀ a, a < 0 → ∀ b, b < 0 → a ≠ b → (TJ9 a).2.1 ≠ (TJ9 b).2.1 := by decide +kernel
theorem tyJ9_ok : ∀ k, k < 0 → parseFieldDescriptor (TJ9 k).2.2.1 = some (tyJ9 k) := by decide +kernel
abbrev cJ9_floorMod_7cf53 : ByteArray := prog_10_method_50_code
def yJ9_floorMod_7cf53 : MethodName := ⟨RJ9, "floorMod", "(II)I"⟩
abbrev cJ9_abs_0f7a4 : ByteArray := prog_10_method_59_code
def yJ9_abs_0f7a4 : MethodName := ⟨RJ9, "abs", "(I)I"⟩
abbrev cJ9_max_7cf53 : ByteArray := prog_10_method_65_code
def yJ9_max_7cf53 : MethodName := ⟨RJ9, "max", "(II)I"⟩
abbrev cJ9_min_7cf53 : ByteArray := prog_10_method_69_code
def yJ9_min_7cf53 : MethodName := ⟨RJ9, "min", "(II)I"⟩
def RJ10 : String := "java/lang/System"
def TJ10 : u_T := fun k => match k with
  | _ => ("", "", "", false)
def tyJ10 : Nat → FieldType := fun k => match k with
  | _ => .int
abbrev wsJ100 : List Cond := u_ws RJ10 TJ10 0
theorem nmJ10 : ∀ a, a < 0 → ∀ b, b < 0 → a ≠ b → (TJ10 a).2.1 ≠ (TJ10 b).2.1 := by decide +kernel
theorem tyJ10_ok : ∀ k, k < 0 → parseFieldDescriptor (TJ10 k).2.2.1 = some (tyJ10 k) := by decide +kernel
def RJ7 : String := "java/util/Arrays"
def TJ7 : u_T := fun k => match k with
  | _ => ("", "", "", false)
def tyJ7 : Nat → FieldType := fun k => match k with
  | _ => .int
abbrev wsJ70 : List Cond := u_ws RJ7 TJ7 0
theorem nmJ7 : ∀ a, a < 0 → ∀ b, b < 0 → a ≠ b → (TJ7 a).2.1 ≠ (TJ7 b).2.1 := by decide +kernel
theorem tyJ7_ok : ∀ k, k < 0 → parseFieldDescriptor (TJ7 k).2.2.1 = some (tyJ7 k) := by decide +kernel
abbrev cJ7_fill_d0a16 : ByteArray := prog_12_method_101_code
def yJ7_fill_d0a16 : MethodName := ⟨RJ7, "fill", "([JJ)V"⟩
abbrev cJ7_fill_53178 : ByteArray := prog_12_method_103_code
def yJ7_fill_53178 : MethodName := ⟨RJ7, "fill", "([II)V"⟩
def RL : String := "ShaftPlayLaw"
abbrev cL_law : ByteArray := code
def yL_law : MethodName := ⟨RL, "law", "([I)Z"⟩
abbrev vwCl : List vw_C := [(RX0, TX0, 6), (RX1, TX1, 10), (RX2, TX2, 3), (RX3, TX3, 3), (RX4, TX4, 3), (RX5, TX5, 7), (RX6, TX6, 15)]
end
section
theorem dX0_init_0 : decode cX0_init 0 = .ok (.aload_n 0, 1) := by decide +kernel
theorem dX0_init_1 : decode cX0_init 1 = .ok (.invokespecial 3, 3) := by decide +kernel
theorem dX0_init_4 : decode cX0_init 4 = .ok (.return_, 1) := by decide +kernel
theorem dX0_changeKind_0 : decode cX0_changeKind 0 = .ok (.aload_n 0, 1) := by decide +kernel
theorem dX0_changeKind_1 : decode cX0_changeKind 1 = .ok (.getfield 9, 3) := by decide +kernel
theorem dX0_changeKind_4 : decode cX0_changeKind 4 = .ok (.istore_n 2, 1) := by decide +kernel
theorem dX0_changeKind_5 : decode cX0_changeKind 5 = .ok (.aload_n 0, 1) := by decide +kernel
theorem dX0_changeKind_6 : decode cX0_changeKind 6 = .ok (.iload_n 1, 1) := by decide +kernel
theorem dX0_changeKind_7 : decode cX0_changeKind 7 = .ok (.putfield 9, 3) := by decide +kernel
theorem dX0_changeKind_10 : decode cX0_changeKind 10 = .ok (.iload_n 2, 1) := by decide +kernel
theorem dX0_changeKind_11 : decode cX0_changeKind 11 = .ok (.ireturn, 1) := by decide +kernel
theorem dX0_changeCam_0 : decode cX0_changeCam 0 = .ok (.aload_n 0, 1) := by decide +kernel
theorem dX0_changeCam_1 : decode cX0_changeCam 1 = .ok (.getfield 15, 3) := by decide +kernel
theorem dX0_changeCam_4 : decode cX0_changeCam 4 = .ok (.istore_n 2, 1) := by decide +kernel
theorem dX0_changeCam_5 : decode cX0_changeCam 5 = .ok (.aload_n 0, 1) := by decide +kernel
theorem dX0_changeCam_6 : decode cX0_changeCam 6 = .ok (.iload_n 1, 1) := by decide +kernel
theorem dX0_changeCam_7 : decode cX0_changeCam 7 = .ok (.putfield 15, 3) := by decide +kernel
theorem dX0_changeCam_10 : decode cX0_changeCam 10 = .ok (.iload_n 2, 1) := by decide +kernel
theorem dX0_changeCam_11 : decode cX0_changeCam 11 = .ok (.ireturn, 1) := by decide +kernel
theorem dX0_changeLag_0 : decode cX0_changeLag 0 = .ok (.aload_n 0, 1) := by decide +kernel
theorem dX0_changeLag_1 : decode cX0_changeLag 1 = .ok (.getfield 18, 3) := by decide +kernel
theorem dX0_changeLag_4 : decode cX0_changeLag 4 = .ok (.istore_n 2, 1) := by decide +kernel
theorem dX0_changeLag_5 : decode cX0_changeLag 5 = .ok (.aload_n 0, 1) := by decide +kernel
theorem dX0_changeLag_6 : decode cX0_changeLag 6 = .ok (.iload_n 1, 1) := by decide +kernel
theorem dX0_changeLag_7 : decode cX0_changeLag 7 = .ok (.putfield 18, 3) := by decide +kernel
theorem dX0_changeLag_10 : decode cX0_changeLag 10 = .ok (.iload_n 2, 1) := by decide +kernel
theorem dX0_changeLag_11 : decode cX0_changeLag 11 = .ok (.ireturn, 1) := by decide +kernel
theorem dX0_changePlace_0 : decode cX0_changePlace 0 = .ok (.aload_n 0, 1) := by decide +kernel
theorem dX0_changePlace_1 : decode cX0_changePlace 1 = .ok (.getfield 21, 3) := by decide +kernel
theorem dX0_changePlace_4 : decode cX0_changePlace 4 = .ok (.istore_n 2, 1) := by decide +kernel
theorem dX0_changePlace_5 : decode cX0_changePlace 5 = .ok (.aload_n 0, 1) := by decide +kernel
theorem dX0_changePlace_6 : decode cX0_changePlace 6 = .ok (.iload_n 1, 1) := by decide +kernel
theorem dX0_changePlace_7 : decode cX0_changePlace 7 = .ok (.putfield 21, 3) := by decide +kernel
theorem dX0_changePlace_10 : decode cX0_changePlace 10 = .ok (.iload_n 2, 1) := by decide +kernel
theorem dX0_changePlace_11 : decode cX0_changePlace 11 = .ok (.ireturn, 1) := by decide +kernel
theorem dX0_wishFor_0 : decode cX0_wishFor 0 = .ok (.aload_n 0, 1) := by decide +kernel
theorem dX0_wishFor_1 : decode cX0_wishFor 1 = .ok (.iconst 0, 1) := by decide +kernel
theorem dX0_wishFor_2 : decode cX0_wishFor 2 = .ok (.putfield 24, 3) := by decide +kernel
theorem dX0_wishFor_5 : decode cX0_wishFor 5 = .ok (.aload_n 0, 1) := by decide +kernel
theorem dX0_wishFor_6 : decode cX0_wishFor 6 = .ok (.iconst 0, 1) := by decide +kernel
theorem dX0_wishFor_7 : decode cX0_wishFor 7 = .ok (.putfield 27, 3) := by decide +kernel
theorem dX0_wishFor_10 : decode cX0_wishFor 10 = .ok (.iconst 0, 1) := by decide +kernel
theorem dX0_wishFor_11 : decode cX0_wishFor 11 = .ok (.istore_n 2, 1) := by decide +kernel
theorem dX0_wishFor_12 : decode cX0_wishFor 12 = .ok (.iload_n 2, 1) := by decide +kernel
theorem dX0_wishFor_13 : decode cX0_wishFor 13 = .ok (.bipush 12, 2) := by decide +kernel
theorem dX0_wishFor_15 : decode cX0_wishFor 15 = .ok (.if_icmp .ge 52, 3) := by decide +kernel
theorem dX0_wishFor_18 : decode cX0_wishFor 18 = .ok (.aload_n 1, 1) := by decide +kernel
theorem dX0_wishFor_19 : decode cX0_wishFor 19 = .ok (.iload_n 2, 1) := by decide +kernel
theorem dX0_wishFor_20 : decode cX0_wishFor 20 = .ok (.iaload, 1) := by decide +kernel
theorem dX0_wishFor_21 : decode cX0_wishFor 21 = .ok (.bipush 117, 2) := by decide +kernel
theorem dX0_wishFor_23 : decode cX0_wishFor 23 = .ok (.if_icmp .ne 18, 3) := by decide +kernel
theorem dX0_wishFor_26 : decode cX0_wishFor 26 = .ok (.aload_n 0, 1) := by decide +kernel
theorem dX0_wishFor_27 : decode cX0_wishFor 27 = .ok (.dup, 1) := by decide +kernel
theorem dX0_wishFor_28 : decode cX0_wishFor 28 = .ok (.getfield 24, 3) := by decide +kernel
theorem dX0_wishFor_31 : decode cX0_wishFor 31 = .ok (.iconst 1, 1) := by decide +kernel
theorem dX0_wishFor_32 : decode cX0_wishFor 32 = .ok (.iload_n 2, 1) := by decide +kernel
theorem dX0_wishFor_33 : decode cX0_wishFor 33 = .ok (.ishl, 1) := by decide +kernel
theorem dX0_wishFor_34 : decode cX0_wishFor 34 = .ok (.ior, 1) := by decide +kernel
theorem dX0_wishFor_35 : decode cX0_wishFor 35 = .ok (.putfield 24, 3) := by decide +kernel
theorem dX0_wishFor_38 : decode cX0_wishFor 38 = .ok (.goto 23, 3) := by decide +kernel
theorem dX0_wishFor_41 : decode cX0_wishFor 41 = .ok (.aload_n 1, 1) := by decide +kernel
theorem dX0_wishFor_42 : decode cX0_wishFor 42 = .ok (.iload_n 2, 1) := by decide +kernel
theorem dX0_wishFor_43 : decode cX0_wishFor 43 = .ok (.iaload, 1) := by decide +kernel
theorem dX0_wishFor_44 : decode cX0_wishFor 44 = .ok (.bipush 100, 2) := by decide +kernel
theorem dX0_wishFor_46 : decode cX0_wishFor 46 = .ok (.if_icmp .ne 15, 3) := by decide +kernel
theorem dX0_wishFor_49 : decode cX0_wishFor 49 = .ok (.aload_n 0, 1) := by decide +kernel
theorem dX0_wishFor_50 : decode cX0_wishFor 50 = .ok (.dup, 1) := by decide +kernel
theorem dX0_wishFor_51 : decode cX0_wishFor 51 = .ok (.getfield 27, 3) := by decide +kernel
theorem dX0_wishFor_54 : decode cX0_wishFor 54 = .ok (.iconst 1, 1) := by decide +kernel
theorem dX0_wishFor_55 : decode cX0_wishFor 55 = .ok (.iload_n 2, 1) := by decide +kernel
theorem dX0_wishFor_56 : decode cX0_wishFor 56 = .ok (.ishl, 1) := by decide +kernel
theorem dX0_wishFor_57 : decode cX0_wishFor 57 = .ok (.ior, 1) := by decide +kernel
theorem dX0_wishFor_58 : decode cX0_wishFor 58 = .ok (.putfield 27, 3) := by decide +kernel
theorem dX0_wishFor_61 : decode cX0_wishFor 61 = .ok (.iinc 2 1, 3) := by decide +kernel
theorem dX0_wishFor_64 : decode cX0_wishFor 64 = .ok (.goto (-52), 3) := by decide +kernel
theorem dX0_wishFor_67 : decode cX0_wishFor 67 = .ok (.aload_n 0, 1) := by decide +kernel
theorem dX0_wishFor_68 : decode cX0_wishFor 68 = .ok (.getfield 24, 3) := by decide +kernel
theorem dX0_wishFor_71 : decode cX0_wishFor 71 = .ok (.aload_n 0, 1) := by decide +kernel
theorem dX0_wishFor_72 : decode cX0_wishFor 72 = .ok (.getfield 27, 3) := by decide +kernel
theorem dX0_wishFor_75 : decode cX0_wishFor 75 = .ok (.ior, 1) := by decide +kernel
theorem dX0_wishFor_76 : decode cX0_wishFor 76 = .ok (.invokestatic 30, 3) := by decide +kernel
theorem dX0_wishFor_79 : decode cX0_wishFor 79 = .ok (.ireturn, 1) := by decide +kernel
theorem dX0_missedWith_0 : decode cX0_missedWith 0 = .ok (.aload_n 0, 1) := by decide +kernel
theorem dX0_missedWith_1 : decode cX0_missedWith 1 = .ok (.getfield 24, 3) := by decide +kernel
theorem dX0_missedWith_4 : decode cX0_missedWith 4 = .ok (.iload_n 1, 1) := by decide +kernel
theorem dX0_missedWith_5 : decode cX0_missedWith 5 = .ok (.iconst (-1), 1) := by decide +kernel
theorem dX0_missedWith_6 : decode cX0_missedWith 6 = .ok (.ixor, 1) := by decide +kernel
theorem dX0_missedWith_7 : decode cX0_missedWith 7 = .ok (.iand, 1) := by decide +kernel
theorem dX0_missedWith_8 : decode cX0_missedWith 8 = .ok (.aload_n 0, 1) := by decide +kernel
theorem dX0_missedWith_9 : decode cX0_missedWith 9 = .ok (.getfield 27, 3) := by decide +kernel
theorem dX0_missedWith_12 : decode cX0_missedWith 12 = .ok (.iload_n 1, 1) := by decide +kernel
theorem dX0_missedWith_13 : decode cX0_missedWith 13 = .ok (.iand, 1) := by decide +kernel
theorem dX0_missedWith_14 : decode cX0_missedWith 14 = .ok (.ior, 1) := by decide +kernel
theorem dX0_missedWith_15 : decode cX0_missedWith 15 = .ok (.ireturn, 1) := by decide +kernel
theorem dX0_becomeLike_0 : decode cX0_becomeLike 0 = .ok (.aload_n 0, 1) := by decide +kernel
theorem dX0_becomeLike_1 : decode cX0_becomeLike 1 = .ok (.aload_n 1, 1) := by decide +kernel
theorem dX0_becomeLike_2 : decode cX0_becomeLike 2 = .ok (.getfield 9, 3) := by decide +kernel
theorem dX0_becomeLike_5 : decode cX0_becomeLike 5 = .ok (.putfield 9, 3) := by decide +kernel
theorem dX0_becomeLike_8 : decode cX0_becomeLike 8 = .ok (.aload_n 0, 1) := by decide +kernel
theorem dX0_becomeLike_9 : decode cX0_becomeLike 9 = .ok (.aload_n 1, 1) := by decide +kernel
theorem dX0_becomeLike_10 : decode cX0_becomeLike 10 = .ok (.getfield 15, 3) := by decide +kernel
theorem dX0_becomeLike_13 : decode cX0_becomeLike 13 = .ok (.putfield 15, 3) := by decide +kernel
theorem dX0_becomeLike_16 : decode cX0_becomeLike 16 = .ok (.aload_n 0, 1) := by decide +kernel
theorem dX0_becomeLike_17 : decode cX0_becomeLike 17 = .ok (.aload_n 1, 1) := by decide +kernel
theorem dX0_becomeLike_18 : decode cX0_becomeLike 18 = .ok (.getfield 18, 3) := by decide +kernel
theorem dX0_becomeLike_21 : decode cX0_becomeLike 21 = .ok (.putfield 18, 3) := by decide +kernel
theorem dX0_becomeLike_24 : decode cX0_becomeLike 24 = .ok (.aload_n 0, 1) := by decide +kernel
theorem dX0_becomeLike_25 : decode cX0_becomeLike 25 = .ok (.aload_n 1, 1) := by decide +kernel
theorem dX0_becomeLike_26 : decode cX0_becomeLike 26 = .ok (.getfield 21, 3) := by decide +kernel
theorem dX0_becomeLike_29 : decode cX0_becomeLike 29 = .ok (.putfield 21, 3) := by decide +kernel
theorem dX0_becomeLike_32 : decode cX0_becomeLike 32 = .ok (.aload_n 0, 1) := by decide +kernel
theorem dX0_becomeLike_33 : decode cX0_becomeLike 33 = .ok (.aload_n 1, 1) := by decide +kernel
theorem dX0_becomeLike_34 : decode cX0_becomeLike 34 = .ok (.getfield 24, 3) := by decide +kernel
theorem dX0_becomeLike_37 : decode cX0_becomeLike 37 = .ok (.putfield 24, 3) := by decide +kernel
theorem dX0_becomeLike_40 : decode cX0_becomeLike 40 = .ok (.aload_n 0, 1) := by decide +kernel
theorem dX0_becomeLike_41 : decode cX0_becomeLike 41 = .ok (.aload_n 1, 1) := by decide +kernel
theorem dX0_becomeLike_42 : decode cX0_becomeLike 42 = .ok (.getfield 27, 3) := by decide +kernel
theorem dX0_becomeLike_45 : decode cX0_becomeLike 45 = .ok (.putfield 27, 3) := by decide +kernel
theorem dX0_becomeLike_48 : decode cX0_becomeLike 48 = .ok (.return_, 1) := by decide +kernel
theorem dX1_init_0 : decode cX1_init 0 = .ok (.aload_n 0, 1) := by decide +kernel
theorem dX1_init_1 : decode cX1_init 1 = .ok (.invokespecial 3, 3) := by decide +kernel
theorem dX1_init_4 : decode cX1_init 4 = .ok (.aload_n 0, 1) := by decide +kernel
theorem dX1_init_5 : decode cX1_init 5 = .ok (.bipush 6, 2) := by decide +kernel
theorem dX1_init_7 : decode cX1_init 7 = .ok (.bipush 12, 2) := by decide +kernel
theorem dX1_init_9 : decode cX1_init 9 = .ok (.multianewarray 9 2, 4) := by decide +kernel
theorem dX1_init_13 : decode cX1_init 13 = .ok (.putfield 11, 3) := by decide +kernel
theorem dX1_init_16 : decode cX1_init 16 = .ok (.aload_n 0, 1) := by decide +kernel
theorem dX1_init_17 : decode cX1_init 17 = .ok (.iconst 5, 1) := by decide +kernel
theorem dX1_init_18 : decode cX1_init 18 = .ok (.anewarray 16, 3) := by decide +kernel
theorem dX1_init_21 : decode cX1_init 21 = .ok (.putfield 18, 3) := by decide +kernel
theorem dX1_init_24 : decode cX1_init 24 = .ok (.iconst 0, 1) := by decide +kernel
theorem dX1_init_25 : decode cX1_init 25 = .ok (.istore_n 1, 1) := by decide +kernel
theorem dX1_init_26 : decode cX1_init 26 = .ok (.iload_n 1, 1) := by decide +kernel
theorem dX1_init_27 : decode cX1_init 27 = .ok (.iconst 5, 1) := by decide +kernel
theorem dX1_init_28 : decode cX1_init 28 = .ok (.if_icmp .ge 22, 3) := by decide +kernel
theorem dX1_init_31 : decode cX1_init 31 = .ok (.aload_n 0, 1) := by decide +kernel
theorem dX1_init_32 : decode cX1_init 32 = .ok (.getfield 18, 3) := by decide +kernel
theorem dX1_init_35 : decode cX1_init 35 = .ok (.iload_n 1, 1) := by decide +kernel
theorem dX1_init_36 : decode cX1_init 36 = .ok (.new 16, 3) := by decide +kernel
theorem dX1_init_39 : decode cX1_init 39 = .ok (.dup, 1) := by decide +kernel
theorem dX1_init_40 : decode cX1_init 40 = .ok (.invokespecial 22, 3) := by decide +kernel
theorem dX1_init_43 : decode cX1_init 43 = .ok (.aastore, 1) := by decide +kernel
theorem dX1_init_44 : decode cX1_init 44 = .ok (.iinc 1 1, 3) := by decide +kernel
theorem dX1_init_47 : decode cX1_init 47 = .ok (.goto (-21), 3) := by decide +kernel
theorem dX1_init_50 : decode cX1_init 50 = .ok (.aload_n 0, 1) := by decide +kernel
theorem dX1_init_51 : decode cX1_init 51 = .ok (.iconst 5, 1) := by decide +kernel
theorem dX1_init_52 : decode cX1_init 52 = .ok (.putfield 23, 3) := by decide +kernel
theorem dX1_init_55 : decode cX1_init 55 = .ok (.aload_n 0, 1) := by decide +kernel
theorem dX1_init_56 : decode cX1_init 56 = .ok (.bipush 12, 2) := by decide +kernel
theorem dX1_init_58 : decode cX1_init 58 = .ok (.newarray .int, 2) := by decide +kernel
theorem dX1_init_60 : decode cX1_init 60 = .ok (.putfield 27, 3) := by decide +kernel
theorem dX1_init_63 : decode cX1_init 63 = .ok (.aload_n 0, 1) := by decide +kernel
theorem dX1_init_64 : decode cX1_init 64 = .ok (.getfield 27, 3) := by decide +kernel
theorem dX1_init_67 : decode cX1_init 67 = .ok (.iconst 1, 1) := by decide +kernel
theorem dX1_init_68 : decode cX1_init 68 = .ok (.invokestatic 31, 3) := by decide +kernel
theorem dX1_init_71 : decode cX1_init 71 = .ok (.aload_n 0, 1) := by decide +kernel
theorem dX1_init_72 : decode cX1_init 72 = .ok (.iconst 4, 1) := by decide +kernel
theorem dX1_init_73 : decode cX1_init 73 = .ok (.newarray .int, 2) := by decide +kernel
theorem dX1_init_75 : decode cX1_init 75 = .ok (.putfield 37, 3) := by decide +kernel
theorem dX1_init_78 : decode cX1_init 78 = .ok (.aload_n 0, 1) := by decide +kernel
theorem dX1_init_79 : decode cX1_init 79 = .ok (.getfield 37, 3) := by decide +kernel
theorem dX1_init_82 : decode cX1_init 82 = .ok (.sipush 1023, 3) := by decide +kernel
theorem dX1_init_85 : decode cX1_init 85 = .ok (.invokestatic 31, 3) := by decide +kernel
theorem dX1_init_88 : decode cX1_init 88 = .ok (.return_, 1) := by decide +kernel
theorem dX1_becomeLike_0 : decode cX1_becomeLike 0 = .ok (.iconst 0, 1) := by decide +kernel
theorem dX1_becomeLike_1 : decode cX1_becomeLike 1 = .ok (.istore_n 2, 1) := by decide +kernel
theorem dX1_becomeLike_2 : decode cX1_becomeLike 2 = .ok (.iload_n 2, 1) := by decide +kernel
theorem dX1_becomeLike_3 : decode cX1_becomeLike 3 = .ok (.bipush 6, 2) := by decide +kernel
theorem dX1_becomeLike_5 : decode cX1_becomeLike 5 = .ok (.if_icmp .ge 28, 3) := by decide +kernel
theorem dX1_becomeLike_8 : decode cX1_becomeLike 8 = .ok (.aload_n 1, 1) := by decide +kernel
theorem dX1_becomeLike_9 : decode cX1_becomeLike 9 = .ok (.getfield 11, 3) := by decide +kernel
theorem dX1_becomeLike_12 : decode cX1_becomeLike 12 = .ok (.iload_n 2, 1) := by decide +kernel
theorem dX1_becomeLike_13 : decode cX1_becomeLike 13 = .ok (.aaload, 1) := by decide +kernel
theorem dX1_becomeLike_14 : decode cX1_becomeLike 14 = .ok (.iconst 0, 1) := by decide +kernel
theorem dX1_becomeLike_15 : decode cX1_becomeLike 15 = .ok (.aload_n 0, 1) := by decide +kernel
theorem dX1_becomeLike_16 : decode cX1_becomeLike 16 = .ok (.getfield 11, 3) := by decide +kernel
theorem dX1_becomeLike_19 : decode cX1_becomeLike 19 = .ok (.iload_n 2, 1) := by decide +kernel
theorem dX1_becomeLike_20 : decode cX1_becomeLike 20 = .ok (.aaload, 1) := by decide +kernel
theorem dX1_becomeLike_21 : decode cX1_becomeLike 21 = .ok (.iconst 0, 1) := by decide +kernel
theorem dX1_becomeLike_22 : decode cX1_becomeLike 22 = .ok (.bipush 12, 2) := by decide +kernel
theorem dX1_becomeLike_24 : decode cX1_becomeLike 24 = .ok (.invokestatic 40, 3) := by decide +kernel
theorem dX1_becomeLike_27 : decode cX1_becomeLike 27 = .ok (.iinc 2 1, 3) := by decide +kernel
theorem dX1_becomeLike_30 : decode cX1_becomeLike 30 = .ok (.goto (-28), 3) := by decide +kernel
theorem dX1_becomeLike_33 : decode cX1_becomeLike 33 = .ok (.aload_n 0, 1) := by decide +kernel
theorem dX1_becomeLike_34 : decode cX1_becomeLike 34 = .ok (.aload_n 1, 1) := by decide +kernel
theorem dX1_becomeLike_35 : decode cX1_becomeLike 35 = .ok (.getfield 46, 3) := by decide +kernel
theorem dX1_becomeLike_38 : decode cX1_becomeLike 38 = .ok (.putfield 46, 3) := by decide +kernel
theorem dX1_becomeLike_41 : decode cX1_becomeLike 41 = .ok (.iconst 0, 1) := by decide +kernel
theorem dX1_becomeLike_42 : decode cX1_becomeLike 42 = .ok (.istore_n 2, 1) := by decide +kernel
theorem dX1_becomeLike_43 : decode cX1_becomeLike 43 = .ok (.iload_n 2, 1) := by decide +kernel
theorem dX1_becomeLike_44 : decode cX1_becomeLike 44 = .ok (.iconst 5, 1) := by decide +kernel
theorem dX1_becomeLike_45 : decode cX1_becomeLike 45 = .ok (.if_icmp .ge 24, 3) := by decide +kernel
theorem dX1_becomeLike_48 : decode cX1_becomeLike 48 = .ok (.aload_n 0, 1) := by decide +kernel
theorem dX1_becomeLike_49 : decode cX1_becomeLike 49 = .ok (.getfield 18, 3) := by decide +kernel
theorem dX1_becomeLike_52 : decode cX1_becomeLike 52 = .ok (.iload_n 2, 1) := by decide +kernel
theorem dX1_becomeLike_53 : decode cX1_becomeLike 53 = .ok (.aaload, 1) := by decide +kernel
theorem dX1_becomeLike_54 : decode cX1_becomeLike 54 = .ok (.aload_n 1, 1) := by decide +kernel
theorem dX1_becomeLike_55 : decode cX1_becomeLike 55 = .ok (.getfield 18, 3) := by decide +kernel
theorem dX1_becomeLike_58 : decode cX1_becomeLike 58 = .ok (.iload_n 2, 1) := by decide +kernel
theorem dX1_becomeLike_59 : decode cX1_becomeLike 59 = .ok (.aaload, 1) := by decide +kernel
theorem dX1_becomeLike_60 : decode cX1_becomeLike 60 = .ok (.invokevirtual 49, 3) := by decide +kernel
theorem dX1_becomeLike_63 : decode cX1_becomeLike 63 = .ok (.iinc 2 1, 3) := by decide +kernel
theorem dX1_becomeLike_66 : decode cX1_becomeLike 66 = .ok (.goto (-23), 3) := by decide +kernel
theorem dX1_becomeLike_69 : decode cX1_becomeLike 69 = .ok (.aload_n 0, 1) := by decide +kernel
theorem dX1_becomeLike_70 : decode cX1_becomeLike 70 = .ok (.aload_n 1, 1) := by decide +kernel
theorem dX1_becomeLike_71 : decode cX1_becomeLike 71 = .ok (.getfield 53, 3) := by decide +kernel
theorem dX1_becomeLike_74 : decode cX1_becomeLike 74 = .ok (.putfield 53, 3) := by decide +kernel
theorem dX1_becomeLike_77 : decode cX1_becomeLike 77 = .ok (.aload_n 0, 1) := by decide +kernel
theorem dX1_becomeLike_78 : decode cX1_becomeLike 78 = .ok (.aload_n 1, 1) := by decide +kernel
theorem dX1_becomeLike_79 : decode cX1_becomeLike 79 = .ok (.getfield 23, 3) := by decide +kernel
theorem dX1_becomeLike_82 : decode cX1_becomeLike 82 = .ok (.putfield 23, 3) := by decide +kernel
theorem dX1_becomeLike_85 : decode cX1_becomeLike 85 = .ok (.aload_n 0, 1) := by decide +kernel
theorem dX1_becomeLike_86 : decode cX1_becomeLike 86 = .ok (.aload_n 1, 1) := by decide +kernel
theorem dX1_becomeLike_87 : decode cX1_becomeLike 87 = .ok (.getfield 56, 3) := by decide +kernel
theorem dX1_becomeLike_90 : decode cX1_becomeLike 90 = .ok (.putfield 56, 3) := by decide +kernel
theorem dX1_becomeLike_93 : decode cX1_becomeLike 93 = .ok (.aload_n 0, 1) := by decide +kernel
theorem dX1_becomeLike_94 : decode cX1_becomeLike 94 = .ok (.aload_n 1, 1) := by decide +kernel
theorem dX1_becomeLike_95 : decode cX1_becomeLike 95 = .ok (.getfield 59, 3) := by decide +kernel
theorem dX1_becomeLike_98 : decode cX1_becomeLike 98 = .ok (.putfield 59, 3) := by decide +kernel
theorem dX1_becomeLike_101 : decode cX1_becomeLike 101 = .ok (.aload_n 0, 1) := by decide +kernel
theorem dX1_becomeLike_102 : decode cX1_becomeLike 102 = .ok (.aload_n 1, 1) := by decide +kernel
theorem dX1_becomeLike_103 : decode cX1_becomeLike 103 = .ok (.getfield 62, 3) := by decide +kernel
theorem dX1_becomeLike_106 : decode cX1_becomeLike 106 = .ok (.putfield 62, 3) := by decide +kernel
theorem dX1_becomeLike_109 : decode cX1_becomeLike 109 = .ok (.aload_n 1, 1) := by decide +kernel
theorem dX1_becomeLike_110 : decode cX1_becomeLike 110 = .ok (.getfield 27, 3) := by decide +kernel
theorem dX1_becomeLike_113 : decode cX1_becomeLike 113 = .ok (.iconst 0, 1) := by decide +kernel
theorem dX1_becomeLike_114 : decode cX1_becomeLike 114 = .ok (.aload_n 0, 1) := by decide +kernel
theorem dX1_becomeLike_115 : decode cX1_becomeLike 115 = .ok (.getfield 27, 3) := by decide +kernel
theorem dX1_becomeLike_118 : decode cX1_becomeLike 118 = .ok (.iconst 0, 1) := by decide +kernel
theorem dX1_becomeLike_119 : decode cX1_becomeLike 119 = .ok (.bipush 12, 2) := by decide +kernel
theorem dX1_becomeLike_121 : decode cX1_becomeLike 121 = .ok (.invokestatic 40, 3) := by decide +kernel
theorem dX1_becomeLike_124 : decode cX1_becomeLike 124 = .ok (.aload_n 1, 1) := by decide +kernel
theorem dX1_becomeLike_125 : decode cX1_becomeLike 125 = .ok (.getfield 37, 3) := by decide +kernel
theorem dX1_becomeLike_128 : decode cX1_becomeLike 128 = .ok (.iconst 0, 1) := by decide +kernel
theorem dX1_becomeLike_129 : decode cX1_becomeLike 129 = .ok (.aload_n 0, 1) := by decide +kernel
theorem dX1_becomeLike_130 : decode cX1_becomeLike 130 = .ok (.getfield 37, 3) := by decide +kernel
theorem dX1_becomeLike_133 : decode cX1_becomeLike 133 = .ok (.iconst 0, 1) := by decide +kernel
theorem dX1_becomeLike_134 : decode cX1_becomeLike 134 = .ok (.iconst 4, 1) := by decide +kernel
theorem dX1_becomeLike_135 : decode cX1_becomeLike 135 = .ok (.invokestatic 40, 3) := by decide +kernel
theorem dX1_becomeLike_138 : decode cX1_becomeLike 138 = .ok (.return_, 1) := by decide +kernel
theorem dX1_addCam_0 : decode cX1_addCam 0 = .ok (.aload_n 0, 1) := by decide +kernel
theorem dX1_addCam_1 : decode cX1_addCam 1 = .ok (.getfield 46, 3) := by decide +kernel
theorem dX1_addCam_4 : decode cX1_addCam 4 = .ok (.bipush 6, 2) := by decide +kernel
theorem dX1_addCam_6 : decode cX1_addCam 6 = .ok (.if_icmp .lt 6, 3) := by decide +kernel
theorem dX1_addCam_9 : decode cX1_addCam 9 = .ok (.bipush (-3), 2) := by decide +kernel
theorem dX1_addCam_11 : decode cX1_addCam 11 = .ok (.ireturn, 1) := by decide +kernel
theorem dX1_addCam_12 : decode cX1_addCam 12 = .ok (.aload_n 1, 1) := by decide +kernel
theorem dX1_addCam_13 : decode cX1_addCam 13 = .ok (.iconst 0, 1) := by decide +kernel
theorem dX1_addCam_14 : decode cX1_addCam 14 = .ok (.aload_n 0, 1) := by decide +kernel
theorem dX1_addCam_15 : decode cX1_addCam 15 = .ok (.getfield 11, 3) := by decide +kernel
theorem dX1_addCam_18 : decode cX1_addCam 18 = .ok (.aload_n 0, 1) := by decide +kernel
theorem dX1_addCam_19 : decode cX1_addCam 19 = .ok (.getfield 46, 3) := by decide +kernel
theorem dX1_addCam_22 : decode cX1_addCam 22 = .ok (.aaload, 1) := by decide +kernel
theorem dX1_addCam_23 : decode cX1_addCam 23 = .ok (.iconst 0, 1) := by decide +kernel
theorem dX1_addCam_24 : decode cX1_addCam 24 = .ok (.bipush 12, 2) := by decide +kernel
theorem dX1_addCam_26 : decode cX1_addCam 26 = .ok (.invokestatic 40, 3) := by decide +kernel
theorem dX1_addCam_29 : decode cX1_addCam 29 = .ok (.aload_n 0, 1) := by decide +kernel
theorem dX1_addCam_30 : decode cX1_addCam 30 = .ok (.dup, 1) := by decide +kernel
theorem dX1_addCam_31 : decode cX1_addCam 31 = .ok (.getfield 46, 3) := by decide +kernel
theorem dX1_addCam_34 : decode cX1_addCam 34 = .ok (.iconst 1, 1) := by decide +kernel
theorem dX1_addCam_35 : decode cX1_addCam 35 = .ok (.iadd, 1) := by decide +kernel
theorem dX1_addCam_36 : decode cX1_addCam 36 = .ok (.putfield 46, 3) := by decide +kernel
theorem dX1_addCam_39 : decode cX1_addCam 39 = .ok (.aload_n 0, 1) := by decide +kernel
theorem dX1_addCam_40 : decode cX1_addCam 40 = .ok (.getfield 46, 3) := by decide +kernel
theorem dX1_addCam_43 : decode cX1_addCam 43 = .ok (.iconst 1, 1) := by decide +kernel
theorem dX1_addCam_44 : decode cX1_addCam 44 = .ok (.isub, 1) := by decide +kernel
theorem dX1_addCam_45 : decode cX1_addCam 45 = .ok (.ireturn, 1) := by decide +kernel
theorem dX1_addFigure_0 : decode cX1_addFigure 0 = .ok (.aload_n 0, 1) := by decide +kernel
theorem dX1_addFigure_1 : decode cX1_addFigure 1 = .ok (.getfield 53, 3) := by decide +kernel
theorem dX1_addFigure_4 : decode cX1_addFigure 4 = .ok (.iconst 5, 1) := by decide +kernel
theorem dX1_addFigure_5 : decode cX1_addFigure 5 = .ok (.if_icmp .lt 6, 3) := by decide +kernel
theorem dX1_addFigure_8 : decode cX1_addFigure 8 = .ok (.bipush (-3), 2) := by decide +kernel
theorem dX1_addFigure_10 : decode cX1_addFigure 10 = .ok (.ireturn, 1) := by decide +kernel
theorem dX1_addFigure_11 : decode cX1_addFigure 11 = .ok (.aload_n 0, 1) := by decide +kernel
theorem dX1_addFigure_12 : decode cX1_addFigure 12 = .ok (.getfield 18, 3) := by decide +kernel
theorem dX1_addFigure_15 : decode cX1_addFigure 15 = .ok (.aload_n 0, 1) := by decide +kernel
theorem dX1_addFigure_16 : decode cX1_addFigure 16 = .ok (.getfield 53, 3) := by decide +kernel
theorem dX1_addFigure_19 : decode cX1_addFigure 19 = .ok (.aaload, 1) := by decide +kernel
theorem dX1_addFigure_20 : decode cX1_addFigure 20 = .ok (.astore 5, 2) := by decide +kernel
theorem dX1_addFigure_22 : decode cX1_addFigure 22 = .ok (.aload 5, 2) := by decide +kernel
theorem dX1_addFigure_24 : decode cX1_addFigure 24 = .ok (.iload_n 1, 1) := by decide +kernel
theorem dX1_addFigure_25 : decode cX1_addFigure 25 = .ok (.putfield 65, 3) := by decide +kernel
theorem dX1_addFigure_28 : decode cX1_addFigure 28 = .ok (.aload 5, 2) := by decide +kernel
theorem dX1_addFigure_30 : decode cX1_addFigure 30 = .ok (.iload_n 2, 1) := by decide +kernel
theorem dX1_addFigure_31 : decode cX1_addFigure 31 = .ok (.putfield 68, 3) := by decide +kernel
theorem dX1_addFigure_34 : decode cX1_addFigure 34 = .ok (.aload 5, 2) := by decide +kernel
theorem dX1_addFigure_36 : decode cX1_addFigure 36 = .ok (.iload_n 3, 1) := by decide +kernel
theorem dX1_addFigure_37 : decode cX1_addFigure 37 = .ok (.putfield 71, 3) := by decide +kernel
theorem dX1_addFigure_40 : decode cX1_addFigure 40 = .ok (.aload 5, 2) := by decide +kernel
theorem dX1_addFigure_42 : decode cX1_addFigure 42 = .ok (.iload 4, 2) := by decide +kernel
theorem dX1_addFigure_44 : decode cX1_addFigure 44 = .ok (.putfield 74, 3) := by decide +kernel
theorem dX1_addFigure_47 : decode cX1_addFigure 47 = .ok (.aload 5, 2) := by decide +kernel
theorem dX1_addFigure_49 : decode cX1_addFigure 49 = .ok (.iconst 0, 1) := by decide +kernel
theorem dX1_addFigure_50 : decode cX1_addFigure 50 = .ok (.putfield 77, 3) := by decide +kernel
theorem dX1_addFigure_53 : decode cX1_addFigure 53 = .ok (.aload 5, 2) := by decide +kernel
theorem dX1_addFigure_55 : decode cX1_addFigure 55 = .ok (.iconst 0, 1) := by decide +kernel
theorem dX1_addFigure_56 : decode cX1_addFigure 56 = .ok (.putfield 80, 3) := by decide +kernel
theorem dX1_addFigure_59 : decode cX1_addFigure 59 = .ok (.aload_n 0, 1) := by decide +kernel
theorem dX1_addFigure_60 : decode cX1_addFigure 60 = .ok (.dup, 1) := by decide +kernel
theorem dX1_addFigure_61 : decode cX1_addFigure 61 = .ok (.getfield 53, 3) := by decide +kernel
theorem dX1_addFigure_64 : decode cX1_addFigure 64 = .ok (.iconst 1, 1) := by decide +kernel
theorem dX1_addFigure_65 : decode cX1_addFigure 65 = .ok (.iadd, 1) := by decide +kernel
theorem dX1_addFigure_66 : decode cX1_addFigure 66 = .ok (.putfield 53, 3) := by decide +kernel
theorem dX1_addFigure_69 : decode cX1_addFigure 69 = .ok (.aload_n 0, 1) := by decide +kernel
theorem dX1_addFigure_70 : decode cX1_addFigure 70 = .ok (.getfield 53, 3) := by decide +kernel
theorem dX1_addFigure_73 : decode cX1_addFigure 73 = .ok (.iconst 1, 1) := by decide +kernel
theorem dX1_addFigure_74 : decode cX1_addFigure 74 = .ok (.isub, 1) := by decide +kernel
theorem dX1_addFigure_75 : decode cX1_addFigure 75 = .ok (.ireturn, 1) := by decide +kernel
theorem dX1_oneBehind_0 : decode cX1_oneBehind 0 = .ok (.aload_n 0, 1) := by decide +kernel
theorem dX1_oneBehind_1 : decode cX1_oneBehind 1 = .ok (.getfield 56, 3) := by decide +kernel
theorem dX1_oneBehind_4 : decode cX1_oneBehind 4 = .ok (.ifCond .ne 9, 3) := by decide +kernel
theorem dX1_oneBehind_7 : decode cX1_oneBehind 7 = .ok (.iload_n 1, 1) := by decide +kernel
theorem dX1_oneBehind_8 : decode cX1_oneBehind 8 = .ok (.iconst 1, 1) := by decide +kernel
theorem dX1_oneBehind_9 : decode cX1_oneBehind 9 = .ok (.iadd, 1) := by decide +kernel
theorem dX1_oneBehind_10 : decode cX1_oneBehind 10 = .ok (.goto 6, 3) := by decide +kernel
theorem dX1_oneBehind_13 : decode cX1_oneBehind 13 = .ok (.iload_n 1, 1) := by decide +kernel
theorem dX1_oneBehind_14 : decode cX1_oneBehind 14 = .ok (.iconst 1, 1) := by decide +kernel
theorem dX1_oneBehind_15 : decode cX1_oneBehind 15 = .ok (.isub, 1) := by decide +kernel
theorem dX1_oneBehind_16 : decode cX1_oneBehind 16 = .ok (.invokestatic 83, 3) := by decide +kernel
theorem dX1_oneBehind_19 : decode cX1_oneBehind 19 = .ok (.ireturn, 1) := by decide +kernel
theorem dX1_someAhead_0 : decode cX1_someAhead 0 = .ok (.aload_n 0, 1) := by decide +kernel
theorem dX1_someAhead_1 : decode cX1_someAhead 1 = .ok (.getfield 56, 3) := by decide +kernel
theorem dX1_someAhead_4 : decode cX1_someAhead 4 = .ok (.ifCond .ne 9, 3) := by decide +kernel
theorem dX1_someAhead_7 : decode cX1_someAhead 7 = .ok (.iload_n 1, 1) := by decide +kernel
theorem dX1_someAhead_8 : decode cX1_someAhead 8 = .ok (.iload_n 2, 1) := by decide +kernel
theorem dX1_someAhead_9 : decode cX1_someAhead 9 = .ok (.isub, 1) := by decide +kernel
theorem dX1_someAhead_10 : decode cX1_someAhead 10 = .ok (.goto 6, 3) := by decide +kernel
theorem dX1_someAhead_13 : decode cX1_someAhead 13 = .ok (.iload_n 1, 1) := by decide +kernel
theorem dX1_someAhead_14 : decode cX1_someAhead 14 = .ok (.iload_n 2, 1) := by decide +kernel
theorem dX1_someAhead_15 : decode cX1_someAhead 15 = .ok (.iadd, 1) := by decide +kernel
theorem dX1_someAhead_16 : decode cX1_someAhead 16 = .ok (.invokestatic 83, 3) := by decide +kernel
theorem dX1_someAhead_19 : decode cX1_someAhead 19 = .ok (.ireturn, 1) := by decide +kernel
theorem dX1_hairOf_0 : decode cX1_hairOf 0 = .ok (.aload_n 0, 1) := by decide +kernel
theorem dX1_hairOf_1 : decode cX1_hairOf 1 = .ok (.iload_n 2, 1) := by decide +kernel
theorem dX1_hairOf_2 : decode cX1_hairOf 2 = .ok (.aload_n 1, 1) := by decide +kernel
theorem dX1_hairOf_3 : decode cX1_hairOf 3 = .ok (.getfield 71, 3) := by decide +kernel
theorem dX1_hairOf_6 : decode cX1_hairOf 6 = .ok (.iadd, 1) := by decide +kernel
theorem dX1_hairOf_7 : decode cX1_hairOf 7 = .ok (.invokestatic 83, 3) := by decide +kernel
theorem dX1_hairOf_10 : decode cX1_hairOf 10 = .ok (.iaload, 1) := by decide +kernel
theorem dX1_hairOf_11 : decode cX1_hairOf 11 = .ok (.ireturn, 1) := by decide +kernel
theorem dX1_heightOn_0 : decode cX1_heightOn 0 = .ok (.aload_n 1, 1) := by decide +kernel
theorem dX1_heightOn_1 : decode cX1_heightOn 1 = .ok (.aload_n 2, 1) := by decide +kernel
theorem dX1_heightOn_2 : decode cX1_heightOn 2 = .ok (.iload_n 3, 1) := by decide +kernel
theorem dX1_heightOn_3 : decode cX1_heightOn 3 = .ok (.invokestatic 87, 3) := by decide +kernel
theorem dX1_heightOn_6 : decode cX1_heightOn 6 = .ok (.istore 4, 2) := by decide +kernel
theorem dX1_heightOn_8 : decode cX1_heightOn 8 = .ok (.aload_n 2, 1) := by decide +kernel
theorem dX1_heightOn_9 : decode cX1_heightOn 9 = .ok (.getfield 65, 3) := by decide +kernel
theorem dX1_heightOn_12 : decode cX1_heightOn 12 = .ok (.tableswitch 71 1 3 #[28, 33, 41], 28) := by decide +kernel
theorem dX1_heightOn_40 : decode cX1_heightOn 40 = .ok (.iconst 2, 1) := by decide +kernel
theorem dX1_heightOn_41 : decode cX1_heightOn 41 = .ok (.iload 4, 2) := by decide +kernel
theorem dX1_heightOn_43 : decode cX1_heightOn 43 = .ok (.imul, 1) := by decide +kernel
theorem dX1_heightOn_44 : decode cX1_heightOn 44 = .ok (.ireturn, 1) := by decide +kernel
theorem dX1_heightOn_45 : decode cX1_heightOn 45 = .ok (.aload_n 0, 1) := by decide +kernel
theorem dX1_heightOn_46 : decode cX1_heightOn 46 = .ok (.aload_n 1, 1) := by decide +kernel
theorem dX1_heightOn_47 : decode cX1_heightOn 47 = .ok (.aload_n 2, 1) := by decide +kernel
theorem dX1_heightOn_48 : decode cX1_heightOn 48 = .ok (.iload_n 3, 1) := by decide +kernel
theorem dX1_heightOn_49 : decode cX1_heightOn 49 = .ok (.invokevirtual 91, 3) := by decide +kernel
theorem dX1_heightOn_52 : decode cX1_heightOn 52 = .ok (.ireturn, 1) := by decide +kernel
theorem dX1_heightOn_53 : decode cX1_heightOn 53 = .ok (.iload 4, 2) := by decide +kernel
theorem dX1_heightOn_55 : decode cX1_heightOn 55 = .ok (.aload_n 1, 1) := by decide +kernel
theorem dX1_heightOn_56 : decode cX1_heightOn 56 = .ok (.aload_n 2, 1) := by decide +kernel
theorem dX1_heightOn_57 : decode cX1_heightOn 57 = .ok (.aload_n 0, 1) := by decide +kernel
theorem dX1_heightOn_58 : decode cX1_heightOn 58 = .ok (.iload_n 3, 1) := by decide +kernel
theorem dX1_heightOn_59 : decode cX1_heightOn 59 = .ok (.iconst 1, 1) := by decide +kernel
theorem dX1_heightOn_60 : decode cX1_heightOn 60 = .ok (.invokevirtual 94, 3) := by decide +kernel
theorem dX1_heightOn_63 : decode cX1_heightOn 63 = .ok (.invokestatic 87, 3) := by decide +kernel
theorem dX1_heightOn_66 : decode cX1_heightOn 66 = .ok (.if_icmp .le 12, 3) := by decide +kernel
theorem dX1_heightOn_69 : decode cX1_heightOn 69 = .ok (.iconst 2, 1) := by decide +kernel
theorem dX1_heightOn_70 : decode cX1_heightOn 70 = .ok (.iload 4, 2) := by decide +kernel
theorem dX1_heightOn_72 : decode cX1_heightOn 72 = .ok (.imul, 1) := by decide +kernel
theorem dX1_heightOn_73 : decode cX1_heightOn 73 = .ok (.iconst 1, 1) := by decide +kernel
theorem dX1_heightOn_74 : decode cX1_heightOn 74 = .ok (.iadd, 1) := by decide +kernel
theorem dX1_heightOn_75 : decode cX1_heightOn 75 = .ok (.goto 7, 3) := by decide +kernel
theorem dX1_heightOn_78 : decode cX1_heightOn 78 = .ok (.iconst 2, 1) := by decide +kernel
theorem dX1_heightOn_79 : decode cX1_heightOn 79 = .ok (.iload 4, 2) := by decide +kernel
theorem dX1_heightOn_81 : decode cX1_heightOn 81 = .ok (.imul, 1) := by decide +kernel
theorem dX1_heightOn_82 : decode cX1_heightOn 82 = .ok (.ireturn, 1) := by decide +kernel
theorem dX1_heightOn_83 : decode cX1_heightOn 83 = .ok (.iload 4, 2) := by decide +kernel
theorem dX1_heightOn_85 : decode cX1_heightOn 85 = .ok (.ireturn, 1) := by decide +kernel
theorem dX1_slowHeight_0 : decode cX1_slowHeight 0 = .ok (.iconst 0, 1) := by decide +kernel
theorem dX1_slowHeight_1 : decode cX1_slowHeight 1 = .ok (.istore 4, 2) := by decide +kernel
theorem dX1_slowHeight_3 : decode cX1_slowHeight 3 = .ok (.iconst 0, 1) := by decide +kernel
theorem dX1_slowHeight_4 : decode cX1_slowHeight 4 = .ok (.istore 5, 2) := by decide +kernel
theorem dX1_slowHeight_6 : decode cX1_slowHeight 6 = .ok (.iload 5, 2) := by decide +kernel
theorem dX1_slowHeight_8 : decode cX1_slowHeight 8 = .ok (.bipush 12, 2) := by decide +kernel
theorem dX1_slowHeight_10 : decode cX1_slowHeight 10 = .ok (.if_icmp .ge 31, 3) := by decide +kernel
theorem dX1_slowHeight_13 : decode cX1_slowHeight 13 = .ok (.iload 4, 2) := by decide +kernel
theorem dX1_slowHeight_15 : decode cX1_slowHeight 15 = .ok (.aload_n 1, 1) := by decide +kernel
theorem dX1_slowHeight_16 : decode cX1_slowHeight 16 = .ok (.aload_n 2, 1) := by decide +kernel
theorem dX1_slowHeight_17 : decode cX1_slowHeight 17 = .ok (.aload_n 0, 1) := by decide +kernel
theorem dX1_slowHeight_18 : decode cX1_slowHeight 18 = .ok (.iload_n 3, 1) := by decide +kernel
theorem dX1_slowHeight_19 : decode cX1_slowHeight 19 = .ok (.iload 5, 2) := by decide +kernel
theorem dX1_slowHeight_21 : decode cX1_slowHeight 21 = .ok (.invokevirtual 94, 3) := by decide +kernel
theorem dX1_slowHeight_24 : decode cX1_slowHeight 24 = .ok (.invokestatic 87, 3) := by decide +kernel
theorem dX1_slowHeight_27 : decode cX1_slowHeight 27 = .ok (.iload 5, 2) := by decide +kernel
theorem dX1_slowHeight_29 : decode cX1_slowHeight 29 = .ok (.isub, 1) := by decide +kernel
theorem dX1_slowHeight_30 : decode cX1_slowHeight 30 = .ok (.invokestatic 98, 3) := by decide +kernel
theorem dX1_slowHeight_33 : decode cX1_slowHeight 33 = .ok (.istore 4, 2) := by decide +kernel
theorem dX1_slowHeight_35 : decode cX1_slowHeight 35 = .ok (.iinc 5 1, 3) := by decide +kernel
theorem dX1_slowHeight_38 : decode cX1_slowHeight 38 = .ok (.goto (-32), 3) := by decide +kernel
theorem dX1_slowHeight_41 : decode cX1_slowHeight 41 = .ok (.iload 4, 2) := by decide +kernel
theorem dX1_slowHeight_43 : decode cX1_slowHeight 43 = .ok (.ireturn, 1) := by decide +kernel
theorem dX1_upsOn_0 : decode cX1_upsOn 0 = .ok (.iconst 0, 1) := by decide +kernel
theorem dX1_upsOn_1 : decode cX1_upsOn 1 = .ok (.istore_n 3, 1) := by decide +kernel
theorem dX1_upsOn_2 : decode cX1_upsOn 2 = .ok (.iconst 0, 1) := by decide +kernel
theorem dX1_upsOn_3 : decode cX1_upsOn 3 = .ok (.istore 4, 2) := by decide +kernel
theorem dX1_upsOn_5 : decode cX1_upsOn 5 = .ok (.iload 4, 2) := by decide +kernel
theorem dX1_upsOn_7 : decode cX1_upsOn 7 = .ok (.bipush 12, 2) := by decide +kernel
theorem dX1_upsOn_9 : decode cX1_upsOn 9 = .ok (.if_icmp .ge 31, 3) := by decide +kernel
theorem dX1_upsOn_12 : decode cX1_upsOn 12 = .ok (.aload_n 0, 1) := by decide +kernel
theorem dX1_upsOn_13 : decode cX1_upsOn 13 = .ok (.aload_n 1, 1) := by decide +kernel
theorem dX1_upsOn_14 : decode cX1_upsOn 14 = .ok (.aload_n 2, 1) := by decide +kernel
theorem dX1_upsOn_15 : decode cX1_upsOn 15 = .ok (.iload 4, 2) := by decide +kernel
theorem dX1_upsOn_17 : decode cX1_upsOn 17 = .ok (.invokevirtual 103, 3) := by decide +kernel
theorem dX1_upsOn_20 : decode cX1_upsOn 20 = .ok (.aload_n 0, 1) := by decide +kernel
theorem dX1_upsOn_21 : decode cX1_upsOn 21 = .ok (.getfield 23, 3) := by decide +kernel
theorem dX1_upsOn_24 : decode cX1_upsOn 24 = .ok (.if_icmp .lt 10, 3) := by decide +kernel
theorem dX1_upsOn_27 : decode cX1_upsOn 27 = .ok (.iload_n 3, 1) := by decide +kernel
theorem dX1_upsOn_28 : decode cX1_upsOn 28 = .ok (.iconst 1, 1) := by decide +kernel
theorem dX1_upsOn_29 : decode cX1_upsOn 29 = .ok (.iload 4, 2) := by decide +kernel
theorem dX1_upsOn_31 : decode cX1_upsOn 31 = .ok (.ishl, 1) := by decide +kernel
theorem dX1_upsOn_32 : decode cX1_upsOn 32 = .ok (.ior, 1) := by decide +kernel
theorem dX1_upsOn_33 : decode cX1_upsOn 33 = .ok (.istore_n 3, 1) := by decide +kernel
theorem dX1_upsOn_34 : decode cX1_upsOn 34 = .ok (.iinc 4 1, 3) := by decide +kernel
theorem dX1_upsOn_37 : decode cX1_upsOn 37 = .ok (.goto (-32), 3) := by decide +kernel
theorem dX1_upsOn_40 : decode cX1_upsOn 40 = .ok (.iload_n 3, 1) := by decide +kernel
theorem dX1_upsOn_41 : decode cX1_upsOn 41 = .ok (.ireturn, 1) := by decide +kernel
theorem dX1_upsOf_0 : decode cX1_upsOf 0 = .ok (.aload_n 0, 1) := by decide +kernel
theorem dX1_upsOf_1 : decode cX1_upsOf 1 = .ok (.aload_n 0, 1) := by decide +kernel
theorem dX1_upsOf_2 : decode cX1_upsOf 2 = .ok (.getfield 11, 3) := by decide +kernel
theorem dX1_upsOf_5 : decode cX1_upsOf 5 = .ok (.aload_n 1, 1) := by decide +kernel
theorem dX1_upsOf_6 : decode cX1_upsOf 6 = .ok (.getfield 68, 3) := by decide +kernel
theorem dX1_upsOf_9 : decode cX1_upsOf 9 = .ok (.aaload, 1) := by decide +kernel
theorem dX1_upsOf_10 : decode cX1_upsOf 10 = .ok (.aload_n 1, 1) := by decide +kernel
theorem dX1_upsOf_11 : decode cX1_upsOf 11 = .ok (.invokevirtual 106, 3) := by decide +kernel
theorem dX1_upsOf_14 : decode cX1_upsOf 14 = .ok (.ireturn, 1) := by decide +kernel
theorem dX1_figuresUpNow_0 : decode cX1_figuresUpNow 0 = .ok (.iconst 0, 1) := by decide +kernel
theorem dX1_figuresUpNow_1 : decode cX1_figuresUpNow 1 = .ok (.istore_n 1, 1) := by decide +kernel
theorem dX1_figuresUpNow_2 : decode cX1_figuresUpNow 2 = .ok (.iconst 0, 1) := by decide +kernel
theorem dX1_figuresUpNow_3 : decode cX1_figuresUpNow 3 = .ok (.istore_n 2, 1) := by decide +kernel
theorem dX1_figuresUpNow_4 : decode cX1_figuresUpNow 4 = .ok (.iload_n 2, 1) := by decide +kernel
theorem dX1_figuresUpNow_5 : decode cX1_figuresUpNow 5 = .ok (.aload_n 0, 1) := by decide +kernel
theorem dX1_figuresUpNow_6 : decode cX1_figuresUpNow 6 = .ok (.getfield 53, 3) := by decide +kernel
theorem dX1_figuresUpNow_9 : decode cX1_figuresUpNow 9 = .ok (.if_icmp .ge 47, 3) := by decide +kernel
theorem dX1_figuresUpNow_12 : decode cX1_figuresUpNow 12 = .ok (.aload_n 0, 1) := by decide +kernel
theorem dX1_figuresUpNow_13 : decode cX1_figuresUpNow 13 = .ok (.getfield 18, 3) := by decide +kernel
theorem dX1_figuresUpNow_16 : decode cX1_figuresUpNow 16 = .ok (.iload_n 2, 1) := by decide +kernel
theorem dX1_figuresUpNow_17 : decode cX1_figuresUpNow 17 = .ok (.aaload, 1) := by decide +kernel
theorem dX1_figuresUpNow_18 : decode cX1_figuresUpNow 18 = .ok (.astore_n 3, 1) := by decide +kernel
theorem dX1_figuresUpNow_19 : decode cX1_figuresUpNow 19 = .ok (.aload_n 0, 1) := by decide +kernel
theorem dX1_figuresUpNow_20 : decode cX1_figuresUpNow 20 = .ok (.aload_n 0, 1) := by decide +kernel
theorem dX1_figuresUpNow_21 : decode cX1_figuresUpNow 21 = .ok (.getfield 11, 3) := by decide +kernel
theorem dX1_figuresUpNow_24 : decode cX1_figuresUpNow 24 = .ok (.aload_n 3, 1) := by decide +kernel
theorem dX1_figuresUpNow_25 : decode cX1_figuresUpNow 25 = .ok (.getfield 68, 3) := by decide +kernel
theorem dX1_figuresUpNow_28 : decode cX1_figuresUpNow 28 = .ok (.aaload, 1) := by decide +kernel
theorem dX1_figuresUpNow_29 : decode cX1_figuresUpNow 29 = .ok (.aload_n 3, 1) := by decide +kernel
theorem dX1_figuresUpNow_30 : decode cX1_figuresUpNow 30 = .ok (.aload_n 0, 1) := by decide +kernel
theorem dX1_figuresUpNow_31 : decode cX1_figuresUpNow 31 = .ok (.getfield 59, 3) := by decide +kernel
theorem dX1_figuresUpNow_34 : decode cX1_figuresUpNow 34 = .ok (.invokevirtual 103, 3) := by decide +kernel
theorem dX1_figuresUpNow_37 : decode cX1_figuresUpNow 37 = .ok (.aload_n 0, 1) := by decide +kernel
theorem dX1_figuresUpNow_38 : decode cX1_figuresUpNow 38 = .ok (.getfield 23, 3) := by decide +kernel
theorem dX1_figuresUpNow_41 : decode cX1_figuresUpNow 41 = .ok (.if_icmp .lt 9, 3) := by decide +kernel
theorem dX1_figuresUpNow_44 : decode cX1_figuresUpNow 44 = .ok (.iload_n 1, 1) := by decide +kernel
theorem dX1_figuresUpNow_45 : decode cX1_figuresUpNow 45 = .ok (.iconst 1, 1) := by decide +kernel
theorem dX1_figuresUpNow_46 : decode cX1_figuresUpNow 46 = .ok (.iload_n 2, 1) := by decide +kernel
theorem dX1_figuresUpNow_47 : decode cX1_figuresUpNow 47 = .ok (.ishl, 1) := by decide +kernel
theorem dX1_figuresUpNow_48 : decode cX1_figuresUpNow 48 = .ok (.ior, 1) := by decide +kernel
theorem dX1_figuresUpNow_49 : decode cX1_figuresUpNow 49 = .ok (.istore_n 1, 1) := by decide +kernel
theorem dX1_figuresUpNow_50 : decode cX1_figuresUpNow 50 = .ok (.iinc 2 1, 3) := by decide +kernel
theorem dX1_figuresUpNow_53 : decode cX1_figuresUpNow 53 = .ok (.goto (-49), 3) := by decide +kernel
theorem dX1_figuresUpNow_56 : decode cX1_figuresUpNow 56 = .ok (.iload_n 1, 1) := by decide +kernel
theorem dX1_figuresUpNow_57 : decode cX1_figuresUpNow 57 = .ok (.ireturn, 1) := by decide +kernel
theorem dX1_strikesOf_0 : decode cX1_strikesOf 0 = .ok (.aload_n 1, 1) := by decide +kernel
theorem dX1_strikesOf_1 : decode cX1_strikesOf 1 = .ok (.getfield 74, 3) := by decide +kernel
theorem dX1_strikesOf_4 : decode cX1_strikesOf 4 = .ok (.aload_n 2, 1) := by decide +kernel
theorem dX1_strikesOf_5 : decode cX1_strikesOf 5 = .ok (.getfield 74, 3) := by decide +kernel
theorem dX1_strikesOf_8 : decode cX1_strikesOf 8 = .ok (.if_icmp .eq 5, 3) := by decide +kernel
theorem dX1_strikesOf_11 : decode cX1_strikesOf 11 = .ok (.iconst 0, 1) := by decide +kernel
theorem dX1_strikesOf_12 : decode cX1_strikesOf 12 = .ok (.ireturn, 1) := by decide +kernel
theorem dX1_strikesOf_13 : decode cX1_strikesOf 13 = .ok (.aload_n 0, 1) := by decide +kernel
theorem dX1_strikesOf_14 : decode cX1_strikesOf 14 = .ok (.aload_n 1, 1) := by decide +kernel
theorem dX1_strikesOf_15 : decode cX1_strikesOf 15 = .ok (.invokevirtual 110, 3) := by decide +kernel
theorem dX1_strikesOf_18 : decode cX1_strikesOf 18 = .ok (.aload_n 0, 1) := by decide +kernel
theorem dX1_strikesOf_19 : decode cX1_strikesOf 19 = .ok (.aload_n 2, 1) := by decide +kernel
theorem dX1_strikesOf_20 : decode cX1_strikesOf 20 = .ok (.invokevirtual 110, 3) := by decide +kernel
theorem dX1_strikesOf_23 : decode cX1_strikesOf 23 = .ok (.iand, 1) := by decide +kernel
theorem dX1_strikesOf_24 : decode cX1_strikesOf 24 = .ok (.istore_n 3, 1) := by decide +kernel
theorem dX1_strikesOf_25 : decode cX1_strikesOf 25 = .ok (.iload_n 3, 1) := by decide +kernel
theorem dX1_strikesOf_26 : decode cX1_strikesOf 26 = .ok (.aload_n 0, 1) := by decide +kernel
theorem dX1_strikesOf_27 : decode cX1_strikesOf 27 = .ok (.getfield 56, 3) := by decide +kernel
theorem dX1_strikesOf_30 : decode cX1_strikesOf 30 = .ok (.ifCond .ne 7, 3) := by decide +kernel
theorem dX1_strikesOf_33 : decode cX1_strikesOf 33 = .ok (.iconst 1, 1) := by decide +kernel
theorem dX1_strikesOf_34 : decode cX1_strikesOf 34 = .ok (.goto 4, 3) := by decide +kernel
theorem dX1_strikesOf_37 : decode cX1_strikesOf 37 = .ok (.iconst (-1), 1) := by decide +kernel
theorem dX1_strikesOf_38 : decode cX1_strikesOf 38 = .ok (.invokestatic 114, 3) := by decide +kernel
theorem dX1_strikesOf_41 : decode cX1_strikesOf 41 = .ok (.istore 4, 2) := by decide +kernel
theorem dX1_strikesOf_43 : decode cX1_strikesOf 43 = .ok (.iload_n 3, 1) := by decide +kernel
theorem dX1_strikesOf_44 : decode cX1_strikesOf 44 = .ok (.iload 4, 2) := by decide +kernel
theorem dX1_strikesOf_46 : decode cX1_strikesOf 46 = .ok (.iconst (-1), 1) := by decide +kernel
theorem dX1_strikesOf_47 : decode cX1_strikesOf 47 = .ok (.ixor, 1) := by decide +kernel
theorem dX1_strikesOf_48 : decode cX1_strikesOf 48 = .ok (.iand, 1) := by decide +kernel
theorem dX1_strikesOf_49 : decode cX1_strikesOf 49 = .ok (.ireturn, 1) := by decide +kernel
theorem dX1_strikesInTurning_0 : decode cX1_strikesInTurning 0 = .ok (.iload_n 1, 1) := by decide +kernel
theorem dX1_strikesInTurning_1 : decode cX1_strikesInTurning 1 = .ok (.bipush 12, 2) := by decide +kernel
theorem dX1_strikesInTurning_3 : decode cX1_strikesInTurning 3 = .ok (.idiv, 1) := by decide +kernel
theorem dX1_strikesInTurning_4 : decode cX1_strikesInTurning 4 = .ok (.istore_n 2, 1) := by decide +kernel
theorem dX1_strikesInTurning_5 : decode cX1_strikesInTurning 5 = .ok (.aload_n 0, 1) := by decide +kernel
theorem dX1_strikesInTurning_6 : decode cX1_strikesInTurning 6 = .ok (.iload_n 1, 1) := by decide +kernel
theorem dX1_strikesInTurning_7 : decode cX1_strikesInTurning 7 = .ok (.bipush 12, 2) := by decide +kernel
theorem dX1_strikesInTurning_9 : decode cX1_strikesInTurning 9 = .ok (.irem, 1) := by decide +kernel
theorem dX1_strikesInTurning_10 : decode cX1_strikesInTurning 10 = .ok (.invokevirtual 117, 3) := by decide +kernel
theorem dX1_strikesInTurning_13 : decode cX1_strikesInTurning 13 = .ok (.istore_n 3, 1) := by decide +kernel
theorem dX1_strikesInTurning_14 : decode cX1_strikesInTurning 14 = .ok (.iconst 0, 1) := by decide +kernel
theorem dX1_strikesInTurning_15 : decode cX1_strikesInTurning 15 = .ok (.istore 4, 2) := by decide +kernel
theorem dX1_strikesInTurning_17 : decode cX1_strikesInTurning 17 = .ok (.iconst 0, 1) := by decide +kernel
theorem dX1_strikesInTurning_18 : decode cX1_strikesInTurning 18 = .ok (.istore 5, 2) := by decide +kernel
theorem dX1_strikesInTurning_20 : decode cX1_strikesInTurning 20 = .ok (.iload 5, 2) := by decide +kernel
theorem dX1_strikesInTurning_22 : decode cX1_strikesInTurning 22 = .ok (.aload_n 0, 1) := by decide +kernel
theorem dX1_strikesInTurning_23 : decode cX1_strikesInTurning 23 = .ok (.getfield 53, 3) := by decide +kernel
theorem dX1_strikesInTurning_26 : decode cX1_strikesInTurning 26 = .ok (.if_icmp .ge 70, 3) := by decide +kernel
theorem dX1_strikesInTurning_29 : decode cX1_strikesInTurning 29 = .ok (.iload 5, 2) := by decide +kernel
theorem dX1_strikesInTurning_31 : decode cX1_strikesInTurning 31 = .ok (.iconst 1, 1) := by decide +kernel
theorem dX1_strikesInTurning_32 : decode cX1_strikesInTurning 32 = .ok (.iadd, 1) := by decide +kernel
theorem dX1_strikesInTurning_33 : decode cX1_strikesInTurning 33 = .ok (.istore 6, 2) := by decide +kernel
theorem dX1_strikesInTurning_35 : decode cX1_strikesInTurning 35 = .ok (.iload 6, 2) := by decide +kernel
theorem dX1_strikesInTurning_37 : decode cX1_strikesInTurning 37 = .ok (.aload_n 0, 1) := by decide +kernel
theorem dX1_strikesInTurning_38 : decode cX1_strikesInTurning 38 = .ok (.getfield 53, 3) := by decide +kernel
theorem dX1_strikesInTurning_41 : decode cX1_strikesInTurning 41 = .ok (.if_icmp .ge 49, 3) := by decide +kernel
theorem dX1_strikesInTurning_44 : decode cX1_strikesInTurning 44 = .ok (.aload_n 0, 1) := by decide +kernel
theorem dX1_strikesInTurning_45 : decode cX1_strikesInTurning 45 = .ok (.aload_n 0, 1) := by decide +kernel
theorem dX1_strikesInTurning_46 : decode cX1_strikesInTurning 46 = .ok (.getfield 18, 3) := by decide +kernel
theorem dX1_strikesInTurning_49 : decode cX1_strikesInTurning 49 = .ok (.iload 5, 2) := by decide +kernel
theorem dX1_strikesInTurning_51 : decode cX1_strikesInTurning 51 = .ok (.aaload, 1) := by decide +kernel
theorem dX1_strikesInTurning_52 : decode cX1_strikesInTurning 52 = .ok (.aload_n 0, 1) := by decide +kernel
theorem dX1_strikesInTurning_53 : decode cX1_strikesInTurning 53 = .ok (.getfield 18, 3) := by decide +kernel
theorem dX1_strikesInTurning_56 : decode cX1_strikesInTurning 56 = .ok (.iload 6, 2) := by decide +kernel
theorem dX1_strikesInTurning_58 : decode cX1_strikesInTurning 58 = .ok (.aaload, 1) := by decide +kernel
theorem dX1_strikesInTurning_59 : decode cX1_strikesInTurning 59 = .ok (.invokevirtual 120, 3) := by decide +kernel
theorem dX1_strikesInTurning_62 : decode cX1_strikesInTurning 62 = .ok (.istore 7, 2) := by decide +kernel
theorem dX1_strikesInTurning_64 : decode cX1_strikesInTurning 64 = .ok (.iload 4, 2) := by decide +kernel
theorem dX1_strikesInTurning_66 : decode cX1_strikesInTurning 66 = .ok (.iload_n 2, 1) := by decide +kernel
theorem dX1_strikesInTurning_67 : decode cX1_strikesInTurning 67 = .ok (.iload 7, 2) := by decide +kernel
theorem dX1_strikesInTurning_69 : decode cX1_strikesInTurning 69 = .ok (.invokestatic 124, 3) := by decide +kernel
theorem dX1_strikesInTurning_72 : decode cX1_strikesInTurning 72 = .ok (.imul, 1) := by decide +kernel
theorem dX1_strikesInTurning_73 : decode cX1_strikesInTurning 73 = .ok (.iload 7, 2) := by decide +kernel
theorem dX1_strikesInTurning_75 : decode cX1_strikesInTurning 75 = .ok (.iload_n 3, 1) := by decide +kernel
theorem dX1_strikesInTurning_76 : decode cX1_strikesInTurning 76 = .ok (.iand, 1) := by decide +kernel
theorem dX1_strikesInTurning_77 : decode cX1_strikesInTurning 77 = .ok (.invokestatic 124, 3) := by decide +kernel
theorem dX1_strikesInTurning_80 : decode cX1_strikesInTurning 80 = .ok (.iadd, 1) := by decide +kernel
theorem dX1_strikesInTurning_81 : decode cX1_strikesInTurning 81 = .ok (.iadd, 1) := by decide +kernel
theorem dX1_strikesInTurning_82 : decode cX1_strikesInTurning 82 = .ok (.istore 4, 2) := by decide +kernel
theorem dX1_strikesInTurning_84 : decode cX1_strikesInTurning 84 = .ok (.iinc 6 1, 3) := by decide +kernel
theorem dX1_strikesInTurning_87 : decode cX1_strikesInTurning 87 = .ok (.goto (-52), 3) := by decide +kernel
theorem dX1_strikesInTurning_90 : decode cX1_strikesInTurning 90 = .ok (.iinc 5 1, 3) := by decide +kernel
theorem dX1_strikesInTurning_93 : decode cX1_strikesInTurning 93 = .ok (.goto (-73), 3) := by decide +kernel
theorem dX1_strikesInTurning_96 : decode cX1_strikesInTurning 96 = .ok (.iload 4, 2) := by decide +kernel
theorem dX1_strikesInTurning_98 : decode cX1_strikesInTurning 98 = .ok (.ireturn, 1) := by decide +kernel
theorem dX1_anglesToCome_0 : decode cX1_anglesToCome 0 = .ok (.iconst 0, 1) := by decide +kernel
theorem dX1_anglesToCome_1 : decode cX1_anglesToCome 1 = .ok (.istore_n 2, 1) := by decide +kernel
theorem dX1_anglesToCome_2 : decode cX1_anglesToCome 2 = .ok (.aload_n 0, 1) := by decide +kernel
theorem dX1_anglesToCome_3 : decode cX1_anglesToCome 3 = .ok (.getfield 59, 3) := by decide +kernel
theorem dX1_anglesToCome_6 : decode cX1_anglesToCome 6 = .ok (.istore_n 3, 1) := by decide +kernel
theorem dX1_anglesToCome_7 : decode cX1_anglesToCome 7 = .ok (.iconst 0, 1) := by decide +kernel
theorem dX1_anglesToCome_8 : decode cX1_anglesToCome 8 = .ok (.istore 4, 2) := by decide +kernel
theorem dX1_anglesToCome_10 : decode cX1_anglesToCome 10 = .ok (.iload 4, 2) := by decide +kernel
theorem dX1_anglesToCome_12 : decode cX1_anglesToCome 12 = .ok (.iload_n 1, 1) := by decide +kernel
theorem dX1_anglesToCome_13 : decode cX1_anglesToCome 13 = .ok (.if_icmp .ge 21, 3) := by decide +kernel
theorem dX1_anglesToCome_16 : decode cX1_anglesToCome 16 = .ok (.aload_n 0, 1) := by decide +kernel
theorem dX1_anglesToCome_17 : decode cX1_anglesToCome 17 = .ok (.iload_n 3, 1) := by decide +kernel
theorem dX1_anglesToCome_18 : decode cX1_anglesToCome 18 = .ok (.invokevirtual 129, 3) := by decide +kernel
theorem dX1_anglesToCome_21 : decode cX1_anglesToCome 21 = .ok (.istore_n 3, 1) := by decide +kernel
theorem dX1_anglesToCome_22 : decode cX1_anglesToCome 22 = .ok (.iload_n 2, 1) := by decide +kernel
theorem dX1_anglesToCome_23 : decode cX1_anglesToCome 23 = .ok (.iconst 1, 1) := by decide +kernel
theorem dX1_anglesToCome_24 : decode cX1_anglesToCome 24 = .ok (.iload_n 3, 1) := by decide +kernel
theorem dX1_anglesToCome_25 : decode cX1_anglesToCome 25 = .ok (.ishl, 1) := by decide +kernel
theorem dX1_anglesToCome_26 : decode cX1_anglesToCome 26 = .ok (.ior, 1) := by decide +kernel
theorem dX1_anglesToCome_27 : decode cX1_anglesToCome 27 = .ok (.istore_n 2, 1) := by decide +kernel
theorem dX1_anglesToCome_28 : decode cX1_anglesToCome 28 = .ok (.iinc 4 1, 3) := by decide +kernel
theorem dX1_anglesToCome_31 : decode cX1_anglesToCome 31 = .ok (.goto (-21), 3) := by decide +kernel
theorem dX1_anglesToCome_34 : decode cX1_anglesToCome 34 = .ok (.iload_n 2, 1) := by decide +kernel
theorem dX1_anglesToCome_35 : decode cX1_anglesToCome 35 = .ok (.ireturn, 1) := by decide +kernel
theorem dX1_goOn_0 : decode cX1_goOn 0 = .ok (.aload_n 0, 1) := by decide +kernel
theorem dX1_goOn_1 : decode cX1_goOn 1 = .ok (.aload_n 0, 1) := by decide +kernel
theorem dX1_goOn_2 : decode cX1_goOn 2 = .ok (.getfield 56, 3) := by decide +kernel
theorem dX1_goOn_5 : decode cX1_goOn 5 = .ok (.ifCond .ne 12, 3) := by decide +kernel
theorem dX1_goOn_8 : decode cX1_goOn 8 = .ok (.aload_n 0, 1) := by decide +kernel
theorem dX1_goOn_9 : decode cX1_goOn 9 = .ok (.getfield 59, 3) := by decide +kernel
theorem dX1_goOn_12 : decode cX1_goOn 12 = .ok (.iload_n 1, 1) := by decide +kernel
theorem dX1_goOn_13 : decode cX1_goOn 13 = .ok (.iadd, 1) := by decide +kernel
theorem dX1_goOn_14 : decode cX1_goOn 14 = .ok (.goto 9, 3) := by decide +kernel
theorem dX1_goOn_17 : decode cX1_goOn 17 = .ok (.aload_n 0, 1) := by decide +kernel
theorem dX1_goOn_18 : decode cX1_goOn 18 = .ok (.getfield 59, 3) := by decide +kernel
theorem dX1_goOn_21 : decode cX1_goOn 21 = .ok (.iload_n 1, 1) := by decide +kernel
theorem dX1_goOn_22 : decode cX1_goOn 22 = .ok (.isub, 1) := by decide +kernel
theorem dX1_goOn_23 : decode cX1_goOn 23 = .ok (.invokestatic 83, 3) := by decide +kernel
theorem dX1_goOn_26 : decode cX1_goOn 26 = .ok (.putfield 59, 3) := by decide +kernel
theorem dX1_goOn_29 : decode cX1_goOn 29 = .ok (.aload_n 0, 1) := by decide +kernel
theorem dX1_goOn_30 : decode cX1_goOn 30 = .ok (.aload_n 0, 1) := by decide +kernel
theorem dX1_goOn_31 : decode cX1_goOn 31 = .ok (.getfield 62, 3) := by decide +kernel
theorem dX1_goOn_34 : decode cX1_goOn 34 = .ok (.iload_n 1, 1) := by decide +kernel
theorem dX1_goOn_35 : decode cX1_goOn 35 = .ok (.iadd, 1) := by decide +kernel
theorem dX1_goOn_36 : decode cX1_goOn 36 = .ok (.ldc 132, 2) := by decide +kernel
theorem dX1_goOn_38 : decode cX1_goOn 38 = .ok (.invokestatic 133, 3) := by decide +kernel
theorem dX1_goOn_41 : decode cX1_goOn 41 = .ok (.putfield 62, 3) := by decide +kernel
theorem dX1_goOn_44 : decode cX1_goOn 44 = .ok (.return_, 1) := by decide +kernel
theorem dX1_pegsBy_0 : decode cX1_pegsBy 0 = .ok (.iconst 0, 1) := by decide +kernel
theorem dX1_pegsBy_1 : decode cX1_pegsBy 1 = .ok (.istore_n 3, 1) := by decide +kernel
theorem dX1_pegsBy_2 : decode cX1_pegsBy 2 = .ok (.iconst 0, 1) := by decide +kernel
theorem dX1_pegsBy_3 : decode cX1_pegsBy 3 = .ok (.istore 4, 2) := by decide +kernel
theorem dX1_pegsBy_5 : decode cX1_pegsBy 5 = .ok (.iload 4, 2) := by decide +kernel
theorem dX1_pegsBy_7 : decode cX1_pegsBy 7 = .ok (.bipush 12, 2) := by decide +kernel
theorem dX1_pegsBy_9 : decode cX1_pegsBy 9 = .ok (.if_icmp .ge 40, 3) := by decide +kernel
theorem dX1_pegsBy_12 : decode cX1_pegsBy 12 = .ok (.aload_n 0, 1) := by decide +kernel
theorem dX1_pegsBy_13 : decode cX1_pegsBy 13 = .ok (.getfield 11, 3) := by decide +kernel
theorem dX1_pegsBy_16 : decode cX1_pegsBy 16 = .ok (.aload_n 1, 1) := by decide +kernel
theorem dX1_pegsBy_17 : decode cX1_pegsBy 17 = .ok (.getfield 68, 3) := by decide +kernel
theorem dX1_pegsBy_20 : decode cX1_pegsBy 20 = .ok (.aaload, 1) := by decide +kernel
theorem dX1_pegsBy_21 : decode cX1_pegsBy 21 = .ok (.iload 4, 2) := by decide +kernel
theorem dX1_pegsBy_23 : decode cX1_pegsBy 23 = .ok (.iload_n 2, 1) := by decide +kernel
theorem dX1_pegsBy_24 : decode cX1_pegsBy 24 = .ok (.iadd, 1) := by decide +kernel
theorem dX1_pegsBy_25 : decode cX1_pegsBy 25 = .ok (.invokestatic 83, 3) := by decide +kernel
theorem dX1_pegsBy_28 : decode cX1_pegsBy 28 = .ok (.iaload, 1) := by decide +kernel
theorem dX1_pegsBy_29 : decode cX1_pegsBy 29 = .ok (.aload_n 0, 1) := by decide +kernel
theorem dX1_pegsBy_30 : decode cX1_pegsBy 30 = .ok (.getfield 23, 3) := by decide +kernel
theorem dX1_pegsBy_33 : decode cX1_pegsBy 33 = .ok (.if_icmp .lt 10, 3) := by decide +kernel
theorem dX1_pegsBy_36 : decode cX1_pegsBy 36 = .ok (.iload_n 3, 1) := by decide +kernel
theorem dX1_pegsBy_37 : decode cX1_pegsBy 37 = .ok (.iconst 1, 1) := by decide +kernel
theorem dX1_pegsBy_38 : decode cX1_pegsBy 38 = .ok (.iload 4, 2) := by decide +kernel
theorem dX1_pegsBy_40 : decode cX1_pegsBy 40 = .ok (.ishl, 1) := by decide +kernel
theorem dX1_pegsBy_41 : decode cX1_pegsBy 41 = .ok (.ior, 1) := by decide +kernel
theorem dX1_pegsBy_42 : decode cX1_pegsBy 42 = .ok (.istore_n 3, 1) := by decide +kernel
theorem dX1_pegsBy_43 : decode cX1_pegsBy 43 = .ok (.iinc 4 1, 3) := by decide +kernel
theorem dX1_pegsBy_46 : decode cX1_pegsBy 46 = .ok (.goto (-41), 3) := by decide +kernel
theorem dX1_pegsBy_49 : decode cX1_pegsBy 49 = .ok (.aload_n 1, 1) := by decide +kernel
theorem dX1_pegsBy_50 : decode cX1_pegsBy 50 = .ok (.iload_n 3, 1) := by decide +kernel
theorem dX1_pegsBy_51 : decode cX1_pegsBy 51 = .ok (.invokevirtual 136, 3) := by decide +kernel
theorem dX1_pegsBy_54 : decode cX1_pegsBy 54 = .ok (.invokestatic 124, 3) := by decide +kernel
theorem dX1_pegsBy_57 : decode cX1_pegsBy 57 = .ok (.ireturn, 1) := by decide +kernel
theorem dX1_beatsTill_0 : decode cX1_beatsTill 0 = .ok (.iconst 0, 1) := by decide +kernel
theorem dX1_beatsTill_1 : decode cX1_beatsTill 1 = .ok (.istore_n 2, 1) := by decide +kernel
theorem dX1_beatsTill_2 : decode cX1_beatsTill 2 = .ok (.aload_n 0, 1) := by decide +kernel
theorem dX1_beatsTill_3 : decode cX1_beatsTill 3 = .ok (.getfield 59, 3) := by decide +kernel
theorem dX1_beatsTill_6 : decode cX1_beatsTill 6 = .ok (.istore_n 3, 1) := by decide +kernel
theorem dX1_beatsTill_7 : decode cX1_beatsTill 7 = .ok (.iconst 0, 1) := by decide +kernel
theorem dX1_beatsTill_8 : decode cX1_beatsTill 8 = .ok (.istore 4, 2) := by decide +kernel
theorem dX1_beatsTill_10 : decode cX1_beatsTill 10 = .ok (.iload 4, 2) := by decide +kernel
theorem dX1_beatsTill_12 : decode cX1_beatsTill 12 = .ok (.bipush 12, 2) := by decide +kernel
theorem dX1_beatsTill_14 : decode cX1_beatsTill 14 = .ok (.if_icmp .ge 29, 3) := by decide +kernel
theorem dX1_beatsTill_17 : decode cX1_beatsTill 17 = .ok (.iload_n 3, 1) := by decide +kernel
theorem dX1_beatsTill_18 : decode cX1_beatsTill 18 = .ok (.iload_n 1, 1) := by decide +kernel
theorem dX1_beatsTill_19 : decode cX1_beatsTill 19 = .ok (.if_icmp .eq 24, 3) := by decide +kernel
theorem dX1_beatsTill_22 : decode cX1_beatsTill 22 = .ok (.iload_n 2, 1) := by decide +kernel
theorem dX1_beatsTill_23 : decode cX1_beatsTill 23 = .ok (.aload_n 0, 1) := by decide +kernel
theorem dX1_beatsTill_24 : decode cX1_beatsTill 24 = .ok (.getfield 27, 3) := by decide +kernel
theorem dX1_beatsTill_27 : decode cX1_beatsTill 27 = .ok (.iload_n 3, 1) := by decide +kernel
theorem dX1_beatsTill_28 : decode cX1_beatsTill 28 = .ok (.iaload, 1) := by decide +kernel
theorem dX1_beatsTill_29 : decode cX1_beatsTill 29 = .ok (.iadd, 1) := by decide +kernel
theorem dX1_beatsTill_30 : decode cX1_beatsTill 30 = .ok (.istore_n 2, 1) := by decide +kernel
theorem dX1_beatsTill_31 : decode cX1_beatsTill 31 = .ok (.aload_n 0, 1) := by decide +kernel
theorem dX1_beatsTill_32 : decode cX1_beatsTill 32 = .ok (.iload_n 3, 1) := by decide +kernel
theorem dX1_beatsTill_33 : decode cX1_beatsTill 33 = .ok (.invokevirtual 129, 3) := by decide +kernel
theorem dX1_beatsTill_36 : decode cX1_beatsTill 36 = .ok (.istore_n 3, 1) := by decide +kernel
theorem dX1_beatsTill_37 : decode cX1_beatsTill 37 = .ok (.iinc 4 1, 3) := by decide +kernel
theorem dX1_beatsTill_40 : decode cX1_beatsTill 40 = .ok (.goto (-30), 3) := by decide +kernel
theorem dX1_beatsTill_43 : decode cX1_beatsTill 43 = .ok (.iload_n 2, 1) := by decide +kernel
theorem dX1_beatsTill_44 : decode cX1_beatsTill 44 = .ok (.ireturn, 1) := by decide +kernel
theorem dX1_angleAfter_0 : decode cX1_angleAfter 0 = .ok (.iconst 0, 1) := by decide +kernel
theorem dX1_angleAfter_1 : decode cX1_angleAfter 1 = .ok (.istore_n 2, 1) := by decide +kernel
theorem dX1_angleAfter_2 : decode cX1_angleAfter 2 = .ok (.iconst 0, 1) := by decide +kernel
theorem dX1_angleAfter_3 : decode cX1_angleAfter 3 = .ok (.istore_n 3, 1) := by decide +kernel
theorem dX1_angleAfter_4 : decode cX1_angleAfter 4 = .ok (.iload_n 3, 1) := by decide +kernel
theorem dX1_angleAfter_5 : decode cX1_angleAfter 5 = .ok (.bipush 12, 2) := by decide +kernel
theorem dX1_angleAfter_7 : decode cX1_angleAfter 7 = .ok (.if_icmp .ge 18, 3) := by decide +kernel
theorem dX1_angleAfter_10 : decode cX1_angleAfter 10 = .ok (.iload_n 2, 1) := by decide +kernel
theorem dX1_angleAfter_11 : decode cX1_angleAfter 11 = .ok (.aload_n 0, 1) := by decide +kernel
theorem dX1_angleAfter_12 : decode cX1_angleAfter 12 = .ok (.getfield 27, 3) := by decide +kernel
theorem dX1_angleAfter_15 : decode cX1_angleAfter 15 = .ok (.iload_n 3, 1) := by decide +kernel
theorem dX1_angleAfter_16 : decode cX1_angleAfter 16 = .ok (.iaload, 1) := by decide +kernel
theorem dX1_angleAfter_17 : decode cX1_angleAfter 17 = .ok (.iadd, 1) := by decide +kernel
theorem dX1_angleAfter_18 : decode cX1_angleAfter 18 = .ok (.istore_n 2, 1) := by decide +kernel
theorem dX1_angleAfter_19 : decode cX1_angleAfter 19 = .ok (.iinc 3 1, 3) := by decide +kernel
theorem dX1_angleAfter_22 : decode cX1_angleAfter 22 = .ok (.goto (-18), 3) := by decide +kernel
theorem dX1_angleAfter_25 : decode cX1_angleAfter 25 = .ok (.iload_n 2, 1) := by decide +kernel
theorem dX1_angleAfter_26 : decode cX1_angleAfter 26 = .ok (.ifCond .le 9, 3) := by decide +kernel
theorem dX1_angleAfter_29 : decode cX1_angleAfter 29 = .ok (.iload_n 1, 1) := by decide +kernel
theorem dX1_angleAfter_30 : decode cX1_angleAfter 30 = .ok (.iload_n 2, 1) := by decide +kernel
theorem dX1_angleAfter_31 : decode cX1_angleAfter 31 = .ok (.irem, 1) := by decide +kernel
theorem dX1_angleAfter_32 : decode cX1_angleAfter 32 = .ok (.goto 4, 3) := by decide +kernel
theorem dX1_angleAfter_35 : decode cX1_angleAfter 35 = .ok (.iconst 0, 1) := by decide +kernel
theorem dX1_angleAfter_36 : decode cX1_angleAfter 36 = .ok (.istore_n 3, 1) := by decide +kernel
theorem dX1_angleAfter_37 : decode cX1_angleAfter 37 = .ok (.aload_n 0, 1) := by decide +kernel
theorem dX1_angleAfter_38 : decode cX1_angleAfter 38 = .ok (.getfield 59, 3) := by decide +kernel
theorem dX1_angleAfter_41 : decode cX1_angleAfter 41 = .ok (.istore 4, 2) := by decide +kernel
theorem dX1_angleAfter_43 : decode cX1_angleAfter 43 = .ok (.iconst 0, 1) := by decide +kernel
theorem dX1_angleAfter_44 : decode cX1_angleAfter 44 = .ok (.istore 5, 2) := by decide +kernel
theorem dX1_angleAfter_46 : decode cX1_angleAfter 46 = .ok (.iload 5, 2) := by decide +kernel
theorem dX1_angleAfter_48 : decode cX1_angleAfter 48 = .ok (.bipush 12, 2) := by decide +kernel
theorem dX1_angleAfter_50 : decode cX1_angleAfter 50 = .ok (.if_icmp .ge 38, 3) := by decide +kernel
theorem dX1_angleAfter_53 : decode cX1_angleAfter 53 = .ok (.iload_n 3, 1) := by decide +kernel
theorem dX1_angleAfter_54 : decode cX1_angleAfter 54 = .ok (.aload_n 0, 1) := by decide +kernel
theorem dX1_angleAfter_55 : decode cX1_angleAfter 55 = .ok (.getfield 27, 3) := by decide +kernel
theorem dX1_angleAfter_58 : decode cX1_angleAfter 58 = .ok (.iload 4, 2) := by decide +kernel
theorem dX1_angleAfter_60 : decode cX1_angleAfter 60 = .ok (.iaload, 1) := by decide +kernel
theorem dX1_angleAfter_61 : decode cX1_angleAfter 61 = .ok (.if_icmp .lt 27, 3) := by decide +kernel
theorem dX1_angleAfter_64 : decode cX1_angleAfter 64 = .ok (.iload_n 3, 1) := by decide +kernel
theorem dX1_angleAfter_65 : decode cX1_angleAfter 65 = .ok (.aload_n 0, 1) := by decide +kernel
theorem dX1_angleAfter_66 : decode cX1_angleAfter 66 = .ok (.getfield 27, 3) := by decide +kernel
theorem dX1_angleAfter_69 : decode cX1_angleAfter 69 = .ok (.iload 4, 2) := by decide +kernel
theorem dX1_angleAfter_71 : decode cX1_angleAfter 71 = .ok (.iaload, 1) := by decide +kernel
theorem dX1_angleAfter_72 : decode cX1_angleAfter 72 = .ok (.isub, 1) := by decide +kernel
theorem dX1_angleAfter_73 : decode cX1_angleAfter 73 = .ok (.istore_n 3, 1) := by decide +kernel
theorem dX1_angleAfter_74 : decode cX1_angleAfter 74 = .ok (.aload_n 0, 1) := by decide +kernel
theorem dX1_angleAfter_75 : decode cX1_angleAfter 75 = .ok (.iload 4, 2) := by decide +kernel
theorem dX1_angleAfter_77 : decode cX1_angleAfter 77 = .ok (.invokevirtual 129, 3) := by decide +kernel
theorem dX1_angleAfter_80 : decode cX1_angleAfter 80 = .ok (.istore 4, 2) := by decide +kernel
theorem dX1_angleAfter_82 : decode cX1_angleAfter 82 = .ok (.iinc 5 1, 3) := by decide +kernel
theorem dX1_angleAfter_85 : decode cX1_angleAfter 85 = .ok (.goto (-39), 3) := by decide +kernel
theorem dX1_angleAfter_88 : decode cX1_angleAfter 88 = .ok (.iload 4, 2) := by decide +kernel
theorem dX1_angleAfter_90 : decode cX1_angleAfter 90 = .ok (.ireturn, 1) := by decide +kernel
theorem dX2_init_0 : decode cX2_init 0 = .ok (.aload_n 0, 1) := by decide +kernel
theorem dX2_init_1 : decode cX2_init 1 = .ok (.invokespecial 3, 3) := by decide +kernel
theorem dX2_init_4 : decode cX2_init 4 = .ok (.aload_n 0, 1) := by decide +kernel
theorem dX2_init_5 : decode cX2_init 5 = .ok (.iconst 5, 1) := by decide +kernel
theorem dX2_init_6 : decode cX2_init 6 = .ok (.newarray .int, 2) := by decide +kernel
theorem dX2_init_8 : decode cX2_init 8 = .ok (.putfield 9, 3) := by decide +kernel
theorem dX2_init_11 : decode cX2_init 11 = .ok (.aload_n 0, 1) := by decide +kernel
theorem dX2_init_12 : decode cX2_init 12 = .ok (.iconst 5, 1) := by decide +kernel
theorem dX2_init_13 : decode cX2_init 13 = .ok (.newarray .int, 2) := by decide +kernel
theorem dX2_init_15 : decode cX2_init 15 = .ok (.putfield 15, 3) := by decide +kernel
theorem dX2_init_18 : decode cX2_init 18 = .ok (.aload_n 0, 1) := by decide +kernel
theorem dX2_init_19 : decode cX2_init 19 = .ok (.iconst 5, 1) := by decide +kernel
theorem dX2_init_20 : decode cX2_init 20 = .ok (.iconst 5, 1) := by decide +kernel
theorem dX2_init_21 : decode cX2_init 21 = .ok (.multianewarray 18 2, 4) := by decide +kernel
theorem dX2_init_25 : decode cX2_init 25 = .ok (.putfield 20, 3) := by decide +kernel
theorem dX2_init_28 : decode cX2_init 28 = .ok (.return_, 1) := by decide +kernel
theorem dX2_compare_0 : decode cX2_compare 0 = .ok (.iconst 0, 1) := by decide +kernel
theorem dX2_compare_1 : decode cX2_compare 1 = .ok (.istore_n 3, 1) := by decide +kernel
theorem dX2_compare_2 : decode cX2_compare 2 = .ok (.iload_n 3, 1) := by decide +kernel
theorem dX2_compare_3 : decode cX2_compare 3 = .ok (.iload_n 2, 1) := by decide +kernel
theorem dX2_compare_4 : decode cX2_compare 4 = .ok (.if_icmp .ge 43, 3) := by decide +kernel
theorem dX2_compare_7 : decode cX2_compare 7 = .ok (.iconst 0, 1) := by decide +kernel
theorem dX2_compare_8 : decode cX2_compare 8 = .ok (.istore 4, 2) := by decide +kernel
theorem dX2_compare_10 : decode cX2_compare 10 = .ok (.iload 4, 2) := by decide +kernel
theorem dX2_compare_12 : decode cX2_compare 12 = .ok (.iload_n 3, 1) := by decide +kernel
theorem dX2_compare_13 : decode cX2_compare 13 = .ok (.if_icmp .ge 28, 3) := by decide +kernel
theorem dX2_compare_16 : decode cX2_compare 16 = .ok (.aload_n 0, 1) := by decide +kernel
theorem dX2_compare_17 : decode cX2_compare 17 = .ok (.getfield 20, 3) := by decide +kernel
theorem dX2_compare_20 : decode cX2_compare 20 = .ok (.iload 4, 2) := by decide +kernel
theorem dX2_compare_22 : decode cX2_compare 22 = .ok (.aaload, 1) := by decide +kernel
theorem dX2_compare_23 : decode cX2_compare 23 = .ok (.iload_n 3, 1) := by decide +kernel
theorem dX2_compare_24 : decode cX2_compare 24 = .ok (.aload_n 1, 1) := by decide +kernel
theorem dX2_compare_25 : decode cX2_compare 25 = .ok (.iload 4, 2) := by decide +kernel
theorem dX2_compare_27 : decode cX2_compare 27 = .ok (.aaload, 1) := by decide +kernel
theorem dX2_compare_28 : decode cX2_compare 28 = .ok (.aload_n 1, 1) := by decide +kernel
theorem dX2_compare_29 : decode cX2_compare 29 = .ok (.iload_n 3, 1) := by decide +kernel
theorem dX2_compare_30 : decode cX2_compare 30 = .ok (.aaload, 1) := by decide +kernel
theorem dX2_compare_31 : decode cX2_compare 31 = .ok (.invokestatic 23, 3) := by decide +kernel
theorem dX2_compare_34 : decode cX2_compare 34 = .ok (.iastore, 1) := by decide +kernel
theorem dX2_compare_35 : decode cX2_compare 35 = .ok (.iinc 4 1, 3) := by decide +kernel
theorem dX2_compare_38 : decode cX2_compare 38 = .ok (.goto (-28), 3) := by decide +kernel
theorem dX2_compare_41 : decode cX2_compare 41 = .ok (.iinc 3 1, 3) := by decide +kernel
theorem dX2_compare_44 : decode cX2_compare 44 = .ok (.goto (-42), 3) := by decide +kernel
theorem dX2_compare_47 : decode cX2_compare 47 = .ok (.return_, 1) := by decide +kernel
theorem dX2_lagsOf_0 : decode cX2_lagsOf 0 = .ok (.iconst 0, 1) := by decide +kernel
theorem dX2_lagsOf_1 : decode cX2_lagsOf 1 = .ok (.istore_n 2, 1) := by decide +kernel
theorem dX2_lagsOf_2 : decode cX2_lagsOf 2 = .ok (.iconst 0, 1) := by decide +kernel
theorem dX2_lagsOf_3 : decode cX2_lagsOf 3 = .ok (.istore_n 3, 1) := by decide +kernel
theorem dX2_lagsOf_4 : decode cX2_lagsOf 4 = .ok (.iload_n 3, 1) := by decide +kernel
theorem dX2_lagsOf_5 : decode cX2_lagsOf 5 = .ok (.bipush 12, 2) := by decide +kernel
theorem dX2_lagsOf_7 : decode cX2_lagsOf 7 = .ok (.if_icmp .ge 53, 3) := by decide +kernel
theorem dX2_lagsOf_10 : decode cX2_lagsOf 10 = .ok (.aload_n 1, 1) := by decide +kernel
theorem dX2_lagsOf_11 : decode cX2_lagsOf 11 = .ok (.getfield 27, 3) := by decide +kernel
theorem dX2_lagsOf_14 : decode cX2_lagsOf 14 = .ok (.iload_n 3, 1) := by decide +kernel
theorem dX2_lagsOf_15 : decode cX2_lagsOf 15 = .ok (.invokestatic 33, 3) := by decide +kernel
theorem dX2_lagsOf_18 : decode cX2_lagsOf 18 = .ok (.istore 4, 2) := by decide +kernel
theorem dX2_lagsOf_20 : decode cX2_lagsOf 20 = .ok (.aload_n 1, 1) := by decide +kernel
theorem dX2_lagsOf_21 : decode cX2_lagsOf 21 = .ok (.getfield 37, 3) := by decide +kernel
theorem dX2_lagsOf_24 : decode cX2_lagsOf 24 = .ok (.iload_n 3, 1) := by decide +kernel
theorem dX2_lagsOf_25 : decode cX2_lagsOf 25 = .ok (.invokestatic 33, 3) := by decide +kernel
theorem dX2_lagsOf_28 : decode cX2_lagsOf 28 = .ok (.istore 5, 2) := by decide +kernel
theorem dX2_lagsOf_30 : decode cX2_lagsOf 30 = .ok (.aload_n 0, 1) := by decide +kernel
theorem dX2_lagsOf_31 : decode cX2_lagsOf 31 = .ok (.getfield 27, 3) := by decide +kernel
theorem dX2_lagsOf_34 : decode cX2_lagsOf 34 = .ok (.iload 5, 2) := by decide +kernel
theorem dX2_lagsOf_36 : decode cX2_lagsOf 36 = .ok (.iand, 1) := by decide +kernel
theorem dX2_lagsOf_37 : decode cX2_lagsOf 37 = .ok (.aload_n 0, 1) := by decide +kernel
theorem dX2_lagsOf_38 : decode cX2_lagsOf 38 = .ok (.getfield 37, 3) := by decide +kernel
theorem dX2_lagsOf_41 : decode cX2_lagsOf 41 = .ok (.iload 4, 2) := by decide +kernel
theorem dX2_lagsOf_43 : decode cX2_lagsOf 43 = .ok (.iand, 1) := by decide +kernel
theorem dX2_lagsOf_44 : decode cX2_lagsOf 44 = .ok (.ior, 1) := by decide +kernel
theorem dX2_lagsOf_45 : decode cX2_lagsOf 45 = .ok (.ifCond .ne 9, 3) := by decide +kernel
theorem dX2_lagsOf_48 : decode cX2_lagsOf 48 = .ok (.iload_n 2, 1) := by decide +kernel
theorem dX2_lagsOf_49 : decode cX2_lagsOf 49 = .ok (.iconst 1, 1) := by decide +kernel
theorem dX2_lagsOf_50 : decode cX2_lagsOf 50 = .ok (.iload_n 3, 1) := by decide +kernel
theorem dX2_lagsOf_51 : decode cX2_lagsOf 51 = .ok (.ishl, 1) := by decide +kernel
theorem dX2_lagsOf_52 : decode cX2_lagsOf 52 = .ok (.ior, 1) := by decide +kernel
theorem dX2_lagsOf_53 : decode cX2_lagsOf 53 = .ok (.istore_n 2, 1) := by decide +kernel
theorem dX2_lagsOf_54 : decode cX2_lagsOf 54 = .ok (.iinc 3 1, 3) := by decide +kernel
theorem dX2_lagsOf_57 : decode cX2_lagsOf 57 = .ok (.goto (-53), 3) := by decide +kernel
theorem dX2_lagsOf_60 : decode cX2_lagsOf 60 = .ok (.iload_n 2, 1) := by decide +kernel
theorem dX2_lagsOf_61 : decode cX2_lagsOf 61 = .ok (.ireturn, 1) := by decide +kernel
theorem dX2_lagsOn_0 : decode cX2_lagsOn 0 = .ok (.sipush 4095, 3) := by decide +kernel
theorem dX2_lagsOn_3 : decode cX2_lagsOn 3 = .ok (.istore_n 3, 1) := by decide +kernel
theorem dX2_lagsOn_4 : decode cX2_lagsOn 4 = .ok (.iconst 0, 1) := by decide +kernel
theorem dX2_lagsOn_5 : decode cX2_lagsOn 5 = .ok (.istore 4, 2) := by decide +kernel
theorem dX2_lagsOn_7 : decode cX2_lagsOn 7 = .ok (.iload 4, 2) := by decide +kernel
theorem dX2_lagsOn_9 : decode cX2_lagsOn 9 = .ok (.iload_n 2, 1) := by decide +kernel
theorem dX2_lagsOn_10 : decode cX2_lagsOn 10 = .ok (.if_icmp .ge 42, 3) := by decide +kernel
theorem dX2_lagsOn_13 : decode cX2_lagsOn 13 = .ok (.aload_n 0, 1) := by decide +kernel
theorem dX2_lagsOn_14 : decode cX2_lagsOn 14 = .ok (.getfield 9, 3) := by decide +kernel
theorem dX2_lagsOn_17 : decode cX2_lagsOn 17 = .ok (.iload 4, 2) := by decide +kernel
theorem dX2_lagsOn_19 : decode cX2_lagsOn 19 = .ok (.iaload, 1) := by decide +kernel
theorem dX2_lagsOn_20 : decode cX2_lagsOn 20 = .ok (.iload_n 1, 1) := by decide +kernel
theorem dX2_lagsOn_21 : decode cX2_lagsOn 21 = .ok (.if_icmp .ne 25, 3) := by decide +kernel
theorem dX2_lagsOn_24 : decode cX2_lagsOn 24 = .ok (.iload_n 3, 1) := by decide +kernel
theorem dX2_lagsOn_25 : decode cX2_lagsOn 25 = .ok (.aload_n 0, 1) := by decide +kernel
theorem dX2_lagsOn_26 : decode cX2_lagsOn 26 = .ok (.getfield 20, 3) := by decide +kernel
theorem dX2_lagsOn_29 : decode cX2_lagsOn 29 = .ok (.iload 4, 2) := by decide +kernel
theorem dX2_lagsOn_31 : decode cX2_lagsOn 31 = .ok (.aaload, 1) := by decide +kernel
theorem dX2_lagsOn_32 : decode cX2_lagsOn 32 = .ok (.iload_n 2, 1) := by decide +kernel
theorem dX2_lagsOn_33 : decode cX2_lagsOn 33 = .ok (.iaload, 1) := by decide +kernel
theorem dX2_lagsOn_34 : decode cX2_lagsOn 34 = .ok (.aload_n 0, 1) := by decide +kernel
theorem dX2_lagsOn_35 : decode cX2_lagsOn 35 = .ok (.getfield 15, 3) := by decide +kernel
theorem dX2_lagsOn_38 : decode cX2_lagsOn 38 = .ok (.iload 4, 2) := by decide +kernel
theorem dX2_lagsOn_40 : decode cX2_lagsOn 40 = .ok (.iaload, 1) := by decide +kernel
theorem dX2_lagsOn_41 : decode cX2_lagsOn 41 = .ok (.invokestatic 33, 3) := by decide +kernel
theorem dX2_lagsOn_44 : decode cX2_lagsOn 44 = .ok (.iand, 1) := by decide +kernel
theorem dX2_lagsOn_45 : decode cX2_lagsOn 45 = .ok (.istore_n 3, 1) := by decide +kernel
theorem dX2_lagsOn_46 : decode cX2_lagsOn 46 = .ok (.iinc 4 1, 3) := by decide +kernel
theorem dX2_lagsOn_49 : decode cX2_lagsOn 49 = .ok (.goto (-42), 3) := by decide +kernel
theorem dX2_lagsOn_52 : decode cX2_lagsOn 52 = .ok (.iload_n 3, 1) := by decide +kernel
theorem dX2_lagsOn_53 : decode cX2_lagsOn 53 = .ok (.ireturn, 1) := by decide +kernel
theorem dX3_init_0 : decode cX3_init 0 = .ok (.aload_n 0, 1) := by decide +kernel
theorem dX3_init_1 : decode cX3_init 1 = .ok (.invokespecial 3, 3) := by decide +kernel
theorem dX3_init_4 : decode cX3_init 4 = .ok (.aload_n 0, 1) := by decide +kernel
theorem dX3_init_5 : decode cX3_init 5 = .ok (.bipush 24, 2) := by decide +kernel
theorem dX3_init_7 : decode cX3_init 7 = .ok (.newarray .long, 2) := by decide +kernel
theorem dX3_init_9 : decode cX3_init 9 = .ok (.putfield 9, 3) := by decide +kernel
theorem dX3_init_12 : decode cX3_init 12 = .ok (.aload_n 0, 1) := by decide +kernel
theorem dX3_init_13 : decode cX3_init 13 = .ok (.iconst (-1), 1) := by decide +kernel
theorem dX3_init_14 : decode cX3_init 14 = .ok (.putfield 15, 3) := by decide +kernel
theorem dX3_init_17 : decode cX3_init 17 = .ok (.return_, 1) := by decide +kernel
theorem dX3_isNothing_0 : decode cX3_isNothing 0 = .ok (.aload_n 0, 1) := by decide +kernel
theorem dX3_isNothing_1 : decode cX3_isNothing 1 = .ok (.getfield 15, 3) := by decide +kernel
theorem dX3_isNothing_4 : decode cX3_isNothing 4 = .ok (.iconst (-1), 1) := by decide +kernel
theorem dX3_isNothing_5 : decode cX3_isNothing 5 = .ok (.if_icmp .ne 7, 3) := by decide +kernel
theorem dX3_isNothing_8 : decode cX3_isNothing 8 = .ok (.iconst 1, 1) := by decide +kernel
theorem dX3_isNothing_9 : decode cX3_isNothing 9 = .ok (.goto 4, 3) := by decide +kernel
theorem dX3_isNothing_12 : decode cX3_isNothing 12 = .ok (.iconst 0, 1) := by decide +kernel
theorem dX3_isNothing_13 : decode cX3_isNothing 13 = .ok (.ireturn, 1) := by decide +kernel
theorem dX3_begin_0 : decode cX3_begin 0 = .ok (.aload_n 0, 1) := by decide +kernel
theorem dX3_begin_1 : decode cX3_begin 1 = .ok (.iload_n 1, 1) := by decide +kernel
theorem dX3_begin_2 : decode cX3_begin 2 = .ok (.putfield 15, 3) := by decide +kernel
theorem dX3_begin_5 : decode cX3_begin 5 = .ok (.aload_n 0, 1) := by decide +kernel
theorem dX3_begin_6 : decode cX3_begin 6 = .ok (.iload_n 2, 1) := by decide +kernel
theorem dX3_begin_7 : decode cX3_begin 7 = .ok (.putfield 19, 3) := by decide +kernel
theorem dX3_begin_10 : decode cX3_begin 10 = .ok (.aload_n 0, 1) := by decide +kernel
theorem dX3_begin_11 : decode cX3_begin 11 = .ok (.getfield 9, 3) := by decide +kernel
theorem dX3_begin_14 : decode cX3_begin 14 = .ok (.lconst 0, 1) := by decide +kernel
theorem dX3_begin_15 : decode cX3_begin 15 = .ok (.invokestatic 22, 3) := by decide +kernel
theorem dX3_begin_18 : decode cX3_begin 18 = .ok (.return_, 1) := by decide +kernel
theorem dX3_end_0 : decode cX3_end 0 = .ok (.aload_n 0, 1) := by decide +kernel
theorem dX3_end_1 : decode cX3_end 1 = .ok (.iconst (-1), 1) := by decide +kernel
theorem dX3_end_2 : decode cX3_end 2 = .ok (.putfield 15, 3) := by decide +kernel
theorem dX3_end_5 : decode cX3_end 5 = .ok (.aload_n 0, 1) := by decide +kernel
theorem dX3_end_6 : decode cX3_end 6 = .ok (.getfield 19, 3) := by decide +kernel
theorem dX3_end_9 : decode cX3_end 9 = .ok (.ireturn, 1) := by decide +kernel
theorem dX3_hasItems_0 : decode cX3_hasItems 0 = .ok (.iload_n 1, 1) := by decide +kernel
theorem dX3_hasItems_1 : decode cX3_hasItems 1 = .ok (.ifCond .lt 21, 3) := by decide +kernel
theorem dX3_hasItems_4 : decode cX3_hasItems 4 = .ok (.iload_n 2, 1) := by decide +kernel
theorem dX3_hasItems_5 : decode cX3_hasItems 5 = .ok (.ifCond .lt 17, 3) := by decide +kernel
theorem dX3_hasItems_8 : decode cX3_hasItems 8 = .ok (.iload_n 1, 1) := by decide +kernel
theorem dX3_hasItems_9 : decode cX3_hasItems 9 = .ok (.aload_n 0, 1) := by decide +kernel
theorem dX3_hasItems_10 : decode cX3_hasItems 10 = .ok (.getfield 19, 3) := by decide +kernel
theorem dX3_hasItems_13 : decode cX3_hasItems 13 = .ok (.iload_n 2, 1) := by decide +kernel
theorem dX3_hasItems_14 : decode cX3_hasItems 14 = .ok (.isub, 1) := by decide +kernel
theorem dX3_hasItems_15 : decode cX3_hasItems 15 = .ok (.if_icmp .gt 7, 3) := by decide +kernel
theorem dX3_hasItems_18 : decode cX3_hasItems 18 = .ok (.iconst 1, 1) := by decide +kernel
theorem dX3_hasItems_19 : decode cX3_hasItems 19 = .ok (.goto 4, 3) := by decide +kernel
theorem dX3_hasItems_22 : decode cX3_hasItems 22 = .ok (.iconst 0, 1) := by decide +kernel
theorem dX3_hasItems_23 : decode cX3_hasItems 23 = .ok (.ireturn, 1) := by decide +kernel
theorem dX3_put_0 : decode cX3_put 0 = .ok (.aload_n 0, 1) := by decide +kernel
theorem dX3_put_1 : decode cX3_put 1 = .ok (.getfield 15, 3) := by decide +kernel
theorem dX3_put_4 : decode cX3_put 4 = .ok (.lookupswitch 53 #[(0, 28), (1, 41)], 28) := by decide +kernel
theorem dX3_put_32 : decode cX3_put 32 = .ok (.aload_n 0, 1) := by decide +kernel
theorem dX3_put_33 : decode cX3_put 33 = .ok (.getfield 9, 3) := by decide +kernel
theorem dX3_put_36 : decode cX3_put 36 = .ok (.iload_n 1, 1) := by decide +kernel
theorem dX3_put_37 : decode cX3_put 37 = .ok (.lload_n 2, 1) := by decide +kernel
theorem dX3_put_38 : decode cX3_put 38 = .ok (.l2i, 1) := by decide +kernel
theorem dX3_put_39 : decode cX3_put 39 = .ok (.i2s, 1) := by decide +kernel
theorem dX3_put_40 : decode cX3_put 40 = .ok (.i2l, 1) := by decide +kernel
theorem dX3_put_41 : decode cX3_put 41 = .ok (.lastore, 1) := by decide +kernel
theorem dX3_put_42 : decode cX3_put 42 = .ok (.goto 22, 3) := by decide +kernel
theorem dX3_put_45 : decode cX3_put 45 = .ok (.aload_n 0, 1) := by decide +kernel
theorem dX3_put_46 : decode cX3_put 46 = .ok (.getfield 9, 3) := by decide +kernel
theorem dX3_put_49 : decode cX3_put 49 = .ok (.iload_n 1, 1) := by decide +kernel
theorem dX3_put_50 : decode cX3_put 50 = .ok (.lload_n 2, 1) := by decide +kernel
theorem dX3_put_51 : decode cX3_put 51 = .ok (.l2i, 1) := by decide +kernel
theorem dX3_put_52 : decode cX3_put 52 = .ok (.i2l, 1) := by decide +kernel
theorem dX3_put_53 : decode cX3_put 53 = .ok (.lastore, 1) := by decide +kernel
theorem dX3_put_54 : decode cX3_put 54 = .ok (.goto 10, 3) := by decide +kernel
theorem dX3_put_57 : decode cX3_put 57 = .ok (.aload_n 0, 1) := by decide +kernel
theorem dX3_put_58 : decode cX3_put 58 = .ok (.getfield 9, 3) := by decide +kernel
theorem dX3_put_61 : decode cX3_put 61 = .ok (.iload_n 1, 1) := by decide +kernel
theorem dX3_put_62 : decode cX3_put 62 = .ok (.lload_n 2, 1) := by decide +kernel
theorem dX3_put_63 : decode cX3_put 63 = .ok (.lastore, 1) := by decide +kernel
theorem dX3_put_64 : decode cX3_put 64 = .ok (.return_, 1) := by decide +kernel
theorem dX4_init_0 : decode cX4_init 0 = .ok (.aload_n 0, 1) := by decide +kernel
theorem dX4_init_1 : decode cX4_init 1 = .ok (.invokespecial 3, 3) := by decide +kernel
theorem dX4_init_4 : decode cX4_init 4 = .ok (.aload_n 0, 1) := by decide +kernel
theorem dX4_init_5 : decode cX4_init 5 = .ok (.bipush 40, 2) := by decide +kernel
theorem dX4_init_7 : decode cX4_init 7 = .ok (.newarray .int, 2) := by decide +kernel
theorem dX4_init_9 : decode cX4_init 9 = .ok (.putfield 9, 3) := by decide +kernel
theorem dX4_init_12 : decode cX4_init 12 = .ok (.aload_n 0, 1) := by decide +kernel
theorem dX4_init_13 : decode cX4_init 13 = .ok (.bipush 12, 2) := by decide +kernel
theorem dX4_init_15 : decode cX4_init 15 = .ok (.newarray .int, 2) := by decide +kernel
theorem dX4_init_17 : decode cX4_init 17 = .ok (.putfield 15, 3) := by decide +kernel
theorem dX4_init_20 : decode cX4_init 20 = .ok (.return_, 1) := by decide +kernel
theorem dX4_append_0 : decode cX4_append 0 = .ok (.aload_n 0, 1) := by decide +kernel
theorem dX4_append_1 : decode cX4_append 1 = .ok (.getfield 18, 3) := by decide +kernel
theorem dX4_append_4 : decode cX4_append 4 = .ok (.iload_n 3, 1) := by decide +kernel
theorem dX4_append_5 : decode cX4_append 5 = .ok (.iadd, 1) := by decide +kernel
theorem dX4_append_6 : decode cX4_append 6 = .ok (.bipush 40, 2) := by decide +kernel
theorem dX4_append_8 : decode cX4_append 8 = .ok (.if_icmp .le 6, 3) := by decide +kernel
theorem dX4_append_11 : decode cX4_append 11 = .ok (.bipush (-3), 2) := by decide +kernel
theorem dX4_append_13 : decode cX4_append 13 = .ok (.ireturn, 1) := by decide +kernel
theorem dX4_append_14 : decode cX4_append 14 = .ok (.iload_n 3, 1) := by decide +kernel
theorem dX4_append_15 : decode cX4_append 15 = .ok (.iconst 1, 1) := by decide +kernel
theorem dX4_append_16 : decode cX4_append 16 = .ok (.isub, 1) := by decide +kernel
theorem dX4_append_17 : decode cX4_append 17 = .ok (.istore 4, 2) := by decide +kernel
theorem dX4_append_19 : decode cX4_append 19 = .ok (.iload 4, 2) := by decide +kernel
theorem dX4_append_21 : decode cX4_append 21 = .ok (.ifCond .lt 34, 3) := by decide +kernel
theorem dX4_append_24 : decode cX4_append 24 = .ok (.aload_n 0, 1) := by decide +kernel
theorem dX4_append_25 : decode cX4_append 25 = .ok (.getfield 9, 3) := by decide +kernel
theorem dX4_append_28 : decode cX4_append 28 = .ok (.aload_n 0, 1) := by decide +kernel
theorem dX4_append_29 : decode cX4_append 29 = .ok (.getfield 18, 3) := by decide +kernel
theorem dX4_append_32 : decode cX4_append 32 = .ok (.lload_n 1, 1) := by decide +kernel
theorem dX4_append_33 : decode cX4_append 33 = .ok (.iload 4, 2) := by decide +kernel
theorem dX4_append_35 : decode cX4_append 35 = .ok (.invokestatic 22, 3) := by decide +kernel
theorem dX4_append_38 : decode cX4_append 38 = .ok (.iastore, 1) := by decide +kernel
theorem dX4_append_39 : decode cX4_append 39 = .ok (.aload_n 0, 1) := by decide +kernel
theorem dX4_append_40 : decode cX4_append 40 = .ok (.dup, 1) := by decide +kernel
theorem dX4_append_41 : decode cX4_append 41 = .ok (.getfield 18, 3) := by decide +kernel
theorem dX4_append_44 : decode cX4_append 44 = .ok (.iconst 1, 1) := by decide +kernel
theorem dX4_append_45 : decode cX4_append 45 = .ok (.iadd, 1) := by decide +kernel
theorem dX4_append_46 : decode cX4_append 46 = .ok (.putfield 18, 3) := by decide +kernel
theorem dX4_append_49 : decode cX4_append 49 = .ok (.iinc 4 (-1), 3) := by decide +kernel
theorem dX4_append_52 : decode cX4_append 52 = .ok (.goto (-33), 3) := by decide +kernel
theorem dX4_append_55 : decode cX4_append 55 = .ok (.aload_n 0, 1) := by decide +kernel
theorem dX4_append_56 : decode cX4_append 56 = .ok (.getfield 18, 3) := by decide +kernel
theorem dX4_append_59 : decode cX4_append 59 = .ok (.ireturn, 1) := by decide +kernel
theorem dX4_clear_0 : decode cX4_clear 0 = .ok (.aload_n 0, 1) := by decide +kernel
theorem dX4_clear_1 : decode cX4_clear 1 = .ok (.iconst 0, 1) := by decide +kernel
theorem dX4_clear_2 : decode cX4_clear 2 = .ok (.putfield 18, 3) := by decide +kernel
theorem dX4_clear_5 : decode cX4_clear 5 = .ok (.return_, 1) := by decide +kernel
theorem dX4_read_0 : decode cX4_read 0 = .ok (.iconst 0, 1) := by decide +kernel
theorem dX4_read_1 : decode cX4_read 1 = .ok (.istore_n 2, 1) := by decide +kernel
theorem dX4_read_2 : decode cX4_read 2 = .ok (.iconst 0, 1) := by decide +kernel
theorem dX4_read_3 : decode cX4_read 3 = .ok (.istore_n 3, 1) := by decide +kernel
theorem dX4_read_4 : decode cX4_read 4 = .ok (.iload_n 3, 1) := by decide +kernel
theorem dX4_read_5 : decode cX4_read 5 = .ok (.aload_n 0, 1) := by decide +kernel
theorem dX4_read_6 : decode cX4_read 6 = .ok (.getfield 18, 3) := by decide +kernel
theorem dX4_read_9 : decode cX4_read 9 = .ok (.if_icmp .ge 77, 3) := by decide +kernel
theorem dX4_read_12 : decode cX4_read 12 = .ok (.aload_n 0, 1) := by decide +kernel
theorem dX4_read_13 : decode cX4_read 13 = .ok (.getfield 9, 3) := by decide +kernel
theorem dX4_read_16 : decode cX4_read 16 = .ok (.iload_n 3, 1) := by decide +kernel
theorem dX4_read_17 : decode cX4_read 17 = .ok (.iaload, 1) := by decide +kernel
theorem dX4_read_18 : decode cX4_read 18 = .ok (.bipush 32, 2) := by decide +kernel
theorem dX4_read_20 : decode cX4_read 20 = .ok (.if_icmp .ne 6, 3) := by decide +kernel
theorem dX4_read_23 : decode cX4_read 23 = .ok (.goto 57, 3) := by decide +kernel
theorem dX4_read_26 : decode cX4_read 26 = .ok (.iload_n 1, 1) := by decide +kernel
theorem dX4_read_27 : decode cX4_read 27 = .ok (.ifCond .eq 15, 3) := by decide +kernel
theorem dX4_read_30 : decode cX4_read 30 = .ok (.aload_n 0, 1) := by decide +kernel
theorem dX4_read_31 : decode cX4_read 31 = .ok (.getfield 9, 3) := by decide +kernel
theorem dX4_read_34 : decode cX4_read 34 = .ok (.iload_n 3, 1) := by decide +kernel
theorem dX4_read_35 : decode cX4_read 35 = .ok (.iaload, 1) := by decide +kernel
theorem dX4_read_36 : decode cX4_read 36 = .ok (.invokestatic 26, 3) := by decide +kernel
theorem dX4_read_39 : decode cX4_read 39 = .ok (.goto 12, 3) := by decide +kernel
theorem dX4_read_42 : decode cX4_read 42 = .ok (.aload_n 0, 1) := by decide +kernel
theorem dX4_read_43 : decode cX4_read 43 = .ok (.getfield 9, 3) := by decide +kernel
theorem dX4_read_46 : decode cX4_read 46 = .ok (.iload_n 3, 1) := by decide +kernel
theorem dX4_read_47 : decode cX4_read 47 = .ok (.iaload, 1) := by decide +kernel
theorem dX4_read_48 : decode cX4_read 48 = .ok (.invokestatic 30, 3) := by decide +kernel
theorem dX4_read_51 : decode cX4_read 51 = .ok (.istore 4, 2) := by decide +kernel
theorem dX4_read_53 : decode cX4_read 53 = .ok (.iload 4, 2) := by decide +kernel
theorem dX4_read_55 : decode cX4_read 55 = .ok (.ifCond .lt 9, 3) := by decide +kernel
theorem dX4_read_58 : decode cX4_read 58 = .ok (.iload_n 2, 1) := by decide +kernel
theorem dX4_read_59 : decode cX4_read 59 = .ok (.bipush 12, 2) := by decide +kernel
theorem dX4_read_61 : decode cX4_read 61 = .ok (.if_icmp .lt 8, 3) := by decide +kernel
theorem dX4_read_64 : decode cX4_read 64 = .ok (.bipush (-20), 2) := by decide +kernel
theorem dX4_read_66 : decode cX4_read 66 = .ok (.iload_n 3, 1) := by decide +kernel
theorem dX4_read_67 : decode cX4_read 67 = .ok (.isub, 1) := by decide +kernel
theorem dX4_read_68 : decode cX4_read 68 = .ok (.ireturn, 1) := by decide +kernel
theorem dX4_read_69 : decode cX4_read 69 = .ok (.aload_n 0, 1) := by decide +kernel
theorem dX4_read_70 : decode cX4_read 70 = .ok (.getfield 15, 3) := by decide +kernel
theorem dX4_read_73 : decode cX4_read 73 = .ok (.iload_n 2, 1) := by decide +kernel
theorem dX4_read_74 : decode cX4_read 74 = .ok (.iload 4, 2) := by decide +kernel
theorem dX4_read_76 : decode cX4_read 76 = .ok (.iastore, 1) := by decide +kernel
theorem dX4_read_77 : decode cX4_read 77 = .ok (.iinc 2 1, 3) := by decide +kernel
theorem dX4_read_80 : decode cX4_read 80 = .ok (.iinc 3 1, 3) := by decide +kernel
theorem dX4_read_83 : decode cX4_read 83 = .ok (.goto (-79), 3) := by decide +kernel
theorem dX4_read_86 : decode cX4_read 86 = .ok (.iload_n 2, 1) := by decide +kernel
theorem dX4_read_87 : decode cX4_read 87 = .ok (.bipush 12, 2) := by decide +kernel
theorem dX4_read_89 : decode cX4_read 89 = .ok (.if_icmp .ge 13, 3) := by decide +kernel
theorem dX4_read_92 : decode cX4_read 92 = .ok (.bipush (-20), 2) := by decide +kernel
theorem dX4_read_94 : decode cX4_read 94 = .ok (.aload_n 0, 1) := by decide +kernel
theorem dX4_read_95 : decode cX4_read 95 = .ok (.getfield 18, 3) := by decide +kernel
theorem dX4_read_98 : decode cX4_read 98 = .ok (.isub, 1) := by decide +kernel
theorem dX4_read_99 : decode cX4_read 99 = .ok (.goto 4, 3) := by decide +kernel
theorem dX4_read_102 : decode cX4_read 102 = .ok (.iconst 0, 1) := by decide +kernel
theorem dX4_read_103 : decode cX4_read 103 = .ok (.ireturn, 1) := by decide +kernel
theorem dX4_digitOf_0 : decode cX4_digitOf 0 = .ok (.iload_n 0, 1) := by decide +kernel
theorem dX4_digitOf_1 : decode cX4_digitOf 1 = .ok (.bipush 48, 2) := by decide +kernel
theorem dX4_digitOf_3 : decode cX4_digitOf 3 = .ok (.bipush 57, 2) := by decide +kernel
theorem dX4_digitOf_5 : decode cX4_digitOf 5 = .ok (.invokestatic 33, 3) := by decide +kernel
theorem dX4_digitOf_8 : decode cX4_digitOf 8 = .ok (.ifCond .eq 10, 3) := by decide +kernel
theorem dX4_digitOf_11 : decode cX4_digitOf 11 = .ok (.iload_n 0, 1) := by decide +kernel
theorem dX4_digitOf_12 : decode cX4_digitOf 12 = .ok (.bipush 48, 2) := by decide +kernel
theorem dX4_digitOf_14 : decode cX4_digitOf 14 = .ok (.isub, 1) := by decide +kernel
theorem dX4_digitOf_15 : decode cX4_digitOf 15 = .ok (.goto 4, 3) := by decide +kernel
theorem dX4_digitOf_18 : decode cX4_digitOf 18 = .ok (.iconst (-1), 1) := by decide +kernel
theorem dX4_digitOf_19 : decode cX4_digitOf 19 = .ok (.ireturn, 1) := by decide +kernel
theorem dX4_wishSignOf_0 : decode cX4_wishSignOf 0 = .ok (.iload_n 0, 1) := by decide +kernel
theorem dX4_wishSignOf_1 : decode cX4_wishSignOf 1 = .ok (.lookupswitch 37 #[(46, 35), (100, 35), (117, 35)], 35) := by decide +kernel
theorem dX4_wishSignOf_36 : decode cX4_wishSignOf 36 = .ok (.iload_n 0, 1) := by decide +kernel
theorem dX4_wishSignOf_37 : decode cX4_wishSignOf 37 = .ok (.ireturn, 1) := by decide +kernel
theorem dX4_wishSignOf_38 : decode cX4_wishSignOf 38 = .ok (.iconst (-1), 1) := by decide +kernel
theorem dX4_wishSignOf_39 : decode cX4_wishSignOf 39 = .ok (.ireturn, 1) := by decide +kernel
theorem dX5_init_0 : decode cX5_init 0 = .ok (.aload_n 0, 1) := by decide +kernel
theorem dX5_init_1 : decode cX5_init 1 = .ok (.invokespecial 1, 3) := by decide +kernel
theorem dX5_init_4 : decode cX5_init 4 = .ok (.aload_n 0, 1) := by decide +kernel
theorem dX5_init_5 : decode cX5_init 5 = .ok (.new 7, 3) := by decide +kernel
theorem dX5_init_8 : decode cX5_init 8 = .ok (.dup, 1) := by decide +kernel
theorem dX5_init_9 : decode cX5_init 9 = .ok (.invokespecial 9, 3) := by decide +kernel
theorem dX5_init_12 : decode cX5_init 12 = .ok (.putfield 10, 3) := by decide +kernel
theorem dX5_init_15 : decode cX5_init 15 = .ok (.aload_n 0, 1) := by decide +kernel
theorem dX5_init_16 : decode cX5_init 16 = .ok (.new 7, 3) := by decide +kernel
theorem dX5_init_19 : decode cX5_init 19 = .ok (.dup, 1) := by decide +kernel
theorem dX5_init_20 : decode cX5_init 20 = .ok (.invokespecial 9, 3) := by decide +kernel
theorem dX5_init_23 : decode cX5_init 23 = .ok (.putfield 16, 3) := by decide +kernel
theorem dX5_init_26 : decode cX5_init 26 = .ok (.aload_n 0, 1) := by decide +kernel
theorem dX5_init_27 : decode cX5_init 27 = .ok (.new 19, 3) := by decide +kernel
theorem dX5_init_30 : decode cX5_init 30 = .ok (.dup, 1) := by decide +kernel
theorem dX5_init_31 : decode cX5_init 31 = .ok (.invokespecial 21, 3) := by decide +kernel
theorem dX5_init_34 : decode cX5_init 34 = .ok (.putfield 22, 3) := by decide +kernel
theorem dX5_init_37 : decode cX5_init 37 = .ok (.aload_n 0, 1) := by decide +kernel
theorem dX5_init_38 : decode cX5_init 38 = .ok (.iconst 4, 1) := by decide +kernel
theorem dX5_init_39 : decode cX5_init 39 = .ok (.anewarray 26, 3) := by decide +kernel
theorem dX5_init_42 : decode cX5_init 42 = .ok (.putfield 28, 3) := by decide +kernel
theorem dX5_init_45 : decode cX5_init 45 = .ok (.iconst 0, 1) := by decide +kernel
theorem dX5_init_46 : decode cX5_init 46 = .ok (.istore_n 1, 1) := by decide +kernel
theorem dX5_init_47 : decode cX5_init 47 = .ok (.iload_n 1, 1) := by decide +kernel
theorem dX5_init_48 : decode cX5_init 48 = .ok (.iconst 4, 1) := by decide +kernel
theorem dX5_init_49 : decode cX5_init 49 = .ok (.if_icmp .ge 22, 3) := by decide +kernel
theorem dX5_init_52 : decode cX5_init 52 = .ok (.aload_n 0, 1) := by decide +kernel
theorem dX5_init_53 : decode cX5_init 53 = .ok (.getfield 28, 3) := by decide +kernel
theorem dX5_init_56 : decode cX5_init 56 = .ok (.iload_n 1, 1) := by decide +kernel
theorem dX5_init_57 : decode cX5_init 57 = .ok (.new 26, 3) := by decide +kernel
theorem dX5_init_60 : decode cX5_init 60 = .ok (.dup, 1) := by decide +kernel
theorem dX5_init_61 : decode cX5_init 61 = .ok (.invokespecial 32, 3) := by decide +kernel
theorem dX5_init_64 : decode cX5_init 64 = .ok (.aastore, 1) := by decide +kernel
theorem dX5_init_65 : decode cX5_init 65 = .ok (.iinc 1 1, 3) := by decide +kernel
theorem dX5_init_68 : decode cX5_init 68 = .ok (.goto (-21), 3) := by decide +kernel
theorem dX5_init_71 : decode cX5_init 71 = .ok (.aload_n 0, 1) := by decide +kernel
theorem dX5_init_72 : decode cX5_init 72 = .ok (.new 33, 3) := by decide +kernel
theorem dX5_init_75 : decode cX5_init 75 = .ok (.dup, 1) := by decide +kernel
theorem dX5_init_76 : decode cX5_init 76 = .ok (.invokespecial 35, 3) := by decide +kernel
theorem dX5_init_79 : decode cX5_init 79 = .ok (.putfield 36, 3) := by decide +kernel
theorem dX5_init_82 : decode cX5_init 82 = .ok (.aload_n 0, 1) := by decide +kernel
theorem dX5_init_83 : decode cX5_init 83 = .ok (.bipush 12, 2) := by decide +kernel
theorem dX5_init_85 : decode cX5_init 85 = .ok (.newarray .int, 2) := by decide +kernel
theorem dX5_init_87 : decode cX5_init 87 = .ok (.putfield 40, 3) := by decide +kernel
theorem dX5_init_90 : decode cX5_init 90 = .ok (.return_, 1) := by decide +kernel
theorem dX5_type_0 : decode cX5_type 0 = .ok (.iload_n 3, 1) := by decide +kernel
theorem dX5_type_1 : decode cX5_type 1 = .ok (.iconst 1, 1) := by decide +kernel
theorem dX5_type_2 : decode cX5_type 2 = .ok (.bipush 8, 2) := by decide +kernel
theorem dX5_type_4 : decode cX5_type 4 = .ok (.invokestatic 44, 3) := by decide +kernel
theorem dX5_type_7 : decode cX5_type 7 = .ok (.ifCond .eq 11, 3) := by decide +kernel
theorem dX5_type_10 : decode cX5_type 10 = .ok (.lload_n 1, 1) := by decide +kernel
theorem dX5_type_11 : decode cX5_type 11 = .ok (.iload_n 3, 1) := by decide +kernel
theorem dX5_type_12 : decode cX5_type 12 = .ok (.invokestatic 48, 3) := by decide +kernel
theorem dX5_type_15 : decode cX5_type 15 = .ok (.ifCond .ne 5, 3) := by decide +kernel
theorem dX5_type_18 : decode cX5_type 18 = .ok (.iconst (-1), 1) := by decide +kernel
theorem dX5_type_19 : decode cX5_type 19 = .ok (.ireturn, 1) := by decide +kernel
theorem dX5_type_20 : decode cX5_type 20 = .ok (.aload_n 0, 1) := by decide +kernel
theorem dX5_type_21 : decode cX5_type 21 = .ok (.getfield 22, 3) := by decide +kernel
theorem dX5_type_24 : decode cX5_type 24 = .ok (.lload_n 1, 1) := by decide +kernel
theorem dX5_type_25 : decode cX5_type 25 = .ok (.iload_n 3, 1) := by decide +kernel
theorem dX5_type_26 : decode cX5_type 26 = .ok (.invokevirtual 52, 3) := by decide +kernel
theorem dX5_type_29 : decode cX5_type 29 = .ok (.ireturn, 1) := by decide +kernel
theorem dX5_cam_0 : decode cX5_cam 0 = .ok (.aload_n 0, 1) := by decide +kernel
theorem dX5_cam_1 : decode cX5_cam 1 = .ok (.iconst 0, 1) := by decide +kernel
theorem dX5_cam_2 : decode cX5_cam 2 = .ok (.invokevirtual 56, 3) := by decide +kernel
theorem dX5_cam_5 : decode cX5_cam 5 = .ok (.istore_n 1, 1) := by decide +kernel
theorem dX5_cam_6 : decode cX5_cam 6 = .ok (.iload_n 1, 1) := by decide +kernel
theorem dX5_cam_7 : decode cX5_cam 7 = .ok (.ifCond .ge 5, 3) := by decide +kernel
theorem dX5_cam_10 : decode cX5_cam 10 = .ok (.iload_n 1, 1) := by decide +kernel
theorem dX5_cam_11 : decode cX5_cam 11 = .ok (.ireturn, 1) := by decide +kernel
theorem dX5_cam_12 : decode cX5_cam 12 = .ok (.aload_n 0, 1) := by decide +kernel
theorem dX5_cam_13 : decode cX5_cam 13 = .ok (.getfield 10, 3) := by decide +kernel
theorem dX5_cam_16 : decode cX5_cam 16 = .ok (.aload_n 0, 1) := by decide +kernel
theorem dX5_cam_17 : decode cX5_cam 17 = .ok (.getfield 22, 3) := by decide +kernel
theorem dX5_cam_20 : decode cX5_cam 20 = .ok (.getfield 60, 3) := by decide +kernel
theorem dX5_cam_23 : decode cX5_cam 23 = .ok (.invokevirtual 63, 3) := by decide +kernel
theorem dX5_cam_26 : decode cX5_cam 26 = .ok (.ireturn, 1) := by decide +kernel
theorem dX5_cut_0 : decode cX5_cut 0 = .ok (.aload_n 0, 1) := by decide +kernel
theorem dX5_cut_1 : decode cX5_cut 1 = .ok (.iload_n 1, 1) := by decide +kernel
theorem dX5_cut_2 : decode cX5_cut 2 = .ok (.invokevirtual 67, 3) := by decide +kernel
theorem dX5_cut_5 : decode cX5_cut 5 = .ok (.ifCond .eq 20, 3) := by decide +kernel
theorem dX5_cut_8 : decode cX5_cut 8 = .ok (.iload_n 2, 1) := by decide +kernel
theorem dX5_cut_9 : decode cX5_cut 9 = .ok (.invokestatic 71, 3) := by decide +kernel
theorem dX5_cut_12 : decode cX5_cut 12 = .ok (.ifCond .eq 13, 3) := by decide +kernel
theorem dX5_cut_15 : decode cX5_cut 15 = .ok (.iload_n 3, 1) := by decide +kernel
theorem dX5_cut_16 : decode cX5_cut 16 = .ok (.iconst 0, 1) := by decide +kernel
theorem dX5_cut_17 : decode cX5_cut 17 = .ok (.bipush 9, 2) := by decide +kernel
theorem dX5_cut_19 : decode cX5_cut 19 = .ok (.invokestatic 44, 3) := by decide +kernel
theorem dX5_cut_22 : decode cX5_cut 22 = .ok (.ifCond .ne 5, 3) := by decide +kernel
theorem dX5_cut_25 : decode cX5_cut 25 = .ok (.iconst (-1), 1) := by decide +kernel
theorem dX5_cut_26 : decode cX5_cut 26 = .ok (.ireturn, 1) := by decide +kernel
theorem dX5_cut_27 : decode cX5_cut 27 = .ok (.aload_n 0, 1) := by decide +kernel
theorem dX5_cut_28 : decode cX5_cut 28 = .ok (.getfield 10, 3) := by decide +kernel
theorem dX5_cut_31 : decode cX5_cut 31 = .ok (.getfield 74, 3) := by decide +kernel
theorem dX5_cut_34 : decode cX5_cut 34 = .ok (.iload_n 1, 1) := by decide +kernel
theorem dX5_cut_35 : decode cX5_cut 35 = .ok (.aaload, 1) := by decide +kernel
theorem dX5_cut_36 : decode cX5_cut 36 = .ok (.iload_n 2, 1) := by decide +kernel
theorem dX5_cut_37 : decode cX5_cut 37 = .ok (.iaload, 1) := by decide +kernel
theorem dX5_cut_38 : decode cX5_cut 38 = .ok (.istore 4, 2) := by decide +kernel
theorem dX5_cut_40 : decode cX5_cut 40 = .ok (.aload_n 0, 1) := by decide +kernel
theorem dX5_cut_41 : decode cX5_cut 41 = .ok (.getfield 10, 3) := by decide +kernel
theorem dX5_cut_44 : decode cX5_cut 44 = .ok (.getfield 74, 3) := by decide +kernel
theorem dX5_cut_47 : decode cX5_cut 47 = .ok (.iload_n 1, 1) := by decide +kernel
theorem dX5_cut_48 : decode cX5_cut 48 = .ok (.aaload, 1) := by decide +kernel
theorem dX5_cut_49 : decode cX5_cut 49 = .ok (.iload_n 2, 1) := by decide +kernel
theorem dX5_cut_50 : decode cX5_cut 50 = .ok (.iload_n 3, 1) := by decide +kernel
theorem dX5_cut_51 : decode cX5_cut 51 = .ok (.iastore, 1) := by decide +kernel
theorem dX5_cut_52 : decode cX5_cut 52 = .ok (.iload 4, 2) := by decide +kernel
theorem dX5_cut_54 : decode cX5_cut 54 = .ok (.ireturn, 1) := by decide +kernel
theorem dX5_told_0 : decode cX5_told 0 = .ok (.aload_n 0, 1) := by decide +kernel
theorem dX5_told_1 : decode cX5_told 1 = .ok (.iload_n 1, 1) := by decide +kernel
theorem dX5_told_2 : decode cX5_told 2 = .ok (.invokevirtual 67, 3) := by decide +kernel
theorem dX5_told_5 : decode cX5_told 5 = .ok (.ifCond .eq 10, 3) := by decide +kernel
theorem dX5_told_8 : decode cX5_told 8 = .ok (.iload_n 2, 1) := by decide +kernel
theorem dX5_told_9 : decode cX5_told 9 = .ok (.invokestatic 71, 3) := by decide +kernel
theorem dX5_told_12 : decode cX5_told 12 = .ok (.ifCond .ne 5, 3) := by decide +kernel
theorem dX5_told_15 : decode cX5_told 15 = .ok (.iconst (-1), 1) := by decide +kernel
theorem dX5_told_16 : decode cX5_told 16 = .ok (.ireturn, 1) := by decide +kernel
theorem dX5_told_17 : decode cX5_told 17 = .ok (.aload_n 0, 1) := by decide +kernel
theorem dX5_told_18 : decode cX5_told 18 = .ok (.getfield 10, 3) := by decide +kernel
theorem dX5_told_21 : decode cX5_told 21 = .ok (.getfield 74, 3) := by decide +kernel
theorem dX5_told_24 : decode cX5_told 24 = .ok (.iload_n 1, 1) := by decide +kernel
theorem dX5_told_25 : decode cX5_told 25 = .ok (.aaload, 1) := by decide +kernel
theorem dX5_told_26 : decode cX5_told 26 = .ok (.iload_n 2, 1) := by decide +kernel
theorem dX5_told_27 : decode cX5_told 27 = .ok (.iaload, 1) := by decide +kernel
theorem dX5_told_28 : decode cX5_told 28 = .ok (.ireturn, 1) := by decide +kernel
theorem dX5_figure_0 : decode cX5_figure 0 = .ok (.iload_n 1, 1) := by decide +kernel
theorem dX5_figure_1 : decode cX5_figure 1 = .ok (.invokestatic 78, 3) := by decide +kernel
theorem dX5_figure_4 : decode cX5_figure 4 = .ok (.ifCond .eq 26, 3) := by decide +kernel
theorem dX5_figure_7 : decode cX5_figure 7 = .ok (.aload_n 0, 1) := by decide +kernel
theorem dX5_figure_8 : decode cX5_figure 8 = .ok (.iload_n 2, 1) := by decide +kernel
theorem dX5_figure_9 : decode cX5_figure 9 = .ok (.invokevirtual 67, 3) := by decide +kernel
theorem dX5_figure_12 : decode cX5_figure 12 = .ok (.ifCond .eq 18, 3) := by decide +kernel
theorem dX5_figure_15 : decode cX5_figure 15 = .ok (.iload_n 3, 1) := by decide +kernel
theorem dX5_figure_16 : decode cX5_figure 16 = .ok (.invokestatic 71, 3) := by decide +kernel
theorem dX5_figure_19 : decode cX5_figure 19 = .ok (.ifCond .eq 11, 3) := by decide +kernel
theorem dX5_figure_22 : decode cX5_figure 22 = .ok (.iload 4, 2) := by decide +kernel
theorem dX5_figure_24 : decode cX5_figure 24 = .ok (.invokestatic 81, 3) := by decide +kernel
theorem dX5_figure_27 : decode cX5_figure 27 = .ok (.ifCond .ne 5, 3) := by decide +kernel
theorem dX5_figure_30 : decode cX5_figure 30 = .ok (.iconst (-1), 1) := by decide +kernel
theorem dX5_figure_31 : decode cX5_figure 31 = .ok (.ireturn, 1) := by decide +kernel
theorem dX5_figure_32 : decode cX5_figure 32 = .ok (.aload_n 0, 1) := by decide +kernel
theorem dX5_figure_33 : decode cX5_figure 33 = .ok (.getfield 10, 3) := by decide +kernel
theorem dX5_figure_36 : decode cX5_figure 36 = .ok (.iload_n 1, 1) := by decide +kernel
theorem dX5_figure_37 : decode cX5_figure 37 = .ok (.iload_n 2, 1) := by decide +kernel
theorem dX5_figure_38 : decode cX5_figure 38 = .ok (.iload_n 3, 1) := by decide +kernel
theorem dX5_figure_39 : decode cX5_figure 39 = .ok (.iload 4, 2) := by decide +kernel
theorem dX5_figure_41 : decode cX5_figure 41 = .ok (.invokevirtual 84, 3) := by decide +kernel
theorem dX5_figure_44 : decode cX5_figure 44 = .ok (.ireturn, 1) := by decide +kernel
theorem dX5_set_0 : decode cX5_set 0 = .ok (.aload_n 0, 1) := by decide +kernel
theorem dX5_set_1 : decode cX5_set 1 = .ok (.iload_n 1, 1) := by decide +kernel
theorem dX5_set_2 : decode cX5_set 2 = .ok (.invokevirtual 88, 3) := by decide +kernel
theorem dX5_set_5 : decode cX5_set 5 = .ok (.ifCond .ne 5, 3) := by decide +kernel
theorem dX5_set_8 : decode cX5_set 8 = .ok (.iconst (-1), 1) := by decide +kernel
theorem dX5_set_9 : decode cX5_set 9 = .ok (.ireturn, 1) := by decide +kernel
theorem dX5_set_10 : decode cX5_set 10 = .ok (.iload_n 2, 1) := by decide +kernel
theorem dX5_set_11 : decode cX5_set 11 = .ok (.tableswitch 130 0 3 #[29, 54, 80, 105], 29) := by decide +kernel
theorem dX5_set_40 : decode cX5_set 40 = .ok (.iload_n 3, 1) := by decide +kernel
theorem dX5_set_41 : decode cX5_set 41 = .ok (.invokestatic 78, 3) := by decide +kernel
theorem dX5_set_44 : decode cX5_set 44 = .ok (.ifCond .eq 19, 3) := by decide +kernel
theorem dX5_set_47 : decode cX5_set 47 = .ok (.aload_n 0, 1) := by decide +kernel
theorem dX5_set_48 : decode cX5_set 48 = .ok (.getfield 10, 3) := by decide +kernel
theorem dX5_set_51 : decode cX5_set 51 = .ok (.getfield 91, 3) := by decide +kernel
theorem dX5_set_54 : decode cX5_set 54 = .ok (.iload_n 1, 1) := by decide +kernel
theorem dX5_set_55 : decode cX5_set 55 = .ok (.aaload, 1) := by decide +kernel
theorem dX5_set_56 : decode cX5_set 56 = .ok (.iload_n 3, 1) := by decide +kernel
theorem dX5_set_57 : decode cX5_set 57 = .ok (.invokevirtual 95, 3) := by decide +kernel
theorem dX5_set_60 : decode cX5_set 60 = .ok (.goto 4, 3) := by decide +kernel
theorem dX5_set_63 : decode cX5_set 63 = .ok (.iconst (-1), 1) := by decide +kernel
theorem dX5_set_64 : decode cX5_set 64 = .ok (.ireturn, 1) := by decide +kernel
theorem dX5_set_65 : decode cX5_set 65 = .ok (.aload_n 0, 1) := by decide +kernel
theorem dX5_set_66 : decode cX5_set 66 = .ok (.iload_n 3, 1) := by decide +kernel
theorem dX5_set_67 : decode cX5_set 67 = .ok (.invokevirtual 67, 3) := by decide +kernel
theorem dX5_set_70 : decode cX5_set 70 = .ok (.ifCond .eq 19, 3) := by decide +kernel
theorem dX5_set_73 : decode cX5_set 73 = .ok (.aload_n 0, 1) := by decide +kernel
theorem dX5_set_74 : decode cX5_set 74 = .ok (.getfield 10, 3) := by decide +kernel
theorem dX5_set_77 : decode cX5_set 77 = .ok (.getfield 91, 3) := by decide +kernel
theorem dX5_set_80 : decode cX5_set 80 = .ok (.iload_n 1, 1) := by decide +kernel
theorem dX5_set_81 : decode cX5_set 81 = .ok (.aaload, 1) := by decide +kernel
theorem dX5_set_82 : decode cX5_set 82 = .ok (.iload_n 3, 1) := by decide +kernel
theorem dX5_set_83 : decode cX5_set 83 = .ok (.invokevirtual 101, 3) := by decide +kernel
theorem dX5_set_86 : decode cX5_set 86 = .ok (.goto 4, 3) := by decide +kernel
theorem dX5_set_89 : decode cX5_set 89 = .ok (.iconst (-1), 1) := by decide +kernel
theorem dX5_set_90 : decode cX5_set 90 = .ok (.ireturn, 1) := by decide +kernel
theorem dX5_set_91 : decode cX5_set 91 = .ok (.iload_n 3, 1) := by decide +kernel
theorem dX5_set_92 : decode cX5_set 92 = .ok (.invokestatic 71, 3) := by decide +kernel
theorem dX5_set_95 : decode cX5_set 95 = .ok (.ifCond .eq 19, 3) := by decide +kernel
theorem dX5_set_98 : decode cX5_set 98 = .ok (.aload_n 0, 1) := by decide +kernel
theorem dX5_set_99 : decode cX5_set 99 = .ok (.getfield 10, 3) := by decide +kernel
theorem dX5_set_102 : decode cX5_set 102 = .ok (.getfield 91, 3) := by decide +kernel
theorem dX5_set_105 : decode cX5_set 105 = .ok (.iload_n 1, 1) := by decide +kernel
theorem dX5_set_106 : decode cX5_set 106 = .ok (.aaload, 1) := by decide +kernel
theorem dX5_set_107 : decode cX5_set 107 = .ok (.iload_n 3, 1) := by decide +kernel
theorem dX5_set_108 : decode cX5_set 108 = .ok (.invokevirtual 104, 3) := by decide +kernel
theorem dX5_set_111 : decode cX5_set 111 = .ok (.goto 4, 3) := by decide +kernel
theorem dX5_set_114 : decode cX5_set 114 = .ok (.iconst (-1), 1) := by decide +kernel
theorem dX5_set_115 : decode cX5_set 115 = .ok (.ireturn, 1) := by decide +kernel
theorem dX5_set_116 : decode cX5_set 116 = .ok (.iload_n 3, 1) := by decide +kernel
theorem dX5_set_117 : decode cX5_set 117 = .ok (.invokestatic 81, 3) := by decide +kernel
theorem dX5_set_120 : decode cX5_set 120 = .ok (.ifCond .eq 19, 3) := by decide +kernel
theorem dX5_set_123 : decode cX5_set 123 = .ok (.aload_n 0, 1) := by decide +kernel
theorem dX5_set_124 : decode cX5_set 124 = .ok (.getfield 10, 3) := by decide +kernel
theorem dX5_set_127 : decode cX5_set 127 = .ok (.getfield 91, 3) := by decide +kernel
theorem dX5_set_130 : decode cX5_set 130 = .ok (.iload_n 1, 1) := by decide +kernel
theorem dX5_set_131 : decode cX5_set 131 = .ok (.aaload, 1) := by decide +kernel
theorem dX5_set_132 : decode cX5_set 132 = .ok (.iload_n 3, 1) := by decide +kernel
theorem dX5_set_133 : decode cX5_set 133 = .ok (.invokevirtual 107, 3) := by decide +kernel
theorem dX5_set_136 : decode cX5_set 136 = .ok (.goto 4, 3) := by decide +kernel
theorem dX5_set_139 : decode cX5_set 139 = .ok (.iconst (-1), 1) := by decide +kernel
theorem dX5_set_140 : decode cX5_set 140 = .ok (.ireturn, 1) := by decide +kernel
theorem dX5_set_141 : decode cX5_set 141 = .ok (.iconst (-1), 1) := by decide +kernel
theorem dX5_set_142 : decode cX5_set 142 = .ok (.ireturn, 1) := by decide +kernel
theorem dX5_wish_0 : decode cX5_wish 0 = .ok (.aload_n 0, 1) := by decide +kernel
theorem dX5_wish_1 : decode cX5_wish 1 = .ok (.iload_n 1, 1) := by decide +kernel
theorem dX5_wish_2 : decode cX5_wish 2 = .ok (.invokevirtual 88, 3) := by decide +kernel
theorem dX5_wish_5 : decode cX5_wish 5 = .ok (.ifCond .ne 5, 3) := by decide +kernel
theorem dX5_wish_8 : decode cX5_wish 8 = .ok (.iconst (-1), 1) := by decide +kernel
theorem dX5_wish_9 : decode cX5_wish 9 = .ok (.ireturn, 1) := by decide +kernel
theorem dX5_wish_10 : decode cX5_wish 10 = .ok (.aload_n 0, 1) := by decide +kernel
theorem dX5_wish_11 : decode cX5_wish 11 = .ok (.iconst 1, 1) := by decide +kernel
theorem dX5_wish_12 : decode cX5_wish 12 = .ok (.invokevirtual 56, 3) := by decide +kernel
theorem dX5_wish_15 : decode cX5_wish 15 = .ok (.istore_n 2, 1) := by decide +kernel
theorem dX5_wish_16 : decode cX5_wish 16 = .ok (.iload_n 2, 1) := by decide +kernel
theorem dX5_wish_17 : decode cX5_wish 17 = .ok (.ifCond .ge 5, 3) := by decide +kernel
theorem dX5_wish_20 : decode cX5_wish 20 = .ok (.iload_n 2, 1) := by decide +kernel
theorem dX5_wish_21 : decode cX5_wish 21 = .ok (.ireturn, 1) := by decide +kernel
theorem dX5_wish_22 : decode cX5_wish 22 = .ok (.aload_n 0, 1) := by decide +kernel
theorem dX5_wish_23 : decode cX5_wish 23 = .ok (.getfield 10, 3) := by decide +kernel
theorem dX5_wish_26 : decode cX5_wish 26 = .ok (.getfield 91, 3) := by decide +kernel
theorem dX5_wish_29 : decode cX5_wish 29 = .ok (.iload_n 1, 1) := by decide +kernel
theorem dX5_wish_30 : decode cX5_wish 30 = .ok (.aaload, 1) := by decide +kernel
theorem dX5_wish_31 : decode cX5_wish 31 = .ok (.aload_n 0, 1) := by decide +kernel
theorem dX5_wish_32 : decode cX5_wish 32 = .ok (.getfield 22, 3) := by decide +kernel
theorem dX5_wish_35 : decode cX5_wish 35 = .ok (.getfield 60, 3) := by decide +kernel
theorem dX5_wish_38 : decode cX5_wish 38 = .ok (.invokevirtual 110, 3) := by decide +kernel
theorem dX5_wish_41 : decode cX5_wish 41 = .ok (.ireturn, 1) := by decide +kernel
theorem dX5_line_0 : decode cX5_line 0 = .ok (.iload_n 1, 1) := by decide +kernel
theorem dX5_line_1 : decode cX5_line 1 = .ok (.iconst 1, 1) := by decide +kernel
theorem dX5_line_2 : decode cX5_line 2 = .ok (.bipush 9, 2) := by decide +kernel
theorem dX5_line_4 : decode cX5_line 4 = .ok (.invokestatic 44, 3) := by decide +kernel
theorem dX5_line_7 : decode cX5_line 7 = .ok (.ifCond .ne 5, 3) := by decide +kernel
theorem dX5_line_10 : decode cX5_line 10 = .ok (.iconst (-1), 1) := by decide +kernel
theorem dX5_line_11 : decode cX5_line 11 = .ok (.ireturn, 1) := by decide +kernel
theorem dX5_line_12 : decode cX5_line 12 = .ok (.aload_n 0, 1) := by decide +kernel
theorem dX5_line_13 : decode cX5_line 13 = .ok (.getfield 10, 3) := by decide +kernel
theorem dX5_line_16 : decode cX5_line 16 = .ok (.getfield 113, 3) := by decide +kernel
theorem dX5_line_19 : decode cX5_line 19 = .ok (.istore_n 2, 1) := by decide +kernel
theorem dX5_line_20 : decode cX5_line 20 = .ok (.aload_n 0, 1) := by decide +kernel
theorem dX5_line_21 : decode cX5_line 21 = .ok (.getfield 10, 3) := by decide +kernel
theorem dX5_line_24 : decode cX5_line 24 = .ok (.iload_n 1, 1) := by decide +kernel
theorem dX5_line_25 : decode cX5_line 25 = .ok (.putfield 113, 3) := by decide +kernel
theorem dX5_line_28 : decode cX5_line 28 = .ok (.iload_n 2, 1) := by decide +kernel
theorem dX5_line_29 : decode cX5_line 29 = .ok (.ireturn, 1) := by decide +kernel
theorem dX5_way_0 : decode cX5_way 0 = .ok (.iload_n 1, 1) := by decide +kernel
theorem dX5_way_1 : decode cX5_way 1 = .ok (.iconst 0, 1) := by decide +kernel
theorem dX5_way_2 : decode cX5_way 2 = .ok (.iconst 1, 1) := by decide +kernel
theorem dX5_way_3 : decode cX5_way 3 = .ok (.invokestatic 44, 3) := by decide +kernel
theorem dX5_way_6 : decode cX5_way 6 = .ok (.ifCond .ne 5, 3) := by decide +kernel
theorem dX5_way_9 : decode cX5_way 9 = .ok (.iconst (-1), 1) := by decide +kernel
theorem dX5_way_10 : decode cX5_way 10 = .ok (.ireturn, 1) := by decide +kernel
theorem dX5_way_11 : decode cX5_way 11 = .ok (.aload_n 0, 1) := by decide +kernel
theorem dX5_way_12 : decode cX5_way 12 = .ok (.getfield 10, 3) := by decide +kernel
theorem dX5_way_15 : decode cX5_way 15 = .ok (.getfield 117, 3) := by decide +kernel
theorem dX5_way_18 : decode cX5_way 18 = .ok (.istore_n 2, 1) := by decide +kernel
theorem dX5_way_19 : decode cX5_way 19 = .ok (.aload_n 0, 1) := by decide +kernel
theorem dX5_way_20 : decode cX5_way 20 = .ok (.getfield 10, 3) := by decide +kernel
theorem dX5_way_23 : decode cX5_way 23 = .ok (.iload_n 1, 1) := by decide +kernel
theorem dX5_way_24 : decode cX5_way 24 = .ok (.putfield 117, 3) := by decide +kernel
theorem dX5_way_27 : decode cX5_way 27 = .ok (.iload_n 2, 1) := by decide +kernel
theorem dX5_way_28 : decode cX5_way 28 = .ok (.ireturn, 1) := by decide +kernel
theorem dX5_count_0 : decode cX5_count 0 = .ok (.iload_n 1, 1) := by decide +kernel
theorem dX5_count_1 : decode cX5_count 1 = .ok (.tableswitch 87 0 5 #[39, 47, 55, 63, 71, 79], 39) := by decide +kernel
theorem dX5_count_40 : decode cX5_count 40 = .ok (.aload_n 0, 1) := by decide +kernel
theorem dX5_count_41 : decode cX5_count 41 = .ok (.getfield 10, 3) := by decide +kernel
theorem dX5_count_44 : decode cX5_count 44 = .ok (.getfield 120, 3) := by decide +kernel
theorem dX5_count_47 : decode cX5_count 47 = .ok (.ireturn, 1) := by decide +kernel
theorem dX5_count_48 : decode cX5_count 48 = .ok (.aload_n 0, 1) := by decide +kernel
theorem dX5_count_49 : decode cX5_count 49 = .ok (.getfield 10, 3) := by decide +kernel
theorem dX5_count_52 : decode cX5_count 52 = .ok (.getfield 123, 3) := by decide +kernel
theorem dX5_count_55 : decode cX5_count 55 = .ok (.ireturn, 1) := by decide +kernel
theorem dX5_count_56 : decode cX5_count 56 = .ok (.aload_n 0, 1) := by decide +kernel
theorem dX5_count_57 : decode cX5_count 57 = .ok (.getfield 10, 3) := by decide +kernel
theorem dX5_count_60 : decode cX5_count 60 = .ok (.getfield 126, 3) := by decide +kernel
theorem dX5_count_63 : decode cX5_count 63 = .ok (.ireturn, 1) := by decide +kernel
theorem dX5_count_64 : decode cX5_count 64 = .ok (.aload_n 0, 1) := by decide +kernel
theorem dX5_count_65 : decode cX5_count 65 = .ok (.getfield 10, 3) := by decide +kernel
theorem dX5_count_68 : decode cX5_count 68 = .ok (.getfield 117, 3) := by decide +kernel
theorem dX5_count_71 : decode cX5_count 71 = .ok (.ireturn, 1) := by decide +kernel
theorem dX5_count_72 : decode cX5_count 72 = .ok (.aload_n 0, 1) := by decide +kernel
theorem dX5_count_73 : decode cX5_count 73 = .ok (.getfield 10, 3) := by decide +kernel
theorem dX5_count_76 : decode cX5_count 76 = .ok (.getfield 129, 3) := by decide +kernel
theorem dX5_count_79 : decode cX5_count 79 = .ok (.ireturn, 1) := by decide +kernel
theorem dX5_count_80 : decode cX5_count 80 = .ok (.aload_n 0, 1) := by decide +kernel
theorem dX5_count_81 : decode cX5_count 81 = .ok (.getfield 10, 3) := by decide +kernel
theorem dX5_count_84 : decode cX5_count 84 = .ok (.invokevirtual 132, 3) := by decide +kernel
theorem dX5_count_87 : decode cX5_count 87 = .ok (.ireturn, 1) := by decide +kernel
theorem dX5_count_88 : decode cX5_count 88 = .ok (.iconst (-1), 1) := by decide +kernel
theorem dX5_count_89 : decode cX5_count 89 = .ok (.ireturn, 1) := by decide +kernel
theorem dX5_height_0 : decode cX5_height 0 = .ok (.aload_n 0, 1) := by decide +kernel
theorem dX5_height_1 : decode cX5_height 1 = .ok (.iload_n 1, 1) := by decide +kernel
theorem dX5_height_2 : decode cX5_height 2 = .ok (.invokevirtual 88, 3) := by decide +kernel
theorem dX5_height_5 : decode cX5_height 5 = .ok (.ifCond .eq 10, 3) := by decide +kernel
theorem dX5_height_8 : decode cX5_height 8 = .ok (.iload_n 2, 1) := by decide +kernel
theorem dX5_height_9 : decode cX5_height 9 = .ok (.invokestatic 71, 3) := by decide +kernel
theorem dX5_height_12 : decode cX5_height 12 = .ok (.ifCond .ne 5, 3) := by decide +kernel
theorem dX5_height_15 : decode cX5_height 15 = .ok (.iconst (-1), 1) := by decide +kernel
theorem dX5_height_16 : decode cX5_height 16 = .ok (.ireturn, 1) := by decide +kernel
theorem dX5_height_17 : decode cX5_height 17 = .ok (.aload_n 0, 1) := by decide +kernel
theorem dX5_height_18 : decode cX5_height 18 = .ok (.getfield 10, 3) := by decide +kernel
theorem dX5_height_21 : decode cX5_height 21 = .ok (.getfield 91, 3) := by decide +kernel
theorem dX5_height_24 : decode cX5_height 24 = .ok (.iload_n 1, 1) := by decide +kernel
theorem dX5_height_25 : decode cX5_height 25 = .ok (.aaload, 1) := by decide +kernel
theorem dX5_height_26 : decode cX5_height 26 = .ok (.astore_n 3, 1) := by decide +kernel
theorem dX5_height_27 : decode cX5_height 27 = .ok (.aload_n 0, 1) := by decide +kernel
theorem dX5_height_28 : decode cX5_height 28 = .ok (.getfield 10, 3) := by decide +kernel
theorem dX5_height_31 : decode cX5_height 31 = .ok (.aload_n 0, 1) := by decide +kernel
theorem dX5_height_32 : decode cX5_height 32 = .ok (.getfield 10, 3) := by decide +kernel
theorem dX5_height_35 : decode cX5_height 35 = .ok (.getfield 74, 3) := by decide +kernel
theorem dX5_height_38 : decode cX5_height 38 = .ok (.aload_n 3, 1) := by decide +kernel
theorem dX5_height_39 : decode cX5_height 39 = .ok (.getfield 136, 3) := by decide +kernel
theorem dX5_height_42 : decode cX5_height 42 = .ok (.aaload, 1) := by decide +kernel
theorem dX5_height_43 : decode cX5_height 43 = .ok (.aload_n 3, 1) := by decide +kernel
theorem dX5_height_44 : decode cX5_height 44 = .ok (.iload_n 2, 1) := by decide +kernel
theorem dX5_height_45 : decode cX5_height 45 = .ok (.invokevirtual 139, 3) := by decide +kernel
theorem dX5_height_48 : decode cX5_height 48 = .ok (.ireturn, 1) := by decide +kernel
theorem dX5_ups_0 : decode cX5_ups 0 = .ok (.aload_n 0, 1) := by decide +kernel
theorem dX5_ups_1 : decode cX5_ups 1 = .ok (.iload_n 1, 1) := by decide +kernel
theorem dX5_ups_2 : decode cX5_ups 2 = .ok (.invokevirtual 88, 3) := by decide +kernel
theorem dX5_ups_5 : decode cX5_ups 5 = .ok (.ifCond .ne 5, 3) := by decide +kernel
theorem dX5_ups_8 : decode cX5_ups 8 = .ok (.iconst (-1), 1) := by decide +kernel
theorem dX5_ups_9 : decode cX5_ups 9 = .ok (.ireturn, 1) := by decide +kernel
theorem dX5_ups_10 : decode cX5_ups 10 = .ok (.aload_n 0, 1) := by decide +kernel
theorem dX5_ups_11 : decode cX5_ups 11 = .ok (.getfield 10, 3) := by decide +kernel
theorem dX5_ups_14 : decode cX5_ups 14 = .ok (.aload_n 0, 1) := by decide +kernel
theorem dX5_ups_15 : decode cX5_ups 15 = .ok (.getfield 10, 3) := by decide +kernel
theorem dX5_ups_18 : decode cX5_ups 18 = .ok (.getfield 91, 3) := by decide +kernel
theorem dX5_ups_21 : decode cX5_ups 21 = .ok (.iload_n 1, 1) := by decide +kernel
theorem dX5_ups_22 : decode cX5_ups 22 = .ok (.aaload, 1) := by decide +kernel
theorem dX5_ups_23 : decode cX5_ups 23 = .ok (.invokevirtual 143, 3) := by decide +kernel
theorem dX5_ups_26 : decode cX5_ups 26 = .ok (.ireturn, 1) := by decide +kernel
theorem dX5_turn_0 : decode cX5_turn 0 = .ok (.iload_n 1, 1) := by decide +kernel
theorem dX5_turn_1 : decode cX5_turn 1 = .ok (.iconst 1, 1) := by decide +kernel
theorem dX5_turn_2 : decode cX5_turn 2 = .ok (.sipush 600, 3) := by decide +kernel
theorem dX5_turn_5 : decode cX5_turn 5 = .ok (.invokestatic 44, 3) := by decide +kernel
theorem dX5_turn_8 : decode cX5_turn 8 = .ok (.ifCond .ne 5, 3) := by decide +kernel
theorem dX5_turn_11 : decode cX5_turn 11 = .ok (.iconst (-1), 1) := by decide +kernel
theorem dX5_turn_12 : decode cX5_turn 12 = .ok (.ireturn, 1) := by decide +kernel
theorem dX5_turn_13 : decode cX5_turn 13 = .ok (.aload_n 0, 1) := by decide +kernel
theorem dX5_turn_14 : decode cX5_turn 14 = .ok (.getfield 10, 3) := by decide +kernel
theorem dX5_turn_17 : decode cX5_turn 17 = .ok (.iload_n 1, 1) := by decide +kernel
theorem dX5_turn_18 : decode cX5_turn 18 = .ok (.invokevirtual 147, 3) := by decide +kernel
theorem dX5_turn_21 : decode cX5_turn 21 = .ok (.istore_n 2, 1) := by decide +kernel
theorem dX5_turn_22 : decode cX5_turn 22 = .ok (.aload_n 0, 1) := by decide +kernel
theorem dX5_turn_23 : decode cX5_turn 23 = .ok (.getfield 10, 3) := by decide +kernel
theorem dX5_turn_26 : decode cX5_turn 26 = .ok (.iload_n 1, 1) := by decide +kernel
theorem dX5_turn_27 : decode cX5_turn 27 = .ok (.invokevirtual 150, 3) := by decide +kernel
theorem dX5_turn_30 : decode cX5_turn 30 = .ok (.iload_n 2, 1) := by decide +kernel
theorem dX5_turn_31 : decode cX5_turn 31 = .ok (.ireturn, 1) := by decide +kernel
theorem dX5_strikes_0 : decode cX5_strikes 0 = .ok (.aload_n 0, 1) := by decide +kernel
theorem dX5_strikes_1 : decode cX5_strikes 1 = .ok (.iload_n 1, 1) := by decide +kernel
theorem dX5_strikes_2 : decode cX5_strikes 2 = .ok (.invokevirtual 88, 3) := by decide +kernel
theorem dX5_strikes_5 : decode cX5_strikes 5 = .ok (.ifCond .eq 16, 3) := by decide +kernel
theorem dX5_strikes_8 : decode cX5_strikes 8 = .ok (.aload_n 0, 1) := by decide +kernel
theorem dX5_strikes_9 : decode cX5_strikes 9 = .ok (.iload_n 2, 1) := by decide +kernel
theorem dX5_strikes_10 : decode cX5_strikes 10 = .ok (.invokevirtual 88, 3) := by decide +kernel
theorem dX5_strikes_13 : decode cX5_strikes 13 = .ok (.ifCond .eq 8, 3) := by decide +kernel
theorem dX5_strikes_16 : decode cX5_strikes 16 = .ok (.iload_n 1, 1) := by decide +kernel
theorem dX5_strikes_17 : decode cX5_strikes 17 = .ok (.iload_n 2, 1) := by decide +kernel
theorem dX5_strikes_18 : decode cX5_strikes 18 = .ok (.if_icmp .ne 5, 3) := by decide +kernel
theorem dX5_strikes_21 : decode cX5_strikes 21 = .ok (.iconst (-1), 1) := by decide +kernel
theorem dX5_strikes_22 : decode cX5_strikes 22 = .ok (.ireturn, 1) := by decide +kernel
theorem dX5_strikes_23 : decode cX5_strikes 23 = .ok (.aload_n 0, 1) := by decide +kernel
theorem dX5_strikes_24 : decode cX5_strikes 24 = .ok (.getfield 10, 3) := by decide +kernel
theorem dX5_strikes_27 : decode cX5_strikes 27 = .ok (.aload_n 0, 1) := by decide +kernel
theorem dX5_strikes_28 : decode cX5_strikes 28 = .ok (.getfield 10, 3) := by decide +kernel
theorem dX5_strikes_31 : decode cX5_strikes 31 = .ok (.getfield 91, 3) := by decide +kernel
theorem dX5_strikes_34 : decode cX5_strikes 34 = .ok (.iload_n 1, 1) := by decide +kernel
theorem dX5_strikes_35 : decode cX5_strikes 35 = .ok (.aaload, 1) := by decide +kernel
theorem dX5_strikes_36 : decode cX5_strikes 36 = .ok (.aload_n 0, 1) := by decide +kernel
theorem dX5_strikes_37 : decode cX5_strikes 37 = .ok (.getfield 10, 3) := by decide +kernel
theorem dX5_strikes_40 : decode cX5_strikes 40 = .ok (.getfield 91, 3) := by decide +kernel
theorem dX5_strikes_43 : decode cX5_strikes 43 = .ok (.iload_n 2, 1) := by decide +kernel
theorem dX5_strikes_44 : decode cX5_strikes 44 = .ok (.aaload, 1) := by decide +kernel
theorem dX5_strikes_45 : decode cX5_strikes 45 = .ok (.invokevirtual 154, 3) := by decide +kernel
theorem dX5_strikes_48 : decode cX5_strikes 48 = .ok (.ireturn, 1) := by decide +kernel
theorem dX5_wear_0 : decode cX5_wear 0 = .ok (.iload_n 1, 1) := by decide +kernel
theorem dX5_wear_1 : decode cX5_wear 1 = .ok (.iconst 1, 1) := by decide +kernel
theorem dX5_wear_2 : decode cX5_wear 2 = .ok (.bipush 9, 2) := by decide +kernel
theorem dX5_wear_4 : decode cX5_wear 4 = .ok (.invokestatic 44, 3) := by decide +kernel
theorem dX5_wear_7 : decode cX5_wear 7 = .ok (.ifCond .ne 5, 3) := by decide +kernel
theorem dX5_wear_10 : decode cX5_wear 10 = .ok (.iconst (-1), 1) := by decide +kernel
theorem dX5_wear_11 : decode cX5_wear 11 = .ok (.ireturn, 1) := by decide +kernel
theorem dX5_wear_12 : decode cX5_wear 12 = .ok (.iconst 0, 1) := by decide +kernel
theorem dX5_wear_13 : decode cX5_wear 13 = .ok (.istore_n 2, 1) := by decide +kernel
theorem dX5_wear_14 : decode cX5_wear 14 = .ok (.iconst 0, 1) := by decide +kernel
theorem dX5_wear_15 : decode cX5_wear 15 = .ok (.istore_n 3, 1) := by decide +kernel
theorem dX5_wear_16 : decode cX5_wear 16 = .ok (.iload_n 3, 1) := by decide +kernel
theorem dX5_wear_17 : decode cX5_wear 17 = .ok (.aload_n 0, 1) := by decide +kernel
theorem dX5_wear_18 : decode cX5_wear 18 = .ok (.getfield 10, 3) := by decide +kernel
theorem dX5_wear_21 : decode cX5_wear 21 = .ok (.getfield 120, 3) := by decide +kernel
theorem dX5_wear_24 : decode cX5_wear 24 = .ok (.if_icmp .ge 25, 3) := by decide +kernel
theorem dX5_wear_27 : decode cX5_wear 27 = .ok (.iload_n 2, 1) := by decide +kernel
theorem dX5_wear_28 : decode cX5_wear 28 = .ok (.aload_n 0, 1) := by decide +kernel
theorem dX5_wear_29 : decode cX5_wear 29 = .ok (.getfield 10, 3) := by decide +kernel
theorem dX5_wear_32 : decode cX5_wear 32 = .ok (.getfield 74, 3) := by decide +kernel
theorem dX5_wear_35 : decode cX5_wear 35 = .ok (.iload_n 3, 1) := by decide +kernel
theorem dX5_wear_36 : decode cX5_wear 36 = .ok (.aaload, 1) := by decide +kernel
theorem dX5_wear_37 : decode cX5_wear 37 = .ok (.iload_n 1, 1) := by decide +kernel
theorem dX5_wear_38 : decode cX5_wear 38 = .ok (.invokestatic 158, 3) := by decide +kernel
theorem dX5_wear_41 : decode cX5_wear 41 = .ok (.iadd, 1) := by decide +kernel
theorem dX5_wear_42 : decode cX5_wear 42 = .ok (.istore_n 2, 1) := by decide +kernel
theorem dX5_wear_43 : decode cX5_wear 43 = .ok (.iinc 3 1, 3) := by decide +kernel
theorem dX5_wear_46 : decode cX5_wear 46 = .ok (.goto (-30), 3) := by decide +kernel
theorem dX5_wear_49 : decode cX5_wear 49 = .ok (.iload_n 2, 1) := by decide +kernel
theorem dX5_wear_50 : decode cX5_wear 50 = .ok (.ireturn, 1) := by decide +kernel
theorem dX5_missed_0 : decode cX5_missed 0 = .ok (.aload_n 0, 1) := by decide +kernel
theorem dX5_missed_1 : decode cX5_missed 1 = .ok (.iload_n 1, 1) := by decide +kernel
theorem dX5_missed_2 : decode cX5_missed 2 = .ok (.invokevirtual 88, 3) := by decide +kernel
theorem dX5_missed_5 : decode cX5_missed 5 = .ok (.ifCond .ne 5, 3) := by decide +kernel
theorem dX5_missed_8 : decode cX5_missed 8 = .ok (.iconst (-1), 1) := by decide +kernel
theorem dX5_missed_9 : decode cX5_missed 9 = .ok (.ireturn, 1) := by decide +kernel
theorem dX5_missed_10 : decode cX5_missed 10 = .ok (.aload_n 0, 1) := by decide +kernel
theorem dX5_missed_11 : decode cX5_missed 11 = .ok (.getfield 10, 3) := by decide +kernel
theorem dX5_missed_14 : decode cX5_missed 14 = .ok (.getfield 91, 3) := by decide +kernel
theorem dX5_missed_17 : decode cX5_missed 17 = .ok (.iload_n 1, 1) := by decide +kernel
theorem dX5_missed_18 : decode cX5_missed 18 = .ok (.aaload, 1) := by decide +kernel
theorem dX5_missed_19 : decode cX5_missed 19 = .ok (.astore_n 2, 1) := by decide +kernel
theorem dX5_missed_20 : decode cX5_missed 20 = .ok (.aload_n 2, 1) := by decide +kernel
theorem dX5_missed_21 : decode cX5_missed 21 = .ok (.aload_n 0, 1) := by decide +kernel
theorem dX5_missed_22 : decode cX5_missed 22 = .ok (.getfield 10, 3) := by decide +kernel
theorem dX5_missed_25 : decode cX5_missed 25 = .ok (.aload_n 2, 1) := by decide +kernel
theorem dX5_missed_26 : decode cX5_missed 26 = .ok (.invokevirtual 143, 3) := by decide +kernel
theorem dX5_missed_29 : decode cX5_missed 29 = .ok (.invokevirtual 162, 3) := by decide +kernel
theorem dX5_missed_32 : decode cX5_missed 32 = .ok (.istore_n 3, 1) := by decide +kernel
theorem dX5_missed_33 : decode cX5_missed 33 = .ok (.iconst 0, 1) := by decide +kernel
theorem dX5_missed_34 : decode cX5_missed 34 = .ok (.istore 4, 2) := by decide +kernel
theorem dX5_missed_36 : decode cX5_missed 36 = .ok (.iload 4, 2) := by decide +kernel
theorem dX5_missed_38 : decode cX5_missed 38 = .ok (.bipush 12, 2) := by decide +kernel
theorem dX5_missed_40 : decode cX5_missed 40 = .ok (.if_icmp .ge 22, 3) := by decide +kernel
theorem dX5_missed_43 : decode cX5_missed 43 = .ok (.iload_n 3, 1) := by decide +kernel
theorem dX5_missed_44 : decode cX5_missed 44 = .ok (.iload 4, 2) := by decide +kernel
theorem dX5_missed_46 : decode cX5_missed 46 = .ok (.ishr, 1) := by decide +kernel
theorem dX5_missed_47 : decode cX5_missed 47 = .ok (.iconst 1, 1) := by decide +kernel
theorem dX5_missed_48 : decode cX5_missed 48 = .ok (.iand, 1) := by decide +kernel
theorem dX5_missed_49 : decode cX5_missed 49 = .ok (.iconst 1, 1) := by decide +kernel
theorem dX5_missed_50 : decode cX5_missed 50 = .ok (.if_icmp .ne 6, 3) := by decide +kernel
theorem dX5_missed_53 : decode cX5_missed 53 = .ok (.iload 4, 2) := by decide +kernel
theorem dX5_missed_55 : decode cX5_missed 55 = .ok (.ireturn, 1) := by decide +kernel
theorem dX5_missed_56 : decode cX5_missed 56 = .ok (.iinc 4 1, 3) := by decide +kernel
theorem dX5_missed_59 : decode cX5_missed 59 = .ok (.goto (-23), 3) := by decide +kernel
theorem dX5_missed_62 : decode cX5_missed 62 = .ok (.bipush (-4), 2) := by decide +kernel
theorem dX5_missed_64 : decode cX5_missed 64 = .ok (.ireturn, 1) := by decide +kernel
theorem dX5_fewest_0 : decode cX5_fewest 0 = .ok (.aload_n 0, 1) := by decide +kernel
theorem dX5_fewest_1 : decode cX5_fewest 1 = .ok (.invokevirtual 165, 3) := by decide +kernel
theorem dX5_fewest_4 : decode cX5_fewest 4 = .ok (.ireturn, 1) := by decide +kernel
theorem dX5_share_0 : decode cX5_share 0 = .ok (.aload_n 0, 1) := by decide +kernel
theorem dX5_share_1 : decode cX5_share 1 = .ok (.iload_n 1, 1) := by decide +kernel
theorem dX5_share_2 : decode cX5_share 2 = .ok (.invokevirtual 88, 3) := by decide +kernel
theorem dX5_share_5 : decode cX5_share 5 = .ok (.ifCond .eq 12, 3) := by decide +kernel
theorem dX5_share_8 : decode cX5_share 8 = .ok (.iload_n 2, 1) := by decide +kernel
theorem dX5_share_9 : decode cX5_share 9 = .ok (.iconst 0, 1) := by decide +kernel
theorem dX5_share_10 : decode cX5_share 10 = .ok (.iconst 1, 1) := by decide +kernel
theorem dX5_share_11 : decode cX5_share 11 = .ok (.invokestatic 44, 3) := by decide +kernel
theorem dX5_share_14 : decode cX5_share 14 = .ok (.ifCond .ne 5, 3) := by decide +kernel
theorem dX5_share_17 : decode cX5_share 17 = .ok (.iconst (-1), 1) := by decide +kernel
theorem dX5_share_18 : decode cX5_share 18 = .ok (.ireturn, 1) := by decide +kernel
theorem dX5_share_19 : decode cX5_share 19 = .ok (.aload_n 0, 1) := by decide +kernel
theorem dX5_share_20 : decode cX5_share 20 = .ok (.invokevirtual 165, 3) := by decide +kernel
theorem dX5_share_23 : decode cX5_share 23 = .ok (.pop, 1) := by decide +kernel
theorem dX5_share_24 : decode cX5_share 24 = .ok (.iload_n 2, 1) := by decide +kernel
theorem dX5_share_25 : decode cX5_share 25 = .ok (.ifCond .ne 15, 3) := by decide +kernel
theorem dX5_share_28 : decode cX5_share 28 = .ok (.aload_n 0, 1) := by decide +kernel
theorem dX5_share_29 : decode cX5_share 29 = .ok (.getfield 36, 3) := by decide +kernel
end
section
theorem dX5_share_32 : decode cX5_share 32 = .ok (.getfield 168, 3) := by decide +kernel
theorem dX5_share_35 : decode cX5_share 35 = .ok (.iload_n 1, 1) := by decide +kernel
theorem dX5_share_36 : decode cX5_share 36 = .ok (.iaload, 1) := by decide +kernel
theorem dX5_share_37 : decode cX5_share 37 = .ok (.goto 12, 3) := by decide +kernel
theorem dX5_share_40 : decode cX5_share 40 = .ok (.aload_n 0, 1) := by decide +kernel
theorem dX5_share_41 : decode cX5_share 41 = .ok (.getfield 36, 3) := by decide +kernel
theorem dX5_share_44 : decode cX5_share 44 = .ok (.getfield 170, 3) := by decide +kernel
theorem dX5_share_47 : decode cX5_share 47 = .ok (.iload_n 1, 1) := by decide +kernel
theorem dX5_share_48 : decode cX5_share 48 = .ok (.iaload, 1) := by decide +kernel
theorem dX5_share_49 : decode cX5_share 49 = .ok (.ireturn, 1) := by decide +kernel
theorem dX5_pegs_0 : decode cX5_pegs 0 = .ok (.aload_n 0, 1) := by decide +kernel
theorem dX5_pegs_1 : decode cX5_pegs 1 = .ok (.iload_n 1, 1) := by decide +kernel
theorem dX5_pegs_2 : decode cX5_pegs 2 = .ok (.invokevirtual 88, 3) := by decide +kernel
theorem dX5_pegs_5 : decode cX5_pegs 5 = .ok (.ifCond .eq 12, 3) := by decide +kernel
theorem dX5_pegs_8 : decode cX5_pegs 8 = .ok (.iload_n 2, 1) := by decide +kernel
theorem dX5_pegs_9 : decode cX5_pegs 9 = .ok (.iconst 0, 1) := by decide +kernel
theorem dX5_pegs_10 : decode cX5_pegs 10 = .ok (.iconst 1, 1) := by decide +kernel
theorem dX5_pegs_11 : decode cX5_pegs 11 = .ok (.invokestatic 44, 3) := by decide +kernel
theorem dX5_pegs_14 : decode cX5_pegs 14 = .ok (.ifCond .ne 5, 3) := by decide +kernel
theorem dX5_pegs_17 : decode cX5_pegs 17 = .ok (.iconst (-1), 1) := by decide +kernel
theorem dX5_pegs_18 : decode cX5_pegs 18 = .ok (.ireturn, 1) := by decide +kernel
theorem dX5_pegs_19 : decode cX5_pegs 19 = .ok (.bipush 13, 2) := by decide +kernel
theorem dX5_pegs_21 : decode cX5_pegs 21 = .ok (.istore_n 3, 1) := by decide +kernel
theorem dX5_pegs_22 : decode cX5_pegs 22 = .ok (.iconst 0, 1) := by decide +kernel
theorem dX5_pegs_23 : decode cX5_pegs 23 = .ok (.istore 4, 2) := by decide +kernel
theorem dX5_pegs_25 : decode cX5_pegs 25 = .ok (.iconst 0, 1) := by decide +kernel
theorem dX5_pegs_26 : decode cX5_pegs 26 = .ok (.istore 5, 2) := by decide +kernel
theorem dX5_pegs_28 : decode cX5_pegs 28 = .ok (.iload 5, 2) := by decide +kernel
theorem dX5_pegs_30 : decode cX5_pegs 30 = .ok (.bipush 12, 2) := by decide +kernel
theorem dX5_pegs_32 : decode cX5_pegs 32 = .ok (.if_icmp .ge 42, 3) := by decide +kernel
theorem dX5_pegs_35 : decode cX5_pegs 35 = .ok (.aload_n 0, 1) := by decide +kernel
theorem dX5_pegs_36 : decode cX5_pegs 36 = .ok (.getfield 10, 3) := by decide +kernel
theorem dX5_pegs_39 : decode cX5_pegs 39 = .ok (.aload_n 0, 1) := by decide +kernel
theorem dX5_pegs_40 : decode cX5_pegs 40 = .ok (.getfield 10, 3) := by decide +kernel
theorem dX5_pegs_43 : decode cX5_pegs 43 = .ok (.getfield 91, 3) := by decide +kernel
theorem dX5_pegs_46 : decode cX5_pegs 46 = .ok (.iload_n 1, 1) := by decide +kernel
theorem dX5_pegs_47 : decode cX5_pegs 47 = .ok (.aaload, 1) := by decide +kernel
theorem dX5_pegs_48 : decode cX5_pegs 48 = .ok (.iload 5, 2) := by decide +kernel
theorem dX5_pegs_50 : decode cX5_pegs 50 = .ok (.invokevirtual 173, 3) := by decide +kernel
theorem dX5_pegs_53 : decode cX5_pegs 53 = .ok (.istore 6, 2) := by decide +kernel
theorem dX5_pegs_55 : decode cX5_pegs 55 = .ok (.iload 6, 2) := by decide +kernel
theorem dX5_pegs_57 : decode cX5_pegs 57 = .ok (.iload_n 3, 1) := by decide +kernel
theorem dX5_pegs_58 : decode cX5_pegs 58 = .ok (.if_icmp .ge 10, 3) := by decide +kernel
theorem dX5_pegs_61 : decode cX5_pegs 61 = .ok (.iload 6, 2) := by decide +kernel
theorem dX5_pegs_63 : decode cX5_pegs 63 = .ok (.istore_n 3, 1) := by decide +kernel
theorem dX5_pegs_64 : decode cX5_pegs 64 = .ok (.iload 5, 2) := by decide +kernel
theorem dX5_pegs_66 : decode cX5_pegs 66 = .ok (.istore 4, 2) := by decide +kernel
theorem dX5_pegs_68 : decode cX5_pegs 68 = .ok (.iinc 5 1, 3) := by decide +kernel
theorem dX5_pegs_71 : decode cX5_pegs 71 = .ok (.goto (-43), 3) := by decide +kernel
theorem dX5_pegs_74 : decode cX5_pegs 74 = .ok (.iload_n 2, 1) := by decide +kernel
theorem dX5_pegs_75 : decode cX5_pegs 75 = .ok (.ifCond .ne 7, 3) := by decide +kernel
theorem dX5_pegs_78 : decode cX5_pegs 78 = .ok (.iload_n 3, 1) := by decide +kernel
theorem dX5_pegs_79 : decode cX5_pegs 79 = .ok (.goto 5, 3) := by decide +kernel
theorem dX5_pegs_82 : decode cX5_pegs 82 = .ok (.iload 4, 2) := by decide +kernel
theorem dX5_pegs_84 : decode cX5_pegs 84 = .ok (.ireturn, 1) := by decide +kernel
theorem dX5_beats_0 : decode cX5_beats 0 = .ok (.iload_n 1, 1) := by decide +kernel
theorem dX5_beats_1 : decode cX5_beats 1 = .ok (.invokestatic 71, 3) := by decide +kernel
theorem dX5_beats_4 : decode cX5_beats 4 = .ok (.ifCond .eq 13, 3) := by decide +kernel
theorem dX5_beats_7 : decode cX5_beats 7 = .ok (.iload_n 2, 1) := by decide +kernel
theorem dX5_beats_8 : decode cX5_beats 8 = .ok (.iconst 1, 1) := by decide +kernel
theorem dX5_beats_9 : decode cX5_beats 9 = .ok (.bipush 99, 2) := by decide +kernel
theorem dX5_beats_11 : decode cX5_beats 11 = .ok (.invokestatic 44, 3) := by decide +kernel
theorem dX5_beats_14 : decode cX5_beats 14 = .ok (.ifCond .ne 5, 3) := by decide +kernel
theorem dX5_beats_17 : decode cX5_beats 17 = .ok (.iconst (-1), 1) := by decide +kernel
theorem dX5_beats_18 : decode cX5_beats 18 = .ok (.ireturn, 1) := by decide +kernel
theorem dX5_beats_19 : decode cX5_beats 19 = .ok (.aload_n 0, 1) := by decide +kernel
theorem dX5_beats_20 : decode cX5_beats 20 = .ok (.getfield 10, 3) := by decide +kernel
theorem dX5_beats_23 : decode cX5_beats 23 = .ok (.getfield 177, 3) := by decide +kernel
theorem dX5_beats_26 : decode cX5_beats 26 = .ok (.iload_n 1, 1) := by decide +kernel
theorem dX5_beats_27 : decode cX5_beats 27 = .ok (.iaload, 1) := by decide +kernel
theorem dX5_beats_28 : decode cX5_beats 28 = .ok (.istore_n 3, 1) := by decide +kernel
theorem dX5_beats_29 : decode cX5_beats 29 = .ok (.aload_n 0, 1) := by decide +kernel
theorem dX5_beats_30 : decode cX5_beats 30 = .ok (.getfield 10, 3) := by decide +kernel
theorem dX5_beats_33 : decode cX5_beats 33 = .ok (.getfield 177, 3) := by decide +kernel
theorem dX5_beats_36 : decode cX5_beats 36 = .ok (.iload_n 1, 1) := by decide +kernel
theorem dX5_beats_37 : decode cX5_beats 37 = .ok (.iload_n 2, 1) := by decide +kernel
theorem dX5_beats_38 : decode cX5_beats 38 = .ok (.iastore, 1) := by decide +kernel
theorem dX5_beats_39 : decode cX5_beats 39 = .ok (.iload_n 3, 1) := by decide +kernel
theorem dX5_beats_40 : decode cX5_beats 40 = .ok (.ireturn, 1) := by decide +kernel
theorem dX5_when_0 : decode cX5_when 0 = .ok (.iload_n 1, 1) := by decide +kernel
theorem dX5_when_1 : decode cX5_when 1 = .ok (.invokestatic 71, 3) := by decide +kernel
theorem dX5_when_4 : decode cX5_when 4 = .ok (.ifCond .ne 5, 3) := by decide +kernel
theorem dX5_when_7 : decode cX5_when 7 = .ok (.iconst (-1), 1) := by decide +kernel
theorem dX5_when_8 : decode cX5_when 8 = .ok (.ireturn, 1) := by decide +kernel
theorem dX5_when_9 : decode cX5_when 9 = .ok (.aload_n 0, 1) := by decide +kernel
theorem dX5_when_10 : decode cX5_when 10 = .ok (.getfield 10, 3) := by decide +kernel
theorem dX5_when_13 : decode cX5_when 13 = .ok (.iload_n 1, 1) := by decide +kernel
theorem dX5_when_14 : decode cX5_when 14 = .ok (.invokevirtual 180, 3) := by decide +kernel
theorem dX5_when_17 : decode cX5_when 17 = .ok (.ireturn, 1) := by decide +kernel
theorem dX5_at_0 : decode cX5_at 0 = .ok (.iload_n 1, 1) := by decide +kernel
theorem dX5_at_1 : decode cX5_at 1 = .ok (.iconst 0, 1) := by decide +kernel
theorem dX5_at_2 : decode cX5_at 2 = .ok (.ldc 183, 2) := by decide +kernel
theorem dX5_at_4 : decode cX5_at 4 = .ok (.invokestatic 44, 3) := by decide +kernel
theorem dX5_at_7 : decode cX5_at 7 = .ok (.ifCond .ne 5, 3) := by decide +kernel
theorem dX5_at_10 : decode cX5_at 10 = .ok (.iconst (-1), 1) := by decide +kernel
theorem dX5_at_11 : decode cX5_at 11 = .ok (.ireturn, 1) := by decide +kernel
theorem dX5_at_12 : decode cX5_at 12 = .ok (.aload_n 0, 1) := by decide +kernel
theorem dX5_at_13 : decode cX5_at 13 = .ok (.getfield 10, 3) := by decide +kernel
theorem dX5_at_16 : decode cX5_at 16 = .ok (.iload_n 1, 1) := by decide +kernel
theorem dX5_at_17 : decode cX5_at 17 = .ok (.invokevirtual 184, 3) := by decide +kernel
theorem dX5_at_20 : decode cX5_at 20 = .ok (.ireturn, 1) := by decide +kernel
theorem dX5_hand_0 : decode cX5_hand 0 = .ok (.iload_n 1, 1) := by decide +kernel
theorem dX5_hand_1 : decode cX5_hand 1 = .ok (.iconst 0, 1) := by decide +kernel
theorem dX5_hand_2 : decode cX5_hand 2 = .ok (.iconst 3, 1) := by decide +kernel
theorem dX5_hand_3 : decode cX5_hand 3 = .ok (.invokestatic 44, 3) := by decide +kernel
theorem dX5_hand_6 : decode cX5_hand 6 = .ok (.ifCond .eq 14, 3) := by decide +kernel
theorem dX5_hand_9 : decode cX5_hand 9 = .ok (.iload_n 2, 1) := by decide +kernel
theorem dX5_hand_10 : decode cX5_hand 10 = .ok (.iconst 0, 1) := by decide +kernel
theorem dX5_hand_11 : decode cX5_hand 11 = .ok (.sipush 1023, 3) := by decide +kernel
theorem dX5_hand_14 : decode cX5_hand 14 = .ok (.invokestatic 44, 3) := by decide +kernel
theorem dX5_hand_17 : decode cX5_hand 17 = .ok (.ifCond .ne 5, 3) := by decide +kernel
theorem dX5_hand_20 : decode cX5_hand 20 = .ok (.iconst (-1), 1) := by decide +kernel
theorem dX5_hand_21 : decode cX5_hand 21 = .ok (.ireturn, 1) := by decide +kernel
theorem dX5_hand_22 : decode cX5_hand 22 = .ok (.aload_n 0, 1) := by decide +kernel
theorem dX5_hand_23 : decode cX5_hand 23 = .ok (.getfield 10, 3) := by decide +kernel
theorem dX5_hand_26 : decode cX5_hand 26 = .ok (.getfield 187, 3) := by decide +kernel
theorem dX5_hand_29 : decode cX5_hand 29 = .ok (.iload_n 1, 1) := by decide +kernel
theorem dX5_hand_30 : decode cX5_hand 30 = .ok (.iaload, 1) := by decide +kernel
theorem dX5_hand_31 : decode cX5_hand 31 = .ok (.istore_n 3, 1) := by decide +kernel
theorem dX5_hand_32 : decode cX5_hand 32 = .ok (.aload_n 0, 1) := by decide +kernel
theorem dX5_hand_33 : decode cX5_hand 33 = .ok (.getfield 10, 3) := by decide +kernel
theorem dX5_hand_36 : decode cX5_hand 36 = .ok (.getfield 187, 3) := by decide +kernel
theorem dX5_hand_39 : decode cX5_hand 39 = .ok (.iload_n 1, 1) := by decide +kernel
theorem dX5_hand_40 : decode cX5_hand 40 = .ok (.iload_n 2, 1) := by decide +kernel
theorem dX5_hand_41 : decode cX5_hand 41 = .ok (.iastore, 1) := by decide +kernel
theorem dX5_hand_42 : decode cX5_hand 42 = .ok (.iload_n 3, 1) := by decide +kernel
theorem dX5_hand_43 : decode cX5_hand 43 = .ok (.ireturn, 1) := by decide +kernel
theorem dX5_whose_0 : decode cX5_whose 0 = .ok (.aload_n 0, 1) := by decide +kernel
theorem dX5_whose_1 : decode cX5_whose 1 = .ok (.iload_n 1, 1) := by decide +kernel
theorem dX5_whose_2 : decode cX5_whose 2 = .ok (.invokevirtual 67, 3) := by decide +kernel
theorem dX5_whose_5 : decode cX5_whose 5 = .ok (.ifCond .ne 5, 3) := by decide +kernel
theorem dX5_whose_8 : decode cX5_whose 8 = .ok (.iconst (-1), 1) := by decide +kernel
theorem dX5_whose_9 : decode cX5_whose 9 = .ok (.ireturn, 1) := by decide +kernel
theorem dX5_whose_10 : decode cX5_whose 10 = .ok (.aload_n 0, 1) := by decide +kernel
theorem dX5_whose_11 : decode cX5_whose 11 = .ok (.getfield 10, 3) := by decide +kernel
theorem dX5_whose_14 : decode cX5_whose 14 = .ok (.getfield 74, 3) := by decide +kernel
theorem dX5_whose_17 : decode cX5_whose 17 = .ok (.iload_n 1, 1) := by decide +kernel
theorem dX5_whose_18 : decode cX5_whose 18 = .ok (.aaload, 1) := by decide +kernel
theorem dX5_whose_19 : decode cX5_whose 19 = .ok (.invokestatic 190, 3) := by decide +kernel
theorem dX5_whose_22 : decode cX5_whose 22 = .ok (.istore_n 2, 1) := by decide +kernel
theorem dX5_whose_23 : decode cX5_whose 23 = .ok (.iconst 0, 1) := by decide +kernel
theorem dX5_whose_24 : decode cX5_whose 24 = .ok (.istore_n 3, 1) := by decide +kernel
theorem dX5_whose_25 : decode cX5_whose 25 = .ok (.iconst 0, 1) := by decide +kernel
theorem dX5_whose_26 : decode cX5_whose 26 = .ok (.istore 4, 2) := by decide +kernel
theorem dX5_whose_28 : decode cX5_whose 28 = .ok (.iload 4, 2) := by decide +kernel
theorem dX5_whose_30 : decode cX5_whose 30 = .ok (.iconst 4, 1) := by decide +kernel
theorem dX5_whose_31 : decode cX5_whose 31 = .ok (.if_icmp .ge 33, 3) := by decide +kernel
theorem dX5_whose_34 : decode cX5_whose 34 = .ok (.iload_n 2, 1) := by decide +kernel
theorem dX5_whose_35 : decode cX5_whose 35 = .ok (.aload_n 0, 1) := by decide +kernel
theorem dX5_whose_36 : decode cX5_whose 36 = .ok (.getfield 10, 3) := by decide +kernel
theorem dX5_whose_39 : decode cX5_whose 39 = .ok (.getfield 187, 3) := by decide +kernel
theorem dX5_whose_42 : decode cX5_whose 42 = .ok (.iload 4, 2) := by decide +kernel
theorem dX5_whose_44 : decode cX5_whose 44 = .ok (.iaload, 1) := by decide +kernel
theorem dX5_whose_45 : decode cX5_whose 45 = .ok (.iconst (-1), 1) := by decide +kernel
theorem dX5_whose_46 : decode cX5_whose 46 = .ok (.ixor, 1) := by decide +kernel
theorem dX5_whose_47 : decode cX5_whose 47 = .ok (.iand, 1) := by decide +kernel
theorem dX5_whose_48 : decode cX5_whose 48 = .ok (.ifCond .ne 10, 3) := by decide +kernel
theorem dX5_whose_51 : decode cX5_whose 51 = .ok (.iload_n 3, 1) := by decide +kernel
theorem dX5_whose_52 : decode cX5_whose 52 = .ok (.iconst 1, 1) := by decide +kernel
theorem dX5_whose_53 : decode cX5_whose 53 = .ok (.iload 4, 2) := by decide +kernel
theorem dX5_whose_55 : decode cX5_whose 55 = .ok (.ishl, 1) := by decide +kernel
theorem dX5_whose_56 : decode cX5_whose 56 = .ok (.ior, 1) := by decide +kernel
theorem dX5_whose_57 : decode cX5_whose 57 = .ok (.istore_n 3, 1) := by decide +kernel
theorem dX5_whose_58 : decode cX5_whose 58 = .ok (.iinc 4 1, 3) := by decide +kernel
theorem dX5_whose_61 : decode cX5_whose 61 = .ok (.goto (-33), 3) := by decide +kernel
theorem dX5_whose_64 : decode cX5_whose 64 = .ok (.iload_n 3, 1) := by decide +kernel
theorem dX5_whose_65 : decode cX5_whose 65 = .ok (.ireturn, 1) := by decide +kernel
theorem dX5_image_0 : decode cX5_image 0 = .ok (.aload_n 0, 1) := by decide +kernel
theorem dX5_image_1 : decode cX5_image 1 = .ok (.getfield 16, 3) := by decide +kernel
theorem dX5_image_4 : decode cX5_image 4 = .ok (.aload_n 0, 1) := by decide +kernel
theorem dX5_image_5 : decode cX5_image 5 = .ok (.getfield 10, 3) := by decide +kernel
theorem dX5_image_8 : decode cX5_image 8 = .ok (.invokevirtual 193, 3) := by decide +kernel
theorem dX5_image_11 : decode cX5_image 11 = .ok (.aload_n 0, 1) := by decide +kernel
theorem dX5_image_12 : decode cX5_image 12 = .ok (.iconst 1, 1) := by decide +kernel
theorem dX5_image_13 : decode cX5_image 13 = .ok (.putfield 197, 3) := by decide +kernel
theorem dX5_image_16 : decode cX5_image 16 = .ok (.iconst 1, 1) := by decide +kernel
theorem dX5_image_17 : decode cX5_image 17 = .ok (.ireturn, 1) := by decide +kernel
theorem dX5_restore_0 : decode cX5_restore 0 = .ok (.aload_n 0, 1) := by decide +kernel
theorem dX5_restore_1 : decode cX5_restore 1 = .ok (.getfield 197, 3) := by decide +kernel
theorem dX5_restore_4 : decode cX5_restore 4 = .ok (.ifCond .ne 6, 3) := by decide +kernel
theorem dX5_restore_7 : decode cX5_restore 7 = .ok (.bipush (-4), 2) := by decide +kernel
theorem dX5_restore_9 : decode cX5_restore 9 = .ok (.ireturn, 1) := by decide +kernel
theorem dX5_restore_10 : decode cX5_restore 10 = .ok (.aload_n 0, 1) := by decide +kernel
theorem dX5_restore_11 : decode cX5_restore 11 = .ok (.getfield 10, 3) := by decide +kernel
theorem dX5_restore_14 : decode cX5_restore 14 = .ok (.aload_n 0, 1) := by decide +kernel
theorem dX5_restore_15 : decode cX5_restore 15 = .ok (.getfield 16, 3) := by decide +kernel
theorem dX5_restore_18 : decode cX5_restore 18 = .ok (.invokevirtual 193, 3) := by decide +kernel
theorem dX5_restore_21 : decode cX5_restore 21 = .ok (.iconst 1, 1) := by decide +kernel
theorem dX5_restore_22 : decode cX5_restore 22 = .ok (.ireturn, 1) := by decide +kernel
theorem dX5_worn_0 : decode cX5_worn 0 = .ok (.iload_n 1, 1) := by decide +kernel
theorem dX5_worn_1 : decode cX5_worn 1 = .ok (.iconst 1, 1) := by decide +kernel
theorem dX5_worn_2 : decode cX5_worn 2 = .ok (.bipush 9, 2) := by decide +kernel
theorem dX5_worn_4 : decode cX5_worn 4 = .ok (.invokestatic 44, 3) := by decide +kernel
theorem dX5_worn_7 : decode cX5_worn 7 = .ok (.ifCond .ne 5, 3) := by decide +kernel
theorem dX5_worn_10 : decode cX5_worn 10 = .ok (.iconst (-1), 1) := by decide +kernel
theorem dX5_worn_11 : decode cX5_worn 11 = .ok (.ireturn, 1) := by decide +kernel
theorem dX5_worn_12 : decode cX5_worn 12 = .ok (.aload_n 0, 1) := by decide +kernel
theorem dX5_worn_13 : decode cX5_worn 13 = .ok (.iload_n 2, 1) := by decide +kernel
theorem dX5_worn_14 : decode cX5_worn 14 = .ok (.iload_n 3, 1) := by decide +kernel
theorem dX5_worn_15 : decode cX5_worn 15 = .ok (.iload 4, 2) := by decide +kernel
theorem dX5_worn_17 : decode cX5_worn 17 = .ok (.aload_n 0, 1) := by decide +kernel
theorem dX5_worn_18 : decode cX5_worn 18 = .ok (.getfield 10, 3) := by decide +kernel
theorem dX5_worn_21 : decode cX5_worn 21 = .ok (.getfield 123, 3) := by decide +kernel
theorem dX5_worn_24 : decode cX5_worn 24 = .ok (.invokevirtual 201, 3) := by decide +kernel
theorem dX5_worn_27 : decode cX5_worn 27 = .ok (.istore 5, 2) := by decide +kernel
theorem dX5_worn_29 : decode cX5_worn 29 = .ok (.iload 5, 2) := by decide +kernel
theorem dX5_worn_31 : decode cX5_worn 31 = .ok (.ifCond .ge 6, 3) := by decide +kernel
theorem dX5_worn_34 : decode cX5_worn 34 = .ok (.iload 5, 2) := by decide +kernel
theorem dX5_worn_36 : decode cX5_worn 36 = .ok (.ireturn, 1) := by decide +kernel
theorem dX5_worn_37 : decode cX5_worn 37 = .ok (.aload_n 0, 1) := by decide +kernel
theorem dX5_worn_38 : decode cX5_worn 38 = .ok (.getfield 28, 3) := by decide +kernel
theorem dX5_worn_41 : decode cX5_worn 41 = .ok (.iload_n 2, 1) := by decide +kernel
theorem dX5_worn_42 : decode cX5_worn 42 = .ok (.aaload, 1) := by decide +kernel
theorem dX5_worn_43 : decode cX5_worn 43 = .ok (.astore 6, 2) := by decide +kernel
theorem dX5_worn_45 : decode cX5_worn 45 = .ok (.aload_n 0, 1) := by decide +kernel
theorem dX5_worn_46 : decode cX5_worn 46 = .ok (.aload 6, 2) := by decide +kernel
theorem dX5_worn_48 : decode cX5_worn 48 = .ok (.iload 4, 2) := by decide +kernel
theorem dX5_worn_50 : decode cX5_worn 50 = .ok (.iconst (-1), 1) := by decide +kernel
theorem dX5_worn_51 : decode cX5_worn 51 = .ok (.invokevirtual 204, 3) := by decide +kernel
theorem dX5_worn_54 : decode cX5_worn 54 = .ok (.ifCond .eq 8, 3) := by decide +kernel
theorem dX5_worn_57 : decode cX5_worn 57 = .ok (.bipush 64, 2) := by decide +kernel
theorem dX5_worn_59 : decode cX5_worn 59 = .ok (.goto 4, 3) := by decide +kernel
theorem dX5_worn_62 : decode cX5_worn 62 = .ok (.iconst 0, 1) := by decide +kernel
theorem dX5_worn_63 : decode cX5_worn 63 = .ok (.istore 7, 2) := by decide +kernel
theorem dX5_worn_65 : decode cX5_worn 65 = .ok (.iconst 0, 1) := by decide +kernel
theorem dX5_worn_66 : decode cX5_worn 66 = .ok (.istore 8, 2) := by decide +kernel
theorem dX5_worn_68 : decode cX5_worn 68 = .ok (.iload 8, 2) := by decide +kernel
theorem dX5_worn_70 : decode cX5_worn 70 = .ok (.aload_n 0, 1) := by decide +kernel
theorem dX5_worn_71 : decode cX5_worn 71 = .ok (.getfield 10, 3) := by decide +kernel
theorem dX5_worn_74 : decode cX5_worn 74 = .ok (.getfield 120, 3) := by decide +kernel
theorem dX5_worn_77 : decode cX5_worn 77 = .ok (.if_icmp .ge 49, 3) := by decide +kernel
theorem dX5_worn_80 : decode cX5_worn 80 = .ok (.aload_n 0, 1) := by decide +kernel
theorem dX5_worn_81 : decode cX5_worn 81 = .ok (.getfield 40, 3) := by decide +kernel
theorem dX5_worn_84 : decode cX5_worn 84 = .ok (.aload_n 0, 1) := by decide +kernel
theorem dX5_worn_85 : decode cX5_worn 85 = .ok (.getfield 10, 3) := by decide +kernel
theorem dX5_worn_88 : decode cX5_worn 88 = .ok (.getfield 74, 3) := by decide +kernel
theorem dX5_worn_91 : decode cX5_worn 91 = .ok (.iload 8, 2) := by decide +kernel
theorem dX5_worn_93 : decode cX5_worn 93 = .ok (.aaload, 1) := by decide +kernel
theorem dX5_worn_94 : decode cX5_worn 94 = .ok (.iload_n 1, 1) := by decide +kernel
theorem dX5_worn_95 : decode cX5_worn 95 = .ok (.invokestatic 208, 3) := by decide +kernel
theorem dX5_worn_98 : decode cX5_worn 98 = .ok (.aload_n 0, 1) := by decide +kernel
theorem dX5_worn_99 : decode cX5_worn 99 = .ok (.aload 6, 2) := by decide +kernel
theorem dX5_worn_101 : decode cX5_worn 101 = .ok (.iload 4, 2) := by decide +kernel
theorem dX5_worn_103 : decode cX5_worn 103 = .ok (.iload 8, 2) := by decide +kernel
theorem dX5_worn_105 : decode cX5_worn 105 = .ok (.invokevirtual 204, 3) := by decide +kernel
theorem dX5_worn_108 : decode cX5_worn 108 = .ok (.ifCond .eq 12, 3) := by decide +kernel
theorem dX5_worn_111 : decode cX5_worn 111 = .ok (.iload 7, 2) := by decide +kernel
theorem dX5_worn_113 : decode cX5_worn 113 = .ok (.iconst 1, 1) := by decide +kernel
theorem dX5_worn_114 : decode cX5_worn 114 = .ok (.iload 8, 2) := by decide +kernel
theorem dX5_worn_116 : decode cX5_worn 116 = .ok (.ishl, 1) := by decide +kernel
theorem dX5_worn_117 : decode cX5_worn 117 = .ok (.ior, 1) := by decide +kernel
theorem dX5_worn_118 : decode cX5_worn 118 = .ok (.istore 7, 2) := by decide +kernel
theorem dX5_worn_120 : decode cX5_worn 120 = .ok (.iinc 8 1, 3) := by decide +kernel
theorem dX5_worn_123 : decode cX5_worn 123 = .ok (.goto (-55), 3) := by decide +kernel
theorem dX5_worn_126 : decode cX5_worn 126 = .ok (.iload 7, 2) := by decide +kernel
theorem dX5_worn_128 : decode cX5_worn 128 = .ok (.ireturn, 1) := by decide +kernel
theorem dX5_film_0 : decode cX5_film 0 = .ok (.aload_n 0, 1) := by decide +kernel
theorem dX5_film_1 : decode cX5_film 1 = .ok (.iload_n 1, 1) := by decide +kernel
theorem dX5_film_2 : decode cX5_film 2 = .ok (.invokevirtual 88, 3) := by decide +kernel
theorem dX5_film_5 : decode cX5_film 5 = .ok (.ifCond .ne 5, 3) := by decide +kernel
theorem dX5_film_8 : decode cX5_film 8 = .ok (.iconst (-1), 1) := by decide +kernel
theorem dX5_film_9 : decode cX5_film 9 = .ok (.ireturn, 1) := by decide +kernel
theorem dX5_film_10 : decode cX5_film 10 = .ok (.aload_n 0, 1) := by decide +kernel
theorem dX5_film_11 : decode cX5_film 11 = .ok (.iload_n 2, 1) := by decide +kernel
theorem dX5_film_12 : decode cX5_film 12 = .ok (.iload_n 3, 1) := by decide +kernel
theorem dX5_film_13 : decode cX5_film 13 = .ok (.iload 4, 2) := by decide +kernel
theorem dX5_film_15 : decode cX5_film 15 = .ok (.bipush 12, 2) := by decide +kernel
theorem dX5_film_17 : decode cX5_film 17 = .ok (.invokevirtual 201, 3) := by decide +kernel
theorem dX5_film_20 : decode cX5_film 20 = .ok (.istore 5, 2) := by decide +kernel
theorem dX5_film_22 : decode cX5_film 22 = .ok (.iload 5, 2) := by decide +kernel
theorem dX5_film_24 : decode cX5_film 24 = .ok (.ifCond .ge 6, 3) := by decide +kernel
theorem dX5_film_27 : decode cX5_film 27 = .ok (.iload 5, 2) := by decide +kernel
theorem dX5_film_29 : decode cX5_film 29 = .ok (.ireturn, 1) := by decide +kernel
theorem dX5_film_30 : decode cX5_film 30 = .ok (.aload_n 0, 1) := by decide +kernel
theorem dX5_film_31 : decode cX5_film 31 = .ok (.getfield 10, 3) := by decide +kernel
theorem dX5_film_34 : decode cX5_film 34 = .ok (.getfield 91, 3) := by decide +kernel
theorem dX5_film_37 : decode cX5_film 37 = .ok (.iload_n 1, 1) := by decide +kernel
theorem dX5_film_38 : decode cX5_film 38 = .ok (.aaload, 1) := by decide +kernel
theorem dX5_film_39 : decode cX5_film 39 = .ok (.astore 6, 2) := by decide +kernel
theorem dX5_film_41 : decode cX5_film 41 = .ok (.iconst 0, 1) := by decide +kernel
theorem dX5_film_42 : decode cX5_film 42 = .ok (.istore 7, 2) := by decide +kernel
theorem dX5_film_44 : decode cX5_film 44 = .ok (.iload 7, 2) := by decide +kernel
theorem dX5_film_46 : decode cX5_film 46 = .ok (.bipush 12, 2) := by decide +kernel
theorem dX5_film_48 : decode cX5_film 48 = .ok (.if_icmp .ge 48, 3) := by decide +kernel
theorem dX5_film_51 : decode cX5_film 51 = .ok (.aload_n 0, 1) := by decide +kernel
theorem dX5_film_52 : decode cX5_film 52 = .ok (.getfield 28, 3) := by decide +kernel
theorem dX5_film_55 : decode cX5_film 55 = .ok (.iload_n 2, 1) := by decide +kernel
theorem dX5_film_56 : decode cX5_film 56 = .ok (.aaload, 1) := by decide +kernel
theorem dX5_film_57 : decode cX5_film 57 = .ok (.iload 4, 2) := by decide +kernel
theorem dX5_film_59 : decode cX5_film 59 = .ok (.iload 7, 2) := by decide +kernel
theorem dX5_film_61 : decode cX5_film 61 = .ok (.iadd, 1) := by decide +kernel
theorem dX5_film_62 : decode cX5_film 62 = .ok (.aload_n 0, 1) := by decide +kernel
theorem dX5_film_63 : decode cX5_film 63 = .ok (.getfield 10, 3) := by decide +kernel
theorem dX5_film_66 : decode cX5_film 66 = .ok (.aload_n 0, 1) := by decide +kernel
theorem dX5_film_67 : decode cX5_film 67 = .ok (.getfield 10, 3) := by decide +kernel
theorem dX5_film_70 : decode cX5_film 70 = .ok (.getfield 74, 3) := by decide +kernel
theorem dX5_film_73 : decode cX5_film 73 = .ok (.aload 6, 2) := by decide +kernel
theorem dX5_film_75 : decode cX5_film 75 = .ok (.getfield 136, 3) := by decide +kernel
theorem dX5_film_78 : decode cX5_film 78 = .ok (.aaload, 1) := by decide +kernel
theorem dX5_film_79 : decode cX5_film 79 = .ok (.aload 6, 2) := by decide +kernel
theorem dX5_film_81 : decode cX5_film 81 = .ok (.iload 7, 2) := by decide +kernel
theorem dX5_film_83 : decode cX5_film 83 = .ok (.invokevirtual 139, 3) := by decide +kernel
theorem dX5_film_86 : decode cX5_film 86 = .ok (.i2l, 1) := by decide +kernel
theorem dX5_film_87 : decode cX5_film 87 = .ok (.invokevirtual 212, 3) := by decide +kernel
theorem dX5_film_90 : decode cX5_film 90 = .ok (.iinc 7 1, 3) := by decide +kernel
theorem dX5_film_93 : decode cX5_film 93 = .ok (.goto (-49), 3) := by decide +kernel
theorem dX5_film_96 : decode cX5_film 96 = .ok (.bipush 12, 2) := by decide +kernel
theorem dX5_film_98 : decode cX5_film 98 = .ok (.ireturn, 1) := by decide +kernel
theorem dX5_sheet_0 : decode cX5_sheet 0 = .ok (.iload_n 1, 1) := by decide +kernel
theorem dX5_sheet_1 : decode cX5_sheet 1 = .ok (.invokestatic 216, 3) := by decide +kernel
theorem dX5_sheet_4 : decode cX5_sheet 4 = .ok (.ifCond .eq 16, 3) := by decide +kernel
theorem dX5_sheet_7 : decode cX5_sheet 7 = .ok (.iload_n 2, 1) := by decide +kernel
theorem dX5_sheet_8 : decode cX5_sheet 8 = .ok (.invokestatic 219, 3) := by decide +kernel
theorem dX5_sheet_11 : decode cX5_sheet 11 = .ok (.ifCond .eq 9, 3) := by decide +kernel
theorem dX5_sheet_14 : decode cX5_sheet 14 = .ok (.iload_n 3, 1) := by decide +kernel
theorem dX5_sheet_15 : decode cX5_sheet 15 = .ok (.bipush 24, 2) := by decide +kernel
theorem dX5_sheet_17 : decode cX5_sheet 17 = .ok (.if_icmp .le 5, 3) := by decide +kernel
theorem dX5_sheet_20 : decode cX5_sheet 20 = .ok (.iconst (-1), 1) := by decide +kernel
theorem dX5_sheet_21 : decode cX5_sheet 21 = .ok (.ireturn, 1) := by decide +kernel
theorem dX5_sheet_22 : decode cX5_sheet 22 = .ok (.iload_n 3, 1) := by decide +kernel
theorem dX5_sheet_23 : decode cX5_sheet 23 = .ok (.ifCond .ge 6, 3) := by decide +kernel
theorem dX5_sheet_26 : decode cX5_sheet 26 = .ok (.bipush (-14), 2) := by decide +kernel
theorem dX5_sheet_28 : decode cX5_sheet 28 = .ok (.ireturn, 1) := by decide +kernel
theorem dX5_sheet_29 : decode cX5_sheet 29 = .ok (.aload_n 0, 1) := by decide +kernel
theorem dX5_sheet_30 : decode cX5_sheet 30 = .ok (.getfield 28, 3) := by decide +kernel
theorem dX5_sheet_33 : decode cX5_sheet 33 = .ok (.iload_n 1, 1) := by decide +kernel
theorem dX5_sheet_34 : decode cX5_sheet 34 = .ok (.aaload, 1) := by decide +kernel
theorem dX5_sheet_35 : decode cX5_sheet 35 = .ok (.iload_n 2, 1) := by decide +kernel
theorem dX5_sheet_36 : decode cX5_sheet 36 = .ok (.iload_n 3, 1) := by decide +kernel
theorem dX5_sheet_37 : decode cX5_sheet 37 = .ok (.invokevirtual 222, 3) := by decide +kernel
theorem dX5_sheet_40 : decode cX5_sheet 40 = .ok (.iload_n 3, 1) := by decide +kernel
theorem dX5_sheet_41 : decode cX5_sheet 41 = .ok (.ireturn, 1) := by decide +kernel
theorem dX5_drop_0 : decode cX5_drop 0 = .ok (.iload_n 1, 1) := by decide +kernel
theorem dX5_drop_1 : decode cX5_drop 1 = .ok (.invokestatic 216, 3) := by decide +kernel
theorem dX5_drop_4 : decode cX5_drop 4 = .ok (.ifCond .ne 5, 3) := by decide +kernel
theorem dX5_drop_7 : decode cX5_drop 7 = .ok (.iconst (-1), 1) := by decide +kernel
theorem dX5_drop_8 : decode cX5_drop 8 = .ok (.ireturn, 1) := by decide +kernel
theorem dX5_drop_9 : decode cX5_drop 9 = .ok (.aload_n 0, 1) := by decide +kernel
theorem dX5_drop_10 : decode cX5_drop 10 = .ok (.getfield 28, 3) := by decide +kernel
theorem dX5_drop_13 : decode cX5_drop 13 = .ok (.iload_n 1, 1) := by decide +kernel
theorem dX5_drop_14 : decode cX5_drop 14 = .ok (.aaload, 1) := by decide +kernel
theorem dX5_drop_15 : decode cX5_drop 15 = .ok (.invokevirtual 226, 3) := by decide +kernel
theorem dX5_drop_18 : decode cX5_drop 18 = .ok (.ifCond .eq 6, 3) := by decide +kernel
theorem dX5_drop_21 : decode cX5_drop 21 = .ok (.bipush (-11), 2) := by decide +kernel
theorem dX5_drop_23 : decode cX5_drop 23 = .ok (.ireturn, 1) := by decide +kernel
theorem dX5_drop_24 : decode cX5_drop 24 = .ok (.aload_n 0, 1) := by decide +kernel
theorem dX5_drop_25 : decode cX5_drop 25 = .ok (.getfield 28, 3) := by decide +kernel
theorem dX5_drop_28 : decode cX5_drop 28 = .ok (.iload_n 1, 1) := by decide +kernel
theorem dX5_drop_29 : decode cX5_drop 29 = .ok (.aaload, 1) := by decide +kernel
theorem dX5_drop_30 : decode cX5_drop 30 = .ok (.invokevirtual 230, 3) := by decide +kernel
theorem dX5_drop_33 : decode cX5_drop 33 = .ok (.ireturn, 1) := by decide +kernel
theorem dX5_item_0 : decode cX5_item 0 = .ok (.aload_n 0, 1) := by decide +kernel
theorem dX5_item_1 : decode cX5_item 1 = .ok (.iload_n 1, 1) := by decide +kernel
theorem dX5_item_2 : decode cX5_item 2 = .ok (.iload_n 2, 1) := by decide +kernel
theorem dX5_item_3 : decode cX5_item 3 = .ok (.iload_n 3, 1) := by decide +kernel
theorem dX5_item_4 : decode cX5_item 4 = .ok (.iconst 1, 1) := by decide +kernel
theorem dX5_item_5 : decode cX5_item 5 = .ok (.invokevirtual 201, 3) := by decide +kernel
theorem dX5_item_8 : decode cX5_item 8 = .ok (.istore 6, 2) := by decide +kernel
theorem dX5_item_10 : decode cX5_item 10 = .ok (.iload 6, 2) := by decide +kernel
theorem dX5_item_12 : decode cX5_item 12 = .ok (.ifCond .ge 6, 3) := by decide +kernel
theorem dX5_item_15 : decode cX5_item 15 = .ok (.iload 6, 2) := by decide +kernel
theorem dX5_item_17 : decode cX5_item 17 = .ok (.ireturn, 1) := by decide +kernel
theorem dX5_item_18 : decode cX5_item 18 = .ok (.aload_n 0, 1) := by decide +kernel
theorem dX5_item_19 : decode cX5_item 19 = .ok (.getfield 28, 3) := by decide +kernel
theorem dX5_item_22 : decode cX5_item 22 = .ok (.iload_n 1, 1) := by decide +kernel
theorem dX5_item_23 : decode cX5_item 23 = .ok (.aaload, 1) := by decide +kernel
theorem dX5_item_24 : decode cX5_item 24 = .ok (.iload_n 3, 1) := by decide +kernel
theorem dX5_item_25 : decode cX5_item 25 = .ok (.lload 4, 2) := by decide +kernel
theorem dX5_item_27 : decode cX5_item 27 = .ok (.invokevirtual 212, 3) := by decide +kernel
theorem dX5_item_30 : decode cX5_item 30 = .ok (.iconst 1, 1) := by decide +kernel
theorem dX5_item_31 : decode cX5_item 31 = .ok (.ireturn, 1) := by decide +kernel
theorem dX5_copy_0 : decode cX5_copy 0 = .ok (.iload_n 1, 1) := by decide +kernel
theorem dX5_copy_1 : decode cX5_copy 1 = .ok (.invokestatic 216, 3) := by decide +kernel
theorem dX5_copy_4 : decode cX5_copy 4 = .ok (.ifCond .eq 10, 3) := by decide +kernel
theorem dX5_copy_7 : decode cX5_copy 7 = .ok (.iload_n 3, 1) := by decide +kernel
theorem dX5_copy_8 : decode cX5_copy 8 = .ok (.invokestatic 216, 3) := by decide +kernel
theorem dX5_copy_11 : decode cX5_copy 11 = .ok (.ifCond .ne 5, 3) := by decide +kernel
theorem dX5_copy_14 : decode cX5_copy 14 = .ok (.iconst (-1), 1) := by decide +kernel
theorem dX5_copy_15 : decode cX5_copy 15 = .ok (.ireturn, 1) := by decide +kernel
theorem dX5_copy_16 : decode cX5_copy 16 = .ok (.aload_n 0, 1) := by decide +kernel
theorem dX5_copy_17 : decode cX5_copy 17 = .ok (.getfield 28, 3) := by decide +kernel
theorem dX5_copy_20 : decode cX5_copy 20 = .ok (.iload_n 1, 1) := by decide +kernel
theorem dX5_copy_21 : decode cX5_copy 21 = .ok (.aaload, 1) := by decide +kernel
theorem dX5_copy_22 : decode cX5_copy 22 = .ok (.astore 6, 2) := by decide +kernel
theorem dX5_copy_24 : decode cX5_copy 24 = .ok (.aload_n 0, 1) := by decide +kernel
theorem dX5_copy_25 : decode cX5_copy 25 = .ok (.getfield 28, 3) := by decide +kernel
theorem dX5_copy_28 : decode cX5_copy 28 = .ok (.iload_n 3, 1) := by decide +kernel
theorem dX5_copy_29 : decode cX5_copy 29 = .ok (.aaload, 1) := by decide +kernel
theorem dX5_copy_30 : decode cX5_copy 30 = .ok (.astore 7, 2) := by decide +kernel
theorem dX5_copy_32 : decode cX5_copy 32 = .ok (.aload 6, 2) := by decide +kernel
theorem dX5_copy_34 : decode cX5_copy 34 = .ok (.invokevirtual 226, 3) := by decide +kernel
theorem dX5_copy_37 : decode cX5_copy 37 = .ok (.ifCond .ne 11, 3) := by decide +kernel
theorem dX5_copy_40 : decode cX5_copy 40 = .ok (.aload 7, 2) := by decide +kernel
theorem dX5_copy_42 : decode cX5_copy 42 = .ok (.invokevirtual 226, 3) := by decide +kernel
theorem dX5_copy_45 : decode cX5_copy 45 = .ok (.ifCond .eq 6, 3) := by decide +kernel
theorem dX5_copy_48 : decode cX5_copy 48 = .ok (.bipush (-11), 2) := by decide +kernel
theorem dX5_copy_50 : decode cX5_copy 50 = .ok (.ireturn, 1) := by decide +kernel
theorem dX5_copy_51 : decode cX5_copy 51 = .ok (.aload 6, 2) := by decide +kernel
theorem dX5_copy_53 : decode cX5_copy 53 = .ok (.getfield 233, 3) := by decide +kernel
theorem dX5_copy_56 : decode cX5_copy 56 = .ok (.aload 7, 2) := by decide +kernel
theorem dX5_copy_58 : decode cX5_copy 58 = .ok (.getfield 233, 3) := by decide +kernel
theorem dX5_copy_61 : decode cX5_copy 61 = .ok (.if_icmp .eq 6, 3) := by decide +kernel
theorem dX5_copy_64 : decode cX5_copy 64 = .ok (.bipush (-12), 2) := by decide +kernel
theorem dX5_copy_66 : decode cX5_copy 66 = .ok (.ireturn, 1) := by decide +kernel
theorem dX5_copy_67 : decode cX5_copy 67 = .ok (.aload 6, 2) := by decide +kernel
theorem dX5_copy_69 : decode cX5_copy 69 = .ok (.iload_n 2, 1) := by decide +kernel
theorem dX5_copy_70 : decode cX5_copy 70 = .ok (.iload 5, 2) := by decide +kernel
theorem dX5_copy_72 : decode cX5_copy 72 = .ok (.invokevirtual 236, 3) := by decide +kernel
theorem dX5_copy_75 : decode cX5_copy 75 = .ok (.ifCond .eq 15, 3) := by decide +kernel
theorem dX5_copy_78 : decode cX5_copy 78 = .ok (.aload 7, 2) := by decide +kernel
theorem dX5_copy_80 : decode cX5_copy 80 = .ok (.iload 4, 2) := by decide +kernel
theorem dX5_copy_82 : decode cX5_copy 82 = .ok (.iload 5, 2) := by decide +kernel
theorem dX5_copy_84 : decode cX5_copy 84 = .ok (.invokevirtual 236, 3) := by decide +kernel
theorem dX5_copy_87 : decode cX5_copy 87 = .ok (.ifCond .ne 6, 3) := by decide +kernel
theorem dX5_copy_90 : decode cX5_copy 90 = .ok (.bipush (-13), 2) := by decide +kernel
theorem dX5_copy_92 : decode cX5_copy 92 = .ok (.ireturn, 1) := by decide +kernel
theorem dX5_copy_93 : decode cX5_copy 93 = .ok (.aload 6, 2) := by decide +kernel
theorem dX5_copy_95 : decode cX5_copy 95 = .ok (.getfield 240, 3) := by decide +kernel
theorem dX5_copy_98 : decode cX5_copy 98 = .ok (.iload_n 2, 1) := by decide +kernel
theorem dX5_copy_99 : decode cX5_copy 99 = .ok (.aload 7, 2) := by decide +kernel
theorem dX5_copy_101 : decode cX5_copy 101 = .ok (.getfield 240, 3) := by decide +kernel
theorem dX5_copy_104 : decode cX5_copy 104 = .ok (.iload 4, 2) := by decide +kernel
theorem dX5_copy_106 : decode cX5_copy 106 = .ok (.iload 5, 2) := by decide +kernel
theorem dX5_copy_108 : decode cX5_copy 108 = .ok (.invokestatic 244, 3) := by decide +kernel
theorem dX5_copy_111 : decode cX5_copy 111 = .ok (.iload 5, 2) := by decide +kernel
theorem dX5_copy_113 : decode cX5_copy 113 = .ok (.ireturn, 1) := by decide +kernel
theorem dX5_isWithin_0 : decode cX5_isWithin 0 = .ok (.iload_n 0, 1) := by decide +kernel
theorem dX5_isWithin_1 : decode cX5_isWithin 1 = .ok (.iload_n 1, 1) := by decide +kernel
theorem dX5_isWithin_2 : decode cX5_isWithin 2 = .ok (.if_icmp .lt 12, 3) := by decide +kernel
theorem dX5_isWithin_5 : decode cX5_isWithin 5 = .ok (.iload_n 0, 1) := by decide +kernel
theorem dX5_isWithin_6 : decode cX5_isWithin 6 = .ok (.iload_n 2, 1) := by decide +kernel
theorem dX5_isWithin_7 : decode cX5_isWithin 7 = .ok (.if_icmp .gt 7, 3) := by decide +kernel
theorem dX5_isWithin_10 : decode cX5_isWithin 10 = .ok (.iconst 1, 1) := by decide +kernel
theorem dX5_isWithin_11 : decode cX5_isWithin 11 = .ok (.goto 4, 3) := by decide +kernel
theorem dX5_isWithin_14 : decode cX5_isWithin 14 = .ok (.iconst 0, 1) := by decide +kernel
theorem dX5_isWithin_15 : decode cX5_isWithin 15 = .ok (.ireturn, 1) := by decide +kernel
theorem dX5_isAngle_0 : decode cX5_isAngle 0 = .ok (.iload_n 0, 1) := by decide +kernel
theorem dX5_isAngle_1 : decode cX5_isAngle 1 = .ok (.iconst 0, 1) := by decide +kernel
theorem dX5_isAngle_2 : decode cX5_isAngle 2 = .ok (.bipush 11, 2) := by decide +kernel
theorem dX5_isAngle_4 : decode cX5_isAngle 4 = .ok (.invokestatic 44, 3) := by decide +kernel
theorem dX5_isAngle_7 : decode cX5_isAngle 7 = .ok (.ireturn, 1) := by decide +kernel
theorem dX5_isKind_0 : decode cX5_isKind 0 = .ok (.iload_n 0, 1) := by decide +kernel
theorem dX5_isKind_1 : decode cX5_isKind 1 = .ok (.iconst 0, 1) := by decide +kernel
theorem dX5_isKind_2 : decode cX5_isKind 2 = .ok (.iconst 3, 1) := by decide +kernel
theorem dX5_isKind_3 : decode cX5_isKind 3 = .ok (.invokestatic 44, 3) := by decide +kernel
theorem dX5_isKind_6 : decode cX5_isKind 6 = .ok (.ireturn, 1) := by decide +kernel
theorem dX5_isPlace_0 : decode cX5_isPlace 0 = .ok (.iload_n 0, 1) := by decide +kernel
theorem dX5_isPlace_1 : decode cX5_isPlace 1 = .ok (.iconst 0, 1) := by decide +kernel
theorem dX5_isPlace_2 : decode cX5_isPlace 2 = .ok (.iconst 3, 1) := by decide +kernel
theorem dX5_isPlace_3 : decode cX5_isPlace 3 = .ok (.invokestatic 44, 3) := by decide +kernel
theorem dX5_isPlace_6 : decode cX5_isPlace 6 = .ok (.ireturn, 1) := by decide +kernel
theorem dX5_isSheet_0 : decode cX5_isSheet 0 = .ok (.iload_n 0, 1) := by decide +kernel
theorem dX5_isSheet_1 : decode cX5_isSheet 1 = .ok (.iconst 0, 1) := by decide +kernel
theorem dX5_isSheet_2 : decode cX5_isSheet 2 = .ok (.iconst 3, 1) := by decide +kernel
theorem dX5_isSheet_3 : decode cX5_isSheet 3 = .ok (.invokestatic 44, 3) := by decide +kernel
theorem dX5_isSheet_6 : decode cX5_isSheet 6 = .ok (.ireturn, 1) := by decide +kernel
theorem dX5_isLane_0 : decode cX5_isLane 0 = .ok (.iload_n 0, 1) := by decide +kernel
theorem dX5_isLane_1 : decode cX5_isLane 1 = .ok (.iconst 0, 1) := by decide +kernel
theorem dX5_isLane_2 : decode cX5_isLane 2 = .ok (.iconst 2, 1) := by decide +kernel
theorem dX5_isLane_3 : decode cX5_isLane 3 = .ok (.invokestatic 44, 3) := by decide +kernel
theorem dX5_isLane_6 : decode cX5_isLane 6 = .ok (.ireturn, 1) := by decide +kernel
theorem dX5_isCam_0 : decode cX5_isCam 0 = .ok (.iload_n 1, 1) := by decide +kernel
theorem dX5_isCam_1 : decode cX5_isCam 1 = .ok (.iconst 0, 1) := by decide +kernel
theorem dX5_isCam_2 : decode cX5_isCam 2 = .ok (.aload_n 0, 1) := by decide +kernel
theorem dX5_isCam_3 : decode cX5_isCam 3 = .ok (.getfield 10, 3) := by decide +kernel
theorem dX5_isCam_6 : decode cX5_isCam 6 = .ok (.getfield 120, 3) := by decide +kernel
theorem dX5_isCam_9 : decode cX5_isCam 9 = .ok (.iconst 1, 1) := by decide +kernel
theorem dX5_isCam_10 : decode cX5_isCam 10 = .ok (.isub, 1) := by decide +kernel
theorem dX5_isCam_11 : decode cX5_isCam 11 = .ok (.invokestatic 44, 3) := by decide +kernel
theorem dX5_isCam_14 : decode cX5_isCam 14 = .ok (.ireturn, 1) := by decide +kernel
theorem dX5_isFigure_0 : decode cX5_isFigure 0 = .ok (.iload_n 1, 1) := by decide +kernel
theorem dX5_isFigure_1 : decode cX5_isFigure 1 = .ok (.iconst 0, 1) := by decide +kernel
theorem dX5_isFigure_2 : decode cX5_isFigure 2 = .ok (.aload_n 0, 1) := by decide +kernel
theorem dX5_isFigure_3 : decode cX5_isFigure 3 = .ok (.getfield 10, 3) := by decide +kernel
theorem dX5_isFigure_6 : decode cX5_isFigure 6 = .ok (.getfield 123, 3) := by decide +kernel
theorem dX5_isFigure_9 : decode cX5_isFigure 9 = .ok (.iconst 1, 1) := by decide +kernel
theorem dX5_isFigure_10 : decode cX5_isFigure 10 = .ok (.isub, 1) := by decide +kernel
theorem dX5_isFigure_11 : decode cX5_isFigure 11 = .ok (.invokestatic 44, 3) := by decide +kernel
theorem dX5_isFigure_14 : decode cX5_isFigure 14 = .ok (.ireturn, 1) := by decide +kernel
theorem dX5_areBytesOfTape_0 : decode cX5_areBytesOfTape 0 = .ok (.iconst 0, 1) := by decide +kernel
theorem dX5_areBytesOfTape_1 : decode cX5_areBytesOfTape 1 = .ok (.istore_n 3, 1) := by decide +kernel
theorem dX5_areBytesOfTape_2 : decode cX5_areBytesOfTape 2 = .ok (.iload_n 3, 1) := by decide +kernel
theorem dX5_areBytesOfTape_3 : decode cX5_areBytesOfTape 3 = .ok (.iload_n 2, 1) := by decide +kernel
theorem dX5_areBytesOfTape_4 : decode cX5_areBytesOfTape 4 = .ok (.if_icmp .ge 26, 3) := by decide +kernel
theorem dX5_areBytesOfTape_7 : decode cX5_areBytesOfTape 7 = .ok (.lload_n 0, 1) := by decide +kernel
theorem dX5_areBytesOfTape_8 : decode cX5_areBytesOfTape 8 = .ok (.iload_n 3, 1) := by decide +kernel
theorem dX5_areBytesOfTape_9 : decode cX5_areBytesOfTape 9 = .ok (.invokestatic 250, 3) := by decide +kernel
theorem dX5_areBytesOfTape_12 : decode cX5_areBytesOfTape 12 = .ok (.bipush 32, 2) := by decide +kernel
theorem dX5_areBytesOfTape_14 : decode cX5_areBytesOfTape 14 = .ok (.bipush 126, 2) := by decide +kernel
theorem dX5_areBytesOfTape_16 : decode cX5_areBytesOfTape 16 = .ok (.invokestatic 44, 3) := by decide +kernel
theorem dX5_areBytesOfTape_19 : decode cX5_areBytesOfTape 19 = .ok (.ifCond .ne 5, 3) := by decide +kernel
theorem dX5_areBytesOfTape_22 : decode cX5_areBytesOfTape 22 = .ok (.iconst 0, 1) := by decide +kernel
theorem dX5_areBytesOfTape_23 : decode cX5_areBytesOfTape 23 = .ok (.ireturn, 1) := by decide +kernel
theorem dX5_areBytesOfTape_24 : decode cX5_areBytesOfTape 24 = .ok (.iinc 3 1, 3) := by decide +kernel
theorem dX5_areBytesOfTape_27 : decode cX5_areBytesOfTape 27 = .ok (.goto (-25), 3) := by decide +kernel
theorem dX5_areBytesOfTape_30 : decode cX5_areBytesOfTape 30 = .ok (.iconst 1, 1) := by decide +kernel
theorem dX5_areBytesOfTape_31 : decode cX5_areBytesOfTape 31 = .ok (.ireturn, 1) := by decide +kernel
theorem dX5_refusalOf_0 : decode cX5_refusalOf 0 = .ok (.iload_n 1, 1) := by decide +kernel
theorem dX5_refusalOf_1 : decode cX5_refusalOf 1 = .ok (.invokestatic 216, 3) := by decide +kernel
theorem dX5_refusalOf_4 : decode cX5_refusalOf 4 = .ok (.ifCond .eq 10, 3) := by decide +kernel
theorem dX5_refusalOf_7 : decode cX5_refusalOf 7 = .ok (.iload_n 2, 1) := by decide +kernel
theorem dX5_refusalOf_8 : decode cX5_refusalOf 8 = .ok (.invokestatic 219, 3) := by decide +kernel
theorem dX5_refusalOf_11 : decode cX5_refusalOf 11 = .ok (.ifCond .ne 5, 3) := by decide +kernel
theorem dX5_refusalOf_14 : decode cX5_refusalOf 14 = .ok (.iconst (-1), 1) := by decide +kernel
theorem dX5_refusalOf_15 : decode cX5_refusalOf 15 = .ok (.ireturn, 1) := by decide +kernel
theorem dX5_refusalOf_16 : decode cX5_refusalOf 16 = .ok (.aload_n 0, 1) := by decide +kernel
theorem dX5_refusalOf_17 : decode cX5_refusalOf 17 = .ok (.getfield 28, 3) := by decide +kernel
theorem dX5_refusalOf_20 : decode cX5_refusalOf 20 = .ok (.iload_n 1, 1) := by decide +kernel
theorem dX5_refusalOf_21 : decode cX5_refusalOf 21 = .ok (.aaload, 1) := by decide +kernel
theorem dX5_refusalOf_22 : decode cX5_refusalOf 22 = .ok (.invokevirtual 226, 3) := by decide +kernel
theorem dX5_refusalOf_25 : decode cX5_refusalOf 25 = .ok (.ifCond .eq 6, 3) := by decide +kernel
theorem dX5_refusalOf_28 : decode cX5_refusalOf 28 = .ok (.bipush (-11), 2) := by decide +kernel
theorem dX5_refusalOf_30 : decode cX5_refusalOf 30 = .ok (.ireturn, 1) := by decide +kernel
theorem dX5_refusalOf_31 : decode cX5_refusalOf 31 = .ok (.aload_n 0, 1) := by decide +kernel
theorem dX5_refusalOf_32 : decode cX5_refusalOf 32 = .ok (.getfield 28, 3) := by decide +kernel
theorem dX5_refusalOf_35 : decode cX5_refusalOf 35 = .ok (.iload_n 1, 1) := by decide +kernel
theorem dX5_refusalOf_36 : decode cX5_refusalOf 36 = .ok (.aaload, 1) := by decide +kernel
theorem dX5_refusalOf_37 : decode cX5_refusalOf 37 = .ok (.getfield 233, 3) := by decide +kernel
theorem dX5_refusalOf_40 : decode cX5_refusalOf 40 = .ok (.iload_n 2, 1) := by decide +kernel
theorem dX5_refusalOf_41 : decode cX5_refusalOf 41 = .ok (.if_icmp .eq 6, 3) := by decide +kernel
theorem dX5_refusalOf_44 : decode cX5_refusalOf 44 = .ok (.bipush (-12), 2) := by decide +kernel
theorem dX5_refusalOf_46 : decode cX5_refusalOf 46 = .ok (.ireturn, 1) := by decide +kernel
theorem dX5_refusalOf_47 : decode cX5_refusalOf 47 = .ok (.aload_n 0, 1) := by decide +kernel
theorem dX5_refusalOf_48 : decode cX5_refusalOf 48 = .ok (.getfield 28, 3) := by decide +kernel
theorem dX5_refusalOf_51 : decode cX5_refusalOf 51 = .ok (.iload_n 1, 1) := by decide +kernel
theorem dX5_refusalOf_52 : decode cX5_refusalOf 52 = .ok (.aaload, 1) := by decide +kernel
theorem dX5_refusalOf_53 : decode cX5_refusalOf 53 = .ok (.iload_n 3, 1) := by decide +kernel
theorem dX5_refusalOf_54 : decode cX5_refusalOf 54 = .ok (.iload 4, 2) := by decide +kernel
theorem dX5_refusalOf_56 : decode cX5_refusalOf 56 = .ok (.invokevirtual 236, 3) := by decide +kernel
theorem dX5_refusalOf_59 : decode cX5_refusalOf 59 = .ok (.ifCond .eq 7, 3) := by decide +kernel
theorem dX5_refusalOf_62 : decode cX5_refusalOf 62 = .ok (.iconst 0, 1) := by decide +kernel
theorem dX5_refusalOf_63 : decode cX5_refusalOf 63 = .ok (.goto 5, 3) := by decide +kernel
theorem dX5_refusalOf_66 : decode cX5_refusalOf 66 = .ok (.bipush (-13), 2) := by decide +kernel
theorem dX5_refusalOf_68 : decode cX5_refusalOf 68 = .ok (.ireturn, 1) := by decide +kernel
theorem dX5_byteOf_0 : decode cX5_byteOf 0 = .ok (.lload_n 0, 1) := by decide +kernel
theorem dX5_byteOf_1 : decode cX5_byteOf 1 = .ok (.bipush 8, 2) := by decide +kernel
theorem dX5_byteOf_3 : decode cX5_byteOf 3 = .ok (.iload_n 2, 1) := by decide +kernel
theorem dX5_byteOf_4 : decode cX5_byteOf 4 = .ok (.imul, 1) := by decide +kernel
theorem dX5_byteOf_5 : decode cX5_byteOf 5 = .ok (.lushr, 1) := by decide +kernel
theorem dX5_byteOf_6 : decode cX5_byteOf 6 = .ok (.l2i, 1) := by decide +kernel
theorem dX5_byteOf_7 : decode cX5_byteOf 7 = .ok (.sipush 255, 3) := by decide +kernel
theorem dX5_byteOf_10 : decode cX5_byteOf 10 = .ok (.iand, 1) := by decide +kernel
theorem dX5_byteOf_11 : decode cX5_byteOf 11 = .ok (.ireturn, 1) := by decide +kernel
theorem dX5_angleOf_0 : decode cX5_angleOf 0 = .ok (.iload_n 0, 1) := by decide +kernel
theorem dX5_angleOf_1 : decode cX5_angleOf 1 = .ok (.bipush 12, 2) := by decide +kernel
theorem dX5_angleOf_3 : decode cX5_angleOf 3 = .ok (.invokestatic 253, 3) := by decide +kernel
theorem dX5_angleOf_6 : decode cX5_angleOf 6 = .ok (.ireturn, 1) := by decide +kernel
theorem dX5_movedOn_0 : decode cX5_movedOn 0 = .ok (.iload_n 1, 1) := by decide +kernel
theorem dX5_movedOn_1 : decode cX5_movedOn 1 = .ok (.invokestatic 259, 3) := by decide +kernel
theorem dX5_movedOn_4 : decode cX5_movedOn 4 = .ok (.istore_n 2, 1) := by decide +kernel
theorem dX5_movedOn_5 : decode cX5_movedOn 5 = .ok (.iload_n 0, 1) := by decide +kernel
theorem dX5_movedOn_6 : decode cX5_movedOn 6 = .ok (.iload_n 2, 1) := by decide +kernel
theorem dX5_movedOn_7 : decode cX5_movedOn 7 = .ok (.ishl, 1) := by decide +kernel
theorem dX5_movedOn_8 : decode cX5_movedOn 8 = .ok (.iload_n 0, 1) := by decide +kernel
theorem dX5_movedOn_9 : decode cX5_movedOn 9 = .ok (.bipush 12, 2) := by decide +kernel
theorem dX5_movedOn_11 : decode cX5_movedOn 11 = .ok (.iload_n 2, 1) := by decide +kernel
theorem dX5_movedOn_12 : decode cX5_movedOn 12 = .ok (.isub, 1) := by decide +kernel
theorem dX5_movedOn_13 : decode cX5_movedOn 13 = .ok (.iushr, 1) := by decide +kernel
theorem dX5_movedOn_14 : decode cX5_movedOn 14 = .ok (.ior, 1) := by decide +kernel
theorem dX5_movedOn_15 : decode cX5_movedOn 15 = .ok (.sipush 4095, 3) := by decide +kernel
theorem dX5_movedOn_18 : decode cX5_movedOn 18 = .ok (.iand, 1) := by decide +kernel
theorem dX5_movedOn_19 : decode cX5_movedOn 19 = .ok (.ireturn, 1) := by decide +kernel
theorem dX5_takeTape_0 : decode cX5_takeTape 0 = .ok (.aload_n 0, 1) := by decide +kernel
theorem dX5_takeTape_1 : decode cX5_takeTape 1 = .ok (.getfield 22, 3) := by decide +kernel
theorem dX5_takeTape_4 : decode cX5_takeTape 4 = .ok (.iload_n 1, 1) := by decide +kernel
theorem dX5_takeTape_5 : decode cX5_takeTape 5 = .ok (.invokevirtual 262, 3) := by decide +kernel
theorem dX5_takeTape_8 : decode cX5_takeTape 8 = .ok (.istore_n 2, 1) := by decide +kernel
theorem dX5_takeTape_9 : decode cX5_takeTape 9 = .ok (.aload_n 0, 1) := by decide +kernel
theorem dX5_takeTape_10 : decode cX5_takeTape 10 = .ok (.getfield 22, 3) := by decide +kernel
theorem dX5_takeTape_13 : decode cX5_takeTape 13 = .ok (.invokevirtual 265, 3) := by decide +kernel
theorem dX5_takeTape_16 : decode cX5_takeTape 16 = .ok (.iload_n 2, 1) := by decide +kernel
theorem dX5_takeTape_17 : decode cX5_takeTape 17 = .ok (.ireturn, 1) := by decide +kernel
theorem dX5_stepsIn_0 : decode cX5_stepsIn 0 = .ok (.iconst 0, 1) := by decide +kernel
theorem dX5_stepsIn_1 : decode cX5_stepsIn 1 = .ok (.istore_n 1, 1) := by decide +kernel
theorem dX5_stepsIn_2 : decode cX5_stepsIn 2 = .ok (.iconst 0, 1) := by decide +kernel
theorem dX5_stepsIn_3 : decode cX5_stepsIn 3 = .ok (.istore_n 2, 1) := by decide +kernel
theorem dX5_stepsIn_4 : decode cX5_stepsIn 4 = .ok (.iload_n 2, 1) := by decide +kernel
theorem dX5_stepsIn_5 : decode cX5_stepsIn 5 = .ok (.bipush 12, 2) := by decide +kernel
theorem dX5_stepsIn_7 : decode cX5_stepsIn 7 = .ok (.if_icmp .ge 29, 3) := by decide +kernel
theorem dX5_stepsIn_10 : decode cX5_stepsIn 10 = .ok (.iload_n 1, 1) := by decide +kernel
theorem dX5_stepsIn_11 : decode cX5_stepsIn 11 = .ok (.iconst 1, 1) := by decide +kernel
theorem dX5_stepsIn_12 : decode cX5_stepsIn 12 = .ok (.aload_n 0, 1) := by decide +kernel
theorem dX5_stepsIn_13 : decode cX5_stepsIn 13 = .ok (.iload_n 2, 1) := by decide +kernel
theorem dX5_stepsIn_14 : decode cX5_stepsIn 14 = .ok (.iaload, 1) := by decide +kernel
theorem dX5_stepsIn_15 : decode cX5_stepsIn 15 = .ok (.aload_n 0, 1) := by decide +kernel
theorem dX5_stepsIn_16 : decode cX5_stepsIn 16 = .ok (.iload_n 2, 1) := by decide +kernel
theorem dX5_stepsIn_17 : decode cX5_stepsIn 17 = .ok (.iconst 1, 1) := by decide +kernel
theorem dX5_stepsIn_18 : decode cX5_stepsIn 18 = .ok (.iadd, 1) := by decide +kernel
theorem dX5_stepsIn_19 : decode cX5_stepsIn 19 = .ok (.invokestatic 259, 3) := by decide +kernel
theorem dX5_stepsIn_22 : decode cX5_stepsIn 22 = .ok (.iaload, 1) := by decide +kernel
theorem dX5_stepsIn_23 : decode cX5_stepsIn 23 = .ok (.isub, 1) := by decide +kernel
theorem dX5_stepsIn_24 : decode cX5_stepsIn 24 = .ok (.invokestatic 268, 3) := by decide +kernel
theorem dX5_stepsIn_27 : decode cX5_stepsIn 27 = .ok (.ishl, 1) := by decide +kernel
theorem dX5_stepsIn_28 : decode cX5_stepsIn 28 = .ok (.ior, 1) := by decide +kernel
theorem dX5_stepsIn_29 : decode cX5_stepsIn 29 = .ok (.istore_n 1, 1) := by decide +kernel
theorem dX5_stepsIn_30 : decode cX5_stepsIn 30 = .ok (.iinc 2 1, 3) := by decide +kernel
theorem dX5_stepsIn_33 : decode cX5_stepsIn 33 = .ok (.goto (-29), 3) := by decide +kernel
theorem dX5_stepsIn_36 : decode cX5_stepsIn 36 = .ok (.iload_n 1, 1) := by decide +kernel
theorem dX5_stepsIn_37 : decode cX5_stepsIn 37 = .ok (.ireturn, 1) := by decide +kernel
theorem dX5_lessenInto_0 : decode cX5_lessenInto 0 = .ok (.iconst 0, 1) := by decide +kernel
theorem dX5_lessenInto_1 : decode cX5_lessenInto 1 = .ok (.istore_n 3, 1) := by decide +kernel
theorem dX5_lessenInto_2 : decode cX5_lessenInto 2 = .ok (.iload_n 3, 1) := by decide +kernel
theorem dX5_lessenInto_3 : decode cX5_lessenInto 3 = .ok (.bipush 12, 2) := by decide +kernel
theorem dX5_lessenInto_5 : decode cX5_lessenInto 5 = .ok (.if_icmp .ge 21, 3) := by decide +kernel
theorem dX5_lessenInto_8 : decode cX5_lessenInto 8 = .ok (.aload_n 0, 1) := by decide +kernel
theorem dX5_lessenInto_9 : decode cX5_lessenInto 9 = .ok (.iload_n 3, 1) := by decide +kernel
theorem dX5_lessenInto_10 : decode cX5_lessenInto 10 = .ok (.aload_n 1, 1) := by decide +kernel
theorem dX5_lessenInto_11 : decode cX5_lessenInto 11 = .ok (.iload_n 3, 1) := by decide +kernel
theorem dX5_lessenInto_12 : decode cX5_lessenInto 12 = .ok (.iaload, 1) := by decide +kernel
theorem dX5_lessenInto_13 : decode cX5_lessenInto 13 = .ok (.iload_n 2, 1) := by decide +kernel
theorem dX5_lessenInto_14 : decode cX5_lessenInto 14 = .ok (.isub, 1) := by decide +kernel
theorem dX5_lessenInto_15 : decode cX5_lessenInto 15 = .ok (.iconst 0, 1) := by decide +kernel
theorem dX5_lessenInto_16 : decode cX5_lessenInto 16 = .ok (.invokestatic 271, 3) := by decide +kernel
theorem dX5_lessenInto_19 : decode cX5_lessenInto 19 = .ok (.iastore, 1) := by decide +kernel
theorem dX5_lessenInto_20 : decode cX5_lessenInto 20 = .ok (.iinc 3 1, 3) := by decide +kernel
theorem dX5_lessenInto_23 : decode cX5_lessenInto 23 = .ok (.goto (-21), 3) := by decide +kernel
theorem dX5_lessenInto_26 : decode cX5_lessenInto 26 = .ok (.return_, 1) := by decide +kernel
theorem dX5_wornBy_0 : decode cX5_wornBy 0 = .ok (.iconst 0, 1) := by decide +kernel
theorem dX5_wornBy_1 : decode cX5_wornBy 1 = .ok (.istore_n 2, 1) := by decide +kernel
theorem dX5_wornBy_2 : decode cX5_wornBy 2 = .ok (.iconst 0, 1) := by decide +kernel
theorem dX5_wornBy_3 : decode cX5_wornBy 3 = .ok (.istore_n 3, 1) := by decide +kernel
theorem dX5_wornBy_4 : decode cX5_wornBy 4 = .ok (.iload_n 3, 1) := by decide +kernel
theorem dX5_wornBy_5 : decode cX5_wornBy 5 = .ok (.iload_n 1, 1) := by decide +kernel
theorem dX5_wornBy_6 : decode cX5_wornBy 6 = .ok (.if_icmp .ge 16, 3) := by decide +kernel
theorem dX5_wornBy_9 : decode cX5_wornBy 9 = .ok (.iload_n 2, 1) := by decide +kernel
theorem dX5_wornBy_10 : decode cX5_wornBy 10 = .ok (.aload_n 0, 1) := by decide +kernel
theorem dX5_wornBy_11 : decode cX5_wornBy 11 = .ok (.invokestatic 274, 3) := by decide +kernel
theorem dX5_wornBy_14 : decode cX5_wornBy 14 = .ok (.ior, 1) := by decide +kernel
theorem dX5_wornBy_15 : decode cX5_wornBy 15 = .ok (.istore_n 2, 1) := by decide +kernel
theorem dX5_wornBy_16 : decode cX5_wornBy 16 = .ok (.iinc 3 1, 3) := by decide +kernel
theorem dX5_wornBy_19 : decode cX5_wornBy 19 = .ok (.goto (-15), 3) := by decide +kernel
theorem dX5_wornBy_22 : decode cX5_wornBy 22 = .ok (.iload_n 2, 1) := by decide +kernel
theorem dX5_wornBy_23 : decode cX5_wornBy 23 = .ok (.invokestatic 277, 3) := by decide +kernel
theorem dX5_wornBy_26 : decode cX5_wornBy 26 = .ok (.ireturn, 1) := by decide +kernel
theorem dX5_wornByOneTurn_0 : decode cX5_wornByOneTurn 0 = .ok (.iconst 0, 1) := by decide +kernel
theorem dX5_wornByOneTurn_1 : decode cX5_wornByOneTurn 1 = .ok (.istore_n 1, 1) := by decide +kernel
theorem dX5_wornByOneTurn_2 : decode cX5_wornByOneTurn 2 = .ok (.iconst 0, 1) := by decide +kernel
theorem dX5_wornByOneTurn_3 : decode cX5_wornByOneTurn 3 = .ok (.istore_n 2, 1) := by decide +kernel
theorem dX5_wornByOneTurn_4 : decode cX5_wornByOneTurn 4 = .ok (.iload_n 2, 1) := by decide +kernel
theorem dX5_wornByOneTurn_5 : decode cX5_wornByOneTurn 5 = .ok (.bipush 12, 2) := by decide +kernel
theorem dX5_wornByOneTurn_7 : decode cX5_wornByOneTurn 7 = .ok (.if_icmp .ge 31, 3) := by decide +kernel
theorem dX5_wornByOneTurn_10 : decode cX5_wornByOneTurn 10 = .ok (.aload_n 0, 1) := by decide +kernel
theorem dX5_wornByOneTurn_11 : decode cX5_wornByOneTurn 11 = .ok (.iload_n 2, 1) := by decide +kernel
theorem dX5_wornByOneTurn_12 : decode cX5_wornByOneTurn 12 = .ok (.iaload, 1) := by decide +kernel
theorem dX5_wornByOneTurn_13 : decode cX5_wornByOneTurn 13 = .ok (.aload_n 0, 1) := by decide +kernel
theorem dX5_wornByOneTurn_14 : decode cX5_wornByOneTurn 14 = .ok (.iload_n 2, 1) := by decide +kernel
theorem dX5_wornByOneTurn_15 : decode cX5_wornByOneTurn 15 = .ok (.iconst 1, 1) := by decide +kernel
theorem dX5_wornByOneTurn_16 : decode cX5_wornByOneTurn 16 = .ok (.iadd, 1) := by decide +kernel
theorem dX5_wornByOneTurn_17 : decode cX5_wornByOneTurn 17 = .ok (.invokestatic 259, 3) := by decide +kernel
theorem dX5_wornByOneTurn_20 : decode cX5_wornByOneTurn 20 = .ok (.iaload, 1) := by decide +kernel
theorem dX5_wornByOneTurn_21 : decode cX5_wornByOneTurn 21 = .ok (.isub, 1) := by decide +kernel
theorem dX5_wornByOneTurn_22 : decode cX5_wornByOneTurn 22 = .ok (.iconst 2, 1) := by decide +kernel
theorem dX5_wornByOneTurn_23 : decode cX5_wornByOneTurn 23 = .ok (.if_icmp .le 9, 3) := by decide +kernel
theorem dX5_wornByOneTurn_26 : decode cX5_wornByOneTurn 26 = .ok (.iload_n 1, 1) := by decide +kernel
theorem dX5_wornByOneTurn_27 : decode cX5_wornByOneTurn 27 = .ok (.iconst 1, 1) := by decide +kernel
theorem dX5_wornByOneTurn_28 : decode cX5_wornByOneTurn 28 = .ok (.iload_n 2, 1) := by decide +kernel
theorem dX5_wornByOneTurn_29 : decode cX5_wornByOneTurn 29 = .ok (.ishl, 1) := by decide +kernel
theorem dX5_wornByOneTurn_30 : decode cX5_wornByOneTurn 30 = .ok (.ior, 1) := by decide +kernel
theorem dX5_wornByOneTurn_31 : decode cX5_wornByOneTurn 31 = .ok (.istore_n 1, 1) := by decide +kernel
theorem dX5_wornByOneTurn_32 : decode cX5_wornByOneTurn 32 = .ok (.iinc 2 1, 3) := by decide +kernel
theorem dX5_wornByOneTurn_35 : decode cX5_wornByOneTurn 35 = .ok (.goto (-31), 3) := by decide +kernel
theorem dX5_wornByOneTurn_38 : decode cX5_wornByOneTurn 38 = .ok (.iconst 0, 1) := by decide +kernel
theorem dX5_wornByOneTurn_39 : decode cX5_wornByOneTurn 39 = .ok (.istore_n 2, 1) := by decide +kernel
theorem dX5_wornByOneTurn_40 : decode cX5_wornByOneTurn 40 = .ok (.iload_n 2, 1) := by decide +kernel
theorem dX5_wornByOneTurn_41 : decode cX5_wornByOneTurn 41 = .ok (.bipush 12, 2) := by decide +kernel
theorem dX5_wornByOneTurn_43 : decode cX5_wornByOneTurn 43 = .ok (.if_icmp .ge 20, 3) := by decide +kernel
theorem dX5_wornByOneTurn_46 : decode cX5_wornByOneTurn 46 = .ok (.aload_n 0, 1) := by decide +kernel
theorem dX5_wornByOneTurn_47 : decode cX5_wornByOneTurn 47 = .ok (.iload_n 2, 1) := by decide +kernel
theorem dX5_wornByOneTurn_48 : decode cX5_wornByOneTurn 48 = .ok (.dup2, 1) := by decide +kernel
theorem dX5_wornByOneTurn_49 : decode cX5_wornByOneTurn 49 = .ok (.iaload, 1) := by decide +kernel
theorem dX5_wornByOneTurn_50 : decode cX5_wornByOneTurn 50 = .ok (.iload_n 1, 1) := by decide +kernel
theorem dX5_wornByOneTurn_51 : decode cX5_wornByOneTurn 51 = .ok (.iload_n 2, 1) := by decide +kernel
theorem dX5_wornByOneTurn_52 : decode cX5_wornByOneTurn 52 = .ok (.ishr, 1) := by decide +kernel
theorem dX5_wornByOneTurn_53 : decode cX5_wornByOneTurn 53 = .ok (.iconst 1, 1) := by decide +kernel
theorem dX5_wornByOneTurn_54 : decode cX5_wornByOneTurn 54 = .ok (.iand, 1) := by decide +kernel
theorem dX5_wornByOneTurn_55 : decode cX5_wornByOneTurn 55 = .ok (.isub, 1) := by decide +kernel
theorem dX5_wornByOneTurn_56 : decode cX5_wornByOneTurn 56 = .ok (.iastore, 1) := by decide +kernel
theorem dX5_wornByOneTurn_57 : decode cX5_wornByOneTurn 57 = .ok (.iinc 2 1, 3) := by decide +kernel
theorem dX5_wornByOneTurn_60 : decode cX5_wornByOneTurn 60 = .ok (.goto (-20), 3) := by decide +kernel
theorem dX5_wornByOneTurn_63 : decode cX5_wornByOneTurn 63 = .ok (.iload_n 1, 1) := by decide +kernel
theorem dX5_wornByOneTurn_64 : decode cX5_wornByOneTurn 64 = .ok (.ireturn, 1) := by decide +kernel
theorem dX5_isSo_0 : decode cX5_isSo 0 = .ok (.iconst 0, 1) := by decide +kernel
theorem dX5_isSo_1 : decode cX5_isSo 1 = .ok (.istore 4, 2) := by decide +kernel
theorem dX5_isSo_3 : decode cX5_isSo 3 = .ok (.iload 4, 2) := by decide +kernel
theorem dX5_isSo_5 : decode cX5_isSo 5 = .ok (.aload_n 0, 1) := by decide +kernel
theorem dX5_isSo_6 : decode cX5_isSo 6 = .ok (.getfield 10, 3) := by decide +kernel
theorem dX5_isSo_9 : decode cX5_isSo 9 = .ok (.getfield 123, 3) := by decide +kernel
theorem dX5_isSo_12 : decode cX5_isSo 12 = .ok (.if_icmp .ge 79, 3) := by decide +kernel
theorem dX5_isSo_15 : decode cX5_isSo 15 = .ok (.aload_n 0, 1) := by decide +kernel
theorem dX5_isSo_16 : decode cX5_isSo 16 = .ok (.getfield 10, 3) := by decide +kernel
theorem dX5_isSo_19 : decode cX5_isSo 19 = .ok (.getfield 91, 3) := by decide +kernel
theorem dX5_isSo_22 : decode cX5_isSo 22 = .ok (.iload 4, 2) := by decide +kernel
theorem dX5_isSo_24 : decode cX5_isSo 24 = .ok (.aaload, 1) := by decide +kernel
theorem dX5_isSo_25 : decode cX5_isSo 25 = .ok (.astore 5, 2) := by decide +kernel
theorem dX5_isSo_27 : decode cX5_isSo 27 = .ok (.aload 5, 2) := by decide +kernel
theorem dX5_isSo_29 : decode cX5_isSo 29 = .ok (.getfield 136, 3) := by decide +kernel
theorem dX5_isSo_32 : decode cX5_isSo 32 = .ok (.iload_n 3, 1) := by decide +kernel
theorem dX5_isSo_33 : decode cX5_isSo 33 = .ok (.if_icmp .ne 10, 3) := by decide +kernel
theorem dX5_isSo_36 : decode cX5_isSo 36 = .ok (.aload_n 0, 1) := by decide +kernel
theorem dX5_isSo_37 : decode cX5_isSo 37 = .ok (.getfield 40, 3) := by decide +kernel
theorem dX5_isSo_40 : decode cX5_isSo 40 = .ok (.goto 16, 3) := by decide +kernel
theorem dX5_isSo_43 : decode cX5_isSo 43 = .ok (.aload_n 0, 1) := by decide +kernel
theorem dX5_isSo_44 : decode cX5_isSo 44 = .ok (.getfield 10, 3) := by decide +kernel
theorem dX5_isSo_47 : decode cX5_isSo 47 = .ok (.getfield 74, 3) := by decide +kernel
theorem dX5_isSo_50 : decode cX5_isSo 50 = .ok (.aload 5, 2) := by decide +kernel
theorem dX5_isSo_52 : decode cX5_isSo 52 = .ok (.getfield 136, 3) := by decide +kernel
theorem dX5_isSo_55 : decode cX5_isSo 55 = .ok (.aaload, 1) := by decide +kernel
theorem dX5_isSo_56 : decode cX5_isSo 56 = .ok (.astore 6, 2) := by decide +kernel
theorem dX5_isSo_58 : decode cX5_isSo 58 = .ok (.aload_n 1, 1) := by decide +kernel
theorem dX5_isSo_59 : decode cX5_isSo 59 = .ok (.getfield 240, 3) := by decide +kernel
theorem dX5_isSo_62 : decode cX5_isSo 62 = .ok (.iload_n 2, 1) := by decide +kernel
theorem dX5_isSo_63 : decode cX5_isSo 63 = .ok (.iload 4, 2) := by decide +kernel
theorem dX5_isSo_65 : decode cX5_isSo 65 = .ok (.iadd, 1) := by decide +kernel
theorem dX5_isSo_66 : decode cX5_isSo 66 = .ok (.laload, 1) := by decide +kernel
theorem dX5_isSo_67 : decode cX5_isSo 67 = .ok (.aload_n 0, 1) := by decide +kernel
theorem dX5_isSo_68 : decode cX5_isSo 68 = .ok (.getfield 10, 3) := by decide +kernel
theorem dX5_isSo_71 : decode cX5_isSo 71 = .ok (.aload 6, 2) := by decide +kernel
theorem dX5_isSo_73 : decode cX5_isSo 73 = .ok (.aload 5, 2) := by decide +kernel
theorem dX5_isSo_75 : decode cX5_isSo 75 = .ok (.invokevirtual 282, 3) := by decide +kernel
theorem dX5_isSo_78 : decode cX5_isSo 78 = .ok (.i2l, 1) := by decide +kernel
theorem dX5_isSo_79 : decode cX5_isSo 79 = .ok (.lcmp, 1) := by decide +kernel
theorem dX5_isSo_80 : decode cX5_isSo 80 = .ok (.ifCond .eq 5, 3) := by decide +kernel
theorem dX5_isSo_83 : decode cX5_isSo 83 = .ok (.iconst 0, 1) := by decide +kernel
theorem dX5_isSo_84 : decode cX5_isSo 84 = .ok (.ireturn, 1) := by decide +kernel
theorem dX5_isSo_85 : decode cX5_isSo 85 = .ok (.iinc 4 1, 3) := by decide +kernel
theorem dX5_isSo_88 : decode cX5_isSo 88 = .ok (.goto (-85), 3) := by decide +kernel
theorem dX5_isSo_91 : decode cX5_isSo 91 = .ok (.iconst 1, 1) := by decide +kernel
theorem dX5_isSo_92 : decode cX5_isSo 92 = .ok (.ireturn, 1) := by decide +kernel
theorem dX5_shareCams_0 : decode cX5_shareCams 0 = .ok (.aload_n 0, 1) := by decide +kernel
theorem dX5_shareCams_1 : decode cX5_shareCams 1 = .ok (.getfield 36, 3) := by decide +kernel
theorem dX5_shareCams_4 : decode cX5_shareCams 4 = .ok (.aload_n 0, 1) := by decide +kernel
theorem dX5_shareCams_5 : decode cX5_shareCams 5 = .ok (.getfield 10, 3) := by decide +kernel
theorem dX5_shareCams_8 : decode cX5_shareCams 8 = .ok (.getfield 91, 3) := by decide +kernel
theorem dX5_shareCams_11 : decode cX5_shareCams 11 = .ok (.aload_n 0, 1) := by decide +kernel
theorem dX5_shareCams_12 : decode cX5_shareCams 12 = .ok (.getfield 10, 3) := by decide +kernel
theorem dX5_shareCams_15 : decode cX5_shareCams 15 = .ok (.getfield 123, 3) := by decide +kernel
theorem dX5_shareCams_18 : decode cX5_shareCams 18 = .ok (.invokevirtual 286, 3) := by decide +kernel
theorem dX5_shareCams_21 : decode cX5_shareCams 21 = .ok (.iconst 0, 1) := by decide +kernel
theorem dX5_shareCams_22 : decode cX5_shareCams 22 = .ok (.istore_n 1, 1) := by decide +kernel
theorem dX5_shareCams_23 : decode cX5_shareCams 23 = .ok (.iload_n 1, 1) := by decide +kernel
theorem dX5_shareCams_24 : decode cX5_shareCams 24 = .ok (.aload_n 0, 1) := by decide +kernel
theorem dX5_shareCams_25 : decode cX5_shareCams 25 = .ok (.getfield 10, 3) := by decide +kernel
theorem dX5_shareCams_28 : decode cX5_shareCams 28 = .ok (.getfield 123, 3) := by decide +kernel
theorem dX5_shareCams_31 : decode cX5_shareCams 31 = .ok (.if_icmp .ge 31, 3) := by decide +kernel
theorem dX5_shareCams_34 : decode cX5_shareCams 34 = .ok (.aload_n 0, 1) := by decide +kernel
theorem dX5_shareCams_35 : decode cX5_shareCams 35 = .ok (.getfield 36, 3) := by decide +kernel
theorem dX5_shareCams_38 : decode cX5_shareCams 38 = .ok (.aload_n 0, 1) := by decide +kernel
theorem dX5_shareCams_39 : decode cX5_shareCams 39 = .ok (.getfield 10, 3) := by decide +kernel
theorem dX5_shareCams_42 : decode cX5_shareCams 42 = .ok (.getfield 123, 3) := by decide +kernel
theorem dX5_shareCams_45 : decode cX5_shareCams 45 = .ok (.iconst 0, 1) := by decide +kernel
theorem dX5_shareCams_46 : decode cX5_shareCams 46 = .ok (.iconst 0, 1) := by decide +kernel
theorem dX5_shareCams_47 : decode cX5_shareCams 47 = .ok (.iload_n 1, 1) := by decide +kernel
theorem dX5_shareCams_48 : decode cX5_shareCams 48 = .ok (.invokestatic 290, 3) := by decide +kernel
theorem dX5_shareCams_51 : decode cX5_shareCams 51 = .ok (.ifCond .eq 5, 3) := by decide +kernel
theorem dX5_shareCams_54 : decode cX5_shareCams 54 = .ok (.iload_n 1, 1) := by decide +kernel
theorem dX5_shareCams_55 : decode cX5_shareCams 55 = .ok (.ireturn, 1) := by decide +kernel
theorem dX5_shareCams_56 : decode cX5_shareCams 56 = .ok (.iinc 1 1, 3) := by decide +kernel
theorem dX5_shareCams_59 : decode cX5_shareCams 59 = .ok (.goto (-36), 3) := by decide +kernel
theorem dX5_shareCams_62 : decode cX5_shareCams 62 = .ok (.aload_n 0, 1) := by decide +kernel
theorem dX5_shareCams_63 : decode cX5_shareCams 63 = .ok (.getfield 36, 3) := by decide +kernel
theorem dX5_shareCams_66 : decode cX5_shareCams 66 = .ok (.aload_n 0, 1) := by decide +kernel
theorem dX5_shareCams_67 : decode cX5_shareCams 67 = .ok (.getfield 10, 3) := by decide +kernel
theorem dX5_shareCams_70 : decode cX5_shareCams 70 = .ok (.getfield 123, 3) := by decide +kernel
theorem dX5_shareCams_73 : decode cX5_shareCams 73 = .ok (.iconst 0, 1) := by decide +kernel
theorem dX5_shareCams_74 : decode cX5_shareCams 74 = .ok (.iconst 0, 1) := by decide +kernel
theorem dX5_shareCams_75 : decode cX5_shareCams 75 = .ok (.aload_n 0, 1) := by decide +kernel
theorem dX5_shareCams_76 : decode cX5_shareCams 76 = .ok (.getfield 10, 3) := by decide +kernel
theorem dX5_shareCams_79 : decode cX5_shareCams 79 = .ok (.getfield 123, 3) := by decide +kernel
theorem dX5_shareCams_82 : decode cX5_shareCams 82 = .ok (.invokestatic 290, 3) := by decide +kernel
theorem dX5_shareCams_85 : decode cX5_shareCams 85 = .ok (.pop, 1) := by decide +kernel
theorem dX5_shareCams_86 : decode cX5_shareCams 86 = .ok (.aload_n 0, 1) := by decide +kernel
theorem dX5_shareCams_87 : decode cX5_shareCams 87 = .ok (.getfield 10, 3) := by decide +kernel
theorem dX5_shareCams_90 : decode cX5_shareCams 90 = .ok (.getfield 123, 3) := by decide +kernel
theorem dX5_shareCams_93 : decode cX5_shareCams 93 = .ok (.ireturn, 1) := by decide +kernel
theorem dX5_isSeated_0 : decode cX5_isSeated 0 = .ok (.iload_n 2, 1) := by decide +kernel
theorem dX5_isSeated_1 : decode cX5_isSeated 1 = .ok (.iload_n 1, 1) := by decide +kernel
theorem dX5_isSeated_2 : decode cX5_isSeated 2 = .ok (.if_icmp .ge 8, 3) := by decide +kernel
theorem dX5_isSeated_5 : decode cX5_isSeated 5 = .ok (.iload_n 2, 1) := by decide +kernel
theorem dX5_isSeated_6 : decode cX5_isSeated 6 = .ok (.iconst 5, 1) := by decide +kernel
theorem dX5_isSeated_7 : decode cX5_isSeated 7 = .ok (.if_icmp .lt 5, 3) := by decide +kernel
theorem dX5_isSeated_10 : decode cX5_isSeated 10 = .ok (.iconst 1, 1) := by decide +kernel
theorem dX5_isSeated_11 : decode cX5_isSeated 11 = .ok (.ireturn, 1) := by decide +kernel
theorem dX5_isSeated_12 : decode cX5_isSeated 12 = .ok (.iconst 0, 1) := by decide +kernel
theorem dX5_isSeated_13 : decode cX5_isSeated 13 = .ok (.istore 5, 2) := by decide +kernel
theorem dX5_isSeated_15 : decode cX5_isSeated 15 = .ok (.iload 5, 2) := by decide +kernel
theorem dX5_isSeated_17 : decode cX5_isSeated 17 = .ok (.iload_n 3, 1) := by decide +kernel
theorem dX5_isSeated_18 : decode cX5_isSeated 18 = .ok (.if_icmp .gt 101, 3) := by decide +kernel
theorem dX5_isSeated_21 : decode cX5_isSeated 21 = .ok (.iload 5, 2) := by decide +kernel
theorem dX5_isSeated_23 : decode cX5_isSeated 23 = .ok (.iload 4, 2) := by decide +kernel
theorem dX5_isSeated_25 : decode cX5_isSeated 25 = .ok (.if_icmp .ge 94, 3) := by decide +kernel
theorem dX5_isSeated_28 : decode cX5_isSeated 28 = .ok (.iload 5, 2) := by decide +kernel
theorem dX5_isSeated_30 : decode cX5_isSeated 30 = .ok (.iload_n 3, 1) := by decide +kernel
theorem dX5_isSeated_31 : decode cX5_isSeated 31 = .ok (.if_icmp .ge 13, 3) := by decide +kernel
theorem dX5_isSeated_34 : decode cX5_isSeated 34 = .ok (.aload_n 0, 1) := by decide +kernel
theorem dX5_isSeated_35 : decode cX5_isSeated 35 = .ok (.iload 5, 2) := by decide +kernel
theorem dX5_isSeated_37 : decode cX5_isSeated 37 = .ok (.iload_n 2, 1) := by decide +kernel
theorem dX5_isSeated_38 : decode cX5_isSeated 38 = .ok (.invokevirtual 294, 3) := by decide +kernel
theorem dX5_isSeated_41 : decode cX5_isSeated 41 = .ok (.goto 4, 3) := by decide +kernel
theorem dX5_isSeated_44 : decode cX5_isSeated 44 = .ok (.iconst 1, 1) := by decide +kernel
theorem dX5_isSeated_45 : decode cX5_isSeated 45 = .ok (.istore 6, 2) := by decide +kernel
theorem dX5_isSeated_47 : decode cX5_isSeated 47 = .ok (.iconst 0, 1) := by decide +kernel
theorem dX5_isSeated_48 : decode cX5_isSeated 48 = .ok (.istore 7, 2) := by decide +kernel
theorem dX5_isSeated_50 : decode cX5_isSeated 50 = .ok (.iload 7, 2) := by decide +kernel
theorem dX5_isSeated_52 : decode cX5_isSeated 52 = .ok (.bipush 12, 2) := by decide +kernel
theorem dX5_isSeated_54 : decode cX5_isSeated 54 = .ok (.if_icmp .ge 59, 3) := by decide +kernel
theorem dX5_isSeated_57 : decode cX5_isSeated 57 = .ok (.iload 6, 2) := by decide +kernel
theorem dX5_isSeated_59 : decode cX5_isSeated 59 = .ok (.iload 7, 2) := by decide +kernel
theorem dX5_isSeated_61 : decode cX5_isSeated 61 = .ok (.ishr, 1) := by decide +kernel
theorem dX5_isSeated_62 : decode cX5_isSeated 62 = .ok (.iconst 1, 1) := by decide +kernel
theorem dX5_isSeated_63 : decode cX5_isSeated 63 = .ok (.iand, 1) := by decide +kernel
theorem dX5_isSeated_64 : decode cX5_isSeated 64 = .ok (.iconst 1, 1) := by decide +kernel
theorem dX5_isSeated_65 : decode cX5_isSeated 65 = .ok (.if_icmp .ne 42, 3) := by decide +kernel
theorem dX5_isSeated_68 : decode cX5_isSeated 68 = .ok (.aload_n 0, 1) := by decide +kernel
theorem dX5_isSeated_69 : decode cX5_isSeated 69 = .ok (.getfield 168, 3) := by decide +kernel
theorem dX5_isSeated_72 : decode cX5_isSeated 72 = .ok (.iload_n 2, 1) := by decide +kernel
theorem dX5_isSeated_73 : decode cX5_isSeated 73 = .ok (.iload 5, 2) := by decide +kernel
theorem dX5_isSeated_75 : decode cX5_isSeated 75 = .ok (.iastore, 1) := by decide +kernel
theorem dX5_isSeated_76 : decode cX5_isSeated 76 = .ok (.aload_n 0, 1) := by decide +kernel
theorem dX5_isSeated_77 : decode cX5_isSeated 77 = .ok (.getfield 170, 3) := by decide +kernel
theorem dX5_isSeated_80 : decode cX5_isSeated 80 = .ok (.iload_n 2, 1) := by decide +kernel
theorem dX5_isSeated_81 : decode cX5_isSeated 81 = .ok (.iload 7, 2) := by decide +kernel
theorem dX5_isSeated_83 : decode cX5_isSeated 83 = .ok (.iastore, 1) := by decide +kernel
theorem dX5_isSeated_84 : decode cX5_isSeated 84 = .ok (.aload_n 0, 1) := by decide +kernel
theorem dX5_isSeated_85 : decode cX5_isSeated 85 = .ok (.iload_n 1, 1) := by decide +kernel
theorem dX5_isSeated_86 : decode cX5_isSeated 86 = .ok (.iload_n 2, 1) := by decide +kernel
theorem dX5_isSeated_87 : decode cX5_isSeated 87 = .ok (.iconst 1, 1) := by decide +kernel
theorem dX5_isSeated_88 : decode cX5_isSeated 88 = .ok (.iadd, 1) := by decide +kernel
theorem dX5_isSeated_89 : decode cX5_isSeated 89 = .ok (.iload_n 3, 1) := by decide +kernel
theorem dX5_isSeated_90 : decode cX5_isSeated 90 = .ok (.iload 5, 2) := by decide +kernel
theorem dX5_isSeated_92 : decode cX5_isSeated 92 = .ok (.iconst 1, 1) := by decide +kernel
theorem dX5_isSeated_93 : decode cX5_isSeated 93 = .ok (.iadd, 1) := by decide +kernel
theorem dX5_isSeated_94 : decode cX5_isSeated 94 = .ok (.invokestatic 271, 3) := by decide +kernel
theorem dX5_isSeated_97 : decode cX5_isSeated 97 = .ok (.iload 4, 2) := by decide +kernel
theorem dX5_isSeated_99 : decode cX5_isSeated 99 = .ok (.invokestatic 290, 3) := by decide +kernel
theorem dX5_isSeated_102 : decode cX5_isSeated 102 = .ok (.ifCond .eq 5, 3) := by decide +kernel
theorem dX5_isSeated_105 : decode cX5_isSeated 105 = .ok (.iconst 1, 1) := by decide +kernel
theorem dX5_isSeated_106 : decode cX5_isSeated 106 = .ok (.ireturn, 1) := by decide +kernel
theorem dX5_isSeated_107 : decode cX5_isSeated 107 = .ok (.iinc 7 1, 3) := by decide +kernel
theorem dX5_isSeated_110 : decode cX5_isSeated 110 = .ok (.goto (-60), 3) := by decide +kernel
theorem dX5_isSeated_113 : decode cX5_isSeated 113 = .ok (.iinc 5 1, 3) := by decide +kernel
theorem dX5_isSeated_116 : decode cX5_isSeated 116 = .ok (.goto (-101), 3) := by decide +kernel
theorem dX5_isSeated_119 : decode cX5_isSeated 119 = .ok (.iconst 0, 1) := by decide +kernel
theorem dX5_isSeated_120 : decode cX5_isSeated 120 = .ok (.ireturn, 1) := by decide +kernel
theorem dX6_init_0 : decode cX6_init 0 = .ok (.aload_n 0, 1) := by decide +kernel
theorem dX6_init_1 : decode cX6_init 1 = .ok (.invokespecial 1, 3) := by decide +kernel
theorem dX6_init_4 : decode cX6_init 4 = .ok (.aload_n 0, 1) := by decide +kernel
theorem dX6_init_5 : decode cX6_init 5 = .ok (.sipush 248, 3) := by decide +kernel
theorem dX6_init_8 : decode cX6_init 8 = .ok (.newarray .int, 2) := by decide +kernel
theorem dX6_init_10 : decode cX6_init 10 = .ok (.putfield 7, 3) := by decide +kernel
theorem dX6_init_13 : decode cX6_init 13 = .ok (.aload_n 0, 1) := by decide +kernel
theorem dX6_init_14 : decode cX6_init 14 = .ok (.bipush 40, 2) := by decide +kernel
theorem dX6_init_16 : decode cX6_init 16 = .ok (.newarray .int, 2) := by decide +kernel
theorem dX6_init_18 : decode cX6_init 18 = .ok (.putfield 13, 3) := by decide +kernel
theorem dX6_init_21 : decode cX6_init 21 = .ok (.aload_n 0, 1) := by decide +kernel
theorem dX6_init_22 : decode cX6_init 22 = .ok (.bipush 12, 2) := by decide +kernel
theorem dX6_init_24 : decode cX6_init 24 = .ok (.newarray .int, 2) := by decide +kernel
theorem dX6_init_26 : decode cX6_init 26 = .ok (.putfield 16, 3) := by decide +kernel
theorem dX6_init_29 : decode cX6_init 29 = .ok (.aload_n 0, 1) := by decide +kernel
theorem dX6_init_30 : decode cX6_init 30 = .ok (.bipush 72, 2) := by decide +kernel
theorem dX6_init_32 : decode cX6_init 32 = .ok (.newarray .int, 2) := by decide +kernel
theorem dX6_init_34 : decode cX6_init 34 = .ok (.putfield 19, 3) := by decide +kernel
theorem dX6_init_37 : decode cX6_init 37 = .ok (.aload_n 0, 1) := by decide +kernel
theorem dX6_init_38 : decode cX6_init 38 = .ok (.bipush 72, 2) := by decide +kernel
theorem dX6_init_40 : decode cX6_init 40 = .ok (.newarray .int, 2) := by decide +kernel
theorem dX6_init_42 : decode cX6_init 42 = .ok (.putfield 22, 3) := by decide +kernel
theorem dX6_init_45 : decode cX6_init 45 = .ok (.aload_n 0, 1) := by decide +kernel
theorem dX6_init_46 : decode cX6_init 46 = .ok (.bipush 6, 2) := by decide +kernel
theorem dX6_init_48 : decode cX6_init 48 = .ok (.newarray .int, 2) := by decide +kernel
theorem dX6_init_50 : decode cX6_init 50 = .ok (.putfield 25, 3) := by decide +kernel
theorem dX6_init_53 : decode cX6_init 53 = .ok (.aload_n 0, 1) := by decide +kernel
theorem dX6_init_54 : decode cX6_init 54 = .ok (.bipush 6, 2) := by decide +kernel
theorem dX6_init_56 : decode cX6_init 56 = .ok (.newarray .int, 2) := by decide +kernel
theorem dX6_init_58 : decode cX6_init 58 = .ok (.putfield 28, 3) := by decide +kernel
theorem dX6_init_61 : decode cX6_init 61 = .ok (.aload_n 0, 1) := by decide +kernel
theorem dX6_init_62 : decode cX6_init 62 = .ok (.bipush 36, 2) := by decide +kernel
theorem dX6_init_64 : decode cX6_init 64 = .ok (.newarray .int, 2) := by decide +kernel
theorem dX6_init_66 : decode cX6_init 66 = .ok (.putfield 31, 3) := by decide +kernel
theorem dX6_init_69 : decode cX6_init 69 = .ok (.aload_n 0, 1) := by decide +kernel
theorem dX6_init_70 : decode cX6_init 70 = .ok (.bipush 36, 2) := by decide +kernel
theorem dX6_init_72 : decode cX6_init 72 = .ok (.newarray .int, 2) := by decide +kernel
theorem dX6_init_74 : decode cX6_init 74 = .ok (.putfield 34, 3) := by decide +kernel
theorem dX6_init_77 : decode cX6_init 77 = .ok (.aload_n 0, 1) := by decide +kernel
theorem dX6_init_78 : decode cX6_init 78 = .ok (.iconst 4, 1) := by decide +kernel
theorem dX6_init_79 : decode cX6_init 79 = .ok (.newarray .int, 2) := by decide +kernel
theorem dX6_init_81 : decode cX6_init 81 = .ok (.putfield 37, 3) := by decide +kernel
theorem dX6_init_84 : decode cX6_init 84 = .ok (.aload_n 0, 1) := by decide +kernel
theorem dX6_init_85 : decode cX6_init 85 = .ok (.iconst 4, 1) := by decide +kernel
theorem dX6_init_86 : decode cX6_init 86 = .ok (.newarray .int, 2) := by decide +kernel
theorem dX6_init_88 : decode cX6_init 88 = .ok (.putfield 40, 3) := by decide +kernel
theorem dX6_init_91 : decode cX6_init 91 = .ok (.aload_n 0, 1) := by decide +kernel
theorem dX6_init_92 : decode cX6_init 92 = .ok (.bipush 96, 2) := by decide +kernel
theorem dX6_init_94 : decode cX6_init 94 = .ok (.newarray .long, 2) := by decide +kernel
theorem dX6_init_96 : decode cX6_init 96 = .ok (.putfield 43, 3) := by decide +kernel
theorem dX6_init_99 : decode cX6_init 99 = .ok (.aload_n 0, 1) := by decide +kernel
theorem dX6_init_100 : decode cX6_init 100 = .ok (.bipush 24, 2) := by decide +kernel
theorem dX6_init_102 : decode cX6_init 102 = .ok (.newarray .long, 2) := by decide +kernel
theorem dX6_init_104 : decode cX6_init 104 = .ok (.putfield 47, 3) := by decide +kernel
theorem dX6_init_107 : decode cX6_init 107 = .ok (.aload_n 0, 1) := by decide +kernel
theorem dX6_init_108 : decode cX6_init 108 = .ok (.getfield 7, 3) := by decide +kernel
theorem dX6_init_111 : decode cX6_init 111 = .ok (.bipush 104, 2) := by decide +kernel
theorem dX6_init_113 : decode cX6_init 113 = .ok (.iconst 5, 1) := by decide +kernel
theorem dX6_init_114 : decode cX6_init 114 = .ok (.iastore, 1) := by decide +kernel
theorem dX6_init_115 : decode cX6_init 115 = .ok (.iconst 0, 1) := by decide +kernel
theorem dX6_init_116 : decode cX6_init 116 = .ok (.istore_n 1, 1) := by decide +kernel
theorem dX6_init_117 : decode cX6_init 117 = .ok (.iload_n 1, 1) := by decide +kernel
theorem dX6_init_118 : decode cX6_init 118 = .ok (.bipush 12, 2) := by decide +kernel
theorem dX6_init_120 : decode cX6_init 120 = .ok (.if_icmp .ge 19, 3) := by decide +kernel
theorem dX6_init_123 : decode cX6_init 123 = .ok (.aload_n 0, 1) := by decide +kernel
theorem dX6_init_124 : decode cX6_init 124 = .ok (.getfield 7, 3) := by decide +kernel
theorem dX6_init_127 : decode cX6_init 127 = .ok (.bipush 108, 2) := by decide +kernel
theorem dX6_init_129 : decode cX6_init 129 = .ok (.iload_n 1, 1) := by decide +kernel
theorem dX6_init_130 : decode cX6_init 130 = .ok (.iadd, 1) := by decide +kernel
theorem dX6_init_131 : decode cX6_init 131 = .ok (.iconst 1, 1) := by decide +kernel
theorem dX6_init_132 : decode cX6_init 132 = .ok (.iastore, 1) := by decide +kernel
theorem dX6_init_133 : decode cX6_init 133 = .ok (.iinc 1 1, 3) := by decide +kernel
theorem dX6_init_136 : decode cX6_init 136 = .ok (.goto (-19), 3) := by decide +kernel
theorem dX6_init_139 : decode cX6_init 139 = .ok (.iconst 0, 1) := by decide +kernel
theorem dX6_init_140 : decode cX6_init 140 = .ok (.istore_n 1, 1) := by decide +kernel
theorem dX6_init_141 : decode cX6_init 141 = .ok (.iload_n 1, 1) := by decide +kernel
theorem dX6_init_142 : decode cX6_init 142 = .ok (.iconst 4, 1) := by decide +kernel
theorem dX6_init_143 : decode cX6_init 143 = .ok (.if_icmp .ge 28, 3) := by decide +kernel
theorem dX6_init_146 : decode cX6_init 146 = .ok (.aload_n 0, 1) := by decide +kernel
theorem dX6_init_147 : decode cX6_init 147 = .ok (.getfield 7, 3) := by decide +kernel
theorem dX6_init_150 : decode cX6_init 150 = .ok (.bipush 120, 2) := by decide +kernel
theorem dX6_init_152 : decode cX6_init 152 = .ok (.iload_n 1, 1) := by decide +kernel
theorem dX6_init_153 : decode cX6_init 153 = .ok (.iadd, 1) := by decide +kernel
theorem dX6_init_154 : decode cX6_init 154 = .ok (.sipush 1023, 3) := by decide +kernel
theorem dX6_init_157 : decode cX6_init 157 = .ok (.iastore, 1) := by decide +kernel
theorem dX6_init_158 : decode cX6_init 158 = .ok (.aload_n 0, 1) := by decide +kernel
theorem dX6_init_159 : decode cX6_init 159 = .ok (.getfield 37, 3) := by decide +kernel
theorem dX6_init_162 : decode cX6_init 162 = .ok (.iload_n 1, 1) := by decide +kernel
theorem dX6_init_163 : decode cX6_init 163 = .ok (.iconst (-1), 1) := by decide +kernel
theorem dX6_init_164 : decode cX6_init 164 = .ok (.iastore, 1) := by decide +kernel
theorem dX6_init_165 : decode cX6_init 165 = .ok (.iinc 1 1, 3) := by decide +kernel
theorem dX6_init_168 : decode cX6_init 168 = .ok (.goto (-27), 3) := by decide +kernel
theorem dX6_init_171 : decode cX6_init 171 = .ok (.return_, 1) := by decide +kernel
theorem dX6_in_0 : decode cX6_in 0 = .ok (.lload_n 0, 1) := by decide +kernel
theorem dX6_in_1 : decode cX6_in 1 = .ok (.lload_n 2, 1) := by decide +kernel
theorem dX6_in_2 : decode cX6_in 2 = .ok (.lcmp, 1) := by decide +kernel
theorem dX6_in_3 : decode cX6_in 3 = .ok (.ifCond .lt 14, 3) := by decide +kernel
theorem dX6_in_6 : decode cX6_in 6 = .ok (.lload_n 0, 1) := by decide +kernel
theorem dX6_in_7 : decode cX6_in 7 = .ok (.lload 4, 2) := by decide +kernel
theorem dX6_in_9 : decode cX6_in 9 = .ok (.lcmp, 1) := by decide +kernel
theorem dX6_in_10 : decode cX6_in 10 = .ok (.ifCond .gt 7, 3) := by decide +kernel
theorem dX6_in_13 : decode cX6_in 13 = .ok (.iconst 1, 1) := by decide +kernel
theorem dX6_in_14 : decode cX6_in 14 = .ok (.goto 4, 3) := by decide +kernel
theorem dX6_in_17 : decode cX6_in 17 = .ok (.iconst 0, 1) := by decide +kernel
theorem dX6_in_18 : decode cX6_in 18 = .ok (.ireturn, 1) := by decide +kernel
theorem dX6_has_0 : decode cX6_has 0 = .ok (.iload_n 0, 1) := by decide +kernel
theorem dX6_has_1 : decode cX6_has 1 = .ok (.iload_n 1, 1) := by decide +kernel
theorem dX6_has_2 : decode cX6_has 2 = .ok (.ishr, 1) := by decide +kernel
theorem dX6_has_3 : decode cX6_has 3 = .ok (.iconst 1, 1) := by decide +kernel
theorem dX6_has_4 : decode cX6_has 4 = .ok (.iand, 1) := by decide +kernel
theorem dX6_has_5 : decode cX6_has 5 = .ok (.iconst 1, 1) := by decide +kernel
theorem dX6_has_6 : decode cX6_has 6 = .ok (.if_icmp .ne 7, 3) := by decide +kernel
theorem dX6_has_9 : decode cX6_has 9 = .ok (.iconst 1, 1) := by decide +kernel
theorem dX6_has_10 : decode cX6_has 10 = .ok (.goto 4, 3) := by decide +kernel
theorem dX6_has_13 : decode cX6_has 13 = .ok (.iconst 0, 1) := by decide +kernel
theorem dX6_has_14 : decode cX6_has 14 = .ok (.ireturn, 1) := by decide +kernel
theorem dX6_ones_0 : decode cX6_ones 0 = .ok (.iconst 0, 1) := by decide +kernel
theorem dX6_ones_1 : decode cX6_ones 1 = .ok (.istore_n 1, 1) := by decide +kernel
theorem dX6_ones_2 : decode cX6_ones 2 = .ok (.iconst 0, 1) := by decide +kernel
theorem dX6_ones_3 : decode cX6_ones 3 = .ok (.istore_n 2, 1) := by decide +kernel
theorem dX6_ones_4 : decode cX6_ones 4 = .ok (.iload_n 2, 1) := by decide +kernel
theorem dX6_ones_5 : decode cX6_ones 5 = .ok (.bipush 12, 2) := by decide +kernel
theorem dX6_ones_7 : decode cX6_ones 7 = .ok (.if_icmp .ge 17, 3) := by decide +kernel
theorem dX6_ones_10 : decode cX6_ones 10 = .ok (.iload_n 1, 1) := by decide +kernel
theorem dX6_ones_11 : decode cX6_ones 11 = .ok (.iload_n 0, 1) := by decide +kernel
theorem dX6_ones_12 : decode cX6_ones 12 = .ok (.iload_n 2, 1) := by decide +kernel
theorem dX6_ones_13 : decode cX6_ones 13 = .ok (.ishr, 1) := by decide +kernel
theorem dX6_ones_14 : decode cX6_ones 14 = .ok (.iconst 1, 1) := by decide +kernel
theorem dX6_ones_15 : decode cX6_ones 15 = .ok (.iand, 1) := by decide +kernel
theorem dX6_ones_16 : decode cX6_ones 16 = .ok (.iadd, 1) := by decide +kernel
theorem dX6_ones_17 : decode cX6_ones 17 = .ok (.istore_n 1, 1) := by decide +kernel
theorem dX6_ones_18 : decode cX6_ones 18 = .ok (.iinc 2 1, 3) := by decide +kernel
theorem dX6_ones_21 : decode cX6_ones 21 = .ok (.goto (-17), 3) := by decide +kernel
theorem dX6_ones_24 : decode cX6_ones 24 = .ok (.iload_n 1, 1) := by decide +kernel
theorem dX6_ones_25 : decode cX6_ones 25 = .ok (.ireturn, 1) := by decide +kernel
theorem dX6_isAngle_0 : decode cX6_isAngle 0 = .ok (.iload_n 0, 1) := by decide +kernel
theorem dX6_isAngle_1 : decode cX6_isAngle 1 = .ok (.i2l, 1) := by decide +kernel
theorem dX6_isAngle_2 : decode cX6_isAngle 2 = .ok (.lconst 0, 1) := by decide +kernel
theorem dX6_isAngle_3 : decode cX6_isAngle 3 = .ok (.ldc2_w 50, 3) := by decide +kernel
theorem dX6_isAngle_6 : decode cX6_isAngle 6 = .ok (.invokestatic 52, 3) := by decide +kernel
theorem dX6_isAngle_9 : decode cX6_isAngle 9 = .ok (.ireturn, 1) := by decide +kernel
theorem dX6_isCam_0 : decode cX6_isCam 0 = .ok (.iload_n 1, 1) := by decide +kernel
theorem dX6_isCam_1 : decode cX6_isCam 1 = .ok (.i2l, 1) := by decide +kernel
theorem dX6_isCam_2 : decode cX6_isCam 2 = .ok (.lconst 0, 1) := by decide +kernel
theorem dX6_isCam_3 : decode cX6_isCam 3 = .ok (.aload_n 0, 1) := by decide +kernel
theorem dX6_isCam_4 : decode cX6_isCam 4 = .ok (.getfield 7, 3) := by decide +kernel
theorem dX6_isCam_7 : decode cX6_isCam 7 = .ok (.iconst 0, 1) := by decide +kernel
theorem dX6_isCam_8 : decode cX6_isCam 8 = .ok (.iaload, 1) := by decide +kernel
theorem dX6_isCam_9 : decode cX6_isCam 9 = .ok (.iconst 1, 1) := by decide +kernel
theorem dX6_isCam_10 : decode cX6_isCam 10 = .ok (.isub, 1) := by decide +kernel
theorem dX6_isCam_11 : decode cX6_isCam 11 = .ok (.i2l, 1) := by decide +kernel
theorem dX6_isCam_12 : decode cX6_isCam 12 = .ok (.invokestatic 52, 3) := by decide +kernel
theorem dX6_isCam_15 : decode cX6_isCam 15 = .ok (.ireturn, 1) := by decide +kernel
theorem dX6_isFigure_0 : decode cX6_isFigure 0 = .ok (.iload_n 1, 1) := by decide +kernel
theorem dX6_isFigure_1 : decode cX6_isFigure 1 = .ok (.i2l, 1) := by decide +kernel
theorem dX6_isFigure_2 : decode cX6_isFigure 2 = .ok (.lconst 0, 1) := by decide +kernel
theorem dX6_isFigure_3 : decode cX6_isFigure 3 = .ok (.aload_n 0, 1) := by decide +kernel
theorem dX6_isFigure_4 : decode cX6_isFigure 4 = .ok (.getfield 7, 3) := by decide +kernel
theorem dX6_isFigure_7 : decode cX6_isFigure 7 = .ok (.bipush 73, 2) := by decide +kernel
theorem dX6_isFigure_9 : decode cX6_isFigure 9 = .ok (.iaload, 1) := by decide +kernel
theorem dX6_isFigure_10 : decode cX6_isFigure 10 = .ok (.iconst 1, 1) := by decide +kernel
theorem dX6_isFigure_11 : decode cX6_isFigure 11 = .ok (.isub, 1) := by decide +kernel
theorem dX6_isFigure_12 : decode cX6_isFigure 12 = .ok (.i2l, 1) := by decide +kernel
theorem dX6_isFigure_13 : decode cX6_isFigure 13 = .ok (.invokestatic 52, 3) := by decide +kernel
theorem dX6_isFigure_16 : decode cX6_isFigure 16 = .ok (.ireturn, 1) := by decide +kernel
theorem dX6_type_0 : decode cX6_type 0 = .ok (.iload_n 3, 1) := by decide +kernel
theorem dX6_type_1 : decode cX6_type 1 = .ok (.i2l, 1) := by decide +kernel
theorem dX6_type_2 : decode cX6_type 2 = .ok (.lconst 1, 1) := by decide +kernel
theorem dX6_type_3 : decode cX6_type 3 = .ok (.ldc2_w 56, 3) := by decide +kernel
theorem dX6_type_6 : decode cX6_type 6 = .ok (.invokestatic 52, 3) := by decide +kernel
theorem dX6_type_9 : decode cX6_type 9 = .ok (.ifCond .ne 5, 3) := by decide +kernel
theorem dX6_type_12 : decode cX6_type 12 = .ok (.iconst (-1), 1) := by decide +kernel
theorem dX6_type_13 : decode cX6_type 13 = .ok (.ireturn, 1) := by decide +kernel
theorem dX6_type_14 : decode cX6_type 14 = .ok (.iconst 0, 1) := by decide +kernel
theorem dX6_type_15 : decode cX6_type 15 = .ok (.istore 4, 2) := by decide +kernel
theorem dX6_type_17 : decode cX6_type 17 = .ok (.iload 4, 2) := by decide +kernel
theorem dX6_type_19 : decode cX6_type 19 = .ok (.iload_n 3, 1) := by decide +kernel
theorem dX6_type_20 : decode cX6_type 20 = .ok (.if_icmp .ge 34, 3) := by decide +kernel
theorem dX6_type_23 : decode cX6_type 23 = .ok (.lload_n 1, 1) := by decide +kernel
theorem dX6_type_24 : decode cX6_type 24 = .ok (.bipush 8, 2) := by decide +kernel
theorem dX6_type_26 : decode cX6_type 26 = .ok (.iload 4, 2) := by decide +kernel
theorem dX6_type_28 : decode cX6_type 28 = .ok (.imul, 1) := by decide +kernel
theorem dX6_type_29 : decode cX6_type 29 = .ok (.lshr, 1) := by decide +kernel
theorem dX6_type_30 : decode cX6_type 30 = .ok (.ldc2_w 58, 3) := by decide +kernel
theorem dX6_type_33 : decode cX6_type 33 = .ok (.land, 1) := by decide +kernel
theorem dX6_type_34 : decode cX6_type 34 = .ok (.ldc2_w 60, 3) := by decide +kernel
theorem dX6_type_37 : decode cX6_type 37 = .ok (.ldc2_w 62, 3) := by decide +kernel
theorem dX6_type_40 : decode cX6_type 40 = .ok (.invokestatic 52, 3) := by decide +kernel
theorem dX6_type_43 : decode cX6_type 43 = .ok (.ifCond .ne 5, 3) := by decide +kernel
theorem dX6_type_46 : decode cX6_type 46 = .ok (.iconst (-1), 1) := by decide +kernel
theorem dX6_type_47 : decode cX6_type 47 = .ok (.ireturn, 1) := by decide +kernel
theorem dX6_type_48 : decode cX6_type 48 = .ok (.iinc 4 1, 3) := by decide +kernel
theorem dX6_type_51 : decode cX6_type 51 = .ok (.goto (-34), 3) := by decide +kernel
theorem dX6_type_54 : decode cX6_type 54 = .ok (.aload_n 0, 1) := by decide +kernel
theorem dX6_type_55 : decode cX6_type 55 = .ok (.getfield 64, 3) := by decide +kernel
theorem dX6_type_58 : decode cX6_type 58 = .ok (.iload_n 3, 1) := by decide +kernel
theorem dX6_type_59 : decode cX6_type 59 = .ok (.iadd, 1) := by decide +kernel
theorem dX6_type_60 : decode cX6_type 60 = .ok (.bipush 40, 2) := by decide +kernel
theorem dX6_type_62 : decode cX6_type 62 = .ok (.if_icmp .le 6, 3) := by decide +kernel
theorem dX6_type_65 : decode cX6_type 65 = .ok (.bipush (-3), 2) := by decide +kernel
theorem dX6_type_67 : decode cX6_type 67 = .ok (.ireturn, 1) := by decide +kernel
theorem dX6_type_68 : decode cX6_type 68 = .ok (.iload_n 3, 1) := by decide +kernel
theorem dX6_type_69 : decode cX6_type 69 = .ok (.iconst 1, 1) := by decide +kernel
theorem dX6_type_70 : decode cX6_type 70 = .ok (.isub, 1) := by decide +kernel
theorem dX6_type_71 : decode cX6_type 71 = .ok (.istore 4, 2) := by decide +kernel
theorem dX6_type_73 : decode cX6_type 73 = .ok (.iload 4, 2) := by decide +kernel
theorem dX6_type_75 : decode cX6_type 75 = .ok (.ifCond .lt 40, 3) := by decide +kernel
theorem dX6_type_78 : decode cX6_type 78 = .ok (.aload_n 0, 1) := by decide +kernel
theorem dX6_type_79 : decode cX6_type 79 = .ok (.getfield 13, 3) := by decide +kernel
theorem dX6_type_82 : decode cX6_type 82 = .ok (.aload_n 0, 1) := by decide +kernel
theorem dX6_type_83 : decode cX6_type 83 = .ok (.getfield 64, 3) := by decide +kernel
theorem dX6_type_86 : decode cX6_type 86 = .ok (.lload_n 1, 1) := by decide +kernel
theorem dX6_type_87 : decode cX6_type 87 = .ok (.bipush 8, 2) := by decide +kernel
theorem dX6_type_89 : decode cX6_type 89 = .ok (.iload 4, 2) := by decide +kernel
theorem dX6_type_91 : decode cX6_type 91 = .ok (.imul, 1) := by decide +kernel
theorem dX6_type_92 : decode cX6_type 92 = .ok (.lshr, 1) := by decide +kernel
theorem dX6_type_93 : decode cX6_type 93 = .ok (.ldc2_w 58, 3) := by decide +kernel
theorem dX6_type_96 : decode cX6_type 96 = .ok (.land, 1) := by decide +kernel
theorem dX6_type_97 : decode cX6_type 97 = .ok (.l2i, 1) := by decide +kernel
theorem dX6_type_98 : decode cX6_type 98 = .ok (.iastore, 1) := by decide +kernel
theorem dX6_type_99 : decode cX6_type 99 = .ok (.aload_n 0, 1) := by decide +kernel
theorem dX6_type_100 : decode cX6_type 100 = .ok (.dup, 1) := by decide +kernel
theorem dX6_type_101 : decode cX6_type 101 = .ok (.getfield 64, 3) := by decide +kernel
theorem dX6_type_104 : decode cX6_type 104 = .ok (.iconst 1, 1) := by decide +kernel
theorem dX6_type_105 : decode cX6_type 105 = .ok (.iadd, 1) := by decide +kernel
theorem dX6_type_106 : decode cX6_type 106 = .ok (.putfield 64, 3) := by decide +kernel
theorem dX6_type_109 : decode cX6_type 109 = .ok (.iinc 4 (-1), 3) := by decide +kernel
theorem dX6_type_112 : decode cX6_type 112 = .ok (.goto (-39), 3) := by decide +kernel
theorem dX6_type_115 : decode cX6_type 115 = .ok (.aload_n 0, 1) := by decide +kernel
theorem dX6_type_116 : decode cX6_type 116 = .ok (.getfield 64, 3) := by decide +kernel
theorem dX6_type_119 : decode cX6_type 119 = .ok (.ireturn, 1) := by decide +kernel
theorem dX6_isSign_0 : decode cX6_isSign 0 = .ok (.iload_n 1, 1) := by decide +kernel
theorem dX6_isSign_1 : decode cX6_isSign 1 = .ok (.ifCond .eq 17, 3) := by decide +kernel
theorem dX6_isSign_4 : decode cX6_isSign 4 = .ok (.iload_n 0, 1) := by decide +kernel
theorem dX6_isSign_5 : decode cX6_isSign 5 = .ok (.i2l, 1) := by decide +kernel
theorem dX6_isSign_6 : decode cX6_isSign 6 = .ok (.ldc2_w 68, 3) := by decide +kernel
theorem dX6_isSign_9 : decode cX6_isSign 9 = .ok (.ldc2_w 70, 3) := by decide +kernel
theorem dX6_isSign_12 : decode cX6_isSign 12 = .ok (.invokestatic 52, 3) := by decide +kernel
theorem dX6_isSign_15 : decode cX6_isSign 15 = .ok (.goto 26, 3) := by decide +kernel
theorem dX6_isSign_18 : decode cX6_isSign 18 = .ok (.iload_n 0, 1) := by decide +kernel
theorem dX6_isSign_19 : decode cX6_isSign 19 = .ok (.bipush 117, 2) := by decide +kernel
theorem dX6_isSign_21 : decode cX6_isSign 21 = .ok (.if_icmp .eq 15, 3) := by decide +kernel
theorem dX6_isSign_24 : decode cX6_isSign 24 = .ok (.iload_n 0, 1) := by decide +kernel
theorem dX6_isSign_25 : decode cX6_isSign 25 = .ok (.bipush 100, 2) := by decide +kernel
theorem dX6_isSign_27 : decode cX6_isSign 27 = .ok (.if_icmp .eq 9, 3) := by decide +kernel
theorem dX6_isSign_30 : decode cX6_isSign 30 = .ok (.iload_n 0, 1) := by decide +kernel
theorem dX6_isSign_31 : decode cX6_isSign 31 = .ok (.bipush 46, 2) := by decide +kernel
theorem dX6_isSign_33 : decode cX6_isSign 33 = .ok (.if_icmp .ne 7, 3) := by decide +kernel
theorem dX6_isSign_36 : decode cX6_isSign 36 = .ok (.iconst 1, 1) := by decide +kernel
theorem dX6_isSign_37 : decode cX6_isSign 37 = .ok (.goto 4, 3) := by decide +kernel
theorem dX6_isSign_40 : decode cX6_isSign 40 = .ok (.iconst 0, 1) := by decide +kernel
theorem dX6_isSign_41 : decode cX6_isSign 41 = .ok (.ireturn, 1) := by decide +kernel
theorem dX6_takeSigns_0 : decode cX6_takeSigns 0 = .ok (.aload_n 0, 1) := by decide +kernel
theorem dX6_takeSigns_1 : decode cX6_takeSigns 1 = .ok (.getfield 64, 3) := by decide +kernel
theorem dX6_takeSigns_4 : decode cX6_takeSigns 4 = .ok (.istore_n 2, 1) := by decide +kernel
theorem dX6_takeSigns_5 : decode cX6_takeSigns 5 = .ok (.aload_n 0, 1) := by decide +kernel
theorem dX6_takeSigns_6 : decode cX6_takeSigns 6 = .ok (.iconst 0, 1) := by decide +kernel
theorem dX6_takeSigns_7 : decode cX6_takeSigns 7 = .ok (.putfield 64, 3) := by decide +kernel
theorem dX6_takeSigns_10 : decode cX6_takeSigns 10 = .ok (.iconst 0, 1) := by decide +kernel
theorem dX6_takeSigns_11 : decode cX6_takeSigns 11 = .ok (.istore_n 3, 1) := by decide +kernel
theorem dX6_takeSigns_12 : decode cX6_takeSigns 12 = .ok (.iconst 0, 1) := by decide +kernel
theorem dX6_takeSigns_13 : decode cX6_takeSigns 13 = .ok (.istore 4, 2) := by decide +kernel
theorem dX6_takeSigns_15 : decode cX6_takeSigns 15 = .ok (.iload 4, 2) := by decide +kernel
theorem dX6_takeSigns_17 : decode cX6_takeSigns 17 = .ok (.iload_n 2, 1) := by decide +kernel
theorem dX6_takeSigns_18 : decode cX6_takeSigns 18 = .ok (.if_icmp .ge 60, 3) := by decide +kernel
theorem dX6_takeSigns_21 : decode cX6_takeSigns 21 = .ok (.aload_n 0, 1) := by decide +kernel
theorem dX6_takeSigns_22 : decode cX6_takeSigns 22 = .ok (.getfield 13, 3) := by decide +kernel
theorem dX6_takeSigns_25 : decode cX6_takeSigns 25 = .ok (.iload 4, 2) := by decide +kernel
theorem dX6_takeSigns_27 : decode cX6_takeSigns 27 = .ok (.iaload, 1) := by decide +kernel
theorem dX6_takeSigns_28 : decode cX6_takeSigns 28 = .ok (.bipush 32, 2) := by decide +kernel
theorem dX6_takeSigns_30 : decode cX6_takeSigns 30 = .ok (.if_icmp .eq 42, 3) := by decide +kernel
theorem dX6_takeSigns_33 : decode cX6_takeSigns 33 = .ok (.iload_n 3, 1) := by decide +kernel
theorem dX6_takeSigns_34 : decode cX6_takeSigns 34 = .ok (.bipush 12, 2) := by decide +kernel
theorem dX6_takeSigns_36 : decode cX6_takeSigns 36 = .ok (.if_icmp .eq 17, 3) := by decide +kernel
theorem dX6_takeSigns_39 : decode cX6_takeSigns 39 = .ok (.aload_n 0, 1) := by decide +kernel
theorem dX6_takeSigns_40 : decode cX6_takeSigns 40 = .ok (.getfield 13, 3) := by decide +kernel
theorem dX6_takeSigns_43 : decode cX6_takeSigns 43 = .ok (.iload 4, 2) := by decide +kernel
theorem dX6_takeSigns_45 : decode cX6_takeSigns 45 = .ok (.iaload, 1) := by decide +kernel
theorem dX6_takeSigns_46 : decode cX6_takeSigns 46 = .ok (.iload_n 1, 1) := by decide +kernel
theorem dX6_takeSigns_47 : decode cX6_takeSigns 47 = .ok (.invokestatic 72, 3) := by decide +kernel
theorem dX6_takeSigns_50 : decode cX6_takeSigns 50 = .ok (.ifCond .ne 6, 3) := by decide +kernel
theorem dX6_takeSigns_53 : decode cX6_takeSigns 53 = .ok (.iload 4, 2) := by decide +kernel
theorem dX6_takeSigns_55 : decode cX6_takeSigns 55 = .ok (.ireturn, 1) := by decide +kernel
theorem dX6_takeSigns_56 : decode cX6_takeSigns 56 = .ok (.aload_n 0, 1) := by decide +kernel
theorem dX6_takeSigns_57 : decode cX6_takeSigns 57 = .ok (.getfield 16, 3) := by decide +kernel
theorem dX6_takeSigns_60 : decode cX6_takeSigns 60 = .ok (.iload_n 3, 1) := by decide +kernel
theorem dX6_takeSigns_61 : decode cX6_takeSigns 61 = .ok (.aload_n 0, 1) := by decide +kernel
theorem dX6_takeSigns_62 : decode cX6_takeSigns 62 = .ok (.getfield 13, 3) := by decide +kernel
theorem dX6_takeSigns_65 : decode cX6_takeSigns 65 = .ok (.iload 4, 2) := by decide +kernel
theorem dX6_takeSigns_67 : decode cX6_takeSigns 67 = .ok (.iaload, 1) := by decide +kernel
theorem dX6_takeSigns_68 : decode cX6_takeSigns 68 = .ok (.iastore, 1) := by decide +kernel
theorem dX6_takeSigns_69 : decode cX6_takeSigns 69 = .ok (.iinc 3 1, 3) := by decide +kernel
theorem dX6_takeSigns_72 : decode cX6_takeSigns 72 = .ok (.iinc 4 1, 3) := by decide +kernel
theorem dX6_takeSigns_75 : decode cX6_takeSigns 75 = .ok (.goto (-60), 3) := by decide +kernel
theorem dX6_takeSigns_78 : decode cX6_takeSigns 78 = .ok (.iload_n 3, 1) := by decide +kernel
theorem dX6_takeSigns_79 : decode cX6_takeSigns 79 = .ok (.bipush 12, 2) := by decide +kernel
theorem dX6_takeSigns_81 : decode cX6_takeSigns 81 = .ok (.if_icmp .ge 7, 3) := by decide +kernel
theorem dX6_takeSigns_84 : decode cX6_takeSigns 84 = .ok (.iload_n 2, 1) := by decide +kernel
theorem dX6_takeSigns_85 : decode cX6_takeSigns 85 = .ok (.goto 4, 3) := by decide +kernel
theorem dX6_takeSigns_88 : decode cX6_takeSigns 88 = .ok (.iconst (-1), 1) := by decide +kernel
theorem dX6_takeSigns_89 : decode cX6_takeSigns 89 = .ok (.ireturn, 1) := by decide +kernel
theorem dX6_cam_0 : decode cX6_cam 0 = .ok (.aload_n 0, 1) := by decide +kernel
theorem dX6_cam_1 : decode cX6_cam 1 = .ok (.iconst 1, 1) := by decide +kernel
theorem dX6_cam_2 : decode cX6_cam 2 = .ok (.invokevirtual 76, 3) := by decide +kernel
theorem dX6_cam_5 : decode cX6_cam 5 = .ok (.istore_n 1, 1) := by decide +kernel
theorem dX6_cam_6 : decode cX6_cam 6 = .ok (.iload_n 1, 1) := by decide +kernel
theorem dX6_cam_7 : decode cX6_cam 7 = .ok (.ifCond .lt 8, 3) := by decide +kernel
theorem dX6_cam_10 : decode cX6_cam 10 = .ok (.bipush (-20), 2) := by decide +kernel
theorem dX6_cam_12 : decode cX6_cam 12 = .ok (.iload_n 1, 1) := by decide +kernel
theorem dX6_cam_13 : decode cX6_cam 13 = .ok (.isub, 1) := by decide +kernel
theorem dX6_cam_14 : decode cX6_cam 14 = .ok (.ireturn, 1) := by decide +kernel
theorem dX6_cam_15 : decode cX6_cam 15 = .ok (.aload_n 0, 1) := by decide +kernel
theorem dX6_cam_16 : decode cX6_cam 16 = .ok (.getfield 7, 3) := by decide +kernel
theorem dX6_cam_19 : decode cX6_cam 19 = .ok (.iconst 0, 1) := by decide +kernel
theorem dX6_cam_20 : decode cX6_cam 20 = .ok (.iaload, 1) := by decide +kernel
theorem dX6_cam_21 : decode cX6_cam 21 = .ok (.istore_n 2, 1) := by decide +kernel
theorem dX6_cam_22 : decode cX6_cam 22 = .ok (.iload_n 2, 1) := by decide +kernel
theorem dX6_cam_23 : decode cX6_cam 23 = .ok (.bipush 6, 2) := by decide +kernel
theorem dX6_cam_25 : decode cX6_cam 25 = .ok (.if_icmp .ne 6, 3) := by decide +kernel
theorem dX6_cam_28 : decode cX6_cam 28 = .ok (.bipush (-3), 2) := by decide +kernel
theorem dX6_cam_30 : decode cX6_cam 30 = .ok (.ireturn, 1) := by decide +kernel
theorem dX6_cam_31 : decode cX6_cam 31 = .ok (.iconst 0, 1) := by decide +kernel
theorem dX6_cam_32 : decode cX6_cam 32 = .ok (.istore_n 3, 1) := by decide +kernel
theorem dX6_cam_33 : decode cX6_cam 33 = .ok (.iload_n 3, 1) := by decide +kernel
theorem dX6_cam_34 : decode cX6_cam 34 = .ok (.bipush 12, 2) := by decide +kernel
theorem dX6_cam_36 : decode cX6_cam 36 = .ok (.if_icmp .ge 31, 3) := by decide +kernel
theorem dX6_cam_39 : decode cX6_cam 39 = .ok (.aload_n 0, 1) := by decide +kernel
theorem dX6_cam_40 : decode cX6_cam 40 = .ok (.getfield 7, 3) := by decide +kernel
theorem dX6_cam_43 : decode cX6_cam 43 = .ok (.iconst 1, 1) := by decide +kernel
theorem dX6_cam_44 : decode cX6_cam 44 = .ok (.bipush 12, 2) := by decide +kernel
theorem dX6_cam_46 : decode cX6_cam 46 = .ok (.iload_n 2, 1) := by decide +kernel
theorem dX6_cam_47 : decode cX6_cam 47 = .ok (.imul, 1) := by decide +kernel
theorem dX6_cam_48 : decode cX6_cam 48 = .ok (.iadd, 1) := by decide +kernel
theorem dX6_cam_49 : decode cX6_cam 49 = .ok (.iload_n 3, 1) := by decide +kernel
theorem dX6_cam_50 : decode cX6_cam 50 = .ok (.iadd, 1) := by decide +kernel
theorem dX6_cam_51 : decode cX6_cam 51 = .ok (.aload_n 0, 1) := by decide +kernel
theorem dX6_cam_52 : decode cX6_cam 52 = .ok (.getfield 16, 3) := by decide +kernel
theorem dX6_cam_55 : decode cX6_cam 55 = .ok (.iload_n 3, 1) := by decide +kernel
theorem dX6_cam_56 : decode cX6_cam 56 = .ok (.iaload, 1) := by decide +kernel
theorem dX6_cam_57 : decode cX6_cam 57 = .ok (.bipush 48, 2) := by decide +kernel
theorem dX6_cam_59 : decode cX6_cam 59 = .ok (.isub, 1) := by decide +kernel
theorem dX6_cam_60 : decode cX6_cam 60 = .ok (.iastore, 1) := by decide +kernel
theorem dX6_cam_61 : decode cX6_cam 61 = .ok (.iinc 3 1, 3) := by decide +kernel
theorem dX6_cam_64 : decode cX6_cam 64 = .ok (.goto (-31), 3) := by decide +kernel
theorem dX6_cam_67 : decode cX6_cam 67 = .ok (.aload_n 0, 1) := by decide +kernel
theorem dX6_cam_68 : decode cX6_cam 68 = .ok (.getfield 7, 3) := by decide +kernel
theorem dX6_cam_71 : decode cX6_cam 71 = .ok (.iconst 0, 1) := by decide +kernel
theorem dX6_cam_72 : decode cX6_cam 72 = .ok (.dup2, 1) := by decide +kernel
theorem dX6_cam_73 : decode cX6_cam 73 = .ok (.iaload, 1) := by decide +kernel
theorem dX6_cam_74 : decode cX6_cam 74 = .ok (.iconst 1, 1) := by decide +kernel
theorem dX6_cam_75 : decode cX6_cam 75 = .ok (.iadd, 1) := by decide +kernel
theorem dX6_cam_76 : decode cX6_cam 76 = .ok (.iastore, 1) := by decide +kernel
theorem dX6_cam_77 : decode cX6_cam 77 = .ok (.iload_n 2, 1) := by decide +kernel
theorem dX6_cam_78 : decode cX6_cam 78 = .ok (.ireturn, 1) := by decide +kernel
theorem dX6_cut_0 : decode cX6_cut 0 = .ok (.aload_n 0, 1) := by decide +kernel
theorem dX6_cut_1 : decode cX6_cut 1 = .ok (.iload_n 1, 1) := by decide +kernel
theorem dX6_cut_2 : decode cX6_cut 2 = .ok (.invokevirtual 80, 3) := by decide +kernel
theorem dX6_cut_5 : decode cX6_cut 5 = .ok (.ifCond .eq 22, 3) := by decide +kernel
theorem dX6_cut_8 : decode cX6_cut 8 = .ok (.iload_n 2, 1) := by decide +kernel
theorem dX6_cut_9 : decode cX6_cut 9 = .ok (.invokestatic 84, 3) := by decide +kernel
theorem dX6_cut_12 : decode cX6_cut 12 = .ok (.ifCond .eq 15, 3) := by decide +kernel
theorem dX6_cut_15 : decode cX6_cut 15 = .ok (.iload_n 3, 1) := by decide +kernel
theorem dX6_cut_16 : decode cX6_cut 16 = .ok (.i2l, 1) := by decide +kernel
theorem dX6_cut_17 : decode cX6_cut 17 = .ok (.lconst 0, 1) := by decide +kernel
theorem dX6_cut_18 : decode cX6_cut 18 = .ok (.ldc2_w 87, 3) := by decide +kernel
theorem dX6_cut_21 : decode cX6_cut 21 = .ok (.invokestatic 52, 3) := by decide +kernel
theorem dX6_cut_24 : decode cX6_cut 24 = .ok (.ifCond .ne 5, 3) := by decide +kernel
theorem dX6_cut_27 : decode cX6_cut 27 = .ok (.iconst (-1), 1) := by decide +kernel
theorem dX6_cut_28 : decode cX6_cut 28 = .ok (.ireturn, 1) := by decide +kernel
theorem dX6_cut_29 : decode cX6_cut 29 = .ok (.iconst 1, 1) := by decide +kernel
theorem dX6_cut_30 : decode cX6_cut 30 = .ok (.bipush 12, 2) := by decide +kernel
theorem dX6_cut_32 : decode cX6_cut 32 = .ok (.iload_n 1, 1) := by decide +kernel
theorem dX6_cut_33 : decode cX6_cut 33 = .ok (.imul, 1) := by decide +kernel
theorem dX6_cut_34 : decode cX6_cut 34 = .ok (.iadd, 1) := by decide +kernel
theorem dX6_cut_35 : decode cX6_cut 35 = .ok (.iload_n 2, 1) := by decide +kernel
theorem dX6_cut_36 : decode cX6_cut 36 = .ok (.iadd, 1) := by decide +kernel
theorem dX6_cut_37 : decode cX6_cut 37 = .ok (.istore 4, 2) := by decide +kernel
theorem dX6_cut_39 : decode cX6_cut 39 = .ok (.aload_n 0, 1) := by decide +kernel
theorem dX6_cut_40 : decode cX6_cut 40 = .ok (.getfield 7, 3) := by decide +kernel
theorem dX6_cut_43 : decode cX6_cut 43 = .ok (.iload 4, 2) := by decide +kernel
theorem dX6_cut_45 : decode cX6_cut 45 = .ok (.iaload, 1) := by decide +kernel
theorem dX6_cut_46 : decode cX6_cut 46 = .ok (.istore 5, 2) := by decide +kernel
theorem dX6_cut_48 : decode cX6_cut 48 = .ok (.aload_n 0, 1) := by decide +kernel
theorem dX6_cut_49 : decode cX6_cut 49 = .ok (.getfield 7, 3) := by decide +kernel
theorem dX6_cut_52 : decode cX6_cut 52 = .ok (.iload 4, 2) := by decide +kernel
theorem dX6_cut_54 : decode cX6_cut 54 = .ok (.iload_n 3, 1) := by decide +kernel
theorem dX6_cut_55 : decode cX6_cut 55 = .ok (.iastore, 1) := by decide +kernel
theorem dX6_cut_56 : decode cX6_cut 56 = .ok (.iload 5, 2) := by decide +kernel
theorem dX6_cut_58 : decode cX6_cut 58 = .ok (.ireturn, 1) := by decide +kernel
theorem dX6_told_0 : decode cX6_told 0 = .ok (.aload_n 0, 1) := by decide +kernel
theorem dX6_told_1 : decode cX6_told 1 = .ok (.iload_n 1, 1) := by decide +kernel
theorem dX6_told_2 : decode cX6_told 2 = .ok (.invokevirtual 80, 3) := by decide +kernel
theorem dX6_told_5 : decode cX6_told 5 = .ok (.ifCond .eq 26, 3) := by decide +kernel
theorem dX6_told_8 : decode cX6_told 8 = .ok (.iload_n 2, 1) := by decide +kernel
theorem dX6_told_9 : decode cX6_told 9 = .ok (.invokestatic 84, 3) := by decide +kernel
theorem dX6_told_12 : decode cX6_told 12 = .ok (.ifCond .eq 19, 3) := by decide +kernel
theorem dX6_told_15 : decode cX6_told 15 = .ok (.aload_n 0, 1) := by decide +kernel
theorem dX6_told_16 : decode cX6_told 16 = .ok (.getfield 7, 3) := by decide +kernel
theorem dX6_told_19 : decode cX6_told 19 = .ok (.iconst 1, 1) := by decide +kernel
theorem dX6_told_20 : decode cX6_told 20 = .ok (.bipush 12, 2) := by decide +kernel
theorem dX6_told_22 : decode cX6_told 22 = .ok (.iload_n 1, 1) := by decide +kernel
theorem dX6_told_23 : decode cX6_told 23 = .ok (.imul, 1) := by decide +kernel
theorem dX6_told_24 : decode cX6_told 24 = .ok (.iadd, 1) := by decide +kernel
theorem dX6_told_25 : decode cX6_told 25 = .ok (.iload_n 2, 1) := by decide +kernel
theorem dX6_told_26 : decode cX6_told 26 = .ok (.iadd, 1) := by decide +kernel
theorem dX6_told_27 : decode cX6_told 27 = .ok (.iaload, 1) := by decide +kernel
theorem dX6_told_28 : decode cX6_told 28 = .ok (.goto 4, 3) := by decide +kernel
theorem dX6_told_31 : decode cX6_told 31 = .ok (.iconst (-1), 1) := by decide +kernel
theorem dX6_told_32 : decode cX6_told 32 = .ok (.ireturn, 1) := by decide +kernel
theorem dX6_isGood_0 : decode cX6_isGood 0 = .ok (.iload_n 1, 1) := by decide +kernel
theorem dX6_isGood_1 : decode cX6_isGood 1 = .ok (.ifCond .ne 15, 3) := by decide +kernel
theorem dX6_isGood_4 : decode cX6_isGood 4 = .ok (.iload_n 2, 1) := by decide +kernel
theorem dX6_isGood_5 : decode cX6_isGood 5 = .ok (.i2l, 1) := by decide +kernel
theorem dX6_isGood_6 : decode cX6_isGood 6 = .ok (.lconst 0, 1) := by decide +kernel
theorem dX6_isGood_7 : decode cX6_isGood 7 = .ok (.ldc2_w 89, 3) := by decide +kernel
theorem dX6_isGood_10 : decode cX6_isGood 10 = .ok (.invokestatic 52, 3) := by decide +kernel
theorem dX6_isGood_13 : decode cX6_isGood 13 = .ok (.goto 37, 3) := by decide +kernel
theorem dX6_isGood_16 : decode cX6_isGood 16 = .ok (.iload_n 1, 1) := by decide +kernel
theorem dX6_isGood_17 : decode cX6_isGood 17 = .ok (.iconst 1, 1) := by decide +kernel
theorem dX6_isGood_18 : decode cX6_isGood 18 = .ok (.if_icmp .ne 11, 3) := by decide +kernel
theorem dX6_isGood_21 : decode cX6_isGood 21 = .ok (.aload_n 0, 1) := by decide +kernel
theorem dX6_isGood_22 : decode cX6_isGood 22 = .ok (.iload_n 2, 1) := by decide +kernel
theorem dX6_isGood_23 : decode cX6_isGood 23 = .ok (.invokevirtual 80, 3) := by decide +kernel
theorem dX6_isGood_26 : decode cX6_isGood 26 = .ok (.goto 24, 3) := by decide +kernel
theorem dX6_isGood_29 : decode cX6_isGood 29 = .ok (.iload_n 1, 1) := by decide +kernel
theorem dX6_isGood_30 : decode cX6_isGood 30 = .ok (.iconst 2, 1) := by decide +kernel
theorem dX6_isGood_31 : decode cX6_isGood 31 = .ok (.if_icmp .ne 10, 3) := by decide +kernel
theorem dX6_isGood_34 : decode cX6_isGood 34 = .ok (.iload_n 2, 1) := by decide +kernel
theorem dX6_isGood_35 : decode cX6_isGood 35 = .ok (.invokestatic 84, 3) := by decide +kernel
theorem dX6_isGood_38 : decode cX6_isGood 38 = .ok (.goto 12, 3) := by decide +kernel
theorem dX6_isGood_41 : decode cX6_isGood 41 = .ok (.iload_n 2, 1) := by decide +kernel
theorem dX6_isGood_42 : decode cX6_isGood 42 = .ok (.i2l, 1) := by decide +kernel
theorem dX6_isGood_43 : decode cX6_isGood 43 = .ok (.lconst 0, 1) := by decide +kernel
theorem dX6_isGood_44 : decode cX6_isGood 44 = .ok (.ldc2_w 89, 3) := by decide +kernel
theorem dX6_isGood_47 : decode cX6_isGood 47 = .ok (.invokestatic 52, 3) := by decide +kernel
theorem dX6_isGood_50 : decode cX6_isGood 50 = .ok (.ireturn, 1) := by decide +kernel
theorem dX6_figure_0 : decode cX6_figure 0 = .ok (.aload_n 0, 1) := by decide +kernel
theorem dX6_figure_1 : decode cX6_figure 1 = .ok (.iconst 0, 1) := by decide +kernel
theorem dX6_figure_2 : decode cX6_figure 2 = .ok (.iload_n 1, 1) := by decide +kernel
theorem dX6_figure_3 : decode cX6_figure 3 = .ok (.invokevirtual 91, 3) := by decide +kernel
theorem dX6_figure_6 : decode cX6_figure 6 = .ok (.ifCond .eq 31, 3) := by decide +kernel
theorem dX6_figure_9 : decode cX6_figure 9 = .ok (.aload_n 0, 1) := by decide +kernel
theorem dX6_figure_10 : decode cX6_figure 10 = .ok (.iconst 1, 1) := by decide +kernel
theorem dX6_figure_11 : decode cX6_figure 11 = .ok (.iload_n 2, 1) := by decide +kernel
theorem dX6_figure_12 : decode cX6_figure 12 = .ok (.invokevirtual 91, 3) := by decide +kernel
theorem dX6_figure_15 : decode cX6_figure 15 = .ok (.ifCond .eq 22, 3) := by decide +kernel
theorem dX6_figure_18 : decode cX6_figure 18 = .ok (.aload_n 0, 1) := by decide +kernel
theorem dX6_figure_19 : decode cX6_figure 19 = .ok (.iconst 2, 1) := by decide +kernel
theorem dX6_figure_20 : decode cX6_figure 20 = .ok (.iload_n 3, 1) := by decide +kernel
theorem dX6_figure_21 : decode cX6_figure 21 = .ok (.invokevirtual 91, 3) := by decide +kernel
theorem dX6_figure_24 : decode cX6_figure 24 = .ok (.ifCond .eq 13, 3) := by decide +kernel
theorem dX6_figure_27 : decode cX6_figure 27 = .ok (.aload_n 0, 1) := by decide +kernel
theorem dX6_figure_28 : decode cX6_figure 28 = .ok (.iconst 3, 1) := by decide +kernel
theorem dX6_figure_29 : decode cX6_figure 29 = .ok (.iload 4, 2) := by decide +kernel
theorem dX6_figure_31 : decode cX6_figure 31 = .ok (.invokevirtual 91, 3) := by decide +kernel
theorem dX6_figure_34 : decode cX6_figure 34 = .ok (.ifCond .ne 5, 3) := by decide +kernel
theorem dX6_figure_37 : decode cX6_figure 37 = .ok (.iconst (-1), 1) := by decide +kernel
theorem dX6_figure_38 : decode cX6_figure 38 = .ok (.ireturn, 1) := by decide +kernel
theorem dX6_figure_39 : decode cX6_figure 39 = .ok (.aload_n 0, 1) := by decide +kernel
theorem dX6_figure_40 : decode cX6_figure 40 = .ok (.getfield 7, 3) := by decide +kernel
theorem dX6_figure_43 : decode cX6_figure 43 = .ok (.bipush 73, 2) := by decide +kernel
theorem dX6_figure_45 : decode cX6_figure 45 = .ok (.iaload, 1) := by decide +kernel
theorem dX6_figure_46 : decode cX6_figure 46 = .ok (.istore 5, 2) := by decide +kernel
theorem dX6_figure_48 : decode cX6_figure 48 = .ok (.iload 5, 2) := by decide +kernel
theorem dX6_figure_50 : decode cX6_figure 50 = .ok (.iconst 5, 1) := by decide +kernel
theorem dX6_figure_51 : decode cX6_figure 51 = .ok (.if_icmp .ne 6, 3) := by decide +kernel
theorem dX6_figure_54 : decode cX6_figure 54 = .ok (.bipush (-3), 2) := by decide +kernel
theorem dX6_figure_56 : decode cX6_figure 56 = .ok (.ireturn, 1) := by decide +kernel
theorem dX6_figure_57 : decode cX6_figure 57 = .ok (.aload_n 0, 1) := by decide +kernel
theorem dX6_figure_58 : decode cX6_figure 58 = .ok (.getfield 7, 3) := by decide +kernel
theorem dX6_figure_61 : decode cX6_figure 61 = .ok (.bipush 74, 2) := by decide +kernel
theorem dX6_figure_63 : decode cX6_figure 63 = .ok (.iload 5, 2) := by decide +kernel
theorem dX6_figure_65 : decode cX6_figure 65 = .ok (.iadd, 1) := by decide +kernel
theorem dX6_figure_66 : decode cX6_figure 66 = .ok (.iload_n 1, 1) := by decide +kernel
theorem dX6_figure_67 : decode cX6_figure 67 = .ok (.iastore, 1) := by decide +kernel
theorem dX6_figure_68 : decode cX6_figure 68 = .ok (.aload_n 0, 1) := by decide +kernel
theorem dX6_figure_69 : decode cX6_figure 69 = .ok (.getfield 7, 3) := by decide +kernel
theorem dX6_figure_72 : decode cX6_figure 72 = .ok (.bipush 79, 2) := by decide +kernel
theorem dX6_figure_74 : decode cX6_figure 74 = .ok (.iload 5, 2) := by decide +kernel
theorem dX6_figure_76 : decode cX6_figure 76 = .ok (.iadd, 1) := by decide +kernel
theorem dX6_figure_77 : decode cX6_figure 77 = .ok (.iload_n 2, 1) := by decide +kernel
theorem dX6_figure_78 : decode cX6_figure 78 = .ok (.iastore, 1) := by decide +kernel
theorem dX6_figure_79 : decode cX6_figure 79 = .ok (.aload_n 0, 1) := by decide +kernel
theorem dX6_figure_80 : decode cX6_figure 80 = .ok (.getfield 7, 3) := by decide +kernel
theorem dX6_figure_83 : decode cX6_figure 83 = .ok (.bipush 84, 2) := by decide +kernel
theorem dX6_figure_85 : decode cX6_figure 85 = .ok (.iload 5, 2) := by decide +kernel
theorem dX6_figure_87 : decode cX6_figure 87 = .ok (.iadd, 1) := by decide +kernel
theorem dX6_figure_88 : decode cX6_figure 88 = .ok (.iload_n 3, 1) := by decide +kernel
theorem dX6_figure_89 : decode cX6_figure 89 = .ok (.iastore, 1) := by decide +kernel
theorem dX6_figure_90 : decode cX6_figure 90 = .ok (.aload_n 0, 1) := by decide +kernel
theorem dX6_figure_91 : decode cX6_figure 91 = .ok (.getfield 7, 3) := by decide +kernel
theorem dX6_figure_94 : decode cX6_figure 94 = .ok (.bipush 89, 2) := by decide +kernel
theorem dX6_figure_96 : decode cX6_figure 96 = .ok (.iload 5, 2) := by decide +kernel
theorem dX6_figure_98 : decode cX6_figure 98 = .ok (.iadd, 1) := by decide +kernel
theorem dX6_figure_99 : decode cX6_figure 99 = .ok (.iload 4, 2) := by decide +kernel
theorem dX6_figure_101 : decode cX6_figure 101 = .ok (.iastore, 1) := by decide +kernel
theorem dX6_figure_102 : decode cX6_figure 102 = .ok (.aload_n 0, 1) := by decide +kernel
theorem dX6_figure_103 : decode cX6_figure 103 = .ok (.getfield 7, 3) := by decide +kernel
theorem dX6_figure_106 : decode cX6_figure 106 = .ok (.bipush 94, 2) := by decide +kernel
theorem dX6_figure_108 : decode cX6_figure 108 = .ok (.iload 5, 2) := by decide +kernel
theorem dX6_figure_110 : decode cX6_figure 110 = .ok (.iadd, 1) := by decide +kernel
theorem dX6_figure_111 : decode cX6_figure 111 = .ok (.iconst 0, 1) := by decide +kernel
theorem dX6_figure_112 : decode cX6_figure 112 = .ok (.iastore, 1) := by decide +kernel
theorem dX6_figure_113 : decode cX6_figure 113 = .ok (.aload_n 0, 1) := by decide +kernel
theorem dX6_figure_114 : decode cX6_figure 114 = .ok (.getfield 7, 3) := by decide +kernel
theorem dX6_figure_117 : decode cX6_figure 117 = .ok (.bipush 99, 2) := by decide +kernel
theorem dX6_figure_119 : decode cX6_figure 119 = .ok (.iload 5, 2) := by decide +kernel
theorem dX6_figure_121 : decode cX6_figure 121 = .ok (.iadd, 1) := by decide +kernel
theorem dX6_figure_122 : decode cX6_figure 122 = .ok (.iconst 0, 1) := by decide +kernel
theorem dX6_figure_123 : decode cX6_figure 123 = .ok (.iastore, 1) := by decide +kernel
theorem dX6_figure_124 : decode cX6_figure 124 = .ok (.aload_n 0, 1) := by decide +kernel
theorem dX6_figure_125 : decode cX6_figure 125 = .ok (.getfield 7, 3) := by decide +kernel
theorem dX6_figure_128 : decode cX6_figure 128 = .ok (.bipush 73, 2) := by decide +kernel
theorem dX6_figure_130 : decode cX6_figure 130 = .ok (.dup2, 1) := by decide +kernel
theorem dX6_figure_131 : decode cX6_figure 131 = .ok (.iaload, 1) := by decide +kernel
theorem dX6_figure_132 : decode cX6_figure 132 = .ok (.iconst 1, 1) := by decide +kernel
theorem dX6_figure_133 : decode cX6_figure 133 = .ok (.iadd, 1) := by decide +kernel
theorem dX6_figure_134 : decode cX6_figure 134 = .ok (.iastore, 1) := by decide +kernel
theorem dX6_figure_135 : decode cX6_figure 135 = .ok (.iload 5, 2) := by decide +kernel
theorem dX6_figure_137 : decode cX6_figure 137 = .ok (.ireturn, 1) := by decide +kernel
theorem dX6_set_0 : decode cX6_set 0 = .ok (.aload_n 0, 1) := by decide +kernel
theorem dX6_set_1 : decode cX6_set 1 = .ok (.iload_n 1, 1) := by decide +kernel
theorem dX6_set_2 : decode cX6_set 2 = .ok (.invokevirtual 95, 3) := by decide +kernel
theorem dX6_set_5 : decode cX6_set 5 = .ok (.ifCond .eq 24, 3) := by decide +kernel
theorem dX6_set_8 : decode cX6_set 8 = .ok (.iload_n 2, 1) := by decide +kernel
theorem dX6_set_9 : decode cX6_set 9 = .ok (.i2l, 1) := by decide +kernel
theorem dX6_set_10 : decode cX6_set 10 = .ok (.lconst 0, 1) := by decide +kernel
theorem dX6_set_11 : decode cX6_set 11 = .ok (.ldc2_w 89, 3) := by decide +kernel
theorem dX6_set_14 : decode cX6_set 14 = .ok (.invokestatic 52, 3) := by decide +kernel
theorem dX6_set_17 : decode cX6_set 17 = .ok (.ifCond .eq 12, 3) := by decide +kernel
theorem dX6_set_20 : decode cX6_set 20 = .ok (.aload_n 0, 1) := by decide +kernel
theorem dX6_set_21 : decode cX6_set 21 = .ok (.iload_n 2, 1) := by decide +kernel
theorem dX6_set_22 : decode cX6_set 22 = .ok (.iload_n 3, 1) := by decide +kernel
theorem dX6_set_23 : decode cX6_set 23 = .ok (.invokevirtual 91, 3) := by decide +kernel
theorem dX6_set_26 : decode cX6_set 26 = .ok (.ifCond .ne 5, 3) := by decide +kernel
theorem dX6_set_29 : decode cX6_set 29 = .ok (.iconst (-1), 1) := by decide +kernel
theorem dX6_set_30 : decode cX6_set 30 = .ok (.ireturn, 1) := by decide +kernel
theorem dX6_set_31 : decode cX6_set 31 = .ok (.bipush 74, 2) := by decide +kernel
theorem dX6_set_33 : decode cX6_set 33 = .ok (.iconst 5, 1) := by decide +kernel
theorem dX6_set_34 : decode cX6_set 34 = .ok (.iload_n 2, 1) := by decide +kernel
theorem dX6_set_35 : decode cX6_set 35 = .ok (.imul, 1) := by decide +kernel
theorem dX6_set_36 : decode cX6_set 36 = .ok (.iadd, 1) := by decide +kernel
theorem dX6_set_37 : decode cX6_set 37 = .ok (.iload_n 1, 1) := by decide +kernel
theorem dX6_set_38 : decode cX6_set 38 = .ok (.iadd, 1) := by decide +kernel
theorem dX6_set_39 : decode cX6_set 39 = .ok (.istore 4, 2) := by decide +kernel
theorem dX6_set_41 : decode cX6_set 41 = .ok (.aload_n 0, 1) := by decide +kernel
theorem dX6_set_42 : decode cX6_set 42 = .ok (.getfield 7, 3) := by decide +kernel
theorem dX6_set_45 : decode cX6_set 45 = .ok (.iload 4, 2) := by decide +kernel
theorem dX6_set_47 : decode cX6_set 47 = .ok (.iaload, 1) := by decide +kernel
theorem dX6_set_48 : decode cX6_set 48 = .ok (.istore 5, 2) := by decide +kernel
theorem dX6_set_50 : decode cX6_set 50 = .ok (.aload_n 0, 1) := by decide +kernel
theorem dX6_set_51 : decode cX6_set 51 = .ok (.getfield 7, 3) := by decide +kernel
theorem dX6_set_54 : decode cX6_set 54 = .ok (.iload 4, 2) := by decide +kernel
theorem dX6_set_56 : decode cX6_set 56 = .ok (.iload_n 3, 1) := by decide +kernel
theorem dX6_set_57 : decode cX6_set 57 = .ok (.iastore, 1) := by decide +kernel
theorem dX6_set_58 : decode cX6_set 58 = .ok (.iload 5, 2) := by decide +kernel
theorem dX6_set_60 : decode cX6_set 60 = .ok (.ireturn, 1) := by decide +kernel
theorem dX6_wish_0 : decode cX6_wish 0 = .ok (.aload_n 0, 1) := by decide +kernel
theorem dX6_wish_1 : decode cX6_wish 1 = .ok (.iload_n 1, 1) := by decide +kernel
theorem dX6_wish_2 : decode cX6_wish 2 = .ok (.invokevirtual 95, 3) := by decide +kernel
theorem dX6_wish_5 : decode cX6_wish 5 = .ok (.ifCond .ne 5, 3) := by decide +kernel
theorem dX6_wish_8 : decode cX6_wish 8 = .ok (.iconst (-1), 1) := by decide +kernel
theorem dX6_wish_9 : decode cX6_wish 9 = .ok (.ireturn, 1) := by decide +kernel
theorem dX6_wish_10 : decode cX6_wish 10 = .ok (.aload_n 0, 1) := by decide +kernel
theorem dX6_wish_11 : decode cX6_wish 11 = .ok (.iconst 0, 1) := by decide +kernel
theorem dX6_wish_12 : decode cX6_wish 12 = .ok (.invokevirtual 76, 3) := by decide +kernel
theorem dX6_wish_15 : decode cX6_wish 15 = .ok (.istore_n 2, 1) := by decide +kernel
theorem dX6_wish_16 : decode cX6_wish 16 = .ok (.iload_n 2, 1) := by decide +kernel
theorem dX6_wish_17 : decode cX6_wish 17 = .ok (.ifCond .lt 8, 3) := by decide +kernel
theorem dX6_wish_20 : decode cX6_wish 20 = .ok (.bipush (-20), 2) := by decide +kernel
theorem dX6_wish_22 : decode cX6_wish 22 = .ok (.iload_n 2, 1) := by decide +kernel
theorem dX6_wish_23 : decode cX6_wish 23 = .ok (.isub, 1) := by decide +kernel
theorem dX6_wish_24 : decode cX6_wish 24 = .ok (.ireturn, 1) := by decide +kernel
theorem dX6_wish_25 : decode cX6_wish 25 = .ok (.iconst 0, 1) := by decide +kernel
theorem dX6_wish_26 : decode cX6_wish 26 = .ok (.istore_n 3, 1) := by decide +kernel
theorem dX6_wish_27 : decode cX6_wish 27 = .ok (.iconst 0, 1) := by decide +kernel
theorem dX6_wish_28 : decode cX6_wish 28 = .ok (.istore 4, 2) := by decide +kernel
theorem dX6_wish_30 : decode cX6_wish 30 = .ok (.iconst 0, 1) := by decide +kernel
theorem dX6_wish_31 : decode cX6_wish 31 = .ok (.istore 5, 2) := by decide +kernel
theorem dX6_wish_33 : decode cX6_wish 33 = .ok (.iload 5, 2) := by decide +kernel
theorem dX6_wish_35 : decode cX6_wish 35 = .ok (.bipush 12, 2) := by decide +kernel
theorem dX6_wish_37 : decode cX6_wish 37 = .ok (.if_icmp .ge 57, 3) := by decide +kernel
theorem dX6_wish_40 : decode cX6_wish 40 = .ok (.iload_n 3, 1) := by decide +kernel
theorem dX6_wish_41 : decode cX6_wish 41 = .ok (.aload_n 0, 1) := by decide +kernel
theorem dX6_wish_42 : decode cX6_wish 42 = .ok (.getfield 16, 3) := by decide +kernel
theorem dX6_wish_45 : decode cX6_wish 45 = .ok (.iload 5, 2) := by decide +kernel
theorem dX6_wish_47 : decode cX6_wish 47 = .ok (.iaload, 1) := by decide +kernel
theorem dX6_wish_48 : decode cX6_wish 48 = .ok (.bipush 117, 2) := by decide +kernel
theorem dX6_wish_50 : decode cX6_wish 50 = .ok (.if_icmp .ne 10, 3) := by decide +kernel
theorem dX6_wish_53 : decode cX6_wish 53 = .ok (.iconst 1, 1) := by decide +kernel
theorem dX6_wish_54 : decode cX6_wish 54 = .ok (.iload 5, 2) := by decide +kernel
theorem dX6_wish_56 : decode cX6_wish 56 = .ok (.ishl, 1) := by decide +kernel
theorem dX6_wish_57 : decode cX6_wish 57 = .ok (.goto 4, 3) := by decide +kernel
theorem dX6_wish_60 : decode cX6_wish 60 = .ok (.iconst 0, 1) := by decide +kernel
theorem dX6_wish_61 : decode cX6_wish 61 = .ok (.ior, 1) := by decide +kernel
theorem dX6_wish_62 : decode cX6_wish 62 = .ok (.istore_n 3, 1) := by decide +kernel
theorem dX6_wish_63 : decode cX6_wish 63 = .ok (.iload 4, 2) := by decide +kernel
theorem dX6_wish_65 : decode cX6_wish 65 = .ok (.aload_n 0, 1) := by decide +kernel
theorem dX6_wish_66 : decode cX6_wish 66 = .ok (.getfield 16, 3) := by decide +kernel
theorem dX6_wish_69 : decode cX6_wish 69 = .ok (.iload 5, 2) := by decide +kernel
theorem dX6_wish_71 : decode cX6_wish 71 = .ok (.iaload, 1) := by decide +kernel
theorem dX6_wish_72 : decode cX6_wish 72 = .ok (.bipush 100, 2) := by decide +kernel
theorem dX6_wish_74 : decode cX6_wish 74 = .ok (.if_icmp .ne 10, 3) := by decide +kernel
theorem dX6_wish_77 : decode cX6_wish 77 = .ok (.iconst 1, 1) := by decide +kernel
theorem dX6_wish_78 : decode cX6_wish 78 = .ok (.iload 5, 2) := by decide +kernel
theorem dX6_wish_80 : decode cX6_wish 80 = .ok (.ishl, 1) := by decide +kernel
theorem dX6_wish_81 : decode cX6_wish 81 = .ok (.goto 4, 3) := by decide +kernel
theorem dX6_wish_84 : decode cX6_wish 84 = .ok (.iconst 0, 1) := by decide +kernel
theorem dX6_wish_85 : decode cX6_wish 85 = .ok (.ior, 1) := by decide +kernel
theorem dX6_wish_86 : decode cX6_wish 86 = .ok (.istore 4, 2) := by decide +kernel
theorem dX6_wish_88 : decode cX6_wish 88 = .ok (.iinc 5 1, 3) := by decide +kernel
theorem dX6_wish_91 : decode cX6_wish 91 = .ok (.goto (-58), 3) := by decide +kernel
theorem dX6_wish_94 : decode cX6_wish 94 = .ok (.aload_n 0, 1) := by decide +kernel
theorem dX6_wish_95 : decode cX6_wish 95 = .ok (.getfield 7, 3) := by decide +kernel
theorem dX6_wish_98 : decode cX6_wish 98 = .ok (.bipush 94, 2) := by decide +kernel
theorem dX6_wish_100 : decode cX6_wish 100 = .ok (.iload_n 1, 1) := by decide +kernel
theorem dX6_wish_101 : decode cX6_wish 101 = .ok (.iadd, 1) := by decide +kernel
theorem dX6_wish_102 : decode cX6_wish 102 = .ok (.iload_n 3, 1) := by decide +kernel
theorem dX6_wish_103 : decode cX6_wish 103 = .ok (.iastore, 1) := by decide +kernel
theorem dX6_wish_104 : decode cX6_wish 104 = .ok (.aload_n 0, 1) := by decide +kernel
theorem dX6_wish_105 : decode cX6_wish 105 = .ok (.getfield 7, 3) := by decide +kernel
theorem dX6_wish_108 : decode cX6_wish 108 = .ok (.bipush 99, 2) := by decide +kernel
theorem dX6_wish_110 : decode cX6_wish 110 = .ok (.iload_n 1, 1) := by decide +kernel
theorem dX6_wish_111 : decode cX6_wish 111 = .ok (.iadd, 1) := by decide +kernel
theorem dX6_wish_112 : decode cX6_wish 112 = .ok (.iload 4, 2) := by decide +kernel
theorem dX6_wish_114 : decode cX6_wish 114 = .ok (.iastore, 1) := by decide +kernel
theorem dX6_wish_115 : decode cX6_wish 115 = .ok (.iload_n 3, 1) := by decide +kernel
theorem dX6_wish_116 : decode cX6_wish 116 = .ok (.iload 4, 2) := by decide +kernel
theorem dX6_wish_118 : decode cX6_wish 118 = .ok (.ior, 1) := by decide +kernel
theorem dX6_wish_119 : decode cX6_wish 119 = .ok (.invokestatic 98, 3) := by decide +kernel
theorem dX6_wish_122 : decode cX6_wish 122 = .ok (.ireturn, 1) := by decide +kernel
theorem dX6_line_0 : decode cX6_line 0 = .ok (.iload_n 1, 1) := by decide +kernel
theorem dX6_line_1 : decode cX6_line 1 = .ok (.i2l, 1) := by decide +kernel
theorem dX6_line_2 : decode cX6_line 2 = .ok (.lconst 1, 1) := by decide +kernel
theorem dX6_line_3 : decode cX6_line 3 = .ok (.ldc2_w 87, 3) := by decide +kernel
theorem dX6_line_6 : decode cX6_line 6 = .ok (.invokestatic 52, 3) := by decide +kernel
theorem dX6_line_9 : decode cX6_line 9 = .ok (.ifCond .ne 5, 3) := by decide +kernel
theorem dX6_line_12 : decode cX6_line 12 = .ok (.iconst (-1), 1) := by decide +kernel
theorem dX6_line_13 : decode cX6_line 13 = .ok (.ireturn, 1) := by decide +kernel
theorem dX6_line_14 : decode cX6_line 14 = .ok (.aload_n 0, 1) := by decide +kernel
theorem dX6_line_15 : decode cX6_line 15 = .ok (.getfield 7, 3) := by decide +kernel
theorem dX6_line_18 : decode cX6_line 18 = .ok (.bipush 104, 2) := by decide +kernel
theorem dX6_line_20 : decode cX6_line 20 = .ok (.iaload, 1) := by decide +kernel
theorem dX6_line_21 : decode cX6_line 21 = .ok (.istore_n 2, 1) := by decide +kernel
theorem dX6_line_22 : decode cX6_line 22 = .ok (.aload_n 0, 1) := by decide +kernel
theorem dX6_line_23 : decode cX6_line 23 = .ok (.getfield 7, 3) := by decide +kernel
theorem dX6_line_26 : decode cX6_line 26 = .ok (.bipush 104, 2) := by decide +kernel
theorem dX6_line_28 : decode cX6_line 28 = .ok (.iload_n 1, 1) := by decide +kernel
theorem dX6_line_29 : decode cX6_line 29 = .ok (.iastore, 1) := by decide +kernel
theorem dX6_line_30 : decode cX6_line 30 = .ok (.iload_n 2, 1) := by decide +kernel
theorem dX6_line_31 : decode cX6_line 31 = .ok (.ireturn, 1) := by decide +kernel
theorem dX6_way_0 : decode cX6_way 0 = .ok (.iload_n 1, 1) := by decide +kernel
theorem dX6_way_1 : decode cX6_way 1 = .ok (.i2l, 1) := by decide +kernel
theorem dX6_way_2 : decode cX6_way 2 = .ok (.lconst 0, 1) := by decide +kernel
theorem dX6_way_3 : decode cX6_way 3 = .ok (.lconst 1, 1) := by decide +kernel
theorem dX6_way_4 : decode cX6_way 4 = .ok (.invokestatic 52, 3) := by decide +kernel
theorem dX6_way_7 : decode cX6_way 7 = .ok (.ifCond .ne 5, 3) := by decide +kernel
end
section
theorem dX6_way_10 : decode cX6_way 10 = .ok (.iconst (-1), 1) := by decide +kernel
theorem dX6_way_11 : decode cX6_way 11 = .ok (.ireturn, 1) := by decide +kernel
theorem dX6_way_12 : decode cX6_way 12 = .ok (.aload_n 0, 1) := by decide +kernel
theorem dX6_way_13 : decode cX6_way 13 = .ok (.getfield 7, 3) := by decide +kernel
theorem dX6_way_16 : decode cX6_way 16 = .ok (.bipush 105, 2) := by decide +kernel
theorem dX6_way_18 : decode cX6_way 18 = .ok (.iaload, 1) := by decide +kernel
theorem dX6_way_19 : decode cX6_way 19 = .ok (.istore_n 2, 1) := by decide +kernel
theorem dX6_way_20 : decode cX6_way 20 = .ok (.aload_n 0, 1) := by decide +kernel
theorem dX6_way_21 : decode cX6_way 21 = .ok (.getfield 7, 3) := by decide +kernel
theorem dX6_way_24 : decode cX6_way 24 = .ok (.bipush 105, 2) := by decide +kernel
theorem dX6_way_26 : decode cX6_way 26 = .ok (.iload_n 1, 1) := by decide +kernel
theorem dX6_way_27 : decode cX6_way 27 = .ok (.iastore, 1) := by decide +kernel
theorem dX6_way_28 : decode cX6_way 28 = .ok (.iload_n 2, 1) := by decide +kernel
theorem dX6_way_29 : decode cX6_way 29 = .ok (.ireturn, 1) := by decide +kernel
theorem dX6_aheadOf_0 : decode cX6_aheadOf 0 = .ok (.iload_n 1, 1) := by decide +kernel
theorem dX6_aheadOf_1 : decode cX6_aheadOf 1 = .ok (.aload_n 0, 1) := by decide +kernel
theorem dX6_aheadOf_2 : decode cX6_aheadOf 2 = .ok (.getfield 7, 3) := by decide +kernel
theorem dX6_aheadOf_5 : decode cX6_aheadOf 5 = .ok (.bipush 105, 2) := by decide +kernel
theorem dX6_aheadOf_7 : decode cX6_aheadOf 7 = .ok (.iaload, 1) := by decide +kernel
theorem dX6_aheadOf_8 : decode cX6_aheadOf 8 = .ok (.ifCond .ne 8, 3) := by decide +kernel
theorem dX6_aheadOf_11 : decode cX6_aheadOf 11 = .ok (.bipush 11, 2) := by decide +kernel
theorem dX6_aheadOf_13 : decode cX6_aheadOf 13 = .ok (.goto 4, 3) := by decide +kernel
theorem dX6_aheadOf_16 : decode cX6_aheadOf 16 = .ok (.iconst 1, 1) := by decide +kernel
theorem dX6_aheadOf_17 : decode cX6_aheadOf 17 = .ok (.iadd, 1) := by decide +kernel
theorem dX6_aheadOf_18 : decode cX6_aheadOf 18 = .ok (.bipush 12, 2) := by decide +kernel
theorem dX6_aheadOf_20 : decode cX6_aheadOf 20 = .ok (.irem, 1) := by decide +kernel
theorem dX6_aheadOf_21 : decode cX6_aheadOf 21 = .ok (.ireturn, 1) := by decide +kernel
theorem dX6_behind_0 : decode cX6_behind 0 = .ok (.iload_n 1, 1) := by decide +kernel
theorem dX6_behind_1 : decode cX6_behind 1 = .ok (.aload_n 0, 1) := by decide +kernel
theorem dX6_behind_2 : decode cX6_behind 2 = .ok (.getfield 7, 3) := by decide +kernel
theorem dX6_behind_5 : decode cX6_behind 5 = .ok (.bipush 105, 2) := by decide +kernel
theorem dX6_behind_7 : decode cX6_behind 7 = .ok (.iaload, 1) := by decide +kernel
theorem dX6_behind_8 : decode cX6_behind 8 = .ok (.ifCond .ne 7, 3) := by decide +kernel
theorem dX6_behind_11 : decode cX6_behind 11 = .ok (.iconst 1, 1) := by decide +kernel
theorem dX6_behind_12 : decode cX6_behind 12 = .ok (.goto 5, 3) := by decide +kernel
theorem dX6_behind_15 : decode cX6_behind 15 = .ok (.bipush 11, 2) := by decide +kernel
theorem dX6_behind_17 : decode cX6_behind 17 = .ok (.iadd, 1) := by decide +kernel
theorem dX6_behind_18 : decode cX6_behind 18 = .ok (.bipush 12, 2) := by decide +kernel
theorem dX6_behind_20 : decode cX6_behind 20 = .ok (.irem, 1) := by decide +kernel
theorem dX6_behind_21 : decode cX6_behind 21 = .ok (.ireturn, 1) := by decide +kernel
theorem dX6_hairOf_0 : decode cX6_hairOf 0 = .ok (.aload_n 0, 1) := by decide +kernel
theorem dX6_hairOf_1 : decode cX6_hairOf 1 = .ok (.getfield 7, 3) := by decide +kernel
theorem dX6_hairOf_4 : decode cX6_hairOf 4 = .ok (.iconst 1, 1) := by decide +kernel
theorem dX6_hairOf_5 : decode cX6_hairOf 5 = .ok (.bipush 12, 2) := by decide +kernel
theorem dX6_hairOf_7 : decode cX6_hairOf 7 = .ok (.aload_n 0, 1) := by decide +kernel
theorem dX6_hairOf_8 : decode cX6_hairOf 8 = .ok (.getfield 7, 3) := by decide +kernel
theorem dX6_hairOf_11 : decode cX6_hairOf 11 = .ok (.bipush 79, 2) := by decide +kernel
theorem dX6_hairOf_13 : decode cX6_hairOf 13 = .ok (.iload_n 1, 1) := by decide +kernel
theorem dX6_hairOf_14 : decode cX6_hairOf 14 = .ok (.iadd, 1) := by decide +kernel
theorem dX6_hairOf_15 : decode cX6_hairOf 15 = .ok (.iaload, 1) := by decide +kernel
theorem dX6_hairOf_16 : decode cX6_hairOf 16 = .ok (.imul, 1) := by decide +kernel
theorem dX6_hairOf_17 : decode cX6_hairOf 17 = .ok (.iadd, 1) := by decide +kernel
theorem dX6_hairOf_18 : decode cX6_hairOf 18 = .ok (.iload_n 2, 1) := by decide +kernel
theorem dX6_hairOf_19 : decode cX6_hairOf 19 = .ok (.aload_n 0, 1) := by decide +kernel
theorem dX6_hairOf_20 : decode cX6_hairOf 20 = .ok (.getfield 7, 3) := by decide +kernel
theorem dX6_hairOf_23 : decode cX6_hairOf 23 = .ok (.bipush 84, 2) := by decide +kernel
theorem dX6_hairOf_25 : decode cX6_hairOf 25 = .ok (.iload_n 1, 1) := by decide +kernel
theorem dX6_hairOf_26 : decode cX6_hairOf 26 = .ok (.iadd, 1) := by decide +kernel
theorem dX6_hairOf_27 : decode cX6_hairOf 27 = .ok (.iaload, 1) := by decide +kernel
theorem dX6_hairOf_28 : decode cX6_hairOf 28 = .ok (.iadd, 1) := by decide +kernel
theorem dX6_hairOf_29 : decode cX6_hairOf 29 = .ok (.bipush 12, 2) := by decide +kernel
theorem dX6_hairOf_31 : decode cX6_hairOf 31 = .ok (.irem, 1) := by decide +kernel
theorem dX6_hairOf_32 : decode cX6_hairOf 32 = .ok (.iadd, 1) := by decide +kernel
theorem dX6_hairOf_33 : decode cX6_hairOf 33 = .ok (.iaload, 1) := by decide +kernel
theorem dX6_hairOf_34 : decode cX6_hairOf 34 = .ok (.ireturn, 1) := by decide +kernel
theorem dX6_heightOf_0 : decode cX6_heightOf 0 = .ok (.aload_n 0, 1) := by decide +kernel
theorem dX6_heightOf_1 : decode cX6_heightOf 1 = .ok (.iload_n 1, 1) := by decide +kernel
theorem dX6_heightOf_2 : decode cX6_heightOf 2 = .ok (.iload_n 2, 1) := by decide +kernel
theorem dX6_heightOf_3 : decode cX6_heightOf 3 = .ok (.invokevirtual 102, 3) := by decide +kernel
theorem dX6_heightOf_6 : decode cX6_heightOf 6 = .ok (.istore_n 3, 1) := by decide +kernel
theorem dX6_heightOf_7 : decode cX6_heightOf 7 = .ok (.aload_n 0, 1) := by decide +kernel
theorem dX6_heightOf_8 : decode cX6_heightOf 8 = .ok (.getfield 7, 3) := by decide +kernel
theorem dX6_heightOf_11 : decode cX6_heightOf 11 = .ok (.bipush 74, 2) := by decide +kernel
theorem dX6_heightOf_13 : decode cX6_heightOf 13 = .ok (.iload_n 1, 1) := by decide +kernel
theorem dX6_heightOf_14 : decode cX6_heightOf 14 = .ok (.iadd, 1) := by decide +kernel
theorem dX6_heightOf_15 : decode cX6_heightOf 15 = .ok (.iaload, 1) := by decide +kernel
theorem dX6_heightOf_16 : decode cX6_heightOf 16 = .ok (.tableswitch 121 1 3 #[28, 56, 32], 28) := by decide +kernel
theorem dX6_heightOf_44 : decode cX6_heightOf 44 = .ok (.iconst 2, 1) := by decide +kernel
theorem dX6_heightOf_45 : decode cX6_heightOf 45 = .ok (.iload_n 3, 1) := by decide +kernel
theorem dX6_heightOf_46 : decode cX6_heightOf 46 = .ok (.imul, 1) := by decide +kernel
theorem dX6_heightOf_47 : decode cX6_heightOf 47 = .ok (.ireturn, 1) := by decide +kernel
theorem dX6_heightOf_48 : decode cX6_heightOf 48 = .ok (.iconst 2, 1) := by decide +kernel
theorem dX6_heightOf_49 : decode cX6_heightOf 49 = .ok (.iload_n 3, 1) := by decide +kernel
theorem dX6_heightOf_50 : decode cX6_heightOf 50 = .ok (.imul, 1) := by decide +kernel
theorem dX6_heightOf_51 : decode cX6_heightOf 51 = .ok (.iload_n 3, 1) := by decide +kernel
theorem dX6_heightOf_52 : decode cX6_heightOf 52 = .ok (.aload_n 0, 1) := by decide +kernel
theorem dX6_heightOf_53 : decode cX6_heightOf 53 = .ok (.iload_n 1, 1) := by decide +kernel
theorem dX6_heightOf_54 : decode cX6_heightOf 54 = .ok (.aload_n 0, 1) := by decide +kernel
theorem dX6_heightOf_55 : decode cX6_heightOf 55 = .ok (.iload_n 2, 1) := by decide +kernel
theorem dX6_heightOf_56 : decode cX6_heightOf 56 = .ok (.invokevirtual 106, 3) := by decide +kernel
theorem dX6_heightOf_59 : decode cX6_heightOf 59 = .ok (.invokevirtual 102, 3) := by decide +kernel
theorem dX6_heightOf_62 : decode cX6_heightOf 62 = .ok (.if_icmp .le 7, 3) := by decide +kernel
theorem dX6_heightOf_65 : decode cX6_heightOf 65 = .ok (.iconst 1, 1) := by decide +kernel
theorem dX6_heightOf_66 : decode cX6_heightOf 66 = .ok (.goto 4, 3) := by decide +kernel
theorem dX6_heightOf_69 : decode cX6_heightOf 69 = .ok (.iconst 0, 1) := by decide +kernel
theorem dX6_heightOf_70 : decode cX6_heightOf 70 = .ok (.iadd, 1) := by decide +kernel
theorem dX6_heightOf_71 : decode cX6_heightOf 71 = .ok (.ireturn, 1) := by decide +kernel
theorem dX6_heightOf_72 : decode cX6_heightOf 72 = .ok (.iload_n 3, 1) := by decide +kernel
theorem dX6_heightOf_73 : decode cX6_heightOf 73 = .ok (.istore 4, 2) := by decide +kernel
theorem dX6_heightOf_75 : decode cX6_heightOf 75 = .ok (.iload_n 2, 1) := by decide +kernel
theorem dX6_heightOf_76 : decode cX6_heightOf 76 = .ok (.istore 5, 2) := by decide +kernel
theorem dX6_heightOf_78 : decode cX6_heightOf 78 = .ok (.iconst 1, 1) := by decide +kernel
theorem dX6_heightOf_79 : decode cX6_heightOf 79 = .ok (.istore 6, 2) := by decide +kernel
theorem dX6_heightOf_81 : decode cX6_heightOf 81 = .ok (.iload 6, 2) := by decide +kernel
theorem dX6_heightOf_83 : decode cX6_heightOf 83 = .ok (.bipush 12, 2) := by decide +kernel
theorem dX6_heightOf_85 : decode cX6_heightOf 85 = .ok (.if_icmp .ge 49, 3) := by decide +kernel
theorem dX6_heightOf_88 : decode cX6_heightOf 88 = .ok (.aload_n 0, 1) := by decide +kernel
theorem dX6_heightOf_89 : decode cX6_heightOf 89 = .ok (.iload 5, 2) := by decide +kernel
theorem dX6_heightOf_91 : decode cX6_heightOf 91 = .ok (.invokevirtual 106, 3) := by decide +kernel
theorem dX6_heightOf_94 : decode cX6_heightOf 94 = .ok (.istore 5, 2) := by decide +kernel
theorem dX6_heightOf_96 : decode cX6_heightOf 96 = .ok (.aload_n 0, 1) := by decide +kernel
theorem dX6_heightOf_97 : decode cX6_heightOf 97 = .ok (.iload_n 1, 1) := by decide +kernel
theorem dX6_heightOf_98 : decode cX6_heightOf 98 = .ok (.iload 5, 2) := by decide +kernel
theorem dX6_heightOf_100 : decode cX6_heightOf 100 = .ok (.invokevirtual 102, 3) := by decide +kernel
theorem dX6_heightOf_103 : decode cX6_heightOf 103 = .ok (.iload 6, 2) := by decide +kernel
theorem dX6_heightOf_105 : decode cX6_heightOf 105 = .ok (.isub, 1) := by decide +kernel
theorem dX6_heightOf_106 : decode cX6_heightOf 106 = .ok (.iload 4, 2) := by decide +kernel
theorem dX6_heightOf_108 : decode cX6_heightOf 108 = .ok (.if_icmp .le 16, 3) := by decide +kernel
theorem dX6_heightOf_111 : decode cX6_heightOf 111 = .ok (.aload_n 0, 1) := by decide +kernel
theorem dX6_heightOf_112 : decode cX6_heightOf 112 = .ok (.iload_n 1, 1) := by decide +kernel
theorem dX6_heightOf_113 : decode cX6_heightOf 113 = .ok (.iload 5, 2) := by decide +kernel
theorem dX6_heightOf_115 : decode cX6_heightOf 115 = .ok (.invokevirtual 102, 3) := by decide +kernel
theorem dX6_heightOf_118 : decode cX6_heightOf 118 = .ok (.iload 6, 2) := by decide +kernel
theorem dX6_heightOf_120 : decode cX6_heightOf 120 = .ok (.isub, 1) := by decide +kernel
theorem dX6_heightOf_121 : decode cX6_heightOf 121 = .ok (.goto 5, 3) := by decide +kernel
theorem dX6_heightOf_124 : decode cX6_heightOf 124 = .ok (.iload 4, 2) := by decide +kernel
theorem dX6_heightOf_126 : decode cX6_heightOf 126 = .ok (.istore 4, 2) := by decide +kernel
theorem dX6_heightOf_128 : decode cX6_heightOf 128 = .ok (.iinc 6 1, 3) := by decide +kernel
theorem dX6_heightOf_131 : decode cX6_heightOf 131 = .ok (.goto (-50), 3) := by decide +kernel
theorem dX6_heightOf_134 : decode cX6_heightOf 134 = .ok (.iload 4, 2) := by decide +kernel
theorem dX6_heightOf_136 : decode cX6_heightOf 136 = .ok (.ireturn, 1) := by decide +kernel
theorem dX6_heightOf_137 : decode cX6_heightOf 137 = .ok (.iload_n 3, 1) := by decide +kernel
theorem dX6_heightOf_138 : decode cX6_heightOf 138 = .ok (.ireturn, 1) := by decide +kernel
theorem dX6_upsOf_0 : decode cX6_upsOf 0 = .ok (.iconst 0, 1) := by decide +kernel
theorem dX6_upsOf_1 : decode cX6_upsOf 1 = .ok (.istore_n 2, 1) := by decide +kernel
theorem dX6_upsOf_2 : decode cX6_upsOf 2 = .ok (.iconst 0, 1) := by decide +kernel
theorem dX6_upsOf_3 : decode cX6_upsOf 3 = .ok (.istore_n 3, 1) := by decide +kernel
theorem dX6_upsOf_4 : decode cX6_upsOf 4 = .ok (.iload_n 3, 1) := by decide +kernel
theorem dX6_upsOf_5 : decode cX6_upsOf 5 = .ok (.bipush 12, 2) := by decide +kernel
theorem dX6_upsOf_7 : decode cX6_upsOf 7 = .ok (.if_icmp .ge 35, 3) := by decide +kernel
theorem dX6_upsOf_10 : decode cX6_upsOf 10 = .ok (.iload_n 2, 1) := by decide +kernel
theorem dX6_upsOf_11 : decode cX6_upsOf 11 = .ok (.aload_n 0, 1) := by decide +kernel
theorem dX6_upsOf_12 : decode cX6_upsOf 12 = .ok (.iload_n 1, 1) := by decide +kernel
theorem dX6_upsOf_13 : decode cX6_upsOf 13 = .ok (.iload_n 3, 1) := by decide +kernel
theorem dX6_upsOf_14 : decode cX6_upsOf 14 = .ok (.invokevirtual 109, 3) := by decide +kernel
theorem dX6_upsOf_17 : decode cX6_upsOf 17 = .ok (.aload_n 0, 1) := by decide +kernel
theorem dX6_upsOf_18 : decode cX6_upsOf 18 = .ok (.getfield 7, 3) := by decide +kernel
theorem dX6_upsOf_21 : decode cX6_upsOf 21 = .ok (.bipush 104, 2) := by decide +kernel
theorem dX6_upsOf_23 : decode cX6_upsOf 23 = .ok (.iaload, 1) := by decide +kernel
theorem dX6_upsOf_24 : decode cX6_upsOf 24 = .ok (.if_icmp .lt 9, 3) := by decide +kernel
theorem dX6_upsOf_27 : decode cX6_upsOf 27 = .ok (.iconst 1, 1) := by decide +kernel
theorem dX6_upsOf_28 : decode cX6_upsOf 28 = .ok (.iload_n 3, 1) := by decide +kernel
theorem dX6_upsOf_29 : decode cX6_upsOf 29 = .ok (.ishl, 1) := by decide +kernel
theorem dX6_upsOf_30 : decode cX6_upsOf 30 = .ok (.goto 4, 3) := by decide +kernel
theorem dX6_upsOf_33 : decode cX6_upsOf 33 = .ok (.iconst 0, 1) := by decide +kernel
theorem dX6_upsOf_34 : decode cX6_upsOf 34 = .ok (.ior, 1) := by decide +kernel
theorem dX6_upsOf_35 : decode cX6_upsOf 35 = .ok (.istore_n 2, 1) := by decide +kernel
theorem dX6_upsOf_36 : decode cX6_upsOf 36 = .ok (.iinc 3 1, 3) := by decide +kernel
theorem dX6_upsOf_39 : decode cX6_upsOf 39 = .ok (.goto (-35), 3) := by decide +kernel
theorem dX6_upsOf_42 : decode cX6_upsOf 42 = .ok (.iload_n 2, 1) := by decide +kernel
theorem dX6_upsOf_43 : decode cX6_upsOf 43 = .ok (.ireturn, 1) := by decide +kernel
theorem dX6_height_0 : decode cX6_height 0 = .ok (.aload_n 0, 1) := by decide +kernel
theorem dX6_height_1 : decode cX6_height 1 = .ok (.iload_n 1, 1) := by decide +kernel
theorem dX6_height_2 : decode cX6_height 2 = .ok (.invokevirtual 95, 3) := by decide +kernel
theorem dX6_height_5 : decode cX6_height 5 = .ok (.ifCond .eq 19, 3) := by decide +kernel
theorem dX6_height_8 : decode cX6_height 8 = .ok (.iload_n 2, 1) := by decide +kernel
theorem dX6_height_9 : decode cX6_height 9 = .ok (.invokestatic 84, 3) := by decide +kernel
theorem dX6_height_12 : decode cX6_height 12 = .ok (.ifCond .eq 12, 3) := by decide +kernel
theorem dX6_height_15 : decode cX6_height 15 = .ok (.aload_n 0, 1) := by decide +kernel
theorem dX6_height_16 : decode cX6_height 16 = .ok (.iload_n 1, 1) := by decide +kernel
theorem dX6_height_17 : decode cX6_height 17 = .ok (.iload_n 2, 1) := by decide +kernel
theorem dX6_height_18 : decode cX6_height 18 = .ok (.invokevirtual 109, 3) := by decide +kernel
theorem dX6_height_21 : decode cX6_height 21 = .ok (.goto 4, 3) := by decide +kernel
theorem dX6_height_24 : decode cX6_height 24 = .ok (.iconst (-1), 1) := by decide +kernel
theorem dX6_height_25 : decode cX6_height 25 = .ok (.ireturn, 1) := by decide +kernel
theorem dX6_ups_0 : decode cX6_ups 0 = .ok (.aload_n 0, 1) := by decide +kernel
theorem dX6_ups_1 : decode cX6_ups 1 = .ok (.iload_n 1, 1) := by decide +kernel
theorem dX6_ups_2 : decode cX6_ups 2 = .ok (.invokevirtual 95, 3) := by decide +kernel
theorem dX6_ups_5 : decode cX6_ups 5 = .ok (.ifCond .eq 11, 3) := by decide +kernel
theorem dX6_ups_8 : decode cX6_ups 8 = .ok (.aload_n 0, 1) := by decide +kernel
theorem dX6_ups_9 : decode cX6_ups 9 = .ok (.iload_n 1, 1) := by decide +kernel
theorem dX6_ups_10 : decode cX6_ups 10 = .ok (.invokevirtual 112, 3) := by decide +kernel
theorem dX6_ups_13 : decode cX6_ups 13 = .ok (.goto 4, 3) := by decide +kernel
theorem dX6_ups_16 : decode cX6_ups 16 = .ok (.iconst (-1), 1) := by decide +kernel
theorem dX6_ups_17 : decode cX6_ups 17 = .ok (.ireturn, 1) := by decide +kernel
theorem dX6_strikesOf_0 : decode cX6_strikesOf 0 = .ok (.aload_n 0, 1) := by decide +kernel
theorem dX6_strikesOf_1 : decode cX6_strikesOf 1 = .ok (.getfield 7, 3) := by decide +kernel
theorem dX6_strikesOf_4 : decode cX6_strikesOf 4 = .ok (.bipush 89, 2) := by decide +kernel
theorem dX6_strikesOf_6 : decode cX6_strikesOf 6 = .ok (.iload_n 1, 1) := by decide +kernel
theorem dX6_strikesOf_7 : decode cX6_strikesOf 7 = .ok (.iadd, 1) := by decide +kernel
theorem dX6_strikesOf_8 : decode cX6_strikesOf 8 = .ok (.iaload, 1) := by decide +kernel
theorem dX6_strikesOf_9 : decode cX6_strikesOf 9 = .ok (.aload_n 0, 1) := by decide +kernel
theorem dX6_strikesOf_10 : decode cX6_strikesOf 10 = .ok (.getfield 7, 3) := by decide +kernel
theorem dX6_strikesOf_13 : decode cX6_strikesOf 13 = .ok (.bipush 89, 2) := by decide +kernel
theorem dX6_strikesOf_15 : decode cX6_strikesOf 15 = .ok (.iload_n 2, 1) := by decide +kernel
theorem dX6_strikesOf_16 : decode cX6_strikesOf 16 = .ok (.iadd, 1) := by decide +kernel
theorem dX6_strikesOf_17 : decode cX6_strikesOf 17 = .ok (.iaload, 1) := by decide +kernel
theorem dX6_strikesOf_18 : decode cX6_strikesOf 18 = .ok (.if_icmp .eq 5, 3) := by decide +kernel
theorem dX6_strikesOf_21 : decode cX6_strikesOf 21 = .ok (.iconst 0, 1) := by decide +kernel
theorem dX6_strikesOf_22 : decode cX6_strikesOf 22 = .ok (.ireturn, 1) := by decide +kernel
theorem dX6_strikesOf_23 : decode cX6_strikesOf 23 = .ok (.aload_n 0, 1) := by decide +kernel
theorem dX6_strikesOf_24 : decode cX6_strikesOf 24 = .ok (.iload_n 1, 1) := by decide +kernel
theorem dX6_strikesOf_25 : decode cX6_strikesOf 25 = .ok (.invokevirtual 112, 3) := by decide +kernel
theorem dX6_strikesOf_28 : decode cX6_strikesOf 28 = .ok (.aload_n 0, 1) := by decide +kernel
theorem dX6_strikesOf_29 : decode cX6_strikesOf 29 = .ok (.iload_n 2, 1) := by decide +kernel
theorem dX6_strikesOf_30 : decode cX6_strikesOf 30 = .ok (.invokevirtual 112, 3) := by decide +kernel
theorem dX6_strikesOf_33 : decode cX6_strikesOf 33 = .ok (.iand, 1) := by decide +kernel
theorem dX6_strikesOf_34 : decode cX6_strikesOf 34 = .ok (.istore_n 3, 1) := by decide +kernel
theorem dX6_strikesOf_35 : decode cX6_strikesOf 35 = .ok (.iconst 0, 1) := by decide +kernel
theorem dX6_strikesOf_36 : decode cX6_strikesOf 36 = .ok (.istore 4, 2) := by decide +kernel
theorem dX6_strikesOf_38 : decode cX6_strikesOf 38 = .ok (.iconst 0, 1) := by decide +kernel
theorem dX6_strikesOf_39 : decode cX6_strikesOf 39 = .ok (.istore 5, 2) := by decide +kernel
theorem dX6_strikesOf_41 : decode cX6_strikesOf 41 = .ok (.iload 5, 2) := by decide +kernel
theorem dX6_strikesOf_43 : decode cX6_strikesOf 43 = .ok (.bipush 12, 2) := by decide +kernel
theorem dX6_strikesOf_45 : decode cX6_strikesOf 45 = .ok (.if_icmp .ge 44, 3) := by decide +kernel
theorem dX6_strikesOf_48 : decode cX6_strikesOf 48 = .ok (.iload 4, 2) := by decide +kernel
theorem dX6_strikesOf_50 : decode cX6_strikesOf 50 = .ok (.iload_n 3, 1) := by decide +kernel
theorem dX6_strikesOf_51 : decode cX6_strikesOf 51 = .ok (.iload 5, 2) := by decide +kernel
theorem dX6_strikesOf_53 : decode cX6_strikesOf 53 = .ok (.invokestatic 115, 3) := by decide +kernel
theorem dX6_strikesOf_56 : decode cX6_strikesOf 56 = .ok (.ifCond .eq 23, 3) := by decide +kernel
theorem dX6_strikesOf_59 : decode cX6_strikesOf 59 = .ok (.iload_n 3, 1) := by decide +kernel
theorem dX6_strikesOf_60 : decode cX6_strikesOf 60 = .ok (.aload_n 0, 1) := by decide +kernel
theorem dX6_strikesOf_61 : decode cX6_strikesOf 61 = .ok (.iload 5, 2) := by decide +kernel
theorem dX6_strikesOf_63 : decode cX6_strikesOf 63 = .ok (.invokevirtual 106, 3) := by decide +kernel
theorem dX6_strikesOf_66 : decode cX6_strikesOf 66 = .ok (.invokestatic 115, 3) := by decide +kernel
theorem dX6_strikesOf_69 : decode cX6_strikesOf 69 = .ok (.ifCond .ne 10, 3) := by decide +kernel
theorem dX6_strikesOf_72 : decode cX6_strikesOf 72 = .ok (.iconst 1, 1) := by decide +kernel
theorem dX6_strikesOf_73 : decode cX6_strikesOf 73 = .ok (.iload 5, 2) := by decide +kernel
theorem dX6_strikesOf_75 : decode cX6_strikesOf 75 = .ok (.ishl, 1) := by decide +kernel
theorem dX6_strikesOf_76 : decode cX6_strikesOf 76 = .ok (.goto 4, 3) := by decide +kernel
theorem dX6_strikesOf_79 : decode cX6_strikesOf 79 = .ok (.iconst 0, 1) := by decide +kernel
theorem dX6_strikesOf_80 : decode cX6_strikesOf 80 = .ok (.ior, 1) := by decide +kernel
theorem dX6_strikesOf_81 : decode cX6_strikesOf 81 = .ok (.istore 4, 2) := by decide +kernel
theorem dX6_strikesOf_83 : decode cX6_strikesOf 83 = .ok (.iinc 5 1, 3) := by decide +kernel
theorem dX6_strikesOf_86 : decode cX6_strikesOf 86 = .ok (.goto (-45), 3) := by decide +kernel
theorem dX6_strikesOf_89 : decode cX6_strikesOf 89 = .ok (.iload 4, 2) := by decide +kernel
theorem dX6_strikesOf_91 : decode cX6_strikesOf 91 = .ok (.ireturn, 1) := by decide +kernel
theorem dX6_strikes_0 : decode cX6_strikes 0 = .ok (.aload_n 0, 1) := by decide +kernel
theorem dX6_strikes_1 : decode cX6_strikes 1 = .ok (.iload_n 1, 1) := by decide +kernel
theorem dX6_strikes_2 : decode cX6_strikes 2 = .ok (.invokevirtual 95, 3) := by decide +kernel
theorem dX6_strikes_5 : decode cX6_strikes 5 = .ok (.ifCond .eq 25, 3) := by decide +kernel
theorem dX6_strikes_8 : decode cX6_strikes 8 = .ok (.aload_n 0, 1) := by decide +kernel
theorem dX6_strikes_9 : decode cX6_strikes 9 = .ok (.iload_n 2, 1) := by decide +kernel
theorem dX6_strikes_10 : decode cX6_strikes 10 = .ok (.invokevirtual 95, 3) := by decide +kernel
theorem dX6_strikes_13 : decode cX6_strikes 13 = .ok (.ifCond .eq 17, 3) := by decide +kernel
theorem dX6_strikes_16 : decode cX6_strikes 16 = .ok (.iload_n 1, 1) := by decide +kernel
theorem dX6_strikes_17 : decode cX6_strikes 17 = .ok (.iload_n 2, 1) := by decide +kernel
theorem dX6_strikes_18 : decode cX6_strikes 18 = .ok (.if_icmp .eq 12, 3) := by decide +kernel
theorem dX6_strikes_21 : decode cX6_strikes 21 = .ok (.aload_n 0, 1) := by decide +kernel
theorem dX6_strikes_22 : decode cX6_strikes 22 = .ok (.iload_n 1, 1) := by decide +kernel
theorem dX6_strikes_23 : decode cX6_strikes 23 = .ok (.iload_n 2, 1) := by decide +kernel
theorem dX6_strikes_24 : decode cX6_strikes 24 = .ok (.invokevirtual 118, 3) := by decide +kernel
theorem dX6_strikes_27 : decode cX6_strikes 27 = .ok (.goto 4, 3) := by decide +kernel
theorem dX6_strikes_30 : decode cX6_strikes 30 = .ok (.iconst (-1), 1) := by decide +kernel
theorem dX6_strikes_31 : decode cX6_strikes 31 = .ok (.ireturn, 1) := by decide +kernel
theorem dX6_turn_0 : decode cX6_turn 0 = .ok (.iload_n 1, 1) := by decide +kernel
theorem dX6_turn_1 : decode cX6_turn 1 = .ok (.i2l, 1) := by decide +kernel
theorem dX6_turn_2 : decode cX6_turn 2 = .ok (.lconst 1, 1) := by decide +kernel
theorem dX6_turn_3 : decode cX6_turn 3 = .ok (.ldc2_w 121, 3) := by decide +kernel
theorem dX6_turn_6 : decode cX6_turn 6 = .ok (.invokestatic 52, 3) := by decide +kernel
theorem dX6_turn_9 : decode cX6_turn 9 = .ok (.ifCond .ne 5, 3) := by decide +kernel
theorem dX6_turn_12 : decode cX6_turn 12 = .ok (.iconst (-1), 1) := by decide +kernel
theorem dX6_turn_13 : decode cX6_turn 13 = .ok (.ireturn, 1) := by decide +kernel
theorem dX6_turn_14 : decode cX6_turn 14 = .ok (.iconst 0, 1) := by decide +kernel
theorem dX6_turn_15 : decode cX6_turn 15 = .ok (.istore_n 2, 1) := by decide +kernel
theorem dX6_turn_16 : decode cX6_turn 16 = .ok (.iconst 0, 1) := by decide +kernel
theorem dX6_turn_17 : decode cX6_turn 17 = .ok (.istore_n 3, 1) := by decide +kernel
theorem dX6_turn_18 : decode cX6_turn 18 = .ok (.iload_n 3, 1) := by decide +kernel
theorem dX6_turn_19 : decode cX6_turn 19 = .ok (.aload_n 0, 1) := by decide +kernel
theorem dX6_turn_20 : decode cX6_turn 20 = .ok (.getfield 7, 3) := by decide +kernel
theorem dX6_turn_23 : decode cX6_turn 23 = .ok (.bipush 73, 2) := by decide +kernel
theorem dX6_turn_25 : decode cX6_turn 25 = .ok (.iaload, 1) := by decide +kernel
theorem dX6_turn_26 : decode cX6_turn 26 = .ok (.if_icmp .ge 99, 3) := by decide +kernel
theorem dX6_turn_29 : decode cX6_turn 29 = .ok (.iload_n 3, 1) := by decide +kernel
theorem dX6_turn_30 : decode cX6_turn 30 = .ok (.iconst 1, 1) := by decide +kernel
theorem dX6_turn_31 : decode cX6_turn 31 = .ok (.iadd, 1) := by decide +kernel
theorem dX6_turn_32 : decode cX6_turn 32 = .ok (.istore 4, 2) := by decide +kernel
theorem dX6_turn_34 : decode cX6_turn 34 = .ok (.iload 4, 2) := by decide +kernel
theorem dX6_turn_36 : decode cX6_turn 36 = .ok (.aload_n 0, 1) := by decide +kernel
theorem dX6_turn_37 : decode cX6_turn 37 = .ok (.getfield 7, 3) := by decide +kernel
theorem dX6_turn_40 : decode cX6_turn 40 = .ok (.bipush 73, 2) := by decide +kernel
theorem dX6_turn_42 : decode cX6_turn 42 = .ok (.iaload, 1) := by decide +kernel
theorem dX6_turn_43 : decode cX6_turn 43 = .ok (.if_icmp .ge 76, 3) := by decide +kernel
theorem dX6_turn_46 : decode cX6_turn 46 = .ok (.aload_n 0, 1) := by decide +kernel
theorem dX6_turn_47 : decode cX6_turn 47 = .ok (.iload_n 3, 1) := by decide +kernel
theorem dX6_turn_48 : decode cX6_turn 48 = .ok (.iload 4, 2) := by decide +kernel
theorem dX6_turn_50 : decode cX6_turn 50 = .ok (.invokevirtual 118, 3) := by decide +kernel
theorem dX6_turn_53 : decode cX6_turn 53 = .ok (.istore 5, 2) := by decide +kernel
theorem dX6_turn_55 : decode cX6_turn 55 = .ok (.aload_n 0, 1) := by decide +kernel
theorem dX6_turn_56 : decode cX6_turn 56 = .ok (.getfield 7, 3) := by decide +kernel
theorem dX6_turn_59 : decode cX6_turn 59 = .ok (.bipush 106, 2) := by decide +kernel
theorem dX6_turn_61 : decode cX6_turn 61 = .ok (.iaload, 1) := by decide +kernel
theorem dX6_turn_62 : decode cX6_turn 62 = .ok (.istore 6, 2) := by decide +kernel
theorem dX6_turn_64 : decode cX6_turn 64 = .ok (.iload_n 2, 1) := by decide +kernel
theorem dX6_turn_65 : decode cX6_turn 65 = .ok (.iload_n 1, 1) := by decide +kernel
theorem dX6_turn_66 : decode cX6_turn 66 = .ok (.bipush 12, 2) := by decide +kernel
theorem dX6_turn_68 : decode cX6_turn 68 = .ok (.idiv, 1) := by decide +kernel
theorem dX6_turn_69 : decode cX6_turn 69 = .ok (.iload 5, 2) := by decide +kernel
theorem dX6_turn_71 : decode cX6_turn 71 = .ok (.invokestatic 98, 3) := by decide +kernel
theorem dX6_turn_74 : decode cX6_turn 74 = .ok (.imul, 1) := by decide +kernel
theorem dX6_turn_75 : decode cX6_turn 75 = .ok (.iadd, 1) := by decide +kernel
theorem dX6_turn_76 : decode cX6_turn 76 = .ok (.istore_n 2, 1) := by decide +kernel
theorem dX6_turn_77 : decode cX6_turn 77 = .ok (.iconst 0, 1) := by decide +kernel
theorem dX6_turn_78 : decode cX6_turn 78 = .ok (.istore 7, 2) := by decide +kernel
theorem dX6_turn_80 : decode cX6_turn 80 = .ok (.iload 7, 2) := by decide +kernel
theorem dX6_turn_82 : decode cX6_turn 82 = .ok (.iload_n 1, 1) := by decide +kernel
theorem dX6_turn_83 : decode cX6_turn 83 = .ok (.bipush 12, 2) := by decide +kernel
theorem dX6_turn_85 : decode cX6_turn 85 = .ok (.irem, 1) := by decide +kernel
theorem dX6_turn_86 : decode cX6_turn 86 = .ok (.if_icmp .ge 27, 3) := by decide +kernel
theorem dX6_turn_89 : decode cX6_turn 89 = .ok (.aload_n 0, 1) := by decide +kernel
theorem dX6_turn_90 : decode cX6_turn 90 = .ok (.iload 6, 2) := by decide +kernel
theorem dX6_turn_92 : decode cX6_turn 92 = .ok (.invokevirtual 123, 3) := by decide +kernel
theorem dX6_turn_95 : decode cX6_turn 95 = .ok (.istore 6, 2) := by decide +kernel
theorem dX6_turn_97 : decode cX6_turn 97 = .ok (.iload_n 2, 1) := by decide +kernel
theorem dX6_turn_98 : decode cX6_turn 98 = .ok (.iload 5, 2) := by decide +kernel
theorem dX6_turn_100 : decode cX6_turn 100 = .ok (.iload 6, 2) := by decide +kernel
theorem dX6_turn_102 : decode cX6_turn 102 = .ok (.ishr, 1) := by decide +kernel
theorem dX6_turn_103 : decode cX6_turn 103 = .ok (.iconst 1, 1) := by decide +kernel
theorem dX6_turn_104 : decode cX6_turn 104 = .ok (.iand, 1) := by decide +kernel
theorem dX6_turn_105 : decode cX6_turn 105 = .ok (.iadd, 1) := by decide +kernel
theorem dX6_turn_106 : decode cX6_turn 106 = .ok (.istore_n 2, 1) := by decide +kernel
theorem dX6_turn_107 : decode cX6_turn 107 = .ok (.iinc 7 1, 3) := by decide +kernel
theorem dX6_turn_110 : decode cX6_turn 110 = .ok (.goto (-30), 3) := by decide +kernel
theorem dX6_turn_113 : decode cX6_turn 113 = .ok (.iinc 4 1, 3) := by decide +kernel
theorem dX6_turn_116 : decode cX6_turn 116 = .ok (.goto (-82), 3) := by decide +kernel
theorem dX6_turn_119 : decode cX6_turn 119 = .ok (.iinc 3 1, 3) := by decide +kernel
theorem dX6_turn_122 : decode cX6_turn 122 = .ok (.goto (-104), 3) := by decide +kernel
theorem dX6_turn_125 : decode cX6_turn 125 = .ok (.iconst 0, 1) := by decide +kernel
theorem dX6_turn_126 : decode cX6_turn 126 = .ok (.istore_n 3, 1) := by decide +kernel
theorem dX6_turn_127 : decode cX6_turn 127 = .ok (.iload_n 3, 1) := by decide +kernel
theorem dX6_turn_128 : decode cX6_turn 128 = .ok (.iload_n 1, 1) := by decide +kernel
theorem dX6_turn_129 : decode cX6_turn 129 = .ok (.bipush 12, 2) := by decide +kernel
theorem dX6_turn_131 : decode cX6_turn 131 = .ok (.irem, 1) := by decide +kernel
theorem dX6_turn_132 : decode cX6_turn 132 = .ok (.if_icmp .ge 27, 3) := by decide +kernel
theorem dX6_turn_135 : decode cX6_turn 135 = .ok (.aload_n 0, 1) := by decide +kernel
theorem dX6_turn_136 : decode cX6_turn 136 = .ok (.getfield 7, 3) := by decide +kernel
theorem dX6_turn_139 : decode cX6_turn 139 = .ok (.bipush 106, 2) := by decide +kernel
theorem dX6_turn_141 : decode cX6_turn 141 = .ok (.aload_n 0, 1) := by decide +kernel
theorem dX6_turn_142 : decode cX6_turn 142 = .ok (.aload_n 0, 1) := by decide +kernel
theorem dX6_turn_143 : decode cX6_turn 143 = .ok (.getfield 7, 3) := by decide +kernel
theorem dX6_turn_146 : decode cX6_turn 146 = .ok (.bipush 106, 2) := by decide +kernel
theorem dX6_turn_148 : decode cX6_turn 148 = .ok (.iaload, 1) := by decide +kernel
theorem dX6_turn_149 : decode cX6_turn 149 = .ok (.invokevirtual 123, 3) := by decide +kernel
theorem dX6_turn_152 : decode cX6_turn 152 = .ok (.iastore, 1) := by decide +kernel
theorem dX6_turn_153 : decode cX6_turn 153 = .ok (.iinc 3 1, 3) := by decide +kernel
theorem dX6_turn_156 : decode cX6_turn 156 = .ok (.goto (-29), 3) := by decide +kernel
theorem dX6_turn_159 : decode cX6_turn 159 = .ok (.aload_n 0, 1) := by decide +kernel
theorem dX6_turn_160 : decode cX6_turn 160 = .ok (.getfield 7, 3) := by decide +kernel
theorem dX6_turn_163 : decode cX6_turn 163 = .ok (.bipush 107, 2) := by decide +kernel
theorem dX6_turn_165 : decode cX6_turn 165 = .ok (.aload_n 0, 1) := by decide +kernel
theorem dX6_turn_166 : decode cX6_turn 166 = .ok (.getfield 7, 3) := by decide +kernel
theorem dX6_turn_169 : decode cX6_turn 169 = .ok (.bipush 107, 2) := by decide +kernel
theorem dX6_turn_171 : decode cX6_turn 171 = .ok (.iaload, 1) := by decide +kernel
theorem dX6_turn_172 : decode cX6_turn 172 = .ok (.iload_n 1, 1) := by decide +kernel
theorem dX6_turn_173 : decode cX6_turn 173 = .ok (.iadd, 1) := by decide +kernel
theorem dX6_turn_174 : decode cX6_turn 174 = .ok (.ldc 126, 2) := by decide +kernel
theorem dX6_turn_176 : decode cX6_turn 176 = .ok (.if_icmp .le 8, 3) := by decide +kernel
theorem dX6_turn_179 : decode cX6_turn 179 = .ok (.ldc 126, 2) := by decide +kernel
theorem dX6_turn_181 : decode cX6_turn 181 = .ok (.goto 12, 3) := by decide +kernel
theorem dX6_turn_184 : decode cX6_turn 184 = .ok (.aload_n 0, 1) := by decide +kernel
theorem dX6_turn_185 : decode cX6_turn 185 = .ok (.getfield 7, 3) := by decide +kernel
theorem dX6_turn_188 : decode cX6_turn 188 = .ok (.bipush 107, 2) := by decide +kernel
theorem dX6_turn_190 : decode cX6_turn 190 = .ok (.iaload, 1) := by decide +kernel
theorem dX6_turn_191 : decode cX6_turn 191 = .ok (.iload_n 1, 1) := by decide +kernel
theorem dX6_turn_192 : decode cX6_turn 192 = .ok (.iadd, 1) := by decide +kernel
theorem dX6_turn_193 : decode cX6_turn 193 = .ok (.iastore, 1) := by decide +kernel
theorem dX6_turn_194 : decode cX6_turn 194 = .ok (.iload_n 2, 1) := by decide +kernel
theorem dX6_turn_195 : decode cX6_turn 195 = .ok (.ireturn, 1) := by decide +kernel
theorem dX6_wear_0 : decode cX6_wear 0 = .ok (.iload_n 1, 1) := by decide +kernel
theorem dX6_wear_1 : decode cX6_wear 1 = .ok (.i2l, 1) := by decide +kernel
theorem dX6_wear_2 : decode cX6_wear 2 = .ok (.lconst 1, 1) := by decide +kernel
theorem dX6_wear_3 : decode cX6_wear 3 = .ok (.ldc2_w 87, 3) := by decide +kernel
theorem dX6_wear_6 : decode cX6_wear 6 = .ok (.invokestatic 52, 3) := by decide +kernel
theorem dX6_wear_9 : decode cX6_wear 9 = .ok (.ifCond .ne 5, 3) := by decide +kernel
theorem dX6_wear_12 : decode cX6_wear 12 = .ok (.iconst (-1), 1) := by decide +kernel
theorem dX6_wear_13 : decode cX6_wear 13 = .ok (.ireturn, 1) := by decide +kernel
theorem dX6_wear_14 : decode cX6_wear 14 = .ok (.bipush 12, 2) := by decide +kernel
theorem dX6_wear_16 : decode cX6_wear 16 = .ok (.aload_n 0, 1) := by decide +kernel
theorem dX6_wear_17 : decode cX6_wear 17 = .ok (.getfield 7, 3) := by decide +kernel
theorem dX6_wear_20 : decode cX6_wear 20 = .ok (.iconst 0, 1) := by decide +kernel
theorem dX6_wear_21 : decode cX6_wear 21 = .ok (.iaload, 1) := by decide +kernel
theorem dX6_wear_22 : decode cX6_wear 22 = .ok (.imul, 1) := by decide +kernel
theorem dX6_wear_23 : decode cX6_wear 23 = .ok (.istore_n 2, 1) := by decide +kernel
theorem dX6_wear_24 : decode cX6_wear 24 = .ok (.iconst 0, 1) := by decide +kernel
theorem dX6_wear_25 : decode cX6_wear 25 = .ok (.istore_n 3, 1) := by decide +kernel
theorem dX6_wear_26 : decode cX6_wear 26 = .ok (.iload_n 3, 1) := by decide +kernel
theorem dX6_wear_27 : decode cX6_wear 27 = .ok (.iload_n 2, 1) := by decide +kernel
theorem dX6_wear_28 : decode cX6_wear 28 = .ok (.if_icmp .ge 23, 3) := by decide +kernel
theorem dX6_wear_31 : decode cX6_wear 31 = .ok (.aload_n 0, 1) := by decide +kernel
theorem dX6_wear_32 : decode cX6_wear 32 = .ok (.getfield 22, 3) := by decide +kernel
theorem dX6_wear_35 : decode cX6_wear 35 = .ok (.iload_n 3, 1) := by decide +kernel
theorem dX6_wear_36 : decode cX6_wear 36 = .ok (.aload_n 0, 1) := by decide +kernel
theorem dX6_wear_37 : decode cX6_wear 37 = .ok (.getfield 7, 3) := by decide +kernel
theorem dX6_wear_40 : decode cX6_wear 40 = .ok (.iconst 1, 1) := by decide +kernel
theorem dX6_wear_41 : decode cX6_wear 41 = .ok (.iload_n 3, 1) := by decide +kernel
theorem dX6_wear_42 : decode cX6_wear 42 = .ok (.iadd, 1) := by decide +kernel
theorem dX6_wear_43 : decode cX6_wear 43 = .ok (.iaload, 1) := by decide +kernel
theorem dX6_wear_44 : decode cX6_wear 44 = .ok (.iastore, 1) := by decide +kernel
theorem dX6_wear_45 : decode cX6_wear 45 = .ok (.iinc 3 1, 3) := by decide +kernel
theorem dX6_wear_48 : decode cX6_wear 48 = .ok (.goto (-22), 3) := by decide +kernel
theorem dX6_wear_51 : decode cX6_wear 51 = .ok (.iconst 0, 1) := by decide +kernel
theorem dX6_wear_52 : decode cX6_wear 52 = .ok (.istore_n 3, 1) := by decide +kernel
theorem dX6_wear_53 : decode cX6_wear 53 = .ok (.iload_n 3, 1) := by decide +kernel
theorem dX6_wear_54 : decode cX6_wear 54 = .ok (.iload_n 1, 1) := by decide +kernel
theorem dX6_wear_55 : decode cX6_wear 55 = .ok (.if_icmp .ge 109, 3) := by decide +kernel
theorem dX6_wear_58 : decode cX6_wear 58 = .ok (.iconst 0, 1) := by decide +kernel
theorem dX6_wear_59 : decode cX6_wear 59 = .ok (.istore 4, 2) := by decide +kernel
theorem dX6_wear_61 : decode cX6_wear 61 = .ok (.iload 4, 2) := by decide +kernel
theorem dX6_wear_63 : decode cX6_wear 63 = .ok (.iload_n 2, 1) := by decide +kernel
theorem dX6_wear_64 : decode cX6_wear 64 = .ok (.if_icmp .ge 25, 3) := by decide +kernel
theorem dX6_wear_67 : decode cX6_wear 67 = .ok (.aload_n 0, 1) := by decide +kernel
theorem dX6_wear_68 : decode cX6_wear 68 = .ok (.getfield 19, 3) := by decide +kernel
theorem dX6_wear_71 : decode cX6_wear 71 = .ok (.iload 4, 2) := by decide +kernel
theorem dX6_wear_73 : decode cX6_wear 73 = .ok (.aload_n 0, 1) := by decide +kernel
theorem dX6_wear_74 : decode cX6_wear 74 = .ok (.getfield 7, 3) := by decide +kernel
theorem dX6_wear_77 : decode cX6_wear 77 = .ok (.iconst 1, 1) := by decide +kernel
theorem dX6_wear_78 : decode cX6_wear 78 = .ok (.iload 4, 2) := by decide +kernel
theorem dX6_wear_80 : decode cX6_wear 80 = .ok (.iadd, 1) := by decide +kernel
theorem dX6_wear_81 : decode cX6_wear 81 = .ok (.iaload, 1) := by decide +kernel
theorem dX6_wear_82 : decode cX6_wear 82 = .ok (.iastore, 1) := by decide +kernel
theorem dX6_wear_83 : decode cX6_wear 83 = .ok (.iinc 4 1, 3) := by decide +kernel
theorem dX6_wear_86 : decode cX6_wear 86 = .ok (.goto (-25), 3) := by decide +kernel
theorem dX6_wear_89 : decode cX6_wear 89 = .ok (.iconst 0, 1) := by decide +kernel
theorem dX6_wear_90 : decode cX6_wear 90 = .ok (.istore 4, 2) := by decide +kernel
theorem dX6_wear_92 : decode cX6_wear 92 = .ok (.iload 4, 2) := by decide +kernel
theorem dX6_wear_94 : decode cX6_wear 94 = .ok (.iload_n 2, 1) := by decide +kernel
theorem dX6_wear_95 : decode cX6_wear 95 = .ok (.if_icmp .ge 63, 3) := by decide +kernel
theorem dX6_wear_98 : decode cX6_wear 98 = .ok (.iload 4, 2) := by decide +kernel
theorem dX6_wear_100 : decode cX6_wear 100 = .ok (.bipush 12, 2) := by decide +kernel
theorem dX6_wear_102 : decode cX6_wear 102 = .ok (.idiv, 1) := by decide +kernel
theorem dX6_wear_103 : decode cX6_wear 103 = .ok (.bipush 12, 2) := by decide +kernel
theorem dX6_wear_105 : decode cX6_wear 105 = .ok (.imul, 1) := by decide +kernel
theorem dX6_wear_106 : decode cX6_wear 106 = .ok (.iload 4, 2) := by decide +kernel
theorem dX6_wear_108 : decode cX6_wear 108 = .ok (.iconst 1, 1) := by decide +kernel
theorem dX6_wear_109 : decode cX6_wear 109 = .ok (.iadd, 1) := by decide +kernel
theorem dX6_wear_110 : decode cX6_wear 110 = .ok (.bipush 12, 2) := by decide +kernel
theorem dX6_wear_112 : decode cX6_wear 112 = .ok (.irem, 1) := by decide +kernel
theorem dX6_wear_113 : decode cX6_wear 113 = .ok (.iadd, 1) := by decide +kernel
theorem dX6_wear_114 : decode cX6_wear 114 = .ok (.istore 5, 2) := by decide +kernel
theorem dX6_wear_116 : decode cX6_wear 116 = .ok (.aload_n 0, 1) := by decide +kernel
theorem dX6_wear_117 : decode cX6_wear 117 = .ok (.getfield 7, 3) := by decide +kernel
theorem dX6_wear_120 : decode cX6_wear 120 = .ok (.iconst 1, 1) := by decide +kernel
theorem dX6_wear_121 : decode cX6_wear 121 = .ok (.iload 4, 2) := by decide +kernel
theorem dX6_wear_123 : decode cX6_wear 123 = .ok (.iadd, 1) := by decide +kernel
theorem dX6_wear_124 : decode cX6_wear 124 = .ok (.dup2, 1) := by decide +kernel
theorem dX6_wear_125 : decode cX6_wear 125 = .ok (.iaload, 1) := by decide +kernel
theorem dX6_wear_126 : decode cX6_wear 126 = .ok (.aload_n 0, 1) := by decide +kernel
theorem dX6_wear_127 : decode cX6_wear 127 = .ok (.getfield 19, 3) := by decide +kernel
theorem dX6_wear_130 : decode cX6_wear 130 = .ok (.iload 4, 2) := by decide +kernel
theorem dX6_wear_132 : decode cX6_wear 132 = .ok (.iaload, 1) := by decide +kernel
theorem dX6_wear_133 : decode cX6_wear 133 = .ok (.aload_n 0, 1) := by decide +kernel
theorem dX6_wear_134 : decode cX6_wear 134 = .ok (.getfield 19, 3) := by decide +kernel
theorem dX6_wear_137 : decode cX6_wear 137 = .ok (.iload 5, 2) := by decide +kernel
theorem dX6_wear_139 : decode cX6_wear 139 = .ok (.iaload, 1) := by decide +kernel
theorem dX6_wear_140 : decode cX6_wear 140 = .ok (.isub, 1) := by decide +kernel
theorem dX6_wear_141 : decode cX6_wear 141 = .ok (.iconst 2, 1) := by decide +kernel
theorem dX6_wear_142 : decode cX6_wear 142 = .ok (.if_icmp .le 7, 3) := by decide +kernel
theorem dX6_wear_145 : decode cX6_wear 145 = .ok (.iconst 1, 1) := by decide +kernel
theorem dX6_wear_146 : decode cX6_wear 146 = .ok (.goto 4, 3) := by decide +kernel
theorem dX6_wear_149 : decode cX6_wear 149 = .ok (.iconst 0, 1) := by decide +kernel
theorem dX6_wear_150 : decode cX6_wear 150 = .ok (.isub, 1) := by decide +kernel
theorem dX6_wear_151 : decode cX6_wear 151 = .ok (.iastore, 1) := by decide +kernel
theorem dX6_wear_152 : decode cX6_wear 152 = .ok (.iinc 4 1, 3) := by decide +kernel
theorem dX6_wear_155 : decode cX6_wear 155 = .ok (.goto (-63), 3) := by decide +kernel
theorem dX6_wear_158 : decode cX6_wear 158 = .ok (.iinc 3 1, 3) := by decide +kernel
theorem dX6_wear_161 : decode cX6_wear 161 = .ok (.goto (-108), 3) := by decide +kernel
theorem dX6_wear_164 : decode cX6_wear 164 = .ok (.iconst 0, 1) := by decide +kernel
theorem dX6_wear_165 : decode cX6_wear 165 = .ok (.istore_n 3, 1) := by decide +kernel
theorem dX6_wear_166 : decode cX6_wear 166 = .ok (.iconst 0, 1) := by decide +kernel
theorem dX6_wear_167 : decode cX6_wear 167 = .ok (.istore 4, 2) := by decide +kernel
theorem dX6_wear_169 : decode cX6_wear 169 = .ok (.iload 4, 2) := by decide +kernel
theorem dX6_wear_171 : decode cX6_wear 171 = .ok (.iload_n 2, 1) := by decide +kernel
theorem dX6_wear_172 : decode cX6_wear 172 = .ok (.if_icmp .ge 36, 3) := by decide +kernel
theorem dX6_wear_175 : decode cX6_wear 175 = .ok (.iload_n 3, 1) := by decide +kernel
theorem dX6_wear_176 : decode cX6_wear 176 = .ok (.aload_n 0, 1) := by decide +kernel
theorem dX6_wear_177 : decode cX6_wear 177 = .ok (.getfield 7, 3) := by decide +kernel
theorem dX6_wear_180 : decode cX6_wear 180 = .ok (.iconst 1, 1) := by decide +kernel
theorem dX6_wear_181 : decode cX6_wear 181 = .ok (.iload 4, 2) := by decide +kernel
theorem dX6_wear_183 : decode cX6_wear 183 = .ok (.iadd, 1) := by decide +kernel
theorem dX6_wear_184 : decode cX6_wear 184 = .ok (.iaload, 1) := by decide +kernel
theorem dX6_wear_185 : decode cX6_wear 185 = .ok (.aload_n 0, 1) := by decide +kernel
theorem dX6_wear_186 : decode cX6_wear 186 = .ok (.getfield 22, 3) := by decide +kernel
theorem dX6_wear_189 : decode cX6_wear 189 = .ok (.iload 4, 2) := by decide +kernel
theorem dX6_wear_191 : decode cX6_wear 191 = .ok (.iaload, 1) := by decide +kernel
theorem dX6_wear_192 : decode cX6_wear 192 = .ok (.if_icmp .ge 7, 3) := by decide +kernel
theorem dX6_wear_195 : decode cX6_wear 195 = .ok (.iconst 1, 1) := by decide +kernel
theorem dX6_wear_196 : decode cX6_wear 196 = .ok (.goto 4, 3) := by decide +kernel
theorem dX6_wear_199 : decode cX6_wear 199 = .ok (.iconst 0, 1) := by decide +kernel
theorem dX6_wear_200 : decode cX6_wear 200 = .ok (.iadd, 1) := by decide +kernel
theorem dX6_wear_201 : decode cX6_wear 201 = .ok (.istore_n 3, 1) := by decide +kernel
theorem dX6_wear_202 : decode cX6_wear 202 = .ok (.iinc 4 1, 3) := by decide +kernel
theorem dX6_wear_205 : decode cX6_wear 205 = .ok (.goto (-36), 3) := by decide +kernel
theorem dX6_wear_208 : decode cX6_wear 208 = .ok (.iload_n 3, 1) := by decide +kernel
theorem dX6_wear_209 : decode cX6_wear 209 = .ok (.ireturn, 1) := by decide +kernel
theorem dX6_missed_0 : decode cX6_missed 0 = .ok (.aload_n 0, 1) := by decide +kernel
theorem dX6_missed_1 : decode cX6_missed 1 = .ok (.iload_n 1, 1) := by decide +kernel
theorem dX6_missed_2 : decode cX6_missed 2 = .ok (.invokevirtual 95, 3) := by decide +kernel
theorem dX6_missed_5 : decode cX6_missed 5 = .ok (.ifCond .ne 5, 3) := by decide +kernel
theorem dX6_missed_8 : decode cX6_missed 8 = .ok (.iconst (-1), 1) := by decide +kernel
theorem dX6_missed_9 : decode cX6_missed 9 = .ok (.ireturn, 1) := by decide +kernel
theorem dX6_missed_10 : decode cX6_missed 10 = .ok (.aload_n 0, 1) := by decide +kernel
theorem dX6_missed_11 : decode cX6_missed 11 = .ok (.iload_n 1, 1) := by decide +kernel
theorem dX6_missed_12 : decode cX6_missed 12 = .ok (.invokevirtual 112, 3) := by decide +kernel
theorem dX6_missed_15 : decode cX6_missed 15 = .ok (.istore_n 2, 1) := by decide +kernel
theorem dX6_missed_16 : decode cX6_missed 16 = .ok (.aload_n 0, 1) := by decide +kernel
theorem dX6_missed_17 : decode cX6_missed 17 = .ok (.getfield 7, 3) := by decide +kernel
theorem dX6_missed_20 : decode cX6_missed 20 = .ok (.bipush 94, 2) := by decide +kernel
theorem dX6_missed_22 : decode cX6_missed 22 = .ok (.iload_n 1, 1) := by decide +kernel
theorem dX6_missed_23 : decode cX6_missed 23 = .ok (.iadd, 1) := by decide +kernel
theorem dX6_missed_24 : decode cX6_missed 24 = .ok (.iaload, 1) := by decide +kernel
theorem dX6_missed_25 : decode cX6_missed 25 = .ok (.iload_n 2, 1) := by decide +kernel
theorem dX6_missed_26 : decode cX6_missed 26 = .ok (.iconst (-1), 1) := by decide +kernel
theorem dX6_missed_27 : decode cX6_missed 27 = .ok (.ixor, 1) := by decide +kernel
theorem dX6_missed_28 : decode cX6_missed 28 = .ok (.iand, 1) := by decide +kernel
theorem dX6_missed_29 : decode cX6_missed 29 = .ok (.aload_n 0, 1) := by decide +kernel
theorem dX6_missed_30 : decode cX6_missed 30 = .ok (.getfield 7, 3) := by decide +kernel
theorem dX6_missed_33 : decode cX6_missed 33 = .ok (.bipush 99, 2) := by decide +kernel
theorem dX6_missed_35 : decode cX6_missed 35 = .ok (.iload_n 1, 1) := by decide +kernel
theorem dX6_missed_36 : decode cX6_missed 36 = .ok (.iadd, 1) := by decide +kernel
theorem dX6_missed_37 : decode cX6_missed 37 = .ok (.iaload, 1) := by decide +kernel
theorem dX6_missed_38 : decode cX6_missed 38 = .ok (.iload_n 2, 1) := by decide +kernel
theorem dX6_missed_39 : decode cX6_missed 39 = .ok (.iand, 1) := by decide +kernel
theorem dX6_missed_40 : decode cX6_missed 40 = .ok (.ior, 1) := by decide +kernel
theorem dX6_missed_41 : decode cX6_missed 41 = .ok (.istore_n 3, 1) := by decide +kernel
theorem dX6_missed_42 : decode cX6_missed 42 = .ok (.iconst 0, 1) := by decide +kernel
theorem dX6_missed_43 : decode cX6_missed 43 = .ok (.istore 4, 2) := by decide +kernel
theorem dX6_missed_45 : decode cX6_missed 45 = .ok (.iload 4, 2) := by decide +kernel
theorem dX6_missed_47 : decode cX6_missed 47 = .ok (.bipush 12, 2) := by decide +kernel
theorem dX6_missed_49 : decode cX6_missed 49 = .ok (.if_icmp .ge 18, 3) := by decide +kernel
theorem dX6_missed_52 : decode cX6_missed 52 = .ok (.iload_n 3, 1) := by decide +kernel
theorem dX6_missed_53 : decode cX6_missed 53 = .ok (.iload 4, 2) := by decide +kernel
theorem dX6_missed_55 : decode cX6_missed 55 = .ok (.invokestatic 115, 3) := by decide +kernel
theorem dX6_missed_58 : decode cX6_missed 58 = .ok (.ifCond .ne 9, 3) := by decide +kernel
theorem dX6_missed_61 : decode cX6_missed 61 = .ok (.iinc 4 1, 3) := by decide +kernel
theorem dX6_missed_64 : decode cX6_missed 64 = .ok (.goto (-19), 3) := by decide +kernel
theorem dX6_missed_67 : decode cX6_missed 67 = .ok (.iload 4, 2) := by decide +kernel
theorem dX6_missed_69 : decode cX6_missed 69 = .ok (.bipush 12, 2) := by decide +kernel
theorem dX6_missed_71 : decode cX6_missed 71 = .ok (.if_icmp .ge 8, 3) := by decide +kernel
theorem dX6_missed_74 : decode cX6_missed 74 = .ok (.iload 4, 2) := by decide +kernel
theorem dX6_missed_76 : decode cX6_missed 76 = .ok (.goto 5, 3) := by decide +kernel
theorem dX6_missed_79 : decode cX6_missed 79 = .ok (.bipush (-4), 2) := by decide +kernel
theorem dX6_missed_81 : decode cX6_missed 81 = .ok (.ireturn, 1) := by decide +kernel
theorem dX6_turned_0 : decode cX6_turned 0 = .ok (.iload_n 0, 1) := by decide +kernel
theorem dX6_turned_1 : decode cX6_turned 1 = .ok (.iload_n 1, 1) := by decide +kernel
theorem dX6_turned_2 : decode cX6_turned 2 = .ok (.ishl, 1) := by decide +kernel
theorem dX6_turned_3 : decode cX6_turned 3 = .ok (.iload_n 0, 1) := by decide +kernel
theorem dX6_turned_4 : decode cX6_turned 4 = .ok (.bipush 12, 2) := by decide +kernel
theorem dX6_turned_6 : decode cX6_turned 6 = .ok (.iload_n 1, 1) := by decide +kernel
theorem dX6_turned_7 : decode cX6_turned 7 = .ok (.isub, 1) := by decide +kernel
theorem dX6_turned_8 : decode cX6_turned 8 = .ok (.ishr, 1) := by decide +kernel
theorem dX6_turned_9 : decode cX6_turned 9 = .ok (.ior, 1) := by decide +kernel
theorem dX6_turned_10 : decode cX6_turned 10 = .ok (.sipush 4095, 3) := by decide +kernel
theorem dX6_turned_13 : decode cX6_turned 13 = .ok (.iand, 1) := by decide +kernel
theorem dX6_turned_14 : decode cX6_turned 14 = .ok (.ireturn, 1) := by decide +kernel
theorem dX6_puts_0 : decode cX6_puts 0 = .ok (.iconst 0, 1) := by decide +kernel
theorem dX6_puts_1 : decode cX6_puts 1 = .ok (.istore_n 2, 1) := by decide +kernel
theorem dX6_puts_2 : decode cX6_puts 2 = .ok (.iload_n 2, 1) := by decide +kernel
theorem dX6_puts_3 : decode cX6_puts 3 = .ok (.bipush 6, 2) := by decide +kernel
theorem dX6_puts_5 : decode cX6_puts 5 = .ok (.if_icmp .ge 57, 3) := by decide +kernel
theorem dX6_puts_8 : decode cX6_puts 8 = .ok (.aload_n 0, 1) := by decide +kernel
theorem dX6_puts_9 : decode cX6_puts 9 = .ok (.getfield 31, 3) := by decide +kernel
theorem dX6_puts_12 : decode cX6_puts 12 = .ok (.bipush 6, 2) := by decide +kernel
theorem dX6_puts_14 : decode cX6_puts 14 = .ok (.iload_n 1, 1) := by decide +kernel
theorem dX6_puts_15 : decode cX6_puts 15 = .ok (.iconst 1, 1) := by decide +kernel
theorem dX6_puts_16 : decode cX6_puts 16 = .ok (.iadd, 1) := by decide +kernel
theorem dX6_puts_17 : decode cX6_puts 17 = .ok (.imul, 1) := by decide +kernel
theorem dX6_puts_18 : decode cX6_puts 18 = .ok (.iload_n 2, 1) := by decide +kernel
theorem dX6_puts_19 : decode cX6_puts 19 = .ok (.iadd, 1) := by decide +kernel
theorem dX6_puts_20 : decode cX6_puts 20 = .ok (.aload_n 0, 1) := by decide +kernel
theorem dX6_puts_21 : decode cX6_puts 21 = .ok (.getfield 31, 3) := by decide +kernel
theorem dX6_puts_24 : decode cX6_puts 24 = .ok (.bipush 6, 2) := by decide +kernel
theorem dX6_puts_26 : decode cX6_puts 26 = .ok (.iload_n 1, 1) := by decide +kernel
theorem dX6_puts_27 : decode cX6_puts 27 = .ok (.imul, 1) := by decide +kernel
theorem dX6_puts_28 : decode cX6_puts 28 = .ok (.iload_n 2, 1) := by decide +kernel
theorem dX6_puts_29 : decode cX6_puts 29 = .ok (.iadd, 1) := by decide +kernel
theorem dX6_puts_30 : decode cX6_puts 30 = .ok (.iaload, 1) := by decide +kernel
theorem dX6_puts_31 : decode cX6_puts 31 = .ok (.iastore, 1) := by decide +kernel
theorem dX6_puts_32 : decode cX6_puts 32 = .ok (.aload_n 0, 1) := by decide +kernel
theorem dX6_puts_33 : decode cX6_puts 33 = .ok (.getfield 34, 3) := by decide +kernel
theorem dX6_puts_36 : decode cX6_puts 36 = .ok (.bipush 6, 2) := by decide +kernel
theorem dX6_puts_38 : decode cX6_puts 38 = .ok (.iload_n 1, 1) := by decide +kernel
theorem dX6_puts_39 : decode cX6_puts 39 = .ok (.iconst 1, 1) := by decide +kernel
theorem dX6_puts_40 : decode cX6_puts 40 = .ok (.iadd, 1) := by decide +kernel
theorem dX6_puts_41 : decode cX6_puts 41 = .ok (.imul, 1) := by decide +kernel
theorem dX6_puts_42 : decode cX6_puts 42 = .ok (.iload_n 2, 1) := by decide +kernel
theorem dX6_puts_43 : decode cX6_puts 43 = .ok (.iadd, 1) := by decide +kernel
theorem dX6_puts_44 : decode cX6_puts 44 = .ok (.aload_n 0, 1) := by decide +kernel
theorem dX6_puts_45 : decode cX6_puts 45 = .ok (.getfield 34, 3) := by decide +kernel
theorem dX6_puts_48 : decode cX6_puts 48 = .ok (.bipush 6, 2) := by decide +kernel
theorem dX6_puts_50 : decode cX6_puts 50 = .ok (.iload_n 1, 1) := by decide +kernel
theorem dX6_puts_51 : decode cX6_puts 51 = .ok (.imul, 1) := by decide +kernel
theorem dX6_puts_52 : decode cX6_puts 52 = .ok (.iload_n 2, 1) := by decide +kernel
theorem dX6_puts_53 : decode cX6_puts 53 = .ok (.iadd, 1) := by decide +kernel
theorem dX6_puts_54 : decode cX6_puts 54 = .ok (.iaload, 1) := by decide +kernel
theorem dX6_puts_55 : decode cX6_puts 55 = .ok (.iastore, 1) := by decide +kernel
theorem dX6_puts_56 : decode cX6_puts 56 = .ok (.iinc 2 1, 3) := by decide +kernel
theorem dX6_puts_59 : decode cX6_puts 59 = .ok (.goto (-57), 3) := by decide +kernel
theorem dX6_puts_62 : decode cX6_puts 62 = .ok (.bipush 6, 2) := by decide +kernel
theorem dX6_puts_64 : decode cX6_puts 64 = .ok (.iload_n 1, 1) := by decide +kernel
theorem dX6_puts_65 : decode cX6_puts 65 = .ok (.iconst 1, 1) := by decide +kernel
theorem dX6_puts_66 : decode cX6_puts 66 = .ok (.iadd, 1) := by decide +kernel
theorem dX6_puts_67 : decode cX6_puts 67 = .ok (.imul, 1) := by decide +kernel
theorem dX6_puts_68 : decode cX6_puts 68 = .ok (.aload_n 0, 1) := by decide +kernel
theorem dX6_puts_69 : decode cX6_puts 69 = .ok (.getfield 25, 3) := by decide +kernel
theorem dX6_puts_72 : decode cX6_puts 72 = .ok (.iload_n 1, 1) := by decide +kernel
theorem dX6_puts_73 : decode cX6_puts 73 = .ok (.iaload, 1) := by decide +kernel
theorem dX6_puts_74 : decode cX6_puts 74 = .ok (.iadd, 1) := by decide +kernel
theorem dX6_puts_75 : decode cX6_puts 75 = .ok (.istore_n 2, 1) := by decide +kernel
theorem dX6_puts_76 : decode cX6_puts 76 = .ok (.aload_n 0, 1) := by decide +kernel
theorem dX6_puts_77 : decode cX6_puts 77 = .ok (.getfield 31, 3) := by decide +kernel
theorem dX6_puts_80 : decode cX6_puts 80 = .ok (.iload_n 2, 1) := by decide +kernel
theorem dX6_puts_81 : decode cX6_puts 81 = .ok (.dup2, 1) := by decide +kernel
theorem dX6_puts_82 : decode cX6_puts 82 = .ok (.iaload, 1) := by decide +kernel
theorem dX6_puts_83 : decode cX6_puts 83 = .ok (.aload_n 0, 1) := by decide +kernel
theorem dX6_puts_84 : decode cX6_puts 84 = .ok (.getfield 7, 3) := by decide +kernel
theorem dX6_puts_87 : decode cX6_puts 87 = .ok (.bipush 94, 2) := by decide +kernel
theorem dX6_puts_89 : decode cX6_puts 89 = .ok (.iload_n 1, 1) := by decide +kernel
theorem dX6_puts_90 : decode cX6_puts 90 = .ok (.iadd, 1) := by decide +kernel
theorem dX6_puts_91 : decode cX6_puts 91 = .ok (.iaload, 1) := by decide +kernel
theorem dX6_puts_92 : decode cX6_puts 92 = .ok (.aload_n 0, 1) := by decide +kernel
theorem dX6_puts_93 : decode cX6_puts 93 = .ok (.getfield 28, 3) := by decide +kernel
theorem dX6_puts_96 : decode cX6_puts 96 = .ok (.iload_n 1, 1) := by decide +kernel
theorem dX6_puts_97 : decode cX6_puts 97 = .ok (.iaload, 1) := by decide +kernel
theorem dX6_puts_98 : decode cX6_puts 98 = .ok (.invokestatic 127, 3) := by decide +kernel
theorem dX6_puts_101 : decode cX6_puts 101 = .ok (.ior, 1) := by decide +kernel
theorem dX6_puts_102 : decode cX6_puts 102 = .ok (.iastore, 1) := by decide +kernel
theorem dX6_puts_103 : decode cX6_puts 103 = .ok (.aload_n 0, 1) := by decide +kernel
theorem dX6_puts_104 : decode cX6_puts 104 = .ok (.getfield 34, 3) := by decide +kernel
theorem dX6_puts_107 : decode cX6_puts 107 = .ok (.iload_n 2, 1) := by decide +kernel
theorem dX6_puts_108 : decode cX6_puts 108 = .ok (.dup2, 1) := by decide +kernel
theorem dX6_puts_109 : decode cX6_puts 109 = .ok (.iaload, 1) := by decide +kernel
theorem dX6_puts_110 : decode cX6_puts 110 = .ok (.aload_n 0, 1) := by decide +kernel
theorem dX6_puts_111 : decode cX6_puts 111 = .ok (.getfield 7, 3) := by decide +kernel
theorem dX6_puts_114 : decode cX6_puts 114 = .ok (.bipush 99, 2) := by decide +kernel
theorem dX6_puts_116 : decode cX6_puts 116 = .ok (.iload_n 1, 1) := by decide +kernel
theorem dX6_puts_117 : decode cX6_puts 117 = .ok (.iadd, 1) := by decide +kernel
theorem dX6_puts_118 : decode cX6_puts 118 = .ok (.iaload, 1) := by decide +kernel
theorem dX6_puts_119 : decode cX6_puts 119 = .ok (.aload_n 0, 1) := by decide +kernel
theorem dX6_puts_120 : decode cX6_puts 120 = .ok (.getfield 28, 3) := by decide +kernel
theorem dX6_puts_123 : decode cX6_puts 123 = .ok (.iload_n 1, 1) := by decide +kernel
theorem dX6_puts_124 : decode cX6_puts 124 = .ok (.iaload, 1) := by decide +kernel
theorem dX6_puts_125 : decode cX6_puts 125 = .ok (.invokestatic 127, 3) := by decide +kernel
theorem dX6_puts_128 : decode cX6_puts 128 = .ok (.ior, 1) := by decide +kernel
theorem dX6_puts_129 : decode cX6_puts 129 = .ok (.iastore, 1) := by decide +kernel
theorem dX6_puts_130 : decode cX6_puts 130 = .ok (.aload_n 0, 1) := by decide +kernel
theorem dX6_puts_131 : decode cX6_puts 131 = .ok (.getfield 31, 3) := by decide +kernel
theorem dX6_puts_134 : decode cX6_puts 134 = .ok (.iload_n 2, 1) := by decide +kernel
theorem dX6_puts_135 : decode cX6_puts 135 = .ok (.iaload, 1) := by decide +kernel
theorem dX6_puts_136 : decode cX6_puts 136 = .ok (.aload_n 0, 1) := by decide +kernel
theorem dX6_puts_137 : decode cX6_puts 137 = .ok (.getfield 34, 3) := by decide +kernel
theorem dX6_puts_140 : decode cX6_puts 140 = .ok (.iload_n 2, 1) := by decide +kernel
theorem dX6_puts_141 : decode cX6_puts 141 = .ok (.iaload, 1) := by decide +kernel
theorem dX6_puts_142 : decode cX6_puts 142 = .ok (.iand, 1) := by decide +kernel
theorem dX6_puts_143 : decode cX6_puts 143 = .ok (.ifCond .ne 7, 3) := by decide +kernel
theorem dX6_puts_146 : decode cX6_puts 146 = .ok (.iconst 1, 1) := by decide +kernel
theorem dX6_puts_147 : decode cX6_puts 147 = .ok (.goto 4, 3) := by decide +kernel
theorem dX6_puts_150 : decode cX6_puts 150 = .ok (.iconst 0, 1) := by decide +kernel
theorem dX6_puts_151 : decode cX6_puts 151 = .ok (.ireturn, 1) := by decide +kernel
theorem dX6_camsUsed_0 : decode cX6_camsUsed 0 = .ok (.iconst 0, 1) := by decide +kernel
theorem dX6_camsUsed_1 : decode cX6_camsUsed 1 = .ok (.istore_n 2, 1) := by decide +kernel
theorem dX6_camsUsed_2 : decode cX6_camsUsed 2 = .ok (.iconst 0, 1) := by decide +kernel
theorem dX6_camsUsed_3 : decode cX6_camsUsed 3 = .ok (.istore_n 3, 1) := by decide +kernel
theorem dX6_camsUsed_4 : decode cX6_camsUsed 4 = .ok (.iload_n 3, 1) := by decide +kernel
theorem dX6_camsUsed_5 : decode cX6_camsUsed 5 = .ok (.iload_n 1, 1) := by decide +kernel
theorem dX6_camsUsed_6 : decode cX6_camsUsed 6 = .ok (.if_icmp .ge 32, 3) := by decide +kernel
theorem dX6_camsUsed_9 : decode cX6_camsUsed 9 = .ok (.aload_n 0, 1) := by decide +kernel
theorem dX6_camsUsed_10 : decode cX6_camsUsed 10 = .ok (.getfield 25, 3) := by decide +kernel
theorem dX6_camsUsed_13 : decode cX6_camsUsed 13 = .ok (.iload_n 3, 1) := by decide +kernel
theorem dX6_camsUsed_14 : decode cX6_camsUsed 14 = .ok (.iaload, 1) := by decide +kernel
theorem dX6_camsUsed_15 : decode cX6_camsUsed 15 = .ok (.iload_n 2, 1) := by decide +kernel
theorem dX6_camsUsed_16 : decode cX6_camsUsed 16 = .ok (.if_icmp .lt 14, 3) := by decide +kernel
theorem dX6_camsUsed_19 : decode cX6_camsUsed 19 = .ok (.aload_n 0, 1) := by decide +kernel
theorem dX6_camsUsed_20 : decode cX6_camsUsed 20 = .ok (.getfield 25, 3) := by decide +kernel
theorem dX6_camsUsed_23 : decode cX6_camsUsed 23 = .ok (.iload_n 3, 1) := by decide +kernel
theorem dX6_camsUsed_24 : decode cX6_camsUsed 24 = .ok (.iaload, 1) := by decide +kernel
theorem dX6_camsUsed_25 : decode cX6_camsUsed 25 = .ok (.iconst 1, 1) := by decide +kernel
theorem dX6_camsUsed_26 : decode cX6_camsUsed 26 = .ok (.iadd, 1) := by decide +kernel
theorem dX6_camsUsed_27 : decode cX6_camsUsed 27 = .ok (.goto 4, 3) := by decide +kernel
theorem dX6_camsUsed_30 : decode cX6_camsUsed 30 = .ok (.iload_n 2, 1) := by decide +kernel
theorem dX6_camsUsed_31 : decode cX6_camsUsed 31 = .ok (.istore_n 2, 1) := by decide +kernel
theorem dX6_camsUsed_32 : decode cX6_camsUsed 32 = .ok (.iinc 3 1, 3) := by decide +kernel
theorem dX6_camsUsed_35 : decode cX6_camsUsed 35 = .ok (.goto (-31), 3) := by decide +kernel
theorem dX6_camsUsed_38 : decode cX6_camsUsed 38 = .ok (.iload_n 2, 1) := by decide +kernel
theorem dX6_camsUsed_39 : decode cX6_camsUsed 39 = .ok (.ireturn, 1) := by decide +kernel
theorem dX6_sharesBy_0 : decode cX6_sharesBy 0 = .ok (.iconst 0, 1) := by decide +kernel
theorem dX6_sharesBy_1 : decode cX6_sharesBy 1 = .ok (.istore_n 2, 1) := by decide +kernel
theorem dX6_sharesBy_2 : decode cX6_sharesBy 2 = .ok (.aload_n 0, 1) := by decide +kernel
theorem dX6_sharesBy_3 : decode cX6_sharesBy 3 = .ok (.getfield 25, 3) := by decide +kernel
theorem dX6_sharesBy_6 : decode cX6_sharesBy 6 = .ok (.iconst 0, 1) := by decide +kernel
theorem dX6_sharesBy_7 : decode cX6_sharesBy 7 = .ok (.iconst 0, 1) := by decide +kernel
theorem dX6_sharesBy_8 : decode cX6_sharesBy 8 = .ok (.iastore, 1) := by decide +kernel
theorem dX6_sharesBy_9 : decode cX6_sharesBy 9 = .ok (.aload_n 0, 1) := by decide +kernel
theorem dX6_sharesBy_10 : decode cX6_sharesBy 10 = .ok (.getfield 28, 3) := by decide +kernel
theorem dX6_sharesBy_13 : decode cX6_sharesBy 13 = .ok (.iconst 0, 1) := by decide +kernel
theorem dX6_sharesBy_14 : decode cX6_sharesBy 14 = .ok (.iconst (-1), 1) := by decide +kernel
theorem dX6_sharesBy_15 : decode cX6_sharesBy 15 = .ok (.iastore, 1) := by decide +kernel
theorem dX6_sharesBy_16 : decode cX6_sharesBy 16 = .ok (.iload_n 2, 1) := by decide +kernel
theorem dX6_sharesBy_17 : decode cX6_sharesBy 17 = .ok (.ifCond .lt 160, 3) := by decide +kernel
theorem dX6_sharesBy_20 : decode cX6_sharesBy 20 = .ok (.iload_n 2, 1) := by decide +kernel
theorem dX6_sharesBy_21 : decode cX6_sharesBy 21 = .ok (.aload_n 0, 1) := by decide +kernel
theorem dX6_sharesBy_22 : decode cX6_sharesBy 22 = .ok (.getfield 7, 3) := by decide +kernel
theorem dX6_sharesBy_25 : decode cX6_sharesBy 25 = .ok (.bipush 73, 2) := by decide +kernel
theorem dX6_sharesBy_27 : decode cX6_sharesBy 27 = .ok (.iaload, 1) := by decide +kernel
theorem dX6_sharesBy_28 : decode cX6_sharesBy 28 = .ok (.if_icmp .ge 149, 3) := by decide +kernel
theorem dX6_sharesBy_31 : decode cX6_sharesBy 31 = .ok (.aload_n 0, 1) := by decide +kernel
theorem dX6_sharesBy_32 : decode cX6_sharesBy 32 = .ok (.iload_n 2, 1) := by decide +kernel
theorem dX6_sharesBy_33 : decode cX6_sharesBy 33 = .ok (.invokevirtual 130, 3) := by decide +kernel
theorem dX6_sharesBy_36 : decode cX6_sharesBy 36 = .ok (.istore_n 3, 1) := by decide +kernel
theorem dX6_sharesBy_37 : decode cX6_sharesBy 37 = .ok (.aload_n 0, 1) := by decide +kernel
theorem dX6_sharesBy_38 : decode cX6_sharesBy 38 = .ok (.getfield 28, 3) := by decide +kernel
theorem dX6_sharesBy_41 : decode cX6_sharesBy 41 = .ok (.iload_n 2, 1) := by decide +kernel
theorem dX6_sharesBy_42 : decode cX6_sharesBy 42 = .ok (.dup2, 1) := by decide +kernel
theorem dX6_sharesBy_43 : decode cX6_sharesBy 43 = .ok (.iaload, 1) := by decide +kernel
theorem dX6_sharesBy_44 : decode cX6_sharesBy 44 = .ok (.iconst 1, 1) := by decide +kernel
theorem dX6_sharesBy_45 : decode cX6_sharesBy 45 = .ok (.iadd, 1) := by decide +kernel
theorem dX6_sharesBy_46 : decode cX6_sharesBy 46 = .ok (.iastore, 1) := by decide +kernel
theorem dX6_sharesBy_47 : decode cX6_sharesBy 47 = .ok (.aload_n 0, 1) := by decide +kernel
theorem dX6_sharesBy_48 : decode cX6_sharesBy 48 = .ok (.getfield 25, 3) := by decide +kernel
theorem dX6_sharesBy_51 : decode cX6_sharesBy 51 = .ok (.iload_n 2, 1) := by decide +kernel
theorem dX6_sharesBy_52 : decode cX6_sharesBy 52 = .ok (.iaload, 1) := by decide +kernel
theorem dX6_sharesBy_53 : decode cX6_sharesBy 53 = .ok (.iload_n 3, 1) := by decide +kernel
theorem dX6_sharesBy_54 : decode cX6_sharesBy 54 = .ok (.if_icmp .ne 7, 3) := by decide +kernel
theorem dX6_sharesBy_57 : decode cX6_sharesBy 57 = .ok (.iconst 1, 1) := by decide +kernel
theorem dX6_sharesBy_58 : decode cX6_sharesBy 58 = .ok (.goto 4, 3) := by decide +kernel
theorem dX6_sharesBy_61 : decode cX6_sharesBy 61 = .ok (.iconst 0, 1) := by decide +kernel
theorem dX6_sharesBy_62 : decode cX6_sharesBy 62 = .ok (.istore 4, 2) := by decide +kernel
theorem dX6_sharesBy_64 : decode cX6_sharesBy 64 = .ok (.aload_n 0, 1) := by decide +kernel
theorem dX6_sharesBy_65 : decode cX6_sharesBy 65 = .ok (.getfield 28, 3) := by decide +kernel
theorem dX6_sharesBy_68 : decode cX6_sharesBy 68 = .ok (.iload_n 2, 1) := by decide +kernel
theorem dX6_sharesBy_69 : decode cX6_sharesBy 69 = .ok (.iaload, 1) := by decide +kernel
theorem dX6_sharesBy_70 : decode cX6_sharesBy 70 = .ok (.bipush 12, 2) := by decide +kernel
theorem dX6_sharesBy_72 : decode cX6_sharesBy 72 = .ok (.if_icmp .eq 17, 3) := by decide +kernel
theorem dX6_sharesBy_75 : decode cX6_sharesBy 75 = .ok (.iload 4, 2) := by decide +kernel
theorem dX6_sharesBy_77 : decode cX6_sharesBy 77 = .ok (.ifCond .eq 46, 3) := by decide +kernel
theorem dX6_sharesBy_80 : decode cX6_sharesBy 80 = .ok (.aload_n 0, 1) := by decide +kernel
theorem dX6_sharesBy_81 : decode cX6_sharesBy 81 = .ok (.getfield 28, 3) := by decide +kernel
theorem dX6_sharesBy_84 : decode cX6_sharesBy 84 = .ok (.iload_n 2, 1) := by decide +kernel
theorem dX6_sharesBy_85 : decode cX6_sharesBy 85 = .ok (.iaload, 1) := by decide +kernel
theorem dX6_sharesBy_86 : decode cX6_sharesBy 86 = .ok (.ifCond .le 37, 3) := by decide +kernel
theorem dX6_sharesBy_89 : decode cX6_sharesBy 89 = .ok (.aload_n 0, 1) := by decide +kernel
theorem dX6_sharesBy_90 : decode cX6_sharesBy 90 = .ok (.getfield 25, 3) := by decide +kernel
theorem dX6_sharesBy_93 : decode cX6_sharesBy 93 = .ok (.iload_n 2, 1) := by decide +kernel
theorem dX6_sharesBy_94 : decode cX6_sharesBy 94 = .ok (.dup2, 1) := by decide +kernel
theorem dX6_sharesBy_95 : decode cX6_sharesBy 95 = .ok (.iaload, 1) := by decide +kernel
theorem dX6_sharesBy_96 : decode cX6_sharesBy 96 = .ok (.iconst 1, 1) := by decide +kernel
theorem dX6_sharesBy_97 : decode cX6_sharesBy 97 = .ok (.iadd, 1) := by decide +kernel
theorem dX6_sharesBy_98 : decode cX6_sharesBy 98 = .ok (.iastore, 1) := by decide +kernel
theorem dX6_sharesBy_99 : decode cX6_sharesBy 99 = .ok (.aload_n 0, 1) := by decide +kernel
theorem dX6_sharesBy_100 : decode cX6_sharesBy 100 = .ok (.getfield 28, 3) := by decide +kernel
theorem dX6_sharesBy_103 : decode cX6_sharesBy 103 = .ok (.iload_n 2, 1) := by decide +kernel
theorem dX6_sharesBy_104 : decode cX6_sharesBy 104 = .ok (.iconst 0, 1) := by decide +kernel
theorem dX6_sharesBy_105 : decode cX6_sharesBy 105 = .ok (.iastore, 1) := by decide +kernel
theorem dX6_sharesBy_106 : decode cX6_sharesBy 106 = .ok (.aload_n 0, 1) := by decide +kernel
theorem dX6_sharesBy_107 : decode cX6_sharesBy 107 = .ok (.getfield 25, 3) := by decide +kernel
theorem dX6_sharesBy_110 : decode cX6_sharesBy 110 = .ok (.iload_n 2, 1) := by decide +kernel
theorem dX6_sharesBy_111 : decode cX6_sharesBy 111 = .ok (.iaload, 1) := by decide +kernel
theorem dX6_sharesBy_112 : decode cX6_sharesBy 112 = .ok (.iload_n 3, 1) := by decide +kernel
theorem dX6_sharesBy_113 : decode cX6_sharesBy 113 = .ok (.if_icmp .ne 7, 3) := by decide +kernel
theorem dX6_sharesBy_116 : decode cX6_sharesBy 116 = .ok (.iconst 1, 1) := by decide +kernel
theorem dX6_sharesBy_117 : decode cX6_sharesBy 117 = .ok (.goto 4, 3) := by decide +kernel
theorem dX6_sharesBy_120 : decode cX6_sharesBy 120 = .ok (.iconst 0, 1) := by decide +kernel
theorem dX6_sharesBy_121 : decode cX6_sharesBy 121 = .ok (.istore 4, 2) := by decide +kernel
theorem dX6_sharesBy_123 : decode cX6_sharesBy 123 = .ok (.aload_n 0, 1) := by decide +kernel
theorem dX6_sharesBy_124 : decode cX6_sharesBy 124 = .ok (.getfield 25, 3) := by decide +kernel
theorem dX6_sharesBy_127 : decode cX6_sharesBy 127 = .ok (.iload_n 2, 1) := by decide +kernel
theorem dX6_sharesBy_128 : decode cX6_sharesBy 128 = .ok (.iaload, 1) := by decide +kernel
theorem dX6_sharesBy_129 : decode cX6_sharesBy 129 = .ok (.iload_n 3, 1) := by decide +kernel
theorem dX6_sharesBy_130 : decode cX6_sharesBy 130 = .ok (.if_icmp .gt 13, 3) := by decide +kernel
theorem dX6_sharesBy_133 : decode cX6_sharesBy 133 = .ok (.aload_n 0, 1) := by decide +kernel
theorem dX6_sharesBy_134 : decode cX6_sharesBy 134 = .ok (.getfield 25, 3) := by decide +kernel
theorem dX6_sharesBy_137 : decode cX6_sharesBy 137 = .ok (.iload_n 2, 1) := by decide +kernel
theorem dX6_sharesBy_138 : decode cX6_sharesBy 138 = .ok (.iaload, 1) := by decide +kernel
theorem dX6_sharesBy_139 : decode cX6_sharesBy 139 = .ok (.iload_n 1, 1) := by decide +kernel
theorem dX6_sharesBy_140 : decode cX6_sharesBy 140 = .ok (.if_icmp .lt 9, 3) := by decide +kernel
theorem dX6_sharesBy_143 : decode cX6_sharesBy 143 = .ok (.iinc 2 (-1), 3) := by decide +kernel
theorem dX6_sharesBy_146 : decode cX6_sharesBy 146 = .ok (.goto 28, 3) := by decide +kernel
theorem dX6_sharesBy_149 : decode cX6_sharesBy 149 = .ok (.aload_n 0, 1) := by decide +kernel
theorem dX6_sharesBy_150 : decode cX6_sharesBy 150 = .ok (.iload_n 2, 1) := by decide +kernel
theorem dX6_sharesBy_151 : decode cX6_sharesBy 151 = .ok (.invokevirtual 133, 3) := by decide +kernel
theorem dX6_sharesBy_154 : decode cX6_sharesBy 154 = .ok (.ifCond .eq 20, 3) := by decide +kernel
theorem dX6_sharesBy_157 : decode cX6_sharesBy 157 = .ok (.iinc 2 1, 3) := by decide +kernel
theorem dX6_sharesBy_160 : decode cX6_sharesBy 160 = .ok (.aload_n 0, 1) := by decide +kernel
theorem dX6_sharesBy_161 : decode cX6_sharesBy 161 = .ok (.getfield 25, 3) := by decide +kernel
theorem dX6_sharesBy_164 : decode cX6_sharesBy 164 = .ok (.iload_n 2, 1) := by decide +kernel
theorem dX6_sharesBy_165 : decode cX6_sharesBy 165 = .ok (.iconst 0, 1) := by decide +kernel
theorem dX6_sharesBy_166 : decode cX6_sharesBy 166 = .ok (.iastore, 1) := by decide +kernel
theorem dX6_sharesBy_167 : decode cX6_sharesBy 167 = .ok (.aload_n 0, 1) := by decide +kernel
theorem dX6_sharesBy_168 : decode cX6_sharesBy 168 = .ok (.getfield 28, 3) := by decide +kernel
theorem dX6_sharesBy_171 : decode cX6_sharesBy 171 = .ok (.iload_n 2, 1) := by decide +kernel
theorem dX6_sharesBy_172 : decode cX6_sharesBy 172 = .ok (.iconst (-1), 1) := by decide +kernel
theorem dX6_sharesBy_173 : decode cX6_sharesBy 173 = .ok (.iastore, 1) := by decide +kernel
theorem dX6_sharesBy_174 : decode cX6_sharesBy 174 = .ok (.goto (-158), 3) := by decide +kernel
theorem dX6_sharesBy_177 : decode cX6_sharesBy 177 = .ok (.iload_n 2, 1) := by decide +kernel
theorem dX6_sharesBy_178 : decode cX6_sharesBy 178 = .ok (.ifCond .lt 7, 3) := by decide +kernel
theorem dX6_sharesBy_181 : decode cX6_sharesBy 181 = .ok (.iconst 1, 1) := by decide +kernel
theorem dX6_sharesBy_182 : decode cX6_sharesBy 182 = .ok (.goto 4, 3) := by decide +kernel
theorem dX6_sharesBy_185 : decode cX6_sharesBy 185 = .ok (.iconst 0, 1) := by decide +kernel
theorem dX6_sharesBy_186 : decode cX6_sharesBy 186 = .ok (.ireturn, 1) := by decide +kernel
theorem dX6_fewest_0 : decode cX6_fewest 0 = .ok (.iconst 0, 1) := by decide +kernel
theorem dX6_fewest_1 : decode cX6_fewest 1 = .ok (.istore_n 1, 1) := by decide +kernel
theorem dX6_fewest_2 : decode cX6_fewest 2 = .ok (.iload_n 1, 1) := by decide +kernel
theorem dX6_fewest_3 : decode cX6_fewest 3 = .ok (.aload_n 0, 1) := by decide +kernel
theorem dX6_fewest_4 : decode cX6_fewest 4 = .ok (.getfield 7, 3) := by decide +kernel
theorem dX6_fewest_7 : decode cX6_fewest 7 = .ok (.bipush 73, 2) := by decide +kernel
theorem dX6_fewest_9 : decode cX6_fewest 9 = .ok (.iaload, 1) := by decide +kernel
theorem dX6_fewest_10 : decode cX6_fewest 10 = .ok (.if_icmp .ge 19, 3) := by decide +kernel
theorem dX6_fewest_13 : decode cX6_fewest 13 = .ok (.aload_n 0, 1) := by decide +kernel
theorem dX6_fewest_14 : decode cX6_fewest 14 = .ok (.iload_n 1, 1) := by decide +kernel
theorem dX6_fewest_15 : decode cX6_fewest 15 = .ok (.invokevirtual 136, 3) := by decide +kernel
theorem dX6_fewest_18 : decode cX6_fewest 18 = .ok (.ifCond .eq 5, 3) := by decide +kernel
theorem dX6_fewest_21 : decode cX6_fewest 21 = .ok (.iload_n 1, 1) := by decide +kernel
theorem dX6_fewest_22 : decode cX6_fewest 22 = .ok (.ireturn, 1) := by decide +kernel
theorem dX6_fewest_23 : decode cX6_fewest 23 = .ok (.iinc 1 1, 3) := by decide +kernel
theorem dX6_fewest_26 : decode cX6_fewest 26 = .ok (.goto (-24), 3) := by decide +kernel
theorem dX6_fewest_29 : decode cX6_fewest 29 = .ok (.aload_n 0, 1) := by decide +kernel
theorem dX6_fewest_30 : decode cX6_fewest 30 = .ok (.getfield 7, 3) := by decide +kernel
theorem dX6_fewest_33 : decode cX6_fewest 33 = .ok (.bipush 73, 2) := by decide +kernel
theorem dX6_fewest_35 : decode cX6_fewest 35 = .ok (.iaload, 1) := by decide +kernel
theorem dX6_fewest_36 : decode cX6_fewest 36 = .ok (.ireturn, 1) := by decide +kernel
theorem dX6_share_0 : decode cX6_share 0 = .ok (.aload_n 0, 1) := by decide +kernel
theorem dX6_share_1 : decode cX6_share 1 = .ok (.iload_n 1, 1) := by decide +kernel
theorem dX6_share_2 : decode cX6_share 2 = .ok (.invokevirtual 95, 3) := by decide +kernel
theorem dX6_share_5 : decode cX6_share 5 = .ok (.ifCond .eq 13, 3) := by decide +kernel
theorem dX6_share_8 : decode cX6_share 8 = .ok (.iload_n 2, 1) := by decide +kernel
theorem dX6_share_9 : decode cX6_share 9 = .ok (.i2l, 1) := by decide +kernel
theorem dX6_share_10 : decode cX6_share 10 = .ok (.lconst 0, 1) := by decide +kernel
theorem dX6_share_11 : decode cX6_share 11 = .ok (.lconst 1, 1) := by decide +kernel
theorem dX6_share_12 : decode cX6_share 12 = .ok (.invokestatic 52, 3) := by decide +kernel
theorem dX6_share_15 : decode cX6_share 15 = .ok (.ifCond .ne 5, 3) := by decide +kernel
theorem dX6_share_18 : decode cX6_share 18 = .ok (.iconst (-1), 1) := by decide +kernel
theorem dX6_share_19 : decode cX6_share 19 = .ok (.ireturn, 1) := by decide +kernel
theorem dX6_share_20 : decode cX6_share 20 = .ok (.iconst 1, 1) := by decide +kernel
theorem dX6_share_21 : decode cX6_share 21 = .ok (.istore_n 3, 1) := by decide +kernel
theorem dX6_share_22 : decode cX6_share 22 = .ok (.aload_n 0, 1) := by decide +kernel
theorem dX6_share_23 : decode cX6_share 23 = .ok (.iload_n 3, 1) := by decide +kernel
theorem dX6_share_24 : decode cX6_share 24 = .ok (.invokevirtual 136, 3) := by decide +kernel
theorem dX6_share_27 : decode cX6_share 27 = .ok (.ifCond .ne 9, 3) := by decide +kernel
theorem dX6_share_30 : decode cX6_share 30 = .ok (.iinc 3 1, 3) := by decide +kernel
theorem dX6_share_33 : decode cX6_share 33 = .ok (.goto (-11), 3) := by decide +kernel
theorem dX6_share_36 : decode cX6_share 36 = .ok (.iload_n 2, 1) := by decide +kernel
theorem dX6_share_37 : decode cX6_share 37 = .ok (.ifCond .ne 12, 3) := by decide +kernel
theorem dX6_share_40 : decode cX6_share 40 = .ok (.aload_n 0, 1) := by decide +kernel
theorem dX6_share_41 : decode cX6_share 41 = .ok (.getfield 25, 3) := by decide +kernel
theorem dX6_share_44 : decode cX6_share 44 = .ok (.iload_n 1, 1) := by decide +kernel
theorem dX6_share_45 : decode cX6_share 45 = .ok (.iaload, 1) := by decide +kernel
theorem dX6_share_46 : decode cX6_share 46 = .ok (.goto 9, 3) := by decide +kernel
theorem dX6_share_49 : decode cX6_share 49 = .ok (.aload_n 0, 1) := by decide +kernel
theorem dX6_share_50 : decode cX6_share 50 = .ok (.getfield 28, 3) := by decide +kernel
theorem dX6_share_53 : decode cX6_share 53 = .ok (.iload_n 1, 1) := by decide +kernel
theorem dX6_share_54 : decode cX6_share 54 = .ok (.iaload, 1) := by decide +kernel
theorem dX6_share_55 : decode cX6_share 55 = .ok (.ireturn, 1) := by decide +kernel
theorem dX6_pegs_0 : decode cX6_pegs 0 = .ok (.aload_n 0, 1) := by decide +kernel
theorem dX6_pegs_1 : decode cX6_pegs 1 = .ok (.iload_n 1, 1) := by decide +kernel
theorem dX6_pegs_2 : decode cX6_pegs 2 = .ok (.invokevirtual 95, 3) := by decide +kernel
theorem dX6_pegs_5 : decode cX6_pegs 5 = .ok (.ifCond .eq 13, 3) := by decide +kernel
theorem dX6_pegs_8 : decode cX6_pegs 8 = .ok (.iload_n 2, 1) := by decide +kernel
theorem dX6_pegs_9 : decode cX6_pegs 9 = .ok (.i2l, 1) := by decide +kernel
theorem dX6_pegs_10 : decode cX6_pegs 10 = .ok (.lconst 0, 1) := by decide +kernel
theorem dX6_pegs_11 : decode cX6_pegs 11 = .ok (.lconst 1, 1) := by decide +kernel
theorem dX6_pegs_12 : decode cX6_pegs 12 = .ok (.invokestatic 52, 3) := by decide +kernel
theorem dX6_pegs_15 : decode cX6_pegs 15 = .ok (.ifCond .ne 5, 3) := by decide +kernel
theorem dX6_pegs_18 : decode cX6_pegs 18 = .ok (.iconst (-1), 1) := by decide +kernel
theorem dX6_pegs_19 : decode cX6_pegs 19 = .ok (.ireturn, 1) := by decide +kernel
theorem dX6_pegs_20 : decode cX6_pegs 20 = .ok (.iconst 0, 1) := by decide +kernel
theorem dX6_pegs_21 : decode cX6_pegs 21 = .ok (.istore_n 3, 1) := by decide +kernel
theorem dX6_pegs_22 : decode cX6_pegs 22 = .ok (.iconst 0, 1) := by decide +kernel
theorem dX6_pegs_23 : decode cX6_pegs 23 = .ok (.istore 4, 2) := by decide +kernel
theorem dX6_pegs_25 : decode cX6_pegs 25 = .ok (.iload 4, 2) := by decide +kernel
theorem dX6_pegs_27 : decode cX6_pegs 27 = .ok (.bipush 12, 2) := by decide +kernel
theorem dX6_pegs_29 : decode cX6_pegs 29 = .ok (.if_icmp .ge 52, 3) := by decide +kernel
theorem dX6_pegs_32 : decode cX6_pegs 32 = .ok (.iload_n 3, 1) := by decide +kernel
theorem dX6_pegs_33 : decode cX6_pegs 33 = .ok (.aload_n 0, 1) := by decide +kernel
theorem dX6_pegs_34 : decode cX6_pegs 34 = .ok (.getfield 7, 3) := by decide +kernel
theorem dX6_pegs_37 : decode cX6_pegs 37 = .ok (.iconst 1, 1) := by decide +kernel
theorem dX6_pegs_38 : decode cX6_pegs 38 = .ok (.bipush 12, 2) := by decide +kernel
theorem dX6_pegs_40 : decode cX6_pegs 40 = .ok (.aload_n 0, 1) := by decide +kernel
theorem dX6_pegs_41 : decode cX6_pegs 41 = .ok (.getfield 7, 3) := by decide +kernel
theorem dX6_pegs_44 : decode cX6_pegs 44 = .ok (.bipush 79, 2) := by decide +kernel
theorem dX6_pegs_46 : decode cX6_pegs 46 = .ok (.iload_n 1, 1) := by decide +kernel
theorem dX6_pegs_47 : decode cX6_pegs 47 = .ok (.iadd, 1) := by decide +kernel
theorem dX6_pegs_48 : decode cX6_pegs 48 = .ok (.iaload, 1) := by decide +kernel
theorem dX6_pegs_49 : decode cX6_pegs 49 = .ok (.imul, 1) := by decide +kernel
theorem dX6_pegs_50 : decode cX6_pegs 50 = .ok (.iadd, 1) := by decide +kernel
theorem dX6_pegs_51 : decode cX6_pegs 51 = .ok (.iload 4, 2) := by decide +kernel
theorem dX6_pegs_53 : decode cX6_pegs 53 = .ok (.iadd, 1) := by decide +kernel
theorem dX6_pegs_54 : decode cX6_pegs 54 = .ok (.iaload, 1) := by decide +kernel
theorem dX6_pegs_55 : decode cX6_pegs 55 = .ok (.aload_n 0, 1) := by decide +kernel
theorem dX6_pegs_56 : decode cX6_pegs 56 = .ok (.getfield 7, 3) := by decide +kernel
theorem dX6_pegs_59 : decode cX6_pegs 59 = .ok (.bipush 104, 2) := by decide +kernel
theorem dX6_pegs_61 : decode cX6_pegs 61 = .ok (.iaload, 1) := by decide +kernel
theorem dX6_pegs_62 : decode cX6_pegs 62 = .ok (.if_icmp .lt 10, 3) := by decide +kernel
theorem dX6_pegs_65 : decode cX6_pegs 65 = .ok (.iconst 1, 1) := by decide +kernel
theorem dX6_pegs_66 : decode cX6_pegs 66 = .ok (.iload 4, 2) := by decide +kernel
theorem dX6_pegs_68 : decode cX6_pegs 68 = .ok (.ishl, 1) := by decide +kernel
theorem dX6_pegs_69 : decode cX6_pegs 69 = .ok (.goto 4, 3) := by decide +kernel
theorem dX6_pegs_72 : decode cX6_pegs 72 = .ok (.iconst 0, 1) := by decide +kernel
theorem dX6_pegs_73 : decode cX6_pegs 73 = .ok (.ior, 1) := by decide +kernel
theorem dX6_pegs_74 : decode cX6_pegs 74 = .ok (.istore_n 3, 1) := by decide +kernel
theorem dX6_pegs_75 : decode cX6_pegs 75 = .ok (.iinc 4 1, 3) := by decide +kernel
theorem dX6_pegs_78 : decode cX6_pegs 78 = .ok (.goto (-53), 3) := by decide +kernel
theorem dX6_pegs_81 : decode cX6_pegs 81 = .ok (.iconst 0, 1) := by decide +kernel
theorem dX6_pegs_82 : decode cX6_pegs 82 = .ok (.istore 4, 2) := by decide +kernel
theorem dX6_pegs_84 : decode cX6_pegs 84 = .ok (.bipush 13, 2) := by decide +kernel
theorem dX6_pegs_86 : decode cX6_pegs 86 = .ok (.istore 5, 2) := by decide +kernel
theorem dX6_pegs_88 : decode cX6_pegs 88 = .ok (.iconst 0, 1) := by decide +kernel
theorem dX6_pegs_89 : decode cX6_pegs 89 = .ok (.istore 6, 2) := by decide +kernel
theorem dX6_pegs_91 : decode cX6_pegs 91 = .ok (.iload 6, 2) := by decide +kernel
theorem dX6_pegs_93 : decode cX6_pegs 93 = .ok (.bipush 12, 2) := by decide +kernel
theorem dX6_pegs_95 : decode cX6_pegs 95 = .ok (.if_icmp .ge 81, 3) := by decide +kernel
theorem dX6_pegs_98 : decode cX6_pegs 98 = .ok (.aload_n 0, 1) := by decide +kernel
theorem dX6_pegs_99 : decode cX6_pegs 99 = .ok (.getfield 7, 3) := by decide +kernel
theorem dX6_pegs_102 : decode cX6_pegs 102 = .ok (.bipush 94, 2) := by decide +kernel
theorem dX6_pegs_104 : decode cX6_pegs 104 = .ok (.iload_n 1, 1) := by decide +kernel
theorem dX6_pegs_105 : decode cX6_pegs 105 = .ok (.iadd, 1) := by decide +kernel
theorem dX6_pegs_106 : decode cX6_pegs 106 = .ok (.iaload, 1) := by decide +kernel
theorem dX6_pegs_107 : decode cX6_pegs 107 = .ok (.iload 6, 2) := by decide +kernel
theorem dX6_pegs_109 : decode cX6_pegs 109 = .ok (.invokestatic 127, 3) := by decide +kernel
theorem dX6_pegs_112 : decode cX6_pegs 112 = .ok (.iload_n 3, 1) := by decide +kernel
theorem dX6_pegs_113 : decode cX6_pegs 113 = .ok (.iconst (-1), 1) := by decide +kernel
theorem dX6_pegs_114 : decode cX6_pegs 114 = .ok (.ixor, 1) := by decide +kernel
theorem dX6_pegs_115 : decode cX6_pegs 115 = .ok (.iand, 1) := by decide +kernel
theorem dX6_pegs_116 : decode cX6_pegs 116 = .ok (.aload_n 0, 1) := by decide +kernel
theorem dX6_pegs_117 : decode cX6_pegs 117 = .ok (.getfield 7, 3) := by decide +kernel
theorem dX6_pegs_120 : decode cX6_pegs 120 = .ok (.bipush 99, 2) := by decide +kernel
theorem dX6_pegs_122 : decode cX6_pegs 122 = .ok (.iload_n 1, 1) := by decide +kernel
theorem dX6_pegs_123 : decode cX6_pegs 123 = .ok (.iadd, 1) := by decide +kernel
theorem dX6_pegs_124 : decode cX6_pegs 124 = .ok (.iaload, 1) := by decide +kernel
theorem dX6_pegs_125 : decode cX6_pegs 125 = .ok (.iload 6, 2) := by decide +kernel
theorem dX6_pegs_127 : decode cX6_pegs 127 = .ok (.invokestatic 127, 3) := by decide +kernel
theorem dX6_pegs_130 : decode cX6_pegs 130 = .ok (.iload_n 3, 1) := by decide +kernel
theorem dX6_pegs_131 : decode cX6_pegs 131 = .ok (.iand, 1) := by decide +kernel
theorem dX6_pegs_132 : decode cX6_pegs 132 = .ok (.ior, 1) := by decide +kernel
theorem dX6_pegs_133 : decode cX6_pegs 133 = .ok (.invokestatic 98, 3) := by decide +kernel
theorem dX6_pegs_136 : decode cX6_pegs 136 = .ok (.istore 7, 2) := by decide +kernel
theorem dX6_pegs_138 : decode cX6_pegs 138 = .ok (.iload 7, 2) := by decide +kernel
theorem dX6_pegs_140 : decode cX6_pegs 140 = .ok (.iload 5, 2) := by decide +kernel
theorem dX6_pegs_142 : decode cX6_pegs 142 = .ok (.if_icmp .ge 8, 3) := by decide +kernel
theorem dX6_pegs_145 : decode cX6_pegs 145 = .ok (.iload 6, 2) := by decide +kernel
theorem dX6_pegs_147 : decode cX6_pegs 147 = .ok (.goto 5, 3) := by decide +kernel
theorem dX6_pegs_150 : decode cX6_pegs 150 = .ok (.iload 4, 2) := by decide +kernel
theorem dX6_pegs_152 : decode cX6_pegs 152 = .ok (.istore 4, 2) := by decide +kernel
theorem dX6_pegs_154 : decode cX6_pegs 154 = .ok (.iload 7, 2) := by decide +kernel
theorem dX6_pegs_156 : decode cX6_pegs 156 = .ok (.iload 5, 2) := by decide +kernel
theorem dX6_pegs_158 : decode cX6_pegs 158 = .ok (.if_icmp .ge 8, 3) := by decide +kernel
theorem dX6_pegs_161 : decode cX6_pegs 161 = .ok (.iload 7, 2) := by decide +kernel
theorem dX6_pegs_163 : decode cX6_pegs 163 = .ok (.goto 5, 3) := by decide +kernel
theorem dX6_pegs_166 : decode cX6_pegs 166 = .ok (.iload 5, 2) := by decide +kernel
theorem dX6_pegs_168 : decode cX6_pegs 168 = .ok (.istore 5, 2) := by decide +kernel
theorem dX6_pegs_170 : decode cX6_pegs 170 = .ok (.iinc 6 1, 3) := by decide +kernel
theorem dX6_pegs_173 : decode cX6_pegs 173 = .ok (.goto (-82), 3) := by decide +kernel
theorem dX6_pegs_176 : decode cX6_pegs 176 = .ok (.iload_n 2, 1) := by decide +kernel
theorem dX6_pegs_177 : decode cX6_pegs 177 = .ok (.ifCond .ne 8, 3) := by decide +kernel
theorem dX6_pegs_180 : decode cX6_pegs 180 = .ok (.iload 5, 2) := by decide +kernel
theorem dX6_pegs_182 : decode cX6_pegs 182 = .ok (.goto 5, 3) := by decide +kernel
theorem dX6_pegs_185 : decode cX6_pegs 185 = .ok (.iload 4, 2) := by decide +kernel
theorem dX6_pegs_187 : decode cX6_pegs 187 = .ok (.ireturn, 1) := by decide +kernel
theorem dX6_beats_0 : decode cX6_beats 0 = .ok (.iload_n 1, 1) := by decide +kernel
theorem dX6_beats_1 : decode cX6_beats 1 = .ok (.invokestatic 84, 3) := by decide +kernel
theorem dX6_beats_4 : decode cX6_beats 4 = .ok (.ifCond .eq 15, 3) := by decide +kernel
theorem dX6_beats_7 : decode cX6_beats 7 = .ok (.iload_n 2, 1) := by decide +kernel
theorem dX6_beats_8 : decode cX6_beats 8 = .ok (.i2l, 1) := by decide +kernel
theorem dX6_beats_9 : decode cX6_beats 9 = .ok (.lconst 1, 1) := by decide +kernel
theorem dX6_beats_10 : decode cX6_beats 10 = .ok (.ldc2_w 139, 3) := by decide +kernel
theorem dX6_beats_13 : decode cX6_beats 13 = .ok (.invokestatic 52, 3) := by decide +kernel
theorem dX6_beats_16 : decode cX6_beats 16 = .ok (.ifCond .ne 5, 3) := by decide +kernel
theorem dX6_beats_19 : decode cX6_beats 19 = .ok (.iconst (-1), 1) := by decide +kernel
theorem dX6_beats_20 : decode cX6_beats 20 = .ok (.ireturn, 1) := by decide +kernel
theorem dX6_beats_21 : decode cX6_beats 21 = .ok (.aload_n 0, 1) := by decide +kernel
theorem dX6_beats_22 : decode cX6_beats 22 = .ok (.getfield 7, 3) := by decide +kernel
theorem dX6_beats_25 : decode cX6_beats 25 = .ok (.bipush 108, 2) := by decide +kernel
theorem dX6_beats_27 : decode cX6_beats 27 = .ok (.iload_n 1, 1) := by decide +kernel
theorem dX6_beats_28 : decode cX6_beats 28 = .ok (.iadd, 1) := by decide +kernel
theorem dX6_beats_29 : decode cX6_beats 29 = .ok (.iaload, 1) := by decide +kernel
theorem dX6_beats_30 : decode cX6_beats 30 = .ok (.istore_n 3, 1) := by decide +kernel
theorem dX6_beats_31 : decode cX6_beats 31 = .ok (.aload_n 0, 1) := by decide +kernel
theorem dX6_beats_32 : decode cX6_beats 32 = .ok (.getfield 7, 3) := by decide +kernel
theorem dX6_beats_35 : decode cX6_beats 35 = .ok (.bipush 108, 2) := by decide +kernel
theorem dX6_beats_37 : decode cX6_beats 37 = .ok (.iload_n 1, 1) := by decide +kernel
theorem dX6_beats_38 : decode cX6_beats 38 = .ok (.iadd, 1) := by decide +kernel
theorem dX6_beats_39 : decode cX6_beats 39 = .ok (.iload_n 2, 1) := by decide +kernel
theorem dX6_beats_40 : decode cX6_beats 40 = .ok (.iastore, 1) := by decide +kernel
theorem dX6_beats_41 : decode cX6_beats 41 = .ok (.iload_n 3, 1) := by decide +kernel
theorem dX6_beats_42 : decode cX6_beats 42 = .ok (.ireturn, 1) := by decide +kernel
theorem dX6_when_0 : decode cX6_when 0 = .ok (.iload_n 1, 1) := by decide +kernel
theorem dX6_when_1 : decode cX6_when 1 = .ok (.invokestatic 84, 3) := by decide +kernel
theorem dX6_when_4 : decode cX6_when 4 = .ok (.ifCond .ne 5, 3) := by decide +kernel
theorem dX6_when_7 : decode cX6_when 7 = .ok (.iconst (-1), 1) := by decide +kernel
theorem dX6_when_8 : decode cX6_when 8 = .ok (.ireturn, 1) := by decide +kernel
theorem dX6_when_9 : decode cX6_when 9 = .ok (.iconst 0, 1) := by decide +kernel
theorem dX6_when_10 : decode cX6_when 10 = .ok (.istore_n 2, 1) := by decide +kernel
theorem dX6_when_11 : decode cX6_when 11 = .ok (.aload_n 0, 1) := by decide +kernel
theorem dX6_when_12 : decode cX6_when 12 = .ok (.getfield 7, 3) := by decide +kernel
theorem dX6_when_15 : decode cX6_when 15 = .ok (.bipush 106, 2) := by decide +kernel
theorem dX6_when_17 : decode cX6_when 17 = .ok (.iaload, 1) := by decide +kernel
theorem dX6_when_18 : decode cX6_when 18 = .ok (.istore_n 3, 1) := by decide +kernel
theorem dX6_when_19 : decode cX6_when 19 = .ok (.iload_n 3, 1) := by decide +kernel
theorem dX6_when_20 : decode cX6_when 20 = .ok (.iload_n 1, 1) := by decide +kernel
theorem dX6_when_21 : decode cX6_when 21 = .ok (.if_icmp .eq 24, 3) := by decide +kernel
theorem dX6_when_24 : decode cX6_when 24 = .ok (.iload_n 2, 1) := by decide +kernel
theorem dX6_when_25 : decode cX6_when 25 = .ok (.aload_n 0, 1) := by decide +kernel
theorem dX6_when_26 : decode cX6_when 26 = .ok (.getfield 7, 3) := by decide +kernel
theorem dX6_when_29 : decode cX6_when 29 = .ok (.bipush 108, 2) := by decide +kernel
theorem dX6_when_31 : decode cX6_when 31 = .ok (.iload_n 3, 1) := by decide +kernel
theorem dX6_when_32 : decode cX6_when 32 = .ok (.iadd, 1) := by decide +kernel
theorem dX6_when_33 : decode cX6_when 33 = .ok (.iaload, 1) := by decide +kernel
theorem dX6_when_34 : decode cX6_when 34 = .ok (.iadd, 1) := by decide +kernel
theorem dX6_when_35 : decode cX6_when 35 = .ok (.istore_n 2, 1) := by decide +kernel
theorem dX6_when_36 : decode cX6_when 36 = .ok (.aload_n 0, 1) := by decide +kernel
theorem dX6_when_37 : decode cX6_when 37 = .ok (.iload_n 3, 1) := by decide +kernel
theorem dX6_when_38 : decode cX6_when 38 = .ok (.invokevirtual 123, 3) := by decide +kernel
theorem dX6_when_41 : decode cX6_when 41 = .ok (.istore_n 3, 1) := by decide +kernel
theorem dX6_when_42 : decode cX6_when 42 = .ok (.goto (-23), 3) := by decide +kernel
theorem dX6_when_45 : decode cX6_when 45 = .ok (.iload_n 2, 1) := by decide +kernel
theorem dX6_when_46 : decode cX6_when 46 = .ok (.ireturn, 1) := by decide +kernel
theorem dX6_at_0 : decode cX6_at 0 = .ok (.iload_n 1, 1) := by decide +kernel
theorem dX6_at_1 : decode cX6_at 1 = .ok (.i2l, 1) := by decide +kernel
theorem dX6_at_2 : decode cX6_at 2 = .ok (.lconst 0, 1) := by decide +kernel
theorem dX6_at_3 : decode cX6_at 3 = .ok (.ldc2_w 141, 3) := by decide +kernel
theorem dX6_at_6 : decode cX6_at 6 = .ok (.invokestatic 52, 3) := by decide +kernel
theorem dX6_at_9 : decode cX6_at 9 = .ok (.ifCond .ne 5, 3) := by decide +kernel
theorem dX6_at_12 : decode cX6_at 12 = .ok (.iconst (-1), 1) := by decide +kernel
theorem dX6_at_13 : decode cX6_at 13 = .ok (.ireturn, 1) := by decide +kernel
theorem dX6_at_14 : decode cX6_at 14 = .ok (.iconst 0, 1) := by decide +kernel
theorem dX6_at_15 : decode cX6_at 15 = .ok (.istore_n 2, 1) := by decide +kernel
theorem dX6_at_16 : decode cX6_at 16 = .ok (.iconst 0, 1) := by decide +kernel
theorem dX6_at_17 : decode cX6_at 17 = .ok (.istore_n 3, 1) := by decide +kernel
theorem dX6_at_18 : decode cX6_at 18 = .ok (.iload_n 3, 1) := by decide +kernel
theorem dX6_at_19 : decode cX6_at 19 = .ok (.bipush 12, 2) := by decide +kernel
theorem dX6_at_21 : decode cX6_at 21 = .ok (.if_icmp .ge 21, 3) := by decide +kernel
theorem dX6_at_24 : decode cX6_at 24 = .ok (.iload_n 2, 1) := by decide +kernel
theorem dX6_at_25 : decode cX6_at 25 = .ok (.aload_n 0, 1) := by decide +kernel
theorem dX6_at_26 : decode cX6_at 26 = .ok (.getfield 7, 3) := by decide +kernel
theorem dX6_at_29 : decode cX6_at 29 = .ok (.bipush 108, 2) := by decide +kernel
theorem dX6_at_31 : decode cX6_at 31 = .ok (.iload_n 3, 1) := by decide +kernel
theorem dX6_at_32 : decode cX6_at 32 = .ok (.iadd, 1) := by decide +kernel
theorem dX6_at_33 : decode cX6_at 33 = .ok (.iaload, 1) := by decide +kernel
theorem dX6_at_34 : decode cX6_at 34 = .ok (.iadd, 1) := by decide +kernel
theorem dX6_at_35 : decode cX6_at 35 = .ok (.istore_n 2, 1) := by decide +kernel
theorem dX6_at_36 : decode cX6_at 36 = .ok (.iinc 3 1, 3) := by decide +kernel
theorem dX6_at_39 : decode cX6_at 39 = .ok (.goto (-21), 3) := by decide +kernel
theorem dX6_at_42 : decode cX6_at 42 = .ok (.iload_n 1, 1) := by decide +kernel
theorem dX6_at_43 : decode cX6_at 43 = .ok (.iload_n 2, 1) := by decide +kernel
theorem dX6_at_44 : decode cX6_at 44 = .ok (.irem, 1) := by decide +kernel
theorem dX6_at_45 : decode cX6_at 45 = .ok (.istore_n 3, 1) := by decide +kernel
theorem dX6_at_46 : decode cX6_at 46 = .ok (.aload_n 0, 1) := by decide +kernel
theorem dX6_at_47 : decode cX6_at 47 = .ok (.getfield 7, 3) := by decide +kernel
theorem dX6_at_50 : decode cX6_at 50 = .ok (.bipush 106, 2) := by decide +kernel
theorem dX6_at_52 : decode cX6_at 52 = .ok (.iaload, 1) := by decide +kernel
theorem dX6_at_53 : decode cX6_at 53 = .ok (.istore 4, 2) := by decide +kernel
theorem dX6_at_55 : decode cX6_at 55 = .ok (.iload_n 3, 1) := by decide +kernel
theorem dX6_at_56 : decode cX6_at 56 = .ok (.aload_n 0, 1) := by decide +kernel
theorem dX6_at_57 : decode cX6_at 57 = .ok (.getfield 7, 3) := by decide +kernel
theorem dX6_at_60 : decode cX6_at 60 = .ok (.bipush 108, 2) := by decide +kernel
theorem dX6_at_62 : decode cX6_at 62 = .ok (.iload 4, 2) := by decide +kernel
theorem dX6_at_64 : decode cX6_at 64 = .ok (.iadd, 1) := by decide +kernel
theorem dX6_at_65 : decode cX6_at 65 = .ok (.iaload, 1) := by decide +kernel
theorem dX6_at_66 : decode cX6_at 66 = .ok (.if_icmp .lt 27, 3) := by decide +kernel
theorem dX6_at_69 : decode cX6_at 69 = .ok (.iload_n 3, 1) := by decide +kernel
theorem dX6_at_70 : decode cX6_at 70 = .ok (.aload_n 0, 1) := by decide +kernel
theorem dX6_at_71 : decode cX6_at 71 = .ok (.getfield 7, 3) := by decide +kernel
theorem dX6_at_74 : decode cX6_at 74 = .ok (.bipush 108, 2) := by decide +kernel
theorem dX6_at_76 : decode cX6_at 76 = .ok (.iload 4, 2) := by decide +kernel
theorem dX6_at_78 : decode cX6_at 78 = .ok (.iadd, 1) := by decide +kernel
theorem dX6_at_79 : decode cX6_at 79 = .ok (.iaload, 1) := by decide +kernel
theorem dX6_at_80 : decode cX6_at 80 = .ok (.isub, 1) := by decide +kernel
theorem dX6_at_81 : decode cX6_at 81 = .ok (.istore_n 3, 1) := by decide +kernel
theorem dX6_at_82 : decode cX6_at 82 = .ok (.aload_n 0, 1) := by decide +kernel
theorem dX6_at_83 : decode cX6_at 83 = .ok (.iload 4, 2) := by decide +kernel
theorem dX6_at_85 : decode cX6_at 85 = .ok (.invokevirtual 123, 3) := by decide +kernel
theorem dX6_at_88 : decode cX6_at 88 = .ok (.istore 4, 2) := by decide +kernel
theorem dX6_at_90 : decode cX6_at 90 = .ok (.goto (-35), 3) := by decide +kernel
theorem dX6_at_93 : decode cX6_at 93 = .ok (.iload 4, 2) := by decide +kernel
theorem dX6_at_95 : decode cX6_at 95 = .ok (.ireturn, 1) := by decide +kernel
theorem dX6_hand_0 : decode cX6_hand 0 = .ok (.iload_n 1, 1) := by decide +kernel
theorem dX6_hand_1 : decode cX6_hand 1 = .ok (.i2l, 1) := by decide +kernel
theorem dX6_hand_2 : decode cX6_hand 2 = .ok (.lconst 0, 1) := by decide +kernel
theorem dX6_hand_3 : decode cX6_hand 3 = .ok (.ldc2_w 89, 3) := by decide +kernel
theorem dX6_hand_6 : decode cX6_hand 6 = .ok (.invokestatic 52, 3) := by decide +kernel
theorem dX6_hand_9 : decode cX6_hand 9 = .ok (.ifCond .eq 15, 3) := by decide +kernel
theorem dX6_hand_12 : decode cX6_hand 12 = .ok (.iload_n 2, 1) := by decide +kernel
theorem dX6_hand_13 : decode cX6_hand 13 = .ok (.i2l, 1) := by decide +kernel
theorem dX6_hand_14 : decode cX6_hand 14 = .ok (.lconst 0, 1) := by decide +kernel
theorem dX6_hand_15 : decode cX6_hand 15 = .ok (.ldc2_w 143, 3) := by decide +kernel
theorem dX6_hand_18 : decode cX6_hand 18 = .ok (.invokestatic 52, 3) := by decide +kernel
theorem dX6_hand_21 : decode cX6_hand 21 = .ok (.ifCond .ne 5, 3) := by decide +kernel
theorem dX6_hand_24 : decode cX6_hand 24 = .ok (.iconst (-1), 1) := by decide +kernel
theorem dX6_hand_25 : decode cX6_hand 25 = .ok (.ireturn, 1) := by decide +kernel
theorem dX6_hand_26 : decode cX6_hand 26 = .ok (.aload_n 0, 1) := by decide +kernel
theorem dX6_hand_27 : decode cX6_hand 27 = .ok (.getfield 7, 3) := by decide +kernel
theorem dX6_hand_30 : decode cX6_hand 30 = .ok (.bipush 120, 2) := by decide +kernel
theorem dX6_hand_32 : decode cX6_hand 32 = .ok (.iload_n 1, 1) := by decide +kernel
theorem dX6_hand_33 : decode cX6_hand 33 = .ok (.iadd, 1) := by decide +kernel
theorem dX6_hand_34 : decode cX6_hand 34 = .ok (.iaload, 1) := by decide +kernel
theorem dX6_hand_35 : decode cX6_hand 35 = .ok (.istore_n 3, 1) := by decide +kernel
theorem dX6_hand_36 : decode cX6_hand 36 = .ok (.aload_n 0, 1) := by decide +kernel
theorem dX6_hand_37 : decode cX6_hand 37 = .ok (.getfield 7, 3) := by decide +kernel
theorem dX6_hand_40 : decode cX6_hand 40 = .ok (.bipush 120, 2) := by decide +kernel
theorem dX6_hand_42 : decode cX6_hand 42 = .ok (.iload_n 1, 1) := by decide +kernel
theorem dX6_hand_43 : decode cX6_hand 43 = .ok (.iadd, 1) := by decide +kernel
theorem dX6_hand_44 : decode cX6_hand 44 = .ok (.iload_n 2, 1) := by decide +kernel
theorem dX6_hand_45 : decode cX6_hand 45 = .ok (.iastore, 1) := by decide +kernel
theorem dX6_hand_46 : decode cX6_hand 46 = .ok (.iload_n 3, 1) := by decide +kernel
theorem dX6_hand_47 : decode cX6_hand 47 = .ok (.ireturn, 1) := by decide +kernel
theorem dX6_whose_0 : decode cX6_whose 0 = .ok (.aload_n 0, 1) := by decide +kernel
theorem dX6_whose_1 : decode cX6_whose 1 = .ok (.iload_n 1, 1) := by decide +kernel
theorem dX6_whose_2 : decode cX6_whose 2 = .ok (.invokevirtual 80, 3) := by decide +kernel
theorem dX6_whose_5 : decode cX6_whose 5 = .ok (.ifCond .ne 5, 3) := by decide +kernel
theorem dX6_whose_8 : decode cX6_whose 8 = .ok (.iconst (-1), 1) := by decide +kernel
theorem dX6_whose_9 : decode cX6_whose 9 = .ok (.ireturn, 1) := by decide +kernel
theorem dX6_whose_10 : decode cX6_whose 10 = .ok (.iconst 0, 1) := by decide +kernel
theorem dX6_whose_11 : decode cX6_whose 11 = .ok (.istore_n 2, 1) := by decide +kernel
theorem dX6_whose_12 : decode cX6_whose 12 = .ok (.iconst 0, 1) := by decide +kernel
theorem dX6_whose_13 : decode cX6_whose 13 = .ok (.istore_n 3, 1) := by decide +kernel
theorem dX6_whose_14 : decode cX6_whose 14 = .ok (.iload_n 3, 1) := by decide +kernel
theorem dX6_whose_15 : decode cX6_whose 15 = .ok (.bipush 12, 2) := by decide +kernel
theorem dX6_whose_17 : decode cX6_whose 17 = .ok (.if_icmp .ge 61, 3) := by decide +kernel
theorem dX6_whose_20 : decode cX6_whose 20 = .ok (.aload_n 0, 1) := by decide +kernel
theorem dX6_whose_21 : decode cX6_whose 21 = .ok (.getfield 7, 3) := by decide +kernel
theorem dX6_whose_24 : decode cX6_whose 24 = .ok (.iconst 1, 1) := by decide +kernel
theorem dX6_whose_25 : decode cX6_whose 25 = .ok (.bipush 12, 2) := by decide +kernel
theorem dX6_whose_27 : decode cX6_whose 27 = .ok (.iload_n 1, 1) := by decide +kernel
theorem dX6_whose_28 : decode cX6_whose 28 = .ok (.imul, 1) := by decide +kernel
theorem dX6_whose_29 : decode cX6_whose 29 = .ok (.iadd, 1) := by decide +kernel
theorem dX6_whose_30 : decode cX6_whose 30 = .ok (.iload_n 3, 1) := by decide +kernel
theorem dX6_whose_31 : decode cX6_whose 31 = .ok (.iadd, 1) := by decide +kernel
theorem dX6_whose_32 : decode cX6_whose 32 = .ok (.iaload, 1) := by decide +kernel
theorem dX6_whose_33 : decode cX6_whose 33 = .ok (.aload_n 0, 1) := by decide +kernel
theorem dX6_whose_34 : decode cX6_whose 34 = .ok (.getfield 7, 3) := by decide +kernel
theorem dX6_whose_37 : decode cX6_whose 37 = .ok (.iconst 1, 1) := by decide +kernel
theorem dX6_whose_38 : decode cX6_whose 38 = .ok (.bipush 12, 2) := by decide +kernel
theorem dX6_whose_40 : decode cX6_whose 40 = .ok (.iload_n 1, 1) := by decide +kernel
theorem dX6_whose_41 : decode cX6_whose 41 = .ok (.imul, 1) := by decide +kernel
theorem dX6_whose_42 : decode cX6_whose 42 = .ok (.iadd, 1) := by decide +kernel
theorem dX6_whose_43 : decode cX6_whose 43 = .ok (.iload_n 3, 1) := by decide +kernel
theorem dX6_whose_44 : decode cX6_whose 44 = .ok (.iconst 1, 1) := by decide +kernel
theorem dX6_whose_45 : decode cX6_whose 45 = .ok (.iadd, 1) := by decide +kernel
theorem dX6_whose_46 : decode cX6_whose 46 = .ok (.bipush 12, 2) := by decide +kernel
theorem dX6_whose_48 : decode cX6_whose 48 = .ok (.irem, 1) := by decide +kernel
theorem dX6_whose_49 : decode cX6_whose 49 = .ok (.iadd, 1) := by decide +kernel
theorem dX6_whose_50 : decode cX6_whose 50 = .ok (.iaload, 1) := by decide +kernel
theorem dX6_whose_51 : decode cX6_whose 51 = .ok (.isub, 1) := by decide +kernel
theorem dX6_whose_52 : decode cX6_whose 52 = .ok (.istore 4, 2) := by decide +kernel
theorem dX6_whose_54 : decode cX6_whose 54 = .ok (.iload_n 2, 1) := by decide +kernel
theorem dX6_whose_55 : decode cX6_whose 55 = .ok (.iconst 1, 1) := by decide +kernel
theorem dX6_whose_56 : decode cX6_whose 56 = .ok (.iload 4, 2) := by decide +kernel
theorem dX6_whose_58 : decode cX6_whose 58 = .ok (.ifCond .ge 9, 3) := by decide +kernel
theorem dX6_whose_61 : decode cX6_whose 61 = .ok (.iload 4, 2) := by decide +kernel
theorem dX6_whose_63 : decode cX6_whose 63 = .ok (.ineg, 1) := by decide +kernel
theorem dX6_whose_64 : decode cX6_whose 64 = .ok (.goto 5, 3) := by decide +kernel
theorem dX6_whose_67 : decode cX6_whose 67 = .ok (.iload 4, 2) := by decide +kernel
theorem dX6_whose_69 : decode cX6_whose 69 = .ok (.ishl, 1) := by decide +kernel
theorem dX6_whose_70 : decode cX6_whose 70 = .ok (.ior, 1) := by decide +kernel
theorem dX6_whose_71 : decode cX6_whose 71 = .ok (.istore_n 2, 1) := by decide +kernel
theorem dX6_whose_72 : decode cX6_whose 72 = .ok (.iinc 3 1, 3) := by decide +kernel
theorem dX6_whose_75 : decode cX6_whose 75 = .ok (.goto (-61), 3) := by decide +kernel
theorem dX6_whose_78 : decode cX6_whose 78 = .ok (.iconst 0, 1) := by decide +kernel
theorem dX6_whose_79 : decode cX6_whose 79 = .ok (.istore_n 3, 1) := by decide +kernel
theorem dX6_whose_80 : decode cX6_whose 80 = .ok (.iconst 0, 1) := by decide +kernel
theorem dX6_whose_81 : decode cX6_whose 81 = .ok (.istore 4, 2) := by decide +kernel
theorem dX6_whose_83 : decode cX6_whose 83 = .ok (.iload 4, 2) := by decide +kernel
theorem dX6_whose_85 : decode cX6_whose 85 = .ok (.iconst 4, 1) := by decide +kernel
theorem dX6_whose_86 : decode cX6_whose 86 = .ok (.if_icmp .ge 37, 3) := by decide +kernel
theorem dX6_whose_89 : decode cX6_whose 89 = .ok (.iload_n 3, 1) := by decide +kernel
theorem dX6_whose_90 : decode cX6_whose 90 = .ok (.iload_n 2, 1) := by decide +kernel
theorem dX6_whose_91 : decode cX6_whose 91 = .ok (.aload_n 0, 1) := by decide +kernel
theorem dX6_whose_92 : decode cX6_whose 92 = .ok (.getfield 7, 3) := by decide +kernel
theorem dX6_whose_95 : decode cX6_whose 95 = .ok (.bipush 120, 2) := by decide +kernel
theorem dX6_whose_97 : decode cX6_whose 97 = .ok (.iload 4, 2) := by decide +kernel
theorem dX6_whose_99 : decode cX6_whose 99 = .ok (.iadd, 1) := by decide +kernel
theorem dX6_whose_100 : decode cX6_whose 100 = .ok (.iaload, 1) := by decide +kernel
theorem dX6_whose_101 : decode cX6_whose 101 = .ok (.iconst (-1), 1) := by decide +kernel
theorem dX6_whose_102 : decode cX6_whose 102 = .ok (.ixor, 1) := by decide +kernel
theorem dX6_whose_103 : decode cX6_whose 103 = .ok (.iand, 1) := by decide +kernel
theorem dX6_whose_104 : decode cX6_whose 104 = .ok (.ifCond .ne 10, 3) := by decide +kernel
theorem dX6_whose_107 : decode cX6_whose 107 = .ok (.iconst 1, 1) := by decide +kernel
theorem dX6_whose_108 : decode cX6_whose 108 = .ok (.iload 4, 2) := by decide +kernel
theorem dX6_whose_110 : decode cX6_whose 110 = .ok (.ishl, 1) := by decide +kernel
theorem dX6_whose_111 : decode cX6_whose 111 = .ok (.goto 4, 3) := by decide +kernel
theorem dX6_whose_114 : decode cX6_whose 114 = .ok (.iconst 0, 1) := by decide +kernel
theorem dX6_whose_115 : decode cX6_whose 115 = .ok (.ior, 1) := by decide +kernel
theorem dX6_whose_116 : decode cX6_whose 116 = .ok (.istore_n 3, 1) := by decide +kernel
theorem dX6_whose_117 : decode cX6_whose 117 = .ok (.iinc 4 1, 3) := by decide +kernel
theorem dX6_whose_120 : decode cX6_whose 120 = .ok (.goto (-37), 3) := by decide +kernel
theorem dX6_whose_123 : decode cX6_whose 123 = .ok (.iload_n 3, 1) := by decide +kernel
theorem dX6_whose_124 : decode cX6_whose 124 = .ok (.ireturn, 1) := by decide +kernel
theorem dX6_image_0 : decode cX6_image 0 = .ok (.iconst 0, 1) := by decide +kernel
theorem dX6_image_1 : decode cX6_image 1 = .ok (.istore_n 1, 1) := by decide +kernel
theorem dX6_image_2 : decode cX6_image 2 = .ok (.iload_n 1, 1) := by decide +kernel
theorem dX6_image_3 : decode cX6_image 3 = .ok (.bipush 124, 2) := by decide +kernel
theorem dX6_image_5 : decode cX6_image 5 = .ok (.if_icmp .ge 24, 3) := by decide +kernel
theorem dX6_image_8 : decode cX6_image 8 = .ok (.aload_n 0, 1) := by decide +kernel
theorem dX6_image_9 : decode cX6_image 9 = .ok (.getfield 7, 3) := by decide +kernel
theorem dX6_image_12 : decode cX6_image 12 = .ok (.bipush 124, 2) := by decide +kernel
theorem dX6_image_14 : decode cX6_image 14 = .ok (.iload_n 1, 1) := by decide +kernel
theorem dX6_image_15 : decode cX6_image 15 = .ok (.iadd, 1) := by decide +kernel
theorem dX6_image_16 : decode cX6_image 16 = .ok (.aload_n 0, 1) := by decide +kernel
theorem dX6_image_17 : decode cX6_image 17 = .ok (.getfield 7, 3) := by decide +kernel
theorem dX6_image_20 : decode cX6_image 20 = .ok (.iload_n 1, 1) := by decide +kernel
theorem dX6_image_21 : decode cX6_image 21 = .ok (.iaload, 1) := by decide +kernel
theorem dX6_image_22 : decode cX6_image 22 = .ok (.iastore, 1) := by decide +kernel
theorem dX6_image_23 : decode cX6_image 23 = .ok (.iinc 1 1, 3) := by decide +kernel
theorem dX6_image_26 : decode cX6_image 26 = .ok (.goto (-24), 3) := by decide +kernel
theorem dX6_image_29 : decode cX6_image 29 = .ok (.aload_n 0, 1) := by decide +kernel
theorem dX6_image_30 : decode cX6_image 30 = .ok (.iconst 1, 1) := by decide +kernel
theorem dX6_image_31 : decode cX6_image 31 = .ok (.putfield 145, 3) := by decide +kernel
theorem dX6_image_34 : decode cX6_image 34 = .ok (.iconst 1, 1) := by decide +kernel
theorem dX6_image_35 : decode cX6_image 35 = .ok (.ireturn, 1) := by decide +kernel
theorem dX6_restore_0 : decode cX6_restore 0 = .ok (.aload_n 0, 1) := by decide +kernel
theorem dX6_restore_1 : decode cX6_restore 1 = .ok (.getfield 145, 3) := by decide +kernel
theorem dX6_restore_4 : decode cX6_restore 4 = .ok (.ifCond .ne 6, 3) := by decide +kernel
theorem dX6_restore_7 : decode cX6_restore 7 = .ok (.bipush (-4), 2) := by decide +kernel
theorem dX6_restore_9 : decode cX6_restore 9 = .ok (.ireturn, 1) := by decide +kernel
theorem dX6_restore_10 : decode cX6_restore 10 = .ok (.iconst 0, 1) := by decide +kernel
theorem dX6_restore_11 : decode cX6_restore 11 = .ok (.istore_n 1, 1) := by decide +kernel
theorem dX6_restore_12 : decode cX6_restore 12 = .ok (.iload_n 1, 1) := by decide +kernel
theorem dX6_restore_13 : decode cX6_restore 13 = .ok (.bipush 124, 2) := by decide +kernel
theorem dX6_restore_15 : decode cX6_restore 15 = .ok (.if_icmp .ge 24, 3) := by decide +kernel
theorem dX6_restore_18 : decode cX6_restore 18 = .ok (.aload_n 0, 1) := by decide +kernel
theorem dX6_restore_19 : decode cX6_restore 19 = .ok (.getfield 7, 3) := by decide +kernel
theorem dX6_restore_22 : decode cX6_restore 22 = .ok (.iload_n 1, 1) := by decide +kernel
theorem dX6_restore_23 : decode cX6_restore 23 = .ok (.aload_n 0, 1) := by decide +kernel
theorem dX6_restore_24 : decode cX6_restore 24 = .ok (.getfield 7, 3) := by decide +kernel
theorem dX6_restore_27 : decode cX6_restore 27 = .ok (.bipush 124, 2) := by decide +kernel
theorem dX6_restore_29 : decode cX6_restore 29 = .ok (.iload_n 1, 1) := by decide +kernel
theorem dX6_restore_30 : decode cX6_restore 30 = .ok (.iadd, 1) := by decide +kernel
theorem dX6_restore_31 : decode cX6_restore 31 = .ok (.iaload, 1) := by decide +kernel
theorem dX6_restore_32 : decode cX6_restore 32 = .ok (.iastore, 1) := by decide +kernel
theorem dX6_restore_33 : decode cX6_restore 33 = .ok (.iinc 1 1, 3) := by decide +kernel
theorem dX6_restore_36 : decode cX6_restore 36 = .ok (.goto (-24), 3) := by decide +kernel
theorem dX6_restore_39 : decode cX6_restore 39 = .ok (.iconst 1, 1) := by decide +kernel
theorem dX6_restore_40 : decode cX6_restore 40 = .ok (.ireturn, 1) := by decide +kernel
theorem dX6_count_0 : decode cX6_count 0 = .ok (.iconst 0, 1) := by decide +kernel
theorem dX6_count_1 : decode cX6_count 1 = .ok (.istore_n 2, 1) := by decide +kernel
theorem dX6_count_2 : decode cX6_count 2 = .ok (.iconst 0, 1) := by decide +kernel
theorem dX6_count_3 : decode cX6_count 3 = .ok (.istore_n 3, 1) := by decide +kernel
theorem dX6_count_4 : decode cX6_count 4 = .ok (.iload_n 3, 1) := by decide +kernel
theorem dX6_count_5 : decode cX6_count 5 = .ok (.aload_n 0, 1) := by decide +kernel
theorem dX6_count_6 : decode cX6_count 6 = .ok (.getfield 7, 3) := by decide +kernel
theorem dX6_count_9 : decode cX6_count 9 = .ok (.bipush 73, 2) := by decide +kernel
theorem dX6_count_11 : decode cX6_count 11 = .ok (.iaload, 1) := by decide +kernel
theorem dX6_count_12 : decode cX6_count 12 = .ok (.if_icmp .ge 41, 3) := by decide +kernel
theorem dX6_count_15 : decode cX6_count 15 = .ok (.iload_n 2, 1) := by decide +kernel
theorem dX6_count_16 : decode cX6_count 16 = .ok (.aload_n 0, 1) := by decide +kernel
theorem dX6_count_17 : decode cX6_count 17 = .ok (.iload_n 3, 1) := by decide +kernel
theorem dX6_count_18 : decode cX6_count 18 = .ok (.aload_n 0, 1) := by decide +kernel
theorem dX6_count_19 : decode cX6_count 19 = .ok (.getfield 7, 3) := by decide +kernel
theorem dX6_count_22 : decode cX6_count 22 = .ok (.bipush 106, 2) := by decide +kernel
theorem dX6_count_24 : decode cX6_count 24 = .ok (.iaload, 1) := by decide +kernel
theorem dX6_count_25 : decode cX6_count 25 = .ok (.invokevirtual 109, 3) := by decide +kernel
theorem dX6_count_28 : decode cX6_count 28 = .ok (.aload_n 0, 1) := by decide +kernel
theorem dX6_count_29 : decode cX6_count 29 = .ok (.getfield 7, 3) := by decide +kernel
theorem dX6_count_32 : decode cX6_count 32 = .ok (.bipush 104, 2) := by decide +kernel
theorem dX6_count_34 : decode cX6_count 34 = .ok (.iaload, 1) := by decide +kernel
theorem dX6_count_35 : decode cX6_count 35 = .ok (.if_icmp .lt 9, 3) := by decide +kernel
theorem dX6_count_38 : decode cX6_count 38 = .ok (.iconst 1, 1) := by decide +kernel
theorem dX6_count_39 : decode cX6_count 39 = .ok (.iload_n 3, 1) := by decide +kernel
theorem dX6_count_40 : decode cX6_count 40 = .ok (.ishl, 1) := by decide +kernel
theorem dX6_count_41 : decode cX6_count 41 = .ok (.goto 4, 3) := by decide +kernel
theorem dX6_count_44 : decode cX6_count 44 = .ok (.iconst 0, 1) := by decide +kernel
theorem dX6_count_45 : decode cX6_count 45 = .ok (.ior, 1) := by decide +kernel
theorem dX6_count_46 : decode cX6_count 46 = .ok (.istore_n 2, 1) := by decide +kernel
theorem dX6_count_47 : decode cX6_count 47 = .ok (.iinc 3 1, 3) := by decide +kernel
theorem dX6_count_50 : decode cX6_count 50 = .ok (.goto (-46), 3) := by decide +kernel
theorem dX6_count_53 : decode cX6_count 53 = .ok (.iload_n 1, 1) := by decide +kernel
theorem dX6_count_54 : decode cX6_count 54 = .ok (.tableswitch 79 0 5 #[38, 45, 53, 61, 69, 77], 38) := by decide +kernel
theorem dX6_count_92 : decode cX6_count 92 = .ok (.aload_n 0, 1) := by decide +kernel
theorem dX6_count_93 : decode cX6_count 93 = .ok (.getfield 7, 3) := by decide +kernel
theorem dX6_count_96 : decode cX6_count 96 = .ok (.iconst 0, 1) := by decide +kernel
theorem dX6_count_97 : decode cX6_count 97 = .ok (.iaload, 1) := by decide +kernel
theorem dX6_count_98 : decode cX6_count 98 = .ok (.ireturn, 1) := by decide +kernel
theorem dX6_count_99 : decode cX6_count 99 = .ok (.aload_n 0, 1) := by decide +kernel
theorem dX6_count_100 : decode cX6_count 100 = .ok (.getfield 7, 3) := by decide +kernel
theorem dX6_count_103 : decode cX6_count 103 = .ok (.bipush 73, 2) := by decide +kernel
theorem dX6_count_105 : decode cX6_count 105 = .ok (.iaload, 1) := by decide +kernel
theorem dX6_count_106 : decode cX6_count 106 = .ok (.ireturn, 1) := by decide +kernel
theorem dX6_count_107 : decode cX6_count 107 = .ok (.aload_n 0, 1) := by decide +kernel
theorem dX6_count_108 : decode cX6_count 108 = .ok (.getfield 7, 3) := by decide +kernel
theorem dX6_count_111 : decode cX6_count 111 = .ok (.bipush 106, 2) := by decide +kernel
theorem dX6_count_113 : decode cX6_count 113 = .ok (.iaload, 1) := by decide +kernel
theorem dX6_count_114 : decode cX6_count 114 = .ok (.ireturn, 1) := by decide +kernel
theorem dX6_count_115 : decode cX6_count 115 = .ok (.aload_n 0, 1) := by decide +kernel
theorem dX6_count_116 : decode cX6_count 116 = .ok (.getfield 7, 3) := by decide +kernel
theorem dX6_count_119 : decode cX6_count 119 = .ok (.bipush 105, 2) := by decide +kernel
theorem dX6_count_121 : decode cX6_count 121 = .ok (.iaload, 1) := by decide +kernel
theorem dX6_count_122 : decode cX6_count 122 = .ok (.ireturn, 1) := by decide +kernel
theorem dX6_count_123 : decode cX6_count 123 = .ok (.aload_n 0, 1) := by decide +kernel
theorem dX6_count_124 : decode cX6_count 124 = .ok (.getfield 7, 3) := by decide +kernel
theorem dX6_count_127 : decode cX6_count 127 = .ok (.bipush 107, 2) := by decide +kernel
theorem dX6_count_129 : decode cX6_count 129 = .ok (.iaload, 1) := by decide +kernel
theorem dX6_count_130 : decode cX6_count 130 = .ok (.ireturn, 1) := by decide +kernel
theorem dX6_count_131 : decode cX6_count 131 = .ok (.iload_n 2, 1) := by decide +kernel
theorem dX6_count_132 : decode cX6_count 132 = .ok (.ireturn, 1) := by decide +kernel
theorem dX6_count_133 : decode cX6_count 133 = .ok (.iconst (-1), 1) := by decide +kernel
theorem dX6_count_134 : decode cX6_count 134 = .ok (.ireturn, 1) := by decide +kernel
theorem dX6_isSheet_0 : decode cX6_isSheet 0 = .ok (.iload_n 0, 1) := by decide +kernel
theorem dX6_isSheet_1 : decode cX6_isSheet 1 = .ok (.i2l, 1) := by decide +kernel
theorem dX6_isSheet_2 : decode cX6_isSheet 2 = .ok (.lconst 0, 1) := by decide +kernel
theorem dX6_isSheet_3 : decode cX6_isSheet 3 = .ok (.ldc2_w 89, 3) := by decide +kernel
theorem dX6_isSheet_6 : decode cX6_isSheet 6 = .ok (.invokestatic 52, 3) := by decide +kernel
theorem dX6_isSheet_9 : decode cX6_isSheet 9 = .ok (.ireturn, 1) := by decide +kernel
theorem dX6_bars_0 : decode cX6_bars 0 = .ok (.aload_n 0, 1) := by decide +kernel
theorem dX6_bars_1 : decode cX6_bars 1 = .ok (.getfield 37, 3) := by decide +kernel
theorem dX6_bars_4 : decode cX6_bars 4 = .ok (.iload_n 1, 1) := by decide +kernel
theorem dX6_bars_5 : decode cX6_bars 5 = .ok (.iaload, 1) := by decide +kernel
theorem dX6_bars_6 : decode cX6_bars 6 = .ok (.ifCond .ge 8, 3) := by decide +kernel
theorem dX6_bars_9 : decode cX6_bars 9 = .ok (.bipush (-11), 2) := by decide +kernel
theorem dX6_bars_11 : decode cX6_bars 11 = .ok (.goto 50, 3) := by decide +kernel
theorem dX6_bars_14 : decode cX6_bars 14 = .ok (.aload_n 0, 1) := by decide +kernel
theorem dX6_bars_15 : decode cX6_bars 15 = .ok (.getfield 37, 3) := by decide +kernel
theorem dX6_bars_18 : decode cX6_bars 18 = .ok (.iload_n 1, 1) := by decide +kernel
theorem dX6_bars_19 : decode cX6_bars 19 = .ok (.iaload, 1) := by decide +kernel
theorem dX6_bars_20 : decode cX6_bars 20 = .ok (.iload_n 2, 1) := by decide +kernel
theorem dX6_bars_21 : decode cX6_bars 21 = .ok (.if_icmp .eq 8, 3) := by decide +kernel
theorem dX6_bars_24 : decode cX6_bars 24 = .ok (.bipush (-12), 2) := by decide +kernel
theorem dX6_bars_26 : decode cX6_bars 26 = .ok (.goto 35, 3) := by decide +kernel
theorem dX6_bars_29 : decode cX6_bars 29 = .ok (.iload_n 3, 1) := by decide +kernel
theorem dX6_bars_30 : decode cX6_bars 30 = .ok (.ifCond .lt 25, 3) := by decide +kernel
theorem dX6_bars_33 : decode cX6_bars 33 = .ok (.iload 4, 2) := by decide +kernel
theorem dX6_bars_35 : decode cX6_bars 35 = .ok (.ifCond .lt 20, 3) := by decide +kernel
theorem dX6_bars_38 : decode cX6_bars 38 = .ok (.iload_n 3, 1) := by decide +kernel
theorem dX6_bars_39 : decode cX6_bars 39 = .ok (.i2l, 1) := by decide +kernel
theorem dX6_bars_40 : decode cX6_bars 40 = .ok (.iload 4, 2) := by decide +kernel
theorem dX6_bars_42 : decode cX6_bars 42 = .ok (.i2l, 1) := by decide +kernel
theorem dX6_bars_43 : decode cX6_bars 43 = .ok (.ladd, 1) := by decide +kernel
theorem dX6_bars_44 : decode cX6_bars 44 = .ok (.aload_n 0, 1) := by decide +kernel
theorem dX6_bars_45 : decode cX6_bars 45 = .ok (.getfield 40, 3) := by decide +kernel
theorem dX6_bars_48 : decode cX6_bars 48 = .ok (.iload_n 1, 1) := by decide +kernel
theorem dX6_bars_49 : decode cX6_bars 49 = .ok (.iaload, 1) := by decide +kernel
theorem dX6_bars_50 : decode cX6_bars 50 = .ok (.i2l, 1) := by decide +kernel
theorem dX6_bars_51 : decode cX6_bars 51 = .ok (.lcmp, 1) := by decide +kernel
theorem dX6_bars_52 : decode cX6_bars 52 = .ok (.ifCond .le 8, 3) := by decide +kernel
theorem dX6_bars_55 : decode cX6_bars 55 = .ok (.bipush (-13), 2) := by decide +kernel
theorem dX6_bars_57 : decode cX6_bars 57 = .ok (.goto 4, 3) := by decide +kernel
theorem dX6_bars_60 : decode cX6_bars 60 = .ok (.iconst 0, 1) := by decide +kernel
theorem dX6_bars_61 : decode cX6_bars 61 = .ok (.ireturn, 1) := by decide +kernel
theorem dX6_cutTo_0 : decode cX6_cutTo 0 = .ok (.iload_n 0, 1) := by decide +kernel
theorem dX6_cutTo_1 : decode cX6_cutTo 1 = .ok (.ifCond .ne 10, 3) := by decide +kernel
theorem dX6_cutTo_4 : decode cX6_cutTo 4 = .ok (.lload_n 1, 1) := by decide +kernel
theorem dX6_cutTo_5 : decode cX6_cutTo 5 = .ok (.l2i, 1) := by decide +kernel
theorem dX6_cutTo_6 : decode cX6_cutTo 6 = .ok (.i2s, 1) := by decide +kernel
theorem dX6_cutTo_7 : decode cX6_cutTo 7 = .ok (.i2l, 1) := by decide +kernel
theorem dX6_cutTo_8 : decode cX6_cutTo 8 = .ok (.goto 15, 3) := by decide +kernel
theorem dX6_cutTo_11 : decode cX6_cutTo 11 = .ok (.iload_n 0, 1) := by decide +kernel
theorem dX6_cutTo_12 : decode cX6_cutTo 12 = .ok (.iconst 1, 1) := by decide +kernel
theorem dX6_cutTo_13 : decode cX6_cutTo 13 = .ok (.if_icmp .ne 9, 3) := by decide +kernel
theorem dX6_cutTo_16 : decode cX6_cutTo 16 = .ok (.lload_n 1, 1) := by decide +kernel
theorem dX6_cutTo_17 : decode cX6_cutTo 17 = .ok (.l2i, 1) := by decide +kernel
theorem dX6_cutTo_18 : decode cX6_cutTo 18 = .ok (.i2l, 1) := by decide +kernel
theorem dX6_cutTo_19 : decode cX6_cutTo 19 = .ok (.goto 4, 3) := by decide +kernel
theorem dX6_cutTo_22 : decode cX6_cutTo 22 = .ok (.lload_n 1, 1) := by decide +kernel
theorem dX6_cutTo_23 : decode cX6_cutTo 23 = .ok (.lreturn, 1) := by decide +kernel
theorem dX6_isSo_0 : decode cX6_isSo 0 = .ok (.iconst 1, 1) := by decide +kernel
theorem dX6_isSo_1 : decode cX6_isSo 1 = .ok (.istore_n 2, 1) := by decide +kernel
theorem dX6_isSo_2 : decode cX6_isSo 2 = .ok (.iconst 0, 1) := by decide +kernel
theorem dX6_isSo_3 : decode cX6_isSo 3 = .ok (.istore_n 3, 1) := by decide +kernel
theorem dX6_isSo_4 : decode cX6_isSo 4 = .ok (.iload_n 3, 1) := by decide +kernel
theorem dX6_isSo_5 : decode cX6_isSo 5 = .ok (.aload_n 0, 1) := by decide +kernel
theorem dX6_isSo_6 : decode cX6_isSo 6 = .ok (.getfield 7, 3) := by decide +kernel
theorem dX6_isSo_9 : decode cX6_isSo 9 = .ok (.bipush 73, 2) := by decide +kernel
theorem dX6_isSo_11 : decode cX6_isSo 11 = .ok (.iaload, 1) := by decide +kernel
theorem dX6_isSo_12 : decode cX6_isSo 12 = .ok (.if_icmp .ge 37, 3) := by decide +kernel
theorem dX6_isSo_15 : decode cX6_isSo 15 = .ok (.iload_n 2, 1) := by decide +kernel
theorem dX6_isSo_16 : decode cX6_isSo 16 = .ok (.ifCond .eq 25, 3) := by decide +kernel
theorem dX6_isSo_19 : decode cX6_isSo 19 = .ok (.aload_n 0, 1) := by decide +kernel
theorem dX6_isSo_20 : decode cX6_isSo 20 = .ok (.iload_n 3, 1) := by decide +kernel
theorem dX6_isSo_21 : decode cX6_isSo 21 = .ok (.invokevirtual 112, 3) := by decide +kernel
theorem dX6_isSo_24 : decode cX6_isSo 24 = .ok (.i2l, 1) := by decide +kernel
theorem dX6_isSo_25 : decode cX6_isSo 25 = .ok (.aload_n 0, 1) := by decide +kernel
theorem dX6_isSo_26 : decode cX6_isSo 26 = .ok (.getfield 43, 3) := by decide +kernel
theorem dX6_isSo_29 : decode cX6_isSo 29 = .ok (.iload_n 1, 1) := by decide +kernel
theorem dX6_isSo_30 : decode cX6_isSo 30 = .ok (.iload_n 3, 1) := by decide +kernel
theorem dX6_isSo_31 : decode cX6_isSo 31 = .ok (.iadd, 1) := by decide +kernel
theorem dX6_isSo_32 : decode cX6_isSo 32 = .ok (.laload, 1) := by decide +kernel
theorem dX6_isSo_33 : decode cX6_isSo 33 = .ok (.lcmp, 1) := by decide +kernel
theorem dX6_isSo_34 : decode cX6_isSo 34 = .ok (.ifCond .ne 7, 3) := by decide +kernel
theorem dX6_isSo_37 : decode cX6_isSo 37 = .ok (.iconst 1, 1) := by decide +kernel
theorem dX6_isSo_38 : decode cX6_isSo 38 = .ok (.goto 4, 3) := by decide +kernel
theorem dX6_isSo_41 : decode cX6_isSo 41 = .ok (.iconst 0, 1) := by decide +kernel
theorem dX6_isSo_42 : decode cX6_isSo 42 = .ok (.istore_n 2, 1) := by decide +kernel
theorem dX6_isSo_43 : decode cX6_isSo 43 = .ok (.iinc 3 1, 3) := by decide +kernel
theorem dX6_isSo_46 : decode cX6_isSo 46 = .ok (.goto (-42), 3) := by decide +kernel
theorem dX6_isSo_49 : decode cX6_isSo 49 = .ok (.iload_n 2, 1) := by decide +kernel
theorem dX6_isSo_50 : decode cX6_isSo 50 = .ok (.ireturn, 1) := by decide +kernel
theorem dX6_worn_0 : decode cX6_worn 0 = .ok (.iload_n 1, 1) := by decide +kernel
theorem dX6_worn_1 : decode cX6_worn 1 = .ok (.i2l, 1) := by decide +kernel
theorem dX6_worn_2 : decode cX6_worn 2 = .ok (.lconst 1, 1) := by decide +kernel
theorem dX6_worn_3 : decode cX6_worn 3 = .ok (.ldc2_w 87, 3) := by decide +kernel
theorem dX6_worn_6 : decode cX6_worn 6 = .ok (.invokestatic 52, 3) := by decide +kernel
theorem dX6_worn_9 : decode cX6_worn 9 = .ok (.ifCond .eq 22, 3) := by decide +kernel
theorem dX6_worn_12 : decode cX6_worn 12 = .ok (.iload_n 2, 1) := by decide +kernel
theorem dX6_worn_13 : decode cX6_worn 13 = .ok (.invokestatic 149, 3) := by decide +kernel
theorem dX6_worn_16 : decode cX6_worn 16 = .ok (.ifCond .eq 15, 3) := by decide +kernel
theorem dX6_worn_19 : decode cX6_worn 19 = .ok (.iload_n 3, 1) := by decide +kernel
theorem dX6_worn_20 : decode cX6_worn 20 = .ok (.i2l, 1) := by decide +kernel
theorem dX6_worn_21 : decode cX6_worn 21 = .ok (.lconst 0, 1) := by decide +kernel
theorem dX6_worn_22 : decode cX6_worn 22 = .ok (.ldc2_w 152, 3) := by decide +kernel
theorem dX6_worn_25 : decode cX6_worn 25 = .ok (.invokestatic 52, 3) := by decide +kernel
theorem dX6_worn_28 : decode cX6_worn 28 = .ok (.ifCond .ne 5, 3) := by decide +kernel
theorem dX6_worn_31 : decode cX6_worn 31 = .ok (.iconst (-1), 1) := by decide +kernel
theorem dX6_worn_32 : decode cX6_worn 32 = .ok (.ireturn, 1) := by decide +kernel
theorem dX6_worn_33 : decode cX6_worn 33 = .ok (.aload_n 0, 1) := by decide +kernel
theorem dX6_worn_34 : decode cX6_worn 34 = .ok (.iload_n 2, 1) := by decide +kernel
theorem dX6_worn_35 : decode cX6_worn 35 = .ok (.iload_n 3, 1) := by decide +kernel
theorem dX6_worn_36 : decode cX6_worn 36 = .ok (.iload 4, 2) := by decide +kernel
theorem dX6_worn_38 : decode cX6_worn 38 = .ok (.aload_n 0, 1) := by decide +kernel
theorem dX6_worn_39 : decode cX6_worn 39 = .ok (.getfield 7, 3) := by decide +kernel
theorem dX6_worn_42 : decode cX6_worn 42 = .ok (.bipush 73, 2) := by decide +kernel
theorem dX6_worn_44 : decode cX6_worn 44 = .ok (.iaload, 1) := by decide +kernel
theorem dX6_worn_45 : decode cX6_worn 45 = .ok (.invokevirtual 154, 3) := by decide +kernel
theorem dX6_worn_48 : decode cX6_worn 48 = .ok (.istore 5, 2) := by decide +kernel
theorem dX6_worn_50 : decode cX6_worn 50 = .ok (.iload 5, 2) := by decide +kernel
theorem dX6_worn_52 : decode cX6_worn 52 = .ok (.ifCond .eq 6, 3) := by decide +kernel
theorem dX6_worn_55 : decode cX6_worn 55 = .ok (.iload 5, 2) := by decide +kernel
theorem dX6_worn_57 : decode cX6_worn 57 = .ok (.ireturn, 1) := by decide +kernel
theorem dX6_worn_58 : decode cX6_worn 58 = .ok (.aload_n 0, 1) := by decide +kernel
theorem dX6_worn_59 : decode cX6_worn 59 = .ok (.bipush 24, 2) := by decide +kernel
theorem dX6_worn_61 : decode cX6_worn 61 = .ok (.iload_n 2, 1) := by decide +kernel
theorem dX6_worn_62 : decode cX6_worn 62 = .ok (.imul, 1) := by decide +kernel
theorem dX6_worn_63 : decode cX6_worn 63 = .ok (.iload 4, 2) := by decide +kernel
theorem dX6_worn_65 : decode cX6_worn 65 = .ok (.iadd, 1) := by decide +kernel
theorem dX6_worn_66 : decode cX6_worn 66 = .ok (.invokevirtual 158, 3) := by decide +kernel
theorem dX6_worn_69 : decode cX6_worn 69 = .ok (.ifCond .eq 8, 3) := by decide +kernel
theorem dX6_worn_72 : decode cX6_worn 72 = .ok (.bipush 64, 2) := by decide +kernel
theorem dX6_worn_74 : decode cX6_worn 74 = .ok (.goto 4, 3) := by decide +kernel
theorem dX6_worn_77 : decode cX6_worn 77 = .ok (.iconst 0, 1) := by decide +kernel
theorem dX6_worn_78 : decode cX6_worn 78 = .ok (.istore 6, 2) := by decide +kernel
theorem dX6_worn_80 : decode cX6_worn 80 = .ok (.iconst 0, 1) := by decide +kernel
theorem dX6_worn_81 : decode cX6_worn 81 = .ok (.istore 7, 2) := by decide +kernel
theorem dX6_worn_83 : decode cX6_worn 83 = .ok (.iload 7, 2) := by decide +kernel
theorem dX6_worn_85 : decode cX6_worn 85 = .ok (.aload_n 0, 1) := by decide +kernel
theorem dX6_worn_86 : decode cX6_worn 86 = .ok (.getfield 7, 3) := by decide +kernel
theorem dX6_worn_89 : decode cX6_worn 89 = .ok (.iconst 0, 1) := by decide +kernel
theorem dX6_worn_90 : decode cX6_worn 90 = .ok (.iaload, 1) := by decide +kernel
theorem dX6_worn_91 : decode cX6_worn 91 = .ok (.if_icmp .ge 147, 3) := by decide +kernel
theorem dX6_worn_94 : decode cX6_worn 94 = .ok (.iconst 0, 1) := by decide +kernel
theorem dX6_worn_95 : decode cX6_worn 95 = .ok (.istore 8, 2) := by decide +kernel
theorem dX6_worn_97 : decode cX6_worn 97 = .ok (.iload 8, 2) := by decide +kernel
theorem dX6_worn_99 : decode cX6_worn 99 = .ok (.bipush 12, 2) := by decide +kernel
theorem dX6_worn_101 : decode cX6_worn 101 = .ok (.if_icmp .ge 66, 3) := by decide +kernel
theorem dX6_worn_104 : decode cX6_worn 104 = .ok (.iconst 1, 1) := by decide +kernel
theorem dX6_worn_105 : decode cX6_worn 105 = .ok (.bipush 12, 2) := by decide +kernel
theorem dX6_worn_107 : decode cX6_worn 107 = .ok (.iload 7, 2) := by decide +kernel
theorem dX6_worn_109 : decode cX6_worn 109 = .ok (.imul, 1) := by decide +kernel
theorem dX6_worn_110 : decode cX6_worn 110 = .ok (.iadd, 1) := by decide +kernel
theorem dX6_worn_111 : decode cX6_worn 111 = .ok (.iload 8, 2) := by decide +kernel
theorem dX6_worn_113 : decode cX6_worn 113 = .ok (.iadd, 1) := by decide +kernel
theorem dX6_worn_114 : decode cX6_worn 114 = .ok (.istore 9, 2) := by decide +kernel
theorem dX6_worn_116 : decode cX6_worn 116 = .ok (.aload_n 0, 1) := by decide +kernel
theorem dX6_worn_117 : decode cX6_worn 117 = .ok (.getfield 19, 3) := by decide +kernel
theorem dX6_worn_120 : decode cX6_worn 120 = .ok (.iload 8, 2) := by decide +kernel
theorem dX6_worn_122 : decode cX6_worn 122 = .ok (.aload_n 0, 1) := by decide +kernel
theorem dX6_worn_123 : decode cX6_worn 123 = .ok (.getfield 7, 3) := by decide +kernel
theorem dX6_worn_126 : decode cX6_worn 126 = .ok (.iload 9, 2) := by decide +kernel
theorem dX6_worn_128 : decode cX6_worn 128 = .ok (.iaload, 1) := by decide +kernel
theorem dX6_worn_129 : decode cX6_worn 129 = .ok (.iastore, 1) := by decide +kernel
theorem dX6_worn_130 : decode cX6_worn 130 = .ok (.aload_n 0, 1) := by decide +kernel
theorem dX6_worn_131 : decode cX6_worn 131 = .ok (.getfield 7, 3) := by decide +kernel
theorem dX6_worn_134 : decode cX6_worn 134 = .ok (.iload 9, 2) := by decide +kernel
theorem dX6_worn_136 : decode cX6_worn 136 = .ok (.aload_n 0, 1) := by decide +kernel
theorem dX6_worn_137 : decode cX6_worn 137 = .ok (.getfield 7, 3) := by decide +kernel
theorem dX6_worn_140 : decode cX6_worn 140 = .ok (.iload 9, 2) := by decide +kernel
theorem dX6_worn_142 : decode cX6_worn 142 = .ok (.iaload, 1) := by decide +kernel
theorem dX6_worn_143 : decode cX6_worn 143 = .ok (.iload_n 1, 1) := by decide +kernel
theorem dX6_worn_144 : decode cX6_worn 144 = .ok (.if_icmp .le 15, 3) := by decide +kernel
theorem dX6_worn_147 : decode cX6_worn 147 = .ok (.aload_n 0, 1) := by decide +kernel
theorem dX6_worn_148 : decode cX6_worn 148 = .ok (.getfield 7, 3) := by decide +kernel
theorem dX6_worn_151 : decode cX6_worn 151 = .ok (.iload 9, 2) := by decide +kernel
theorem dX6_worn_153 : decode cX6_worn 153 = .ok (.iaload, 1) := by decide +kernel
theorem dX6_worn_154 : decode cX6_worn 154 = .ok (.iload_n 1, 1) := by decide +kernel
theorem dX6_worn_155 : decode cX6_worn 155 = .ok (.isub, 1) := by decide +kernel
theorem dX6_worn_156 : decode cX6_worn 156 = .ok (.goto 4, 3) := by decide +kernel
theorem dX6_worn_159 : decode cX6_worn 159 = .ok (.iconst 0, 1) := by decide +kernel
theorem dX6_worn_160 : decode cX6_worn 160 = .ok (.iastore, 1) := by decide +kernel
theorem dX6_worn_161 : decode cX6_worn 161 = .ok (.iinc 8 1, 3) := by decide +kernel
theorem dX6_worn_164 : decode cX6_worn 164 = .ok (.goto (-67), 3) := by decide +kernel
theorem dX6_worn_167 : decode cX6_worn 167 = .ok (.iload 6, 2) := by decide +kernel
theorem dX6_worn_169 : decode cX6_worn 169 = .ok (.aload_n 0, 1) := by decide +kernel
theorem dX6_worn_170 : decode cX6_worn 170 = .ok (.bipush 24, 2) := by decide +kernel
theorem dX6_worn_172 : decode cX6_worn 172 = .ok (.iload_n 2, 1) := by decide +kernel
theorem dX6_worn_173 : decode cX6_worn 173 = .ok (.imul, 1) := by decide +kernel
theorem dX6_worn_174 : decode cX6_worn 174 = .ok (.iload 4, 2) := by decide +kernel
theorem dX6_worn_176 : decode cX6_worn 176 = .ok (.iadd, 1) := by decide +kernel
theorem dX6_worn_177 : decode cX6_worn 177 = .ok (.invokevirtual 158, 3) := by decide +kernel
theorem dX6_worn_180 : decode cX6_worn 180 = .ok (.ifCond .eq 10, 3) := by decide +kernel
theorem dX6_worn_183 : decode cX6_worn 183 = .ok (.iconst 1, 1) := by decide +kernel
theorem dX6_worn_184 : decode cX6_worn 184 = .ok (.iload 7, 2) := by decide +kernel
theorem dX6_worn_186 : decode cX6_worn 186 = .ok (.ishl, 1) := by decide +kernel
theorem dX6_worn_187 : decode cX6_worn 187 = .ok (.goto 4, 3) := by decide +kernel
theorem dX6_worn_190 : decode cX6_worn 190 = .ok (.iconst 0, 1) := by decide +kernel
theorem dX6_worn_191 : decode cX6_worn 191 = .ok (.ior, 1) := by decide +kernel
theorem dX6_worn_192 : decode cX6_worn 192 = .ok (.istore 6, 2) := by decide +kernel
theorem dX6_worn_194 : decode cX6_worn 194 = .ok (.iconst 0, 1) := by decide +kernel
theorem dX6_worn_195 : decode cX6_worn 195 = .ok (.istore 8, 2) := by decide +kernel
theorem dX6_worn_197 : decode cX6_worn 197 = .ok (.iload 8, 2) := by decide +kernel
theorem dX6_worn_199 : decode cX6_worn 199 = .ok (.bipush 12, 2) := by decide +kernel
theorem dX6_worn_201 : decode cX6_worn 201 = .ok (.if_icmp .ge 31, 3) := by decide +kernel
theorem dX6_worn_204 : decode cX6_worn 204 = .ok (.aload_n 0, 1) := by decide +kernel
theorem dX6_worn_205 : decode cX6_worn 205 = .ok (.getfield 7, 3) := by decide +kernel
theorem dX6_worn_208 : decode cX6_worn 208 = .ok (.iconst 1, 1) := by decide +kernel
theorem dX6_worn_209 : decode cX6_worn 209 = .ok (.bipush 12, 2) := by decide +kernel
end
section
theorem dX6_worn_211 : decode cX6_worn 211 = .ok (.iload 7, 2) := by decide +kernel
theorem dX6_worn_213 : decode cX6_worn 213 = .ok (.imul, 1) := by decide +kernel
theorem dX6_worn_214 : decode cX6_worn 214 = .ok (.iadd, 1) := by decide +kernel
theorem dX6_worn_215 : decode cX6_worn 215 = .ok (.iload 8, 2) := by decide +kernel
theorem dX6_worn_217 : decode cX6_worn 217 = .ok (.iadd, 1) := by decide +kernel
theorem dX6_worn_218 : decode cX6_worn 218 = .ok (.aload_n 0, 1) := by decide +kernel
theorem dX6_worn_219 : decode cX6_worn 219 = .ok (.getfield 19, 3) := by decide +kernel
theorem dX6_worn_222 : decode cX6_worn 222 = .ok (.iload 8, 2) := by decide +kernel
theorem dX6_worn_224 : decode cX6_worn 224 = .ok (.iaload, 1) := by decide +kernel
theorem dX6_worn_225 : decode cX6_worn 225 = .ok (.iastore, 1) := by decide +kernel
theorem dX6_worn_226 : decode cX6_worn 226 = .ok (.iinc 8 1, 3) := by decide +kernel
theorem dX6_worn_229 : decode cX6_worn 229 = .ok (.goto (-32), 3) := by decide +kernel
theorem dX6_worn_232 : decode cX6_worn 232 = .ok (.iinc 7 1, 3) := by decide +kernel
theorem dX6_worn_235 : decode cX6_worn 235 = .ok (.goto (-152), 3) := by decide +kernel
theorem dX6_worn_238 : decode cX6_worn 238 = .ok (.iload 6, 2) := by decide +kernel
theorem dX6_worn_240 : decode cX6_worn 240 = .ok (.ireturn, 1) := by decide +kernel
theorem dX6_film_0 : decode cX6_film 0 = .ok (.aload_n 0, 1) := by decide +kernel
theorem dX6_film_1 : decode cX6_film 1 = .ok (.iload_n 1, 1) := by decide +kernel
theorem dX6_film_2 : decode cX6_film 2 = .ok (.invokevirtual 95, 3) := by decide +kernel
theorem dX6_film_5 : decode cX6_film 5 = .ok (.ifCond .eq 22, 3) := by decide +kernel
theorem dX6_film_8 : decode cX6_film 8 = .ok (.iload_n 2, 1) := by decide +kernel
theorem dX6_film_9 : decode cX6_film 9 = .ok (.invokestatic 149, 3) := by decide +kernel
theorem dX6_film_12 : decode cX6_film 12 = .ok (.ifCond .eq 15, 3) := by decide +kernel
theorem dX6_film_15 : decode cX6_film 15 = .ok (.iload_n 3, 1) := by decide +kernel
theorem dX6_film_16 : decode cX6_film 16 = .ok (.i2l, 1) := by decide +kernel
theorem dX6_film_17 : decode cX6_film 17 = .ok (.lconst 0, 1) := by decide +kernel
theorem dX6_film_18 : decode cX6_film 18 = .ok (.ldc2_w 152, 3) := by decide +kernel
theorem dX6_film_21 : decode cX6_film 21 = .ok (.invokestatic 52, 3) := by decide +kernel
theorem dX6_film_24 : decode cX6_film 24 = .ok (.ifCond .ne 5, 3) := by decide +kernel
theorem dX6_film_27 : decode cX6_film 27 = .ok (.iconst (-1), 1) := by decide +kernel
theorem dX6_film_28 : decode cX6_film 28 = .ok (.ireturn, 1) := by decide +kernel
theorem dX6_film_29 : decode cX6_film 29 = .ok (.aload_n 0, 1) := by decide +kernel
theorem dX6_film_30 : decode cX6_film 30 = .ok (.iload_n 2, 1) := by decide +kernel
theorem dX6_film_31 : decode cX6_film 31 = .ok (.iload_n 3, 1) := by decide +kernel
theorem dX6_film_32 : decode cX6_film 32 = .ok (.iload 4, 2) := by decide +kernel
theorem dX6_film_34 : decode cX6_film 34 = .ok (.bipush 12, 2) := by decide +kernel
theorem dX6_film_36 : decode cX6_film 36 = .ok (.invokevirtual 154, 3) := by decide +kernel
theorem dX6_film_39 : decode cX6_film 39 = .ok (.istore 5, 2) := by decide +kernel
theorem dX6_film_41 : decode cX6_film 41 = .ok (.iload 5, 2) := by decide +kernel
theorem dX6_film_43 : decode cX6_film 43 = .ok (.ifCond .eq 6, 3) := by decide +kernel
theorem dX6_film_46 : decode cX6_film 46 = .ok (.iload 5, 2) := by decide +kernel
theorem dX6_film_48 : decode cX6_film 48 = .ok (.ireturn, 1) := by decide +kernel
theorem dX6_film_49 : decode cX6_film 49 = .ok (.iconst 0, 1) := by decide +kernel
theorem dX6_film_50 : decode cX6_film 50 = .ok (.istore 6, 2) := by decide +kernel
theorem dX6_film_52 : decode cX6_film 52 = .ok (.iload 6, 2) := by decide +kernel
theorem dX6_film_54 : decode cX6_film 54 = .ok (.bipush 12, 2) := by decide +kernel
theorem dX6_film_56 : decode cX6_film 56 = .ok (.if_icmp .ge 32, 3) := by decide +kernel
theorem dX6_film_59 : decode cX6_film 59 = .ok (.aload_n 0, 1) := by decide +kernel
theorem dX6_film_60 : decode cX6_film 60 = .ok (.getfield 43, 3) := by decide +kernel
theorem dX6_film_63 : decode cX6_film 63 = .ok (.bipush 24, 2) := by decide +kernel
theorem dX6_film_65 : decode cX6_film 65 = .ok (.iload_n 2, 1) := by decide +kernel
theorem dX6_film_66 : decode cX6_film 66 = .ok (.imul, 1) := by decide +kernel
theorem dX6_film_67 : decode cX6_film 67 = .ok (.iload 4, 2) := by decide +kernel
theorem dX6_film_69 : decode cX6_film 69 = .ok (.iadd, 1) := by decide +kernel
theorem dX6_film_70 : decode cX6_film 70 = .ok (.iload 6, 2) := by decide +kernel
theorem dX6_film_72 : decode cX6_film 72 = .ok (.iadd, 1) := by decide +kernel
theorem dX6_film_73 : decode cX6_film 73 = .ok (.aload_n 0, 1) := by decide +kernel
theorem dX6_film_74 : decode cX6_film 74 = .ok (.iload_n 1, 1) := by decide +kernel
theorem dX6_film_75 : decode cX6_film 75 = .ok (.iload 6, 2) := by decide +kernel
theorem dX6_film_77 : decode cX6_film 77 = .ok (.invokevirtual 109, 3) := by decide +kernel
theorem dX6_film_80 : decode cX6_film 80 = .ok (.i2l, 1) := by decide +kernel
theorem dX6_film_81 : decode cX6_film 81 = .ok (.lastore, 1) := by decide +kernel
theorem dX6_film_82 : decode cX6_film 82 = .ok (.iinc 6 1, 3) := by decide +kernel
theorem dX6_film_85 : decode cX6_film 85 = .ok (.goto (-33), 3) := by decide +kernel
theorem dX6_film_88 : decode cX6_film 88 = .ok (.bipush 12, 2) := by decide +kernel
theorem dX6_film_90 : decode cX6_film 90 = .ok (.ireturn, 1) := by decide +kernel
theorem dX6_sheet_0 : decode cX6_sheet 0 = .ok (.iload_n 1, 1) := by decide +kernel
theorem dX6_sheet_1 : decode cX6_sheet 1 = .ok (.invokestatic 149, 3) := by decide +kernel
theorem dX6_sheet_4 : decode cX6_sheet 4 = .ok (.ifCond .eq 21, 3) := by decide +kernel
theorem dX6_sheet_7 : decode cX6_sheet 7 = .ok (.iload_n 2, 1) := by decide +kernel
theorem dX6_sheet_8 : decode cX6_sheet 8 = .ok (.i2l, 1) := by decide +kernel
theorem dX6_sheet_9 : decode cX6_sheet 9 = .ok (.lconst 0, 1) := by decide +kernel
theorem dX6_sheet_10 : decode cX6_sheet 10 = .ok (.ldc2_w 152, 3) := by decide +kernel
theorem dX6_sheet_13 : decode cX6_sheet 13 = .ok (.invokestatic 52, 3) := by decide +kernel
theorem dX6_sheet_16 : decode cX6_sheet 16 = .ok (.ifCond .eq 9, 3) := by decide +kernel
theorem dX6_sheet_19 : decode cX6_sheet 19 = .ok (.iload_n 3, 1) := by decide +kernel
theorem dX6_sheet_20 : decode cX6_sheet 20 = .ok (.bipush 24, 2) := by decide +kernel
theorem dX6_sheet_22 : decode cX6_sheet 22 = .ok (.if_icmp .le 5, 3) := by decide +kernel
theorem dX6_sheet_25 : decode cX6_sheet 25 = .ok (.iconst (-1), 1) := by decide +kernel
theorem dX6_sheet_26 : decode cX6_sheet 26 = .ok (.ireturn, 1) := by decide +kernel
theorem dX6_sheet_27 : decode cX6_sheet 27 = .ok (.iload_n 3, 1) := by decide +kernel
theorem dX6_sheet_28 : decode cX6_sheet 28 = .ok (.ifCond .ge 6, 3) := by decide +kernel
theorem dX6_sheet_31 : decode cX6_sheet 31 = .ok (.bipush (-14), 2) := by decide +kernel
theorem dX6_sheet_33 : decode cX6_sheet 33 = .ok (.ireturn, 1) := by decide +kernel
theorem dX6_sheet_34 : decode cX6_sheet 34 = .ok (.aload_n 0, 1) := by decide +kernel
theorem dX6_sheet_35 : decode cX6_sheet 35 = .ok (.getfield 37, 3) := by decide +kernel
theorem dX6_sheet_38 : decode cX6_sheet 38 = .ok (.iload_n 1, 1) := by decide +kernel
theorem dX6_sheet_39 : decode cX6_sheet 39 = .ok (.iload_n 2, 1) := by decide +kernel
theorem dX6_sheet_40 : decode cX6_sheet 40 = .ok (.iastore, 1) := by decide +kernel
theorem dX6_sheet_41 : decode cX6_sheet 41 = .ok (.aload_n 0, 1) := by decide +kernel
theorem dX6_sheet_42 : decode cX6_sheet 42 = .ok (.getfield 40, 3) := by decide +kernel
theorem dX6_sheet_45 : decode cX6_sheet 45 = .ok (.iload_n 1, 1) := by decide +kernel
theorem dX6_sheet_46 : decode cX6_sheet 46 = .ok (.iload_n 3, 1) := by decide +kernel
theorem dX6_sheet_47 : decode cX6_sheet 47 = .ok (.iastore, 1) := by decide +kernel
theorem dX6_sheet_48 : decode cX6_sheet 48 = .ok (.iconst 0, 1) := by decide +kernel
theorem dX6_sheet_49 : decode cX6_sheet 49 = .ok (.istore 4, 2) := by decide +kernel
theorem dX6_sheet_51 : decode cX6_sheet 51 = .ok (.iload 4, 2) := by decide +kernel
theorem dX6_sheet_53 : decode cX6_sheet 53 = .ok (.bipush 24, 2) := by decide +kernel
theorem dX6_sheet_55 : decode cX6_sheet 55 = .ok (.if_icmp .ge 22, 3) := by decide +kernel
theorem dX6_sheet_58 : decode cX6_sheet 58 = .ok (.aload_n 0, 1) := by decide +kernel
theorem dX6_sheet_59 : decode cX6_sheet 59 = .ok (.getfield 43, 3) := by decide +kernel
theorem dX6_sheet_62 : decode cX6_sheet 62 = .ok (.bipush 24, 2) := by decide +kernel
theorem dX6_sheet_64 : decode cX6_sheet 64 = .ok (.iload_n 1, 1) := by decide +kernel
theorem dX6_sheet_65 : decode cX6_sheet 65 = .ok (.imul, 1) := by decide +kernel
theorem dX6_sheet_66 : decode cX6_sheet 66 = .ok (.iload 4, 2) := by decide +kernel
theorem dX6_sheet_68 : decode cX6_sheet 68 = .ok (.iadd, 1) := by decide +kernel
theorem dX6_sheet_69 : decode cX6_sheet 69 = .ok (.lconst 0, 1) := by decide +kernel
theorem dX6_sheet_70 : decode cX6_sheet 70 = .ok (.lastore, 1) := by decide +kernel
theorem dX6_sheet_71 : decode cX6_sheet 71 = .ok (.iinc 4 1, 3) := by decide +kernel
theorem dX6_sheet_74 : decode cX6_sheet 74 = .ok (.goto (-23), 3) := by decide +kernel
theorem dX6_sheet_77 : decode cX6_sheet 77 = .ok (.iload_n 3, 1) := by decide +kernel
theorem dX6_sheet_78 : decode cX6_sheet 78 = .ok (.ireturn, 1) := by decide +kernel
theorem dX6_drop_0 : decode cX6_drop 0 = .ok (.iload_n 1, 1) := by decide +kernel
theorem dX6_drop_1 : decode cX6_drop 1 = .ok (.invokestatic 149, 3) := by decide +kernel
theorem dX6_drop_4 : decode cX6_drop 4 = .ok (.ifCond .ne 5, 3) := by decide +kernel
theorem dX6_drop_7 : decode cX6_drop 7 = .ok (.iconst (-1), 1) := by decide +kernel
theorem dX6_drop_8 : decode cX6_drop 8 = .ok (.ireturn, 1) := by decide +kernel
theorem dX6_drop_9 : decode cX6_drop 9 = .ok (.aload_n 0, 1) := by decide +kernel
theorem dX6_drop_10 : decode cX6_drop 10 = .ok (.getfield 37, 3) := by decide +kernel
theorem dX6_drop_13 : decode cX6_drop 13 = .ok (.iload_n 1, 1) := by decide +kernel
theorem dX6_drop_14 : decode cX6_drop 14 = .ok (.iaload, 1) := by decide +kernel
theorem dX6_drop_15 : decode cX6_drop 15 = .ok (.ifCond .ge 6, 3) := by decide +kernel
theorem dX6_drop_18 : decode cX6_drop 18 = .ok (.bipush (-11), 2) := by decide +kernel
theorem dX6_drop_20 : decode cX6_drop 20 = .ok (.ireturn, 1) := by decide +kernel
theorem dX6_drop_21 : decode cX6_drop 21 = .ok (.aload_n 0, 1) := by decide +kernel
theorem dX6_drop_22 : decode cX6_drop 22 = .ok (.getfield 37, 3) := by decide +kernel
theorem dX6_drop_25 : decode cX6_drop 25 = .ok (.iload_n 1, 1) := by decide +kernel
theorem dX6_drop_26 : decode cX6_drop 26 = .ok (.iconst (-1), 1) := by decide +kernel
theorem dX6_drop_27 : decode cX6_drop 27 = .ok (.iastore, 1) := by decide +kernel
theorem dX6_drop_28 : decode cX6_drop 28 = .ok (.aload_n 0, 1) := by decide +kernel
theorem dX6_drop_29 : decode cX6_drop 29 = .ok (.getfield 40, 3) := by decide +kernel
theorem dX6_drop_32 : decode cX6_drop 32 = .ok (.iload_n 1, 1) := by decide +kernel
theorem dX6_drop_33 : decode cX6_drop 33 = .ok (.iaload, 1) := by decide +kernel
theorem dX6_drop_34 : decode cX6_drop 34 = .ok (.ireturn, 1) := by decide +kernel
theorem dX6_item_0 : decode cX6_item 0 = .ok (.iload_n 1, 1) := by decide +kernel
theorem dX6_item_1 : decode cX6_item 1 = .ok (.invokestatic 149, 3) := by decide +kernel
theorem dX6_item_4 : decode cX6_item 4 = .ok (.ifCond .eq 15, 3) := by decide +kernel
theorem dX6_item_7 : decode cX6_item 7 = .ok (.iload_n 2, 1) := by decide +kernel
theorem dX6_item_8 : decode cX6_item 8 = .ok (.i2l, 1) := by decide +kernel
theorem dX6_item_9 : decode cX6_item 9 = .ok (.lconst 0, 1) := by decide +kernel
theorem dX6_item_10 : decode cX6_item 10 = .ok (.ldc2_w 152, 3) := by decide +kernel
theorem dX6_item_13 : decode cX6_item 13 = .ok (.invokestatic 52, 3) := by decide +kernel
theorem dX6_item_16 : decode cX6_item 16 = .ok (.ifCond .ne 5, 3) := by decide +kernel
theorem dX6_item_19 : decode cX6_item 19 = .ok (.iconst (-1), 1) := by decide +kernel
theorem dX6_item_20 : decode cX6_item 20 = .ok (.ireturn, 1) := by decide +kernel
theorem dX6_item_21 : decode cX6_item 21 = .ok (.aload_n 0, 1) := by decide +kernel
theorem dX6_item_22 : decode cX6_item 22 = .ok (.iload_n 1, 1) := by decide +kernel
theorem dX6_item_23 : decode cX6_item 23 = .ok (.iload_n 2, 1) := by decide +kernel
theorem dX6_item_24 : decode cX6_item 24 = .ok (.iload_n 3, 1) := by decide +kernel
theorem dX6_item_25 : decode cX6_item 25 = .ok (.iconst 1, 1) := by decide +kernel
theorem dX6_item_26 : decode cX6_item 26 = .ok (.invokevirtual 154, 3) := by decide +kernel
theorem dX6_item_29 : decode cX6_item 29 = .ok (.istore 6, 2) := by decide +kernel
theorem dX6_item_31 : decode cX6_item 31 = .ok (.iload 6, 2) := by decide +kernel
theorem dX6_item_33 : decode cX6_item 33 = .ok (.ifCond .eq 6, 3) := by decide +kernel
theorem dX6_item_36 : decode cX6_item 36 = .ok (.iload 6, 2) := by decide +kernel
theorem dX6_item_38 : decode cX6_item 38 = .ok (.ireturn, 1) := by decide +kernel
theorem dX6_item_39 : decode cX6_item 39 = .ok (.aload_n 0, 1) := by decide +kernel
theorem dX6_item_40 : decode cX6_item 40 = .ok (.getfield 43, 3) := by decide +kernel
theorem dX6_item_43 : decode cX6_item 43 = .ok (.bipush 24, 2) := by decide +kernel
theorem dX6_item_45 : decode cX6_item 45 = .ok (.iload_n 1, 1) := by decide +kernel
theorem dX6_item_46 : decode cX6_item 46 = .ok (.imul, 1) := by decide +kernel
theorem dX6_item_47 : decode cX6_item 47 = .ok (.iload_n 3, 1) := by decide +kernel
theorem dX6_item_48 : decode cX6_item 48 = .ok (.iadd, 1) := by decide +kernel
theorem dX6_item_49 : decode cX6_item 49 = .ok (.iload_n 2, 1) := by decide +kernel
theorem dX6_item_50 : decode cX6_item 50 = .ok (.lload 4, 2) := by decide +kernel
theorem dX6_item_52 : decode cX6_item 52 = .ok (.invokestatic 161, 3) := by decide +kernel
theorem dX6_item_55 : decode cX6_item 55 = .ok (.lastore, 1) := by decide +kernel
theorem dX6_item_56 : decode cX6_item 56 = .ok (.iconst 1, 1) := by decide +kernel
theorem dX6_item_57 : decode cX6_item 57 = .ok (.ireturn, 1) := by decide +kernel
theorem dX6_copy_0 : decode cX6_copy 0 = .ok (.iload_n 1, 1) := by decide +kernel
theorem dX6_copy_1 : decode cX6_copy 1 = .ok (.invokestatic 149, 3) := by decide +kernel
theorem dX6_copy_4 : decode cX6_copy 4 = .ok (.ifCond .eq 10, 3) := by decide +kernel
theorem dX6_copy_7 : decode cX6_copy 7 = .ok (.iload_n 3, 1) := by decide +kernel
theorem dX6_copy_8 : decode cX6_copy 8 = .ok (.invokestatic 149, 3) := by decide +kernel
theorem dX6_copy_11 : decode cX6_copy 11 = .ok (.ifCond .ne 5, 3) := by decide +kernel
theorem dX6_copy_14 : decode cX6_copy 14 = .ok (.iconst (-1), 1) := by decide +kernel
theorem dX6_copy_15 : decode cX6_copy 15 = .ok (.ireturn, 1) := by decide +kernel
theorem dX6_copy_16 : decode cX6_copy 16 = .ok (.aload_n 0, 1) := by decide +kernel
theorem dX6_copy_17 : decode cX6_copy 17 = .ok (.getfield 37, 3) := by decide +kernel
theorem dX6_copy_20 : decode cX6_copy 20 = .ok (.iload_n 1, 1) := by decide +kernel
theorem dX6_copy_21 : decode cX6_copy 21 = .ok (.iaload, 1) := by decide +kernel
theorem dX6_copy_22 : decode cX6_copy 22 = .ok (.ifCond .lt 12, 3) := by decide +kernel
theorem dX6_copy_25 : decode cX6_copy 25 = .ok (.aload_n 0, 1) := by decide +kernel
theorem dX6_copy_26 : decode cX6_copy 26 = .ok (.getfield 37, 3) := by decide +kernel
theorem dX6_copy_29 : decode cX6_copy 29 = .ok (.iload_n 3, 1) := by decide +kernel
theorem dX6_copy_30 : decode cX6_copy 30 = .ok (.iaload, 1) := by decide +kernel
theorem dX6_copy_31 : decode cX6_copy 31 = .ok (.ifCond .ge 6, 3) := by decide +kernel
theorem dX6_copy_34 : decode cX6_copy 34 = .ok (.bipush (-11), 2) := by decide +kernel
theorem dX6_copy_36 : decode cX6_copy 36 = .ok (.ireturn, 1) := by decide +kernel
theorem dX6_copy_37 : decode cX6_copy 37 = .ok (.aload_n 0, 1) := by decide +kernel
theorem dX6_copy_38 : decode cX6_copy 38 = .ok (.iload_n 1, 1) := by decide +kernel
theorem dX6_copy_39 : decode cX6_copy 39 = .ok (.aload_n 0, 1) := by decide +kernel
theorem dX6_copy_40 : decode cX6_copy 40 = .ok (.getfield 37, 3) := by decide +kernel
theorem dX6_copy_43 : decode cX6_copy 43 = .ok (.iload_n 3, 1) := by decide +kernel
theorem dX6_copy_44 : decode cX6_copy 44 = .ok (.iaload, 1) := by decide +kernel
theorem dX6_copy_45 : decode cX6_copy 45 = .ok (.iload_n 2, 1) := by decide +kernel
theorem dX6_copy_46 : decode cX6_copy 46 = .ok (.iload 5, 2) := by decide +kernel
theorem dX6_copy_48 : decode cX6_copy 48 = .ok (.invokevirtual 154, 3) := by decide +kernel
theorem dX6_copy_51 : decode cX6_copy 51 = .ok (.istore 6, 2) := by decide +kernel
theorem dX6_copy_53 : decode cX6_copy 53 = .ok (.iload 6, 2) := by decide +kernel
theorem dX6_copy_55 : decode cX6_copy 55 = .ok (.ifCond .ne 21, 3) := by decide +kernel
theorem dX6_copy_58 : decode cX6_copy 58 = .ok (.aload_n 0, 1) := by decide +kernel
theorem dX6_copy_59 : decode cX6_copy 59 = .ok (.iload_n 3, 1) := by decide +kernel
theorem dX6_copy_60 : decode cX6_copy 60 = .ok (.aload_n 0, 1) := by decide +kernel
theorem dX6_copy_61 : decode cX6_copy 61 = .ok (.getfield 37, 3) := by decide +kernel
theorem dX6_copy_64 : decode cX6_copy 64 = .ok (.iload_n 1, 1) := by decide +kernel
theorem dX6_copy_65 : decode cX6_copy 65 = .ok (.iaload, 1) := by decide +kernel
theorem dX6_copy_66 : decode cX6_copy 66 = .ok (.iload 4, 2) := by decide +kernel
theorem dX6_copy_68 : decode cX6_copy 68 = .ok (.iload 5, 2) := by decide +kernel
theorem dX6_copy_70 : decode cX6_copy 70 = .ok (.invokevirtual 154, 3) := by decide +kernel
theorem dX6_copy_73 : decode cX6_copy 73 = .ok (.goto 5, 3) := by decide +kernel
theorem dX6_copy_76 : decode cX6_copy 76 = .ok (.iload 6, 2) := by decide +kernel
theorem dX6_copy_78 : decode cX6_copy 78 = .ok (.istore 6, 2) := by decide +kernel
theorem dX6_copy_80 : decode cX6_copy 80 = .ok (.iload 6, 2) := by decide +kernel
theorem dX6_copy_82 : decode cX6_copy 82 = .ok (.ifCond .eq 6, 3) := by decide +kernel
theorem dX6_copy_85 : decode cX6_copy 85 = .ok (.iload 6, 2) := by decide +kernel
theorem dX6_copy_87 : decode cX6_copy 87 = .ok (.ireturn, 1) := by decide +kernel
theorem dX6_copy_88 : decode cX6_copy 88 = .ok (.iconst 0, 1) := by decide +kernel
theorem dX6_copy_89 : decode cX6_copy 89 = .ok (.istore 7, 2) := by decide +kernel
theorem dX6_copy_91 : decode cX6_copy 91 = .ok (.iload 7, 2) := by decide +kernel
theorem dX6_copy_93 : decode cX6_copy 93 = .ok (.iload 5, 2) := by decide +kernel
theorem dX6_copy_95 : decode cX6_copy 95 = .ok (.if_icmp .ge 30, 3) := by decide +kernel
theorem dX6_copy_98 : decode cX6_copy 98 = .ok (.aload_n 0, 1) := by decide +kernel
theorem dX6_copy_99 : decode cX6_copy 99 = .ok (.getfield 47, 3) := by decide +kernel
theorem dX6_copy_102 : decode cX6_copy 102 = .ok (.iload 7, 2) := by decide +kernel
theorem dX6_copy_104 : decode cX6_copy 104 = .ok (.aload_n 0, 1) := by decide +kernel
theorem dX6_copy_105 : decode cX6_copy 105 = .ok (.getfield 43, 3) := by decide +kernel
theorem dX6_copy_108 : decode cX6_copy 108 = .ok (.bipush 24, 2) := by decide +kernel
theorem dX6_copy_110 : decode cX6_copy 110 = .ok (.iload_n 1, 1) := by decide +kernel
theorem dX6_copy_111 : decode cX6_copy 111 = .ok (.imul, 1) := by decide +kernel
theorem dX6_copy_112 : decode cX6_copy 112 = .ok (.iload_n 2, 1) := by decide +kernel
theorem dX6_copy_113 : decode cX6_copy 113 = .ok (.iadd, 1) := by decide +kernel
theorem dX6_copy_114 : decode cX6_copy 114 = .ok (.iload 7, 2) := by decide +kernel
theorem dX6_copy_116 : decode cX6_copy 116 = .ok (.iadd, 1) := by decide +kernel
theorem dX6_copy_117 : decode cX6_copy 117 = .ok (.laload, 1) := by decide +kernel
theorem dX6_copy_118 : decode cX6_copy 118 = .ok (.lastore, 1) := by decide +kernel
theorem dX6_copy_119 : decode cX6_copy 119 = .ok (.iinc 7 1, 3) := by decide +kernel
theorem dX6_copy_122 : decode cX6_copy 122 = .ok (.goto (-31), 3) := by decide +kernel
theorem dX6_copy_125 : decode cX6_copy 125 = .ok (.iconst 0, 1) := by decide +kernel
theorem dX6_copy_126 : decode cX6_copy 126 = .ok (.istore 7, 2) := by decide +kernel
theorem dX6_copy_128 : decode cX6_copy 128 = .ok (.iload 7, 2) := by decide +kernel
theorem dX6_copy_130 : decode cX6_copy 130 = .ok (.iload 5, 2) := by decide +kernel
theorem dX6_copy_132 : decode cX6_copy 132 = .ok (.if_icmp .ge 31, 3) := by decide +kernel
theorem dX6_copy_135 : decode cX6_copy 135 = .ok (.aload_n 0, 1) := by decide +kernel
theorem dX6_copy_136 : decode cX6_copy 136 = .ok (.getfield 43, 3) := by decide +kernel
theorem dX6_copy_139 : decode cX6_copy 139 = .ok (.bipush 24, 2) := by decide +kernel
theorem dX6_copy_141 : decode cX6_copy 141 = .ok (.iload_n 3, 1) := by decide +kernel
theorem dX6_copy_142 : decode cX6_copy 142 = .ok (.imul, 1) := by decide +kernel
theorem dX6_copy_143 : decode cX6_copy 143 = .ok (.iload 4, 2) := by decide +kernel
theorem dX6_copy_145 : decode cX6_copy 145 = .ok (.iadd, 1) := by decide +kernel
theorem dX6_copy_146 : decode cX6_copy 146 = .ok (.iload 7, 2) := by decide +kernel
theorem dX6_copy_148 : decode cX6_copy 148 = .ok (.iadd, 1) := by decide +kernel
theorem dX6_copy_149 : decode cX6_copy 149 = .ok (.aload_n 0, 1) := by decide +kernel
theorem dX6_copy_150 : decode cX6_copy 150 = .ok (.getfield 47, 3) := by decide +kernel
theorem dX6_copy_153 : decode cX6_copy 153 = .ok (.iload 7, 2) := by decide +kernel
theorem dX6_copy_155 : decode cX6_copy 155 = .ok (.laload, 1) := by decide +kernel
theorem dX6_copy_156 : decode cX6_copy 156 = .ok (.lastore, 1) := by decide +kernel
theorem dX6_copy_157 : decode cX6_copy 157 = .ok (.iinc 7 1, 3) := by decide +kernel
theorem dX6_copy_160 : decode cX6_copy 160 = .ok (.goto (-32), 3) := by decide +kernel
theorem dX6_copy_163 : decode cX6_copy 163 = .ok (.iload 5, 2) := by decide +kernel
theorem dX6_copy_165 : decode cX6_copy 165 = .ok (.ireturn, 1) := by decide +kernel
theorem dJ6_bitCount_0f7a4_0 : decode cJ6_bitCount_0f7a4 0 = .ok (.iload_n 0, 1) := by decide +kernel
theorem dJ6_bitCount_0f7a4_1 : decode cJ6_bitCount_0f7a4 1 = .ok (.iload_n 0, 1) := by decide +kernel
theorem dJ6_bitCount_0f7a4_2 : decode cJ6_bitCount_0f7a4 2 = .ok (.iconst 1, 1) := by decide +kernel
theorem dJ6_bitCount_0f7a4_3 : decode cJ6_bitCount_0f7a4 3 = .ok (.iushr, 1) := by decide +kernel
theorem dJ6_bitCount_0f7a4_4 : decode cJ6_bitCount_0f7a4 4 = .ok (.ldc_w 265, 3) := by decide +kernel
theorem dJ6_bitCount_0f7a4_7 : decode cJ6_bitCount_0f7a4 7 = .ok (.iand, 1) := by decide +kernel
theorem dJ6_bitCount_0f7a4_8 : decode cJ6_bitCount_0f7a4 8 = .ok (.isub, 1) := by decide +kernel
theorem dJ6_bitCount_0f7a4_9 : decode cJ6_bitCount_0f7a4 9 = .ok (.istore_n 0, 1) := by decide +kernel
theorem dJ6_bitCount_0f7a4_10 : decode cJ6_bitCount_0f7a4 10 = .ok (.iload_n 0, 1) := by decide +kernel
theorem dJ6_bitCount_0f7a4_11 : decode cJ6_bitCount_0f7a4 11 = .ok (.ldc_w 266, 3) := by decide +kernel
theorem dJ6_bitCount_0f7a4_14 : decode cJ6_bitCount_0f7a4 14 = .ok (.iand, 1) := by decide +kernel
theorem dJ6_bitCount_0f7a4_15 : decode cJ6_bitCount_0f7a4 15 = .ok (.iload_n 0, 1) := by decide +kernel
theorem dJ6_bitCount_0f7a4_16 : decode cJ6_bitCount_0f7a4 16 = .ok (.iconst 2, 1) := by decide +kernel
theorem dJ6_bitCount_0f7a4_17 : decode cJ6_bitCount_0f7a4 17 = .ok (.iushr, 1) := by decide +kernel
theorem dJ6_bitCount_0f7a4_18 : decode cJ6_bitCount_0f7a4 18 = .ok (.ldc_w 266, 3) := by decide +kernel
theorem dJ6_bitCount_0f7a4_21 : decode cJ6_bitCount_0f7a4 21 = .ok (.iand, 1) := by decide +kernel
theorem dJ6_bitCount_0f7a4_22 : decode cJ6_bitCount_0f7a4 22 = .ok (.iadd, 1) := by decide +kernel
theorem dJ6_bitCount_0f7a4_23 : decode cJ6_bitCount_0f7a4 23 = .ok (.istore_n 0, 1) := by decide +kernel
theorem dJ6_bitCount_0f7a4_24 : decode cJ6_bitCount_0f7a4 24 = .ok (.iload_n 0, 1) := by decide +kernel
theorem dJ6_bitCount_0f7a4_25 : decode cJ6_bitCount_0f7a4 25 = .ok (.iload_n 0, 1) := by decide +kernel
theorem dJ6_bitCount_0f7a4_26 : decode cJ6_bitCount_0f7a4 26 = .ok (.iconst 4, 1) := by decide +kernel
theorem dJ6_bitCount_0f7a4_27 : decode cJ6_bitCount_0f7a4 27 = .ok (.iushr, 1) := by decide +kernel
theorem dJ6_bitCount_0f7a4_28 : decode cJ6_bitCount_0f7a4 28 = .ok (.iadd, 1) := by decide +kernel
theorem dJ6_bitCount_0f7a4_29 : decode cJ6_bitCount_0f7a4 29 = .ok (.ldc_w 267, 3) := by decide +kernel
theorem dJ6_bitCount_0f7a4_32 : decode cJ6_bitCount_0f7a4 32 = .ok (.iand, 1) := by decide +kernel
theorem dJ6_bitCount_0f7a4_33 : decode cJ6_bitCount_0f7a4 33 = .ok (.istore_n 0, 1) := by decide +kernel
theorem dJ6_bitCount_0f7a4_34 : decode cJ6_bitCount_0f7a4 34 = .ok (.iload_n 0, 1) := by decide +kernel
theorem dJ6_bitCount_0f7a4_35 : decode cJ6_bitCount_0f7a4 35 = .ok (.iload_n 0, 1) := by decide +kernel
theorem dJ6_bitCount_0f7a4_36 : decode cJ6_bitCount_0f7a4 36 = .ok (.bipush 8, 2) := by decide +kernel
theorem dJ6_bitCount_0f7a4_38 : decode cJ6_bitCount_0f7a4 38 = .ok (.iushr, 1) := by decide +kernel
theorem dJ6_bitCount_0f7a4_39 : decode cJ6_bitCount_0f7a4 39 = .ok (.iadd, 1) := by decide +kernel
theorem dJ6_bitCount_0f7a4_40 : decode cJ6_bitCount_0f7a4 40 = .ok (.istore_n 0, 1) := by decide +kernel
theorem dJ6_bitCount_0f7a4_41 : decode cJ6_bitCount_0f7a4 41 = .ok (.iload_n 0, 1) := by decide +kernel
theorem dJ6_bitCount_0f7a4_42 : decode cJ6_bitCount_0f7a4 42 = .ok (.iload_n 0, 1) := by decide +kernel
theorem dJ6_bitCount_0f7a4_43 : decode cJ6_bitCount_0f7a4 43 = .ok (.bipush 16, 2) := by decide +kernel
theorem dJ6_bitCount_0f7a4_45 : decode cJ6_bitCount_0f7a4 45 = .ok (.iushr, 1) := by decide +kernel
theorem dJ6_bitCount_0f7a4_46 : decode cJ6_bitCount_0f7a4 46 = .ok (.iadd, 1) := by decide +kernel
theorem dJ6_bitCount_0f7a4_47 : decode cJ6_bitCount_0f7a4 47 = .ok (.istore_n 0, 1) := by decide +kernel
theorem dJ6_bitCount_0f7a4_48 : decode cJ6_bitCount_0f7a4 48 = .ok (.iload_n 0, 1) := by decide +kernel
theorem dJ6_bitCount_0f7a4_49 : decode cJ6_bitCount_0f7a4 49 = .ok (.bipush 63, 2) := by decide +kernel
theorem dJ6_bitCount_0f7a4_51 : decode cJ6_bitCount_0f7a4 51 = .ok (.iand, 1) := by decide +kernel
theorem dJ6_bitCount_0f7a4_52 : decode cJ6_bitCount_0f7a4 52 = .ok (.ireturn, 1) := by decide +kernel
theorem dJ9_floorMod_7cf53_0 : decode cJ9_floorMod_7cf53 0 = .ok (.iload_n 0, 1) := by decide +kernel
theorem dJ9_floorMod_7cf53_1 : decode cJ9_floorMod_7cf53 1 = .ok (.iload_n 1, 1) := by decide +kernel
theorem dJ9_floorMod_7cf53_2 : decode cJ9_floorMod_7cf53 2 = .ok (.irem, 1) := by decide +kernel
theorem dJ9_floorMod_7cf53_3 : decode cJ9_floorMod_7cf53 3 = .ok (.istore_n 2, 1) := by decide +kernel
theorem dJ9_floorMod_7cf53_4 : decode cJ9_floorMod_7cf53 4 = .ok (.iload_n 0, 1) := by decide +kernel
theorem dJ9_floorMod_7cf53_5 : decode cJ9_floorMod_7cf53 5 = .ok (.iload_n 1, 1) := by decide +kernel
theorem dJ9_floorMod_7cf53_6 : decode cJ9_floorMod_7cf53 6 = .ok (.ixor, 1) := by decide +kernel
theorem dJ9_floorMod_7cf53_7 : decode cJ9_floorMod_7cf53 7 = .ok (.ifCond .ge 11, 3) := by decide +kernel
theorem dJ9_floorMod_7cf53_10 : decode cJ9_floorMod_7cf53 10 = .ok (.iload_n 2, 1) := by decide +kernel
theorem dJ9_floorMod_7cf53_11 : decode cJ9_floorMod_7cf53 11 = .ok (.ifCond .eq 7, 3) := by decide +kernel
theorem dJ9_floorMod_7cf53_14 : decode cJ9_floorMod_7cf53 14 = .ok (.iload_n 2, 1) := by decide +kernel
theorem dJ9_floorMod_7cf53_15 : decode cJ9_floorMod_7cf53 15 = .ok (.iload_n 1, 1) := by decide +kernel
theorem dJ9_floorMod_7cf53_16 : decode cJ9_floorMod_7cf53 16 = .ok (.iadd, 1) := by decide +kernel
theorem dJ9_floorMod_7cf53_17 : decode cJ9_floorMod_7cf53 17 = .ok (.ireturn, 1) := by decide +kernel
theorem dJ9_floorMod_7cf53_18 : decode cJ9_floorMod_7cf53 18 = .ok (.iload_n 2, 1) := by decide +kernel
theorem dJ9_floorMod_7cf53_19 : decode cJ9_floorMod_7cf53 19 = .ok (.ireturn, 1) := by decide +kernel
theorem dJ9_abs_0f7a4_0 : decode cJ9_abs_0f7a4 0 = .ok (.iload_n 0, 1) := by decide +kernel
theorem dJ9_abs_0f7a4_1 : decode cJ9_abs_0f7a4 1 = .ok (.ifCond .ge 8, 3) := by decide +kernel
theorem dJ9_abs_0f7a4_4 : decode cJ9_abs_0f7a4 4 = .ok (.iload_n 0, 1) := by decide +kernel
theorem dJ9_abs_0f7a4_5 : decode cJ9_abs_0f7a4 5 = .ok (.ineg, 1) := by decide +kernel
theorem dJ9_abs_0f7a4_6 : decode cJ9_abs_0f7a4 6 = .ok (.goto 4, 3) := by decide +kernel
theorem dJ9_abs_0f7a4_9 : decode cJ9_abs_0f7a4 9 = .ok (.iload_n 0, 1) := by decide +kernel
theorem dJ9_abs_0f7a4_10 : decode cJ9_abs_0f7a4 10 = .ok (.ireturn, 1) := by decide +kernel
theorem dJ9_max_7cf53_0 : decode cJ9_max_7cf53 0 = .ok (.iload_n 0, 1) := by decide +kernel
theorem dJ9_max_7cf53_1 : decode cJ9_max_7cf53 1 = .ok (.iload_n 1, 1) := by decide +kernel
theorem dJ9_max_7cf53_2 : decode cJ9_max_7cf53 2 = .ok (.if_icmp .lt 7, 3) := by decide +kernel
theorem dJ9_max_7cf53_5 : decode cJ9_max_7cf53 5 = .ok (.iload_n 0, 1) := by decide +kernel
theorem dJ9_max_7cf53_6 : decode cJ9_max_7cf53 6 = .ok (.goto 4, 3) := by decide +kernel
theorem dJ9_max_7cf53_9 : decode cJ9_max_7cf53 9 = .ok (.iload_n 1, 1) := by decide +kernel
theorem dJ9_max_7cf53_10 : decode cJ9_max_7cf53 10 = .ok (.ireturn, 1) := by decide +kernel
theorem dJ9_min_7cf53_0 : decode cJ9_min_7cf53 0 = .ok (.iload_n 0, 1) := by decide +kernel
theorem dJ9_min_7cf53_1 : decode cJ9_min_7cf53 1 = .ok (.iload_n 1, 1) := by decide +kernel
theorem dJ9_min_7cf53_2 : decode cJ9_min_7cf53 2 = .ok (.if_icmp .gt 7, 3) := by decide +kernel
theorem dJ9_min_7cf53_5 : decode cJ9_min_7cf53 5 = .ok (.iload_n 0, 1) := by decide +kernel
theorem dJ9_min_7cf53_6 : decode cJ9_min_7cf53 6 = .ok (.goto 4, 3) := by decide +kernel
theorem dJ9_min_7cf53_9 : decode cJ9_min_7cf53 9 = .ok (.iload_n 1, 1) := by decide +kernel
theorem dJ9_min_7cf53_10 : decode cJ9_min_7cf53 10 = .ok (.ireturn, 1) := by decide +kernel
theorem dJ7_fill_d0a16_0 : decode cJ7_fill_d0a16 0 = .ok (.iconst 0, 1) := by decide +kernel
theorem dJ7_fill_d0a16_1 : decode cJ7_fill_d0a16 1 = .ok (.istore_n 3, 1) := by decide +kernel
theorem dJ7_fill_d0a16_2 : decode cJ7_fill_d0a16 2 = .ok (.aload_n 0, 1) := by decide +kernel
theorem dJ7_fill_d0a16_3 : decode cJ7_fill_d0a16 3 = .ok (.arraylength, 1) := by decide +kernel
theorem dJ7_fill_d0a16_4 : decode cJ7_fill_d0a16 4 = .ok (.istore 4, 2) := by decide +kernel
theorem dJ7_fill_d0a16_6 : decode cJ7_fill_d0a16 6 = .ok (.iload_n 3, 1) := by decide +kernel
theorem dJ7_fill_d0a16_7 : decode cJ7_fill_d0a16 7 = .ok (.iload 4, 2) := by decide +kernel
theorem dJ7_fill_d0a16_9 : decode cJ7_fill_d0a16 9 = .ok (.if_icmp .ge 13, 3) := by decide +kernel
theorem dJ7_fill_d0a16_12 : decode cJ7_fill_d0a16 12 = .ok (.aload_n 0, 1) := by decide +kernel
theorem dJ7_fill_d0a16_13 : decode cJ7_fill_d0a16 13 = .ok (.iload_n 3, 1) := by decide +kernel
theorem dJ7_fill_d0a16_14 : decode cJ7_fill_d0a16 14 = .ok (.lload_n 1, 1) := by decide +kernel
theorem dJ7_fill_d0a16_15 : decode cJ7_fill_d0a16 15 = .ok (.lastore, 1) := by decide +kernel
theorem dJ7_fill_d0a16_16 : decode cJ7_fill_d0a16 16 = .ok (.iinc 3 1, 3) := by decide +kernel
theorem dJ7_fill_d0a16_19 : decode cJ7_fill_d0a16 19 = .ok (.goto (-13), 3) := by decide +kernel
theorem dJ7_fill_d0a16_22 : decode cJ7_fill_d0a16 22 = .ok (.return_, 1) := by decide +kernel
theorem dJ7_fill_53178_0 : decode cJ7_fill_53178 0 = .ok (.iconst 0, 1) := by decide +kernel
theorem dJ7_fill_53178_1 : decode cJ7_fill_53178 1 = .ok (.istore_n 2, 1) := by decide +kernel
theorem dJ7_fill_53178_2 : decode cJ7_fill_53178 2 = .ok (.aload_n 0, 1) := by decide +kernel
theorem dJ7_fill_53178_3 : decode cJ7_fill_53178 3 = .ok (.arraylength, 1) := by decide +kernel
theorem dJ7_fill_53178_4 : decode cJ7_fill_53178 4 = .ok (.istore_n 3, 1) := by decide +kernel
theorem dJ7_fill_53178_5 : decode cJ7_fill_53178 5 = .ok (.iload_n 2, 1) := by decide +kernel
theorem dJ7_fill_53178_6 : decode cJ7_fill_53178 6 = .ok (.iload_n 3, 1) := by decide +kernel
theorem dJ7_fill_53178_7 : decode cJ7_fill_53178 7 = .ok (.if_icmp .ge 13, 3) := by decide +kernel
theorem dJ7_fill_53178_10 : decode cJ7_fill_53178 10 = .ok (.aload_n 0, 1) := by decide +kernel
theorem dJ7_fill_53178_11 : decode cJ7_fill_53178 11 = .ok (.iload_n 2, 1) := by decide +kernel
theorem dJ7_fill_53178_12 : decode cJ7_fill_53178 12 = .ok (.iload_n 1, 1) := by decide +kernel
theorem dJ7_fill_53178_13 : decode cJ7_fill_53178 13 = .ok (.iastore, 1) := by decide +kernel
theorem dJ7_fill_53178_14 : decode cJ7_fill_53178 14 = .ok (.iinc 2 1, 3) := by decide +kernel
theorem dJ7_fill_53178_17 : decode cJ7_fill_53178 17 = .ok (.goto (-12), 3) := by decide +kernel
theorem dJ7_fill_53178_20 : decode cJ7_fill_53178 20 = .ok (.return_, 1) := by decide +kernel
theorem dL_law_0 : decode cL_law 0 = .ok (.new 7, 3) := by decide +kernel
theorem dL_law_3 : decode cL_law 3 = .ok (.dup, 1) := by decide +kernel
theorem dL_law_4 : decode cL_law 4 = .ok (.invokespecial 9, 3) := by decide +kernel
theorem dL_law_7 : decode cL_law 7 = .ok (.astore_n 1, 1) := by decide +kernel
theorem dL_law_8 : decode cL_law 8 = .ok (.new 10, 3) := by decide +kernel
theorem dL_law_11 : decode cL_law 11 = .ok (.dup, 1) := by decide +kernel
theorem dL_law_12 : decode cL_law 12 = .ok (.invokespecial 12, 3) := by decide +kernel
theorem dL_law_15 : decode cL_law 15 = .ok (.astore_n 2, 1) := by decide +kernel
theorem dL_law_16 : decode cL_law 16 = .ok (.iconst 0, 1) := by decide +kernel
theorem dL_law_17 : decode cL_law 17 = .ok (.istore_n 3, 1) := by decide +kernel
theorem dL_law_18 : decode cL_law 18 = .ok (.iload_n 3, 1) := by decide +kernel
theorem dL_law_19 : decode cL_law 19 = .ok (.aload_n 0, 1) := by decide +kernel
theorem dL_law_20 : decode cL_law 20 = .ok (.arraylength, 1) := by decide +kernel
theorem dL_law_21 : decode cL_law 21 = .ok (.bipush 6, 2) := by decide +kernel
theorem dL_law_23 : decode cL_law 23 = .ok (.isub, 1) := by decide +kernel
theorem dL_law_24 : decode cL_law 24 = .ok (.if_icmp .gt 1214, 3) := by decide +kernel
theorem dL_law_27 : decode cL_law 27 = .ok (.aload_n 0, 1) := by decide +kernel
theorem dL_law_28 : decode cL_law 28 = .ok (.iload_n 3, 1) := by decide +kernel
theorem dL_law_29 : decode cL_law 29 = .ok (.iaload, 1) := by decide +kernel
theorem dL_law_30 : decode cL_law 30 = .ok (.bipush 31, 2) := by decide +kernel
theorem dL_law_32 : decode cL_law 32 = .ok (.iand, 1) := by decide +kernel
theorem dL_law_33 : decode cL_law 33 = .ok (.tableswitch 1199 0 31 #[143, 206, 219, 262, 295, 348, 391, 414, 437, 460, 483, 516, 539, 562, 595, 618, 641, 654, 687, 720, 753, 776, 799, 832, 855, 868, 881, 934, 987, 1030, 1053, 1136], 143) := by decide +kernel
theorem dL_law_176 : decode cL_law 176 = .ok (.aload_n 1, 1) := by decide +kernel
theorem dL_law_177 : decode cL_law 177 = .ok (.aload_n 0, 1) := by decide +kernel
theorem dL_law_178 : decode cL_law 178 = .ok (.iload_n 3, 1) := by decide +kernel
theorem dL_law_179 : decode cL_law 179 = .ok (.iconst 1, 1) := by decide +kernel
theorem dL_law_180 : decode cL_law 180 = .ok (.iadd, 1) := by decide +kernel
theorem dL_law_181 : decode cL_law 181 = .ok (.iaload, 1) := by decide +kernel
theorem dL_law_182 : decode cL_law 182 = .ok (.i2l, 1) := by decide +kernel
theorem dL_law_183 : decode cL_law 183 = .ok (.bipush 32, 2) := by decide +kernel
theorem dL_law_185 : decode cL_law 185 = .ok (.lshl, 1) := by decide +kernel
theorem dL_law_186 : decode cL_law 186 = .ok (.aload_n 0, 1) := by decide +kernel
theorem dL_law_187 : decode cL_law 187 = .ok (.iload_n 3, 1) := by decide +kernel
theorem dL_law_188 : decode cL_law 188 = .ok (.iconst 2, 1) := by decide +kernel
theorem dL_law_189 : decode cL_law 189 = .ok (.iadd, 1) := by decide +kernel
theorem dL_law_190 : decode cL_law 190 = .ok (.iaload, 1) := by decide +kernel
theorem dL_law_191 : decode cL_law 191 = .ok (.i2l, 1) := by decide +kernel
theorem dL_law_192 : decode cL_law 192 = .ok (.ldc2_w 13, 3) := by decide +kernel
theorem dL_law_195 : decode cL_law 195 = .ok (.land, 1) := by decide +kernel
theorem dL_law_196 : decode cL_law 196 = .ok (.lor, 1) := by decide +kernel
theorem dL_law_197 : decode cL_law 197 = .ok (.aload_n 0, 1) := by decide +kernel
theorem dL_law_198 : decode cL_law 198 = .ok (.iload_n 3, 1) := by decide +kernel
theorem dL_law_199 : decode cL_law 199 = .ok (.iconst 3, 1) := by decide +kernel
theorem dL_law_200 : decode cL_law 200 = .ok (.iadd, 1) := by decide +kernel
theorem dL_law_201 : decode cL_law 201 = .ok (.iaload, 1) := by decide +kernel
theorem dL_law_202 : decode cL_law 202 = .ok (.invokevirtual 15, 3) := by decide +kernel
theorem dL_law_205 : decode cL_law 205 = .ok (.aload_n 2, 1) := by decide +kernel
theorem dL_law_206 : decode cL_law 206 = .ok (.aload_n 0, 1) := by decide +kernel
theorem dL_law_207 : decode cL_law 207 = .ok (.iload_n 3, 1) := by decide +kernel
theorem dL_law_208 : decode cL_law 208 = .ok (.iconst 1, 1) := by decide +kernel
theorem dL_law_209 : decode cL_law 209 = .ok (.iadd, 1) := by decide +kernel
theorem dL_law_210 : decode cL_law 210 = .ok (.iaload, 1) := by decide +kernel
theorem dL_law_211 : decode cL_law 211 = .ok (.i2l, 1) := by decide +kernel
theorem dL_law_212 : decode cL_law 212 = .ok (.bipush 32, 2) := by decide +kernel
theorem dL_law_214 : decode cL_law 214 = .ok (.lshl, 1) := by decide +kernel
theorem dL_law_215 : decode cL_law 215 = .ok (.aload_n 0, 1) := by decide +kernel
theorem dL_law_216 : decode cL_law 216 = .ok (.iload_n 3, 1) := by decide +kernel
theorem dL_law_217 : decode cL_law 217 = .ok (.iconst 2, 1) := by decide +kernel
theorem dL_law_218 : decode cL_law 218 = .ok (.iadd, 1) := by decide +kernel
theorem dL_law_219 : decode cL_law 219 = .ok (.iaload, 1) := by decide +kernel
theorem dL_law_220 : decode cL_law 220 = .ok (.i2l, 1) := by decide +kernel
theorem dL_law_221 : decode cL_law 221 = .ok (.ldc2_w 13, 3) := by decide +kernel
theorem dL_law_224 : decode cL_law 224 = .ok (.land, 1) := by decide +kernel
theorem dL_law_225 : decode cL_law 225 = .ok (.lor, 1) := by decide +kernel
theorem dL_law_226 : decode cL_law 226 = .ok (.aload_n 0, 1) := by decide +kernel
theorem dL_law_227 : decode cL_law 227 = .ok (.iload_n 3, 1) := by decide +kernel
theorem dL_law_228 : decode cL_law 228 = .ok (.iconst 3, 1) := by decide +kernel
theorem dL_law_229 : decode cL_law 229 = .ok (.iadd, 1) := by decide +kernel
theorem dL_law_230 : decode cL_law 230 = .ok (.iaload, 1) := by decide +kernel
theorem dL_law_231 : decode cL_law 231 = .ok (.invokevirtual 19, 3) := by decide +kernel
theorem dL_law_234 : decode cL_law 234 = .ok (.if_icmp .eq 998, 3) := by decide +kernel
theorem dL_law_237 : decode cL_law 237 = .ok (.iconst 0, 1) := by decide +kernel
theorem dL_law_238 : decode cL_law 238 = .ok (.ireturn, 1) := by decide +kernel
theorem dL_law_239 : decode cL_law 239 = .ok (.aload_n 1, 1) := by decide +kernel
theorem dL_law_240 : decode cL_law 240 = .ok (.invokevirtual 20, 3) := by decide +kernel
theorem dL_law_243 : decode cL_law 243 = .ok (.aload_n 2, 1) := by decide +kernel
theorem dL_law_244 : decode cL_law 244 = .ok (.invokevirtual 24, 3) := by decide +kernel
theorem dL_law_247 : decode cL_law 247 = .ok (.if_icmp .eq 985, 3) := by decide +kernel
theorem dL_law_250 : decode cL_law 250 = .ok (.iconst 0, 1) := by decide +kernel
theorem dL_law_251 : decode cL_law 251 = .ok (.ireturn, 1) := by decide +kernel
theorem dL_law_252 : decode cL_law 252 = .ok (.aload_n 1, 1) := by decide +kernel
theorem dL_law_253 : decode cL_law 253 = .ok (.aload_n 0, 1) := by decide +kernel
theorem dL_law_254 : decode cL_law 254 = .ok (.iload_n 3, 1) := by decide +kernel
theorem dL_law_255 : decode cL_law 255 = .ok (.iconst 1, 1) := by decide +kernel
theorem dL_law_256 : decode cL_law 256 = .ok (.iadd, 1) := by decide +kernel
theorem dL_law_257 : decode cL_law 257 = .ok (.iaload, 1) := by decide +kernel
theorem dL_law_258 : decode cL_law 258 = .ok (.aload_n 0, 1) := by decide +kernel
theorem dL_law_259 : decode cL_law 259 = .ok (.iload_n 3, 1) := by decide +kernel
theorem dL_law_260 : decode cL_law 260 = .ok (.iconst 2, 1) := by decide +kernel
theorem dL_law_261 : decode cL_law 261 = .ok (.iadd, 1) := by decide +kernel
theorem dL_law_262 : decode cL_law 262 = .ok (.iaload, 1) := by decide +kernel
theorem dL_law_263 : decode cL_law 263 = .ok (.aload_n 0, 1) := by decide +kernel
theorem dL_law_264 : decode cL_law 264 = .ok (.iload_n 3, 1) := by decide +kernel
theorem dL_law_265 : decode cL_law 265 = .ok (.iconst 3, 1) := by decide +kernel
theorem dL_law_266 : decode cL_law 266 = .ok (.iadd, 1) := by decide +kernel
theorem dL_law_267 : decode cL_law 267 = .ok (.iaload, 1) := by decide +kernel
theorem dL_law_268 : decode cL_law 268 = .ok (.invokevirtual 25, 3) := by decide +kernel
theorem dL_law_271 : decode cL_law 271 = .ok (.aload_n 2, 1) := by decide +kernel
theorem dL_law_272 : decode cL_law 272 = .ok (.aload_n 0, 1) := by decide +kernel
theorem dL_law_273 : decode cL_law 273 = .ok (.iload_n 3, 1) := by decide +kernel
theorem dL_law_274 : decode cL_law 274 = .ok (.iconst 1, 1) := by decide +kernel
theorem dL_law_275 : decode cL_law 275 = .ok (.iadd, 1) := by decide +kernel
theorem dL_law_276 : decode cL_law 276 = .ok (.iaload, 1) := by decide +kernel
theorem dL_law_277 : decode cL_law 277 = .ok (.aload_n 0, 1) := by decide +kernel
theorem dL_law_278 : decode cL_law 278 = .ok (.iload_n 3, 1) := by decide +kernel
theorem dL_law_279 : decode cL_law 279 = .ok (.iconst 2, 1) := by decide +kernel
theorem dL_law_280 : decode cL_law 280 = .ok (.iadd, 1) := by decide +kernel
theorem dL_law_281 : decode cL_law 281 = .ok (.iaload, 1) := by decide +kernel
theorem dL_law_282 : decode cL_law 282 = .ok (.aload_n 0, 1) := by decide +kernel
theorem dL_law_283 : decode cL_law 283 = .ok (.iload_n 3, 1) := by decide +kernel
theorem dL_law_284 : decode cL_law 284 = .ok (.iconst 3, 1) := by decide +kernel
theorem dL_law_285 : decode cL_law 285 = .ok (.iadd, 1) := by decide +kernel
theorem dL_law_286 : decode cL_law 286 = .ok (.iaload, 1) := by decide +kernel
theorem dL_law_287 : decode cL_law 287 = .ok (.invokevirtual 29, 3) := by decide +kernel
theorem dL_law_290 : decode cL_law 290 = .ok (.if_icmp .eq 942, 3) := by decide +kernel
theorem dL_law_293 : decode cL_law 293 = .ok (.iconst 0, 1) := by decide +kernel
theorem dL_law_294 : decode cL_law 294 = .ok (.ireturn, 1) := by decide +kernel
theorem dL_law_295 : decode cL_law 295 = .ok (.aload_n 1, 1) := by decide +kernel
theorem dL_law_296 : decode cL_law 296 = .ok (.aload_n 0, 1) := by decide +kernel
theorem dL_law_297 : decode cL_law 297 = .ok (.iload_n 3, 1) := by decide +kernel
theorem dL_law_298 : decode cL_law 298 = .ok (.iconst 1, 1) := by decide +kernel
theorem dL_law_299 : decode cL_law 299 = .ok (.iadd, 1) := by decide +kernel
theorem dL_law_300 : decode cL_law 300 = .ok (.iaload, 1) := by decide +kernel
theorem dL_law_301 : decode cL_law 301 = .ok (.aload_n 0, 1) := by decide +kernel
theorem dL_law_302 : decode cL_law 302 = .ok (.iload_n 3, 1) := by decide +kernel
theorem dL_law_303 : decode cL_law 303 = .ok (.iconst 2, 1) := by decide +kernel
theorem dL_law_304 : decode cL_law 304 = .ok (.iadd, 1) := by decide +kernel
theorem dL_law_305 : decode cL_law 305 = .ok (.iaload, 1) := by decide +kernel
theorem dL_law_306 : decode cL_law 306 = .ok (.invokevirtual 30, 3) := by decide +kernel
theorem dL_law_309 : decode cL_law 309 = .ok (.aload_n 2, 1) := by decide +kernel
theorem dL_law_310 : decode cL_law 310 = .ok (.aload_n 0, 1) := by decide +kernel
theorem dL_law_311 : decode cL_law 311 = .ok (.iload_n 3, 1) := by decide +kernel
theorem dL_law_312 : decode cL_law 312 = .ok (.iconst 1, 1) := by decide +kernel
theorem dL_law_313 : decode cL_law 313 = .ok (.iadd, 1) := by decide +kernel
theorem dL_law_314 : decode cL_law 314 = .ok (.iaload, 1) := by decide +kernel
theorem dL_law_315 : decode cL_law 315 = .ok (.aload_n 0, 1) := by decide +kernel
theorem dL_law_316 : decode cL_law 316 = .ok (.iload_n 3, 1) := by decide +kernel
theorem dL_law_317 : decode cL_law 317 = .ok (.iconst 2, 1) := by decide +kernel
theorem dL_law_318 : decode cL_law 318 = .ok (.iadd, 1) := by decide +kernel
theorem dL_law_319 : decode cL_law 319 = .ok (.iaload, 1) := by decide +kernel
theorem dL_law_320 : decode cL_law 320 = .ok (.invokevirtual 34, 3) := by decide +kernel
theorem dL_law_323 : decode cL_law 323 = .ok (.if_icmp .eq 909, 3) := by decide +kernel
theorem dL_law_326 : decode cL_law 326 = .ok (.iconst 0, 1) := by decide +kernel
theorem dL_law_327 : decode cL_law 327 = .ok (.ireturn, 1) := by decide +kernel
theorem dL_law_328 : decode cL_law 328 = .ok (.aload_n 1, 1) := by decide +kernel
theorem dL_law_329 : decode cL_law 329 = .ok (.aload_n 0, 1) := by decide +kernel
theorem dL_law_330 : decode cL_law 330 = .ok (.iload_n 3, 1) := by decide +kernel
theorem dL_law_331 : decode cL_law 331 = .ok (.iconst 1, 1) := by decide +kernel
theorem dL_law_332 : decode cL_law 332 = .ok (.iadd, 1) := by decide +kernel
theorem dL_law_333 : decode cL_law 333 = .ok (.iaload, 1) := by decide +kernel
theorem dL_law_334 : decode cL_law 334 = .ok (.aload_n 0, 1) := by decide +kernel
theorem dL_law_335 : decode cL_law 335 = .ok (.iload_n 3, 1) := by decide +kernel
theorem dL_law_336 : decode cL_law 336 = .ok (.iconst 2, 1) := by decide +kernel
theorem dL_law_337 : decode cL_law 337 = .ok (.iadd, 1) := by decide +kernel
theorem dL_law_338 : decode cL_law 338 = .ok (.iaload, 1) := by decide +kernel
theorem dL_law_339 : decode cL_law 339 = .ok (.aload_n 0, 1) := by decide +kernel
theorem dL_law_340 : decode cL_law 340 = .ok (.iload_n 3, 1) := by decide +kernel
theorem dL_law_341 : decode cL_law 341 = .ok (.iconst 3, 1) := by decide +kernel
theorem dL_law_342 : decode cL_law 342 = .ok (.iadd, 1) := by decide +kernel
theorem dL_law_343 : decode cL_law 343 = .ok (.iaload, 1) := by decide +kernel
theorem dL_law_344 : decode cL_law 344 = .ok (.aload_n 0, 1) := by decide +kernel
theorem dL_law_345 : decode cL_law 345 = .ok (.iload_n 3, 1) := by decide +kernel
theorem dL_law_346 : decode cL_law 346 = .ok (.iconst 4, 1) := by decide +kernel
theorem dL_law_347 : decode cL_law 347 = .ok (.iadd, 1) := by decide +kernel
theorem dL_law_348 : decode cL_law 348 = .ok (.iaload, 1) := by decide +kernel
theorem dL_law_349 : decode cL_law 349 = .ok (.invokevirtual 35, 3) := by decide +kernel
theorem dL_law_352 : decode cL_law 352 = .ok (.aload_n 2, 1) := by decide +kernel
theorem dL_law_353 : decode cL_law 353 = .ok (.aload_n 0, 1) := by decide +kernel
theorem dL_law_354 : decode cL_law 354 = .ok (.iload_n 3, 1) := by decide +kernel
theorem dL_law_355 : decode cL_law 355 = .ok (.iconst 1, 1) := by decide +kernel
theorem dL_law_356 : decode cL_law 356 = .ok (.iadd, 1) := by decide +kernel
theorem dL_law_357 : decode cL_law 357 = .ok (.iaload, 1) := by decide +kernel
theorem dL_law_358 : decode cL_law 358 = .ok (.aload_n 0, 1) := by decide +kernel
theorem dL_law_359 : decode cL_law 359 = .ok (.iload_n 3, 1) := by decide +kernel
theorem dL_law_360 : decode cL_law 360 = .ok (.iconst 2, 1) := by decide +kernel
theorem dL_law_361 : decode cL_law 361 = .ok (.iadd, 1) := by decide +kernel
theorem dL_law_362 : decode cL_law 362 = .ok (.iaload, 1) := by decide +kernel
theorem dL_law_363 : decode cL_law 363 = .ok (.aload_n 0, 1) := by decide +kernel
theorem dL_law_364 : decode cL_law 364 = .ok (.iload_n 3, 1) := by decide +kernel
theorem dL_law_365 : decode cL_law 365 = .ok (.iconst 3, 1) := by decide +kernel
theorem dL_law_366 : decode cL_law 366 = .ok (.iadd, 1) := by decide +kernel
theorem dL_law_367 : decode cL_law 367 = .ok (.iaload, 1) := by decide +kernel
theorem dL_law_368 : decode cL_law 368 = .ok (.aload_n 0, 1) := by decide +kernel
theorem dL_law_369 : decode cL_law 369 = .ok (.iload_n 3, 1) := by decide +kernel
theorem dL_law_370 : decode cL_law 370 = .ok (.iconst 4, 1) := by decide +kernel
theorem dL_law_371 : decode cL_law 371 = .ok (.iadd, 1) := by decide +kernel
theorem dL_law_372 : decode cL_law 372 = .ok (.iaload, 1) := by decide +kernel
theorem dL_law_373 : decode cL_law 373 = .ok (.invokevirtual 39, 3) := by decide +kernel
theorem dL_law_376 : decode cL_law 376 = .ok (.if_icmp .eq 856, 3) := by decide +kernel
theorem dL_law_379 : decode cL_law 379 = .ok (.iconst 0, 1) := by decide +kernel
theorem dL_law_380 : decode cL_law 380 = .ok (.ireturn, 1) := by decide +kernel
theorem dL_law_381 : decode cL_law 381 = .ok (.aload_n 1, 1) := by decide +kernel
theorem dL_law_382 : decode cL_law 382 = .ok (.aload_n 0, 1) := by decide +kernel
theorem dL_law_383 : decode cL_law 383 = .ok (.iload_n 3, 1) := by decide +kernel
theorem dL_law_384 : decode cL_law 384 = .ok (.iconst 1, 1) := by decide +kernel
theorem dL_law_385 : decode cL_law 385 = .ok (.iadd, 1) := by decide +kernel
theorem dL_law_386 : decode cL_law 386 = .ok (.iaload, 1) := by decide +kernel
theorem dL_law_387 : decode cL_law 387 = .ok (.aload_n 0, 1) := by decide +kernel
theorem dL_law_388 : decode cL_law 388 = .ok (.iload_n 3, 1) := by decide +kernel
theorem dL_law_389 : decode cL_law 389 = .ok (.iconst 2, 1) := by decide +kernel
theorem dL_law_390 : decode cL_law 390 = .ok (.iadd, 1) := by decide +kernel
theorem dL_law_391 : decode cL_law 391 = .ok (.iaload, 1) := by decide +kernel
theorem dL_law_392 : decode cL_law 392 = .ok (.aload_n 0, 1) := by decide +kernel
theorem dL_law_393 : decode cL_law 393 = .ok (.iload_n 3, 1) := by decide +kernel
theorem dL_law_394 : decode cL_law 394 = .ok (.iconst 3, 1) := by decide +kernel
theorem dL_law_395 : decode cL_law 395 = .ok (.iadd, 1) := by decide +kernel
theorem dL_law_396 : decode cL_law 396 = .ok (.iaload, 1) := by decide +kernel
theorem dL_law_397 : decode cL_law 397 = .ok (.invokevirtual 40, 3) := by decide +kernel
theorem dL_law_400 : decode cL_law 400 = .ok (.aload_n 2, 1) := by decide +kernel
theorem dL_law_401 : decode cL_law 401 = .ok (.aload_n 0, 1) := by decide +kernel
theorem dL_law_402 : decode cL_law 402 = .ok (.iload_n 3, 1) := by decide +kernel
theorem dL_law_403 : decode cL_law 403 = .ok (.iconst 1, 1) := by decide +kernel
theorem dL_law_404 : decode cL_law 404 = .ok (.iadd, 1) := by decide +kernel
theorem dL_law_405 : decode cL_law 405 = .ok (.iaload, 1) := by decide +kernel
theorem dL_law_406 : decode cL_law 406 = .ok (.aload_n 0, 1) := by decide +kernel
theorem dL_law_407 : decode cL_law 407 = .ok (.iload_n 3, 1) := by decide +kernel
theorem dL_law_408 : decode cL_law 408 = .ok (.iconst 2, 1) := by decide +kernel
theorem dL_law_409 : decode cL_law 409 = .ok (.iadd, 1) := by decide +kernel
theorem dL_law_410 : decode cL_law 410 = .ok (.iaload, 1) := by decide +kernel
theorem dL_law_411 : decode cL_law 411 = .ok (.aload_n 0, 1) := by decide +kernel
theorem dL_law_412 : decode cL_law 412 = .ok (.iload_n 3, 1) := by decide +kernel
theorem dL_law_413 : decode cL_law 413 = .ok (.iconst 3, 1) := by decide +kernel
theorem dL_law_414 : decode cL_law 414 = .ok (.iadd, 1) := by decide +kernel
theorem dL_law_415 : decode cL_law 415 = .ok (.iaload, 1) := by decide +kernel
theorem dL_law_416 : decode cL_law 416 = .ok (.invokevirtual 43, 3) := by decide +kernel
theorem dL_law_419 : decode cL_law 419 = .ok (.if_icmp .eq 813, 3) := by decide +kernel
theorem dL_law_422 : decode cL_law 422 = .ok (.iconst 0, 1) := by decide +kernel
theorem dL_law_423 : decode cL_law 423 = .ok (.ireturn, 1) := by decide +kernel
theorem dL_law_424 : decode cL_law 424 = .ok (.aload_n 1, 1) := by decide +kernel
theorem dL_law_425 : decode cL_law 425 = .ok (.aload_n 0, 1) := by decide +kernel
theorem dL_law_426 : decode cL_law 426 = .ok (.iload_n 3, 1) := by decide +kernel
theorem dL_law_427 : decode cL_law 427 = .ok (.iconst 1, 1) := by decide +kernel
theorem dL_law_428 : decode cL_law 428 = .ok (.iadd, 1) := by decide +kernel
theorem dL_law_429 : decode cL_law 429 = .ok (.iaload, 1) := by decide +kernel
theorem dL_law_430 : decode cL_law 430 = .ok (.invokevirtual 44, 3) := by decide +kernel
theorem dL_law_433 : decode cL_law 433 = .ok (.aload_n 2, 1) := by decide +kernel
theorem dL_law_434 : decode cL_law 434 = .ok (.aload_n 0, 1) := by decide +kernel
theorem dL_law_435 : decode cL_law 435 = .ok (.iload_n 3, 1) := by decide +kernel
theorem dL_law_436 : decode cL_law 436 = .ok (.iconst 1, 1) := by decide +kernel
theorem dL_law_437 : decode cL_law 437 = .ok (.iadd, 1) := by decide +kernel
theorem dL_law_438 : decode cL_law 438 = .ok (.iaload, 1) := by decide +kernel
theorem dL_law_439 : decode cL_law 439 = .ok (.invokevirtual 48, 3) := by decide +kernel
theorem dL_law_442 : decode cL_law 442 = .ok (.if_icmp .eq 790, 3) := by decide +kernel
theorem dL_law_445 : decode cL_law 445 = .ok (.iconst 0, 1) := by decide +kernel
theorem dL_law_446 : decode cL_law 446 = .ok (.ireturn, 1) := by decide +kernel
theorem dL_law_447 : decode cL_law 447 = .ok (.aload_n 1, 1) := by decide +kernel
theorem dL_law_448 : decode cL_law 448 = .ok (.aload_n 0, 1) := by decide +kernel
theorem dL_law_449 : decode cL_law 449 = .ok (.iload_n 3, 1) := by decide +kernel
theorem dL_law_450 : decode cL_law 450 = .ok (.iconst 1, 1) := by decide +kernel
theorem dL_law_451 : decode cL_law 451 = .ok (.iadd, 1) := by decide +kernel
theorem dL_law_452 : decode cL_law 452 = .ok (.iaload, 1) := by decide +kernel
theorem dL_law_453 : decode cL_law 453 = .ok (.invokevirtual 49, 3) := by decide +kernel
theorem dL_law_456 : decode cL_law 456 = .ok (.aload_n 2, 1) := by decide +kernel
theorem dL_law_457 : decode cL_law 457 = .ok (.aload_n 0, 1) := by decide +kernel
theorem dL_law_458 : decode cL_law 458 = .ok (.iload_n 3, 1) := by decide +kernel
theorem dL_law_459 : decode cL_law 459 = .ok (.iconst 1, 1) := by decide +kernel
theorem dL_law_460 : decode cL_law 460 = .ok (.iadd, 1) := by decide +kernel
theorem dL_law_461 : decode cL_law 461 = .ok (.iaload, 1) := by decide +kernel
theorem dL_law_462 : decode cL_law 462 = .ok (.invokevirtual 52, 3) := by decide +kernel
theorem dL_law_465 : decode cL_law 465 = .ok (.if_icmp .eq 767, 3) := by decide +kernel
theorem dL_law_468 : decode cL_law 468 = .ok (.iconst 0, 1) := by decide +kernel
theorem dL_law_469 : decode cL_law 469 = .ok (.ireturn, 1) := by decide +kernel
theorem dL_law_470 : decode cL_law 470 = .ok (.aload_n 1, 1) := by decide +kernel
theorem dL_law_471 : decode cL_law 471 = .ok (.aload_n 0, 1) := by decide +kernel
theorem dL_law_472 : decode cL_law 472 = .ok (.iload_n 3, 1) := by decide +kernel
theorem dL_law_473 : decode cL_law 473 = .ok (.iconst 1, 1) := by decide +kernel
theorem dL_law_474 : decode cL_law 474 = .ok (.iadd, 1) := by decide +kernel
theorem dL_law_475 : decode cL_law 475 = .ok (.iaload, 1) := by decide +kernel
theorem dL_law_476 : decode cL_law 476 = .ok (.invokevirtual 53, 3) := by decide +kernel
theorem dL_law_479 : decode cL_law 479 = .ok (.aload_n 2, 1) := by decide +kernel
theorem dL_law_480 : decode cL_law 480 = .ok (.aload_n 0, 1) := by decide +kernel
theorem dL_law_481 : decode cL_law 481 = .ok (.iload_n 3, 1) := by decide +kernel
theorem dL_law_482 : decode cL_law 482 = .ok (.iconst 1, 1) := by decide +kernel
theorem dL_law_483 : decode cL_law 483 = .ok (.iadd, 1) := by decide +kernel
theorem dL_law_484 : decode cL_law 484 = .ok (.iaload, 1) := by decide +kernel
theorem dL_law_485 : decode cL_law 485 = .ok (.invokevirtual 56, 3) := by decide +kernel
theorem dL_law_488 : decode cL_law 488 = .ok (.if_icmp .eq 744, 3) := by decide +kernel
theorem dL_law_491 : decode cL_law 491 = .ok (.iconst 0, 1) := by decide +kernel
theorem dL_law_492 : decode cL_law 492 = .ok (.ireturn, 1) := by decide +kernel
theorem dL_law_493 : decode cL_law 493 = .ok (.aload_n 1, 1) := by decide +kernel
theorem dL_law_494 : decode cL_law 494 = .ok (.aload_n 0, 1) := by decide +kernel
theorem dL_law_495 : decode cL_law 495 = .ok (.iload_n 3, 1) := by decide +kernel
theorem dL_law_496 : decode cL_law 496 = .ok (.iconst 1, 1) := by decide +kernel
theorem dL_law_497 : decode cL_law 497 = .ok (.iadd, 1) := by decide +kernel
theorem dL_law_498 : decode cL_law 498 = .ok (.iaload, 1) := by decide +kernel
theorem dL_law_499 : decode cL_law 499 = .ok (.invokevirtual 57, 3) := by decide +kernel
theorem dL_law_502 : decode cL_law 502 = .ok (.aload_n 2, 1) := by decide +kernel
theorem dL_law_503 : decode cL_law 503 = .ok (.aload_n 0, 1) := by decide +kernel
theorem dL_law_504 : decode cL_law 504 = .ok (.iload_n 3, 1) := by decide +kernel
theorem dL_law_505 : decode cL_law 505 = .ok (.iconst 1, 1) := by decide +kernel
theorem dL_law_506 : decode cL_law 506 = .ok (.iadd, 1) := by decide +kernel
theorem dL_law_507 : decode cL_law 507 = .ok (.iaload, 1) := by decide +kernel
theorem dL_law_508 : decode cL_law 508 = .ok (.invokevirtual 60, 3) := by decide +kernel
theorem dL_law_511 : decode cL_law 511 = .ok (.if_icmp .eq 721, 3) := by decide +kernel
theorem dL_law_514 : decode cL_law 514 = .ok (.iconst 0, 1) := by decide +kernel
theorem dL_law_515 : decode cL_law 515 = .ok (.ireturn, 1) := by decide +kernel
theorem dL_law_516 : decode cL_law 516 = .ok (.aload_n 1, 1) := by decide +kernel
theorem dL_law_517 : decode cL_law 517 = .ok (.aload_n 0, 1) := by decide +kernel
theorem dL_law_518 : decode cL_law 518 = .ok (.iload_n 3, 1) := by decide +kernel
theorem dL_law_519 : decode cL_law 519 = .ok (.iconst 1, 1) := by decide +kernel
theorem dL_law_520 : decode cL_law 520 = .ok (.iadd, 1) := by decide +kernel
theorem dL_law_521 : decode cL_law 521 = .ok (.iaload, 1) := by decide +kernel
theorem dL_law_522 : decode cL_law 522 = .ok (.aload_n 0, 1) := by decide +kernel
theorem dL_law_523 : decode cL_law 523 = .ok (.iload_n 3, 1) := by decide +kernel
theorem dL_law_524 : decode cL_law 524 = .ok (.iconst 2, 1) := by decide +kernel
theorem dL_law_525 : decode cL_law 525 = .ok (.iadd, 1) := by decide +kernel
theorem dL_law_526 : decode cL_law 526 = .ok (.iaload, 1) := by decide +kernel
theorem dL_law_527 : decode cL_law 527 = .ok (.invokevirtual 61, 3) := by decide +kernel
theorem dL_law_530 : decode cL_law 530 = .ok (.aload_n 2, 1) := by decide +kernel
theorem dL_law_531 : decode cL_law 531 = .ok (.aload_n 0, 1) := by decide +kernel
theorem dL_law_532 : decode cL_law 532 = .ok (.iload_n 3, 1) := by decide +kernel
theorem dL_law_533 : decode cL_law 533 = .ok (.iconst 1, 1) := by decide +kernel
theorem dL_law_534 : decode cL_law 534 = .ok (.iadd, 1) := by decide +kernel
theorem dL_law_535 : decode cL_law 535 = .ok (.iaload, 1) := by decide +kernel
theorem dL_law_536 : decode cL_law 536 = .ok (.aload_n 0, 1) := by decide +kernel
theorem dL_law_537 : decode cL_law 537 = .ok (.iload_n 3, 1) := by decide +kernel
theorem dL_law_538 : decode cL_law 538 = .ok (.iconst 2, 1) := by decide +kernel
theorem dL_law_539 : decode cL_law 539 = .ok (.iadd, 1) := by decide +kernel
theorem dL_law_540 : decode cL_law 540 = .ok (.iaload, 1) := by decide +kernel
theorem dL_law_541 : decode cL_law 541 = .ok (.invokevirtual 64, 3) := by decide +kernel
theorem dL_law_544 : decode cL_law 544 = .ok (.if_icmp .eq 688, 3) := by decide +kernel
theorem dL_law_547 : decode cL_law 547 = .ok (.iconst 0, 1) := by decide +kernel
theorem dL_law_548 : decode cL_law 548 = .ok (.ireturn, 1) := by decide +kernel
theorem dL_law_549 : decode cL_law 549 = .ok (.aload_n 1, 1) := by decide +kernel
theorem dL_law_550 : decode cL_law 550 = .ok (.aload_n 0, 1) := by decide +kernel
theorem dL_law_551 : decode cL_law 551 = .ok (.iload_n 3, 1) := by decide +kernel
theorem dL_law_552 : decode cL_law 552 = .ok (.iconst 1, 1) := by decide +kernel
theorem dL_law_553 : decode cL_law 553 = .ok (.iadd, 1) := by decide +kernel
theorem dL_law_554 : decode cL_law 554 = .ok (.iaload, 1) := by decide +kernel
theorem dL_law_555 : decode cL_law 555 = .ok (.invokevirtual 65, 3) := by decide +kernel
theorem dL_law_558 : decode cL_law 558 = .ok (.aload_n 2, 1) := by decide +kernel
theorem dL_law_559 : decode cL_law 559 = .ok (.aload_n 0, 1) := by decide +kernel
theorem dL_law_560 : decode cL_law 560 = .ok (.iload_n 3, 1) := by decide +kernel
theorem dL_law_561 : decode cL_law 561 = .ok (.iconst 1, 1) := by decide +kernel
theorem dL_law_562 : decode cL_law 562 = .ok (.iadd, 1) := by decide +kernel
theorem dL_law_563 : decode cL_law 563 = .ok (.iaload, 1) := by decide +kernel
theorem dL_law_564 : decode cL_law 564 = .ok (.invokevirtual 68, 3) := by decide +kernel
theorem dL_law_567 : decode cL_law 567 = .ok (.if_icmp .eq 665, 3) := by decide +kernel
theorem dL_law_570 : decode cL_law 570 = .ok (.iconst 0, 1) := by decide +kernel
theorem dL_law_571 : decode cL_law 571 = .ok (.ireturn, 1) := by decide +kernel
theorem dL_law_572 : decode cL_law 572 = .ok (.aload_n 1, 1) := by decide +kernel
theorem dL_law_573 : decode cL_law 573 = .ok (.aload_n 0, 1) := by decide +kernel
theorem dL_law_574 : decode cL_law 574 = .ok (.iload_n 3, 1) := by decide +kernel
theorem dL_law_575 : decode cL_law 575 = .ok (.iconst 1, 1) := by decide +kernel
theorem dL_law_576 : decode cL_law 576 = .ok (.iadd, 1) := by decide +kernel
theorem dL_law_577 : decode cL_law 577 = .ok (.iaload, 1) := by decide +kernel
theorem dL_law_578 : decode cL_law 578 = .ok (.invokevirtual 69, 3) := by decide +kernel
theorem dL_law_581 : decode cL_law 581 = .ok (.aload_n 2, 1) := by decide +kernel
theorem dL_law_582 : decode cL_law 582 = .ok (.aload_n 0, 1) := by decide +kernel
theorem dL_law_583 : decode cL_law 583 = .ok (.iload_n 3, 1) := by decide +kernel
theorem dL_law_584 : decode cL_law 584 = .ok (.iconst 1, 1) := by decide +kernel
theorem dL_law_585 : decode cL_law 585 = .ok (.iadd, 1) := by decide +kernel
theorem dL_law_586 : decode cL_law 586 = .ok (.iaload, 1) := by decide +kernel
theorem dL_law_587 : decode cL_law 587 = .ok (.invokevirtual 72, 3) := by decide +kernel
theorem dL_law_590 : decode cL_law 590 = .ok (.if_icmp .eq 642, 3) := by decide +kernel
theorem dL_law_593 : decode cL_law 593 = .ok (.iconst 0, 1) := by decide +kernel
theorem dL_law_594 : decode cL_law 594 = .ok (.ireturn, 1) := by decide +kernel
theorem dL_law_595 : decode cL_law 595 = .ok (.aload_n 1, 1) := by decide +kernel
theorem dL_law_596 : decode cL_law 596 = .ok (.aload_n 0, 1) := by decide +kernel
theorem dL_law_597 : decode cL_law 597 = .ok (.iload_n 3, 1) := by decide +kernel
theorem dL_law_598 : decode cL_law 598 = .ok (.iconst 1, 1) := by decide +kernel
theorem dL_law_599 : decode cL_law 599 = .ok (.iadd, 1) := by decide +kernel
theorem dL_law_600 : decode cL_law 600 = .ok (.iaload, 1) := by decide +kernel
theorem dL_law_601 : decode cL_law 601 = .ok (.aload_n 0, 1) := by decide +kernel
theorem dL_law_602 : decode cL_law 602 = .ok (.iload_n 3, 1) := by decide +kernel
theorem dL_law_603 : decode cL_law 603 = .ok (.iconst 2, 1) := by decide +kernel
theorem dL_law_604 : decode cL_law 604 = .ok (.iadd, 1) := by decide +kernel
theorem dL_law_605 : decode cL_law 605 = .ok (.iaload, 1) := by decide +kernel
theorem dL_law_606 : decode cL_law 606 = .ok (.invokevirtual 73, 3) := by decide +kernel
theorem dL_law_609 : decode cL_law 609 = .ok (.aload_n 2, 1) := by decide +kernel
theorem dL_law_610 : decode cL_law 610 = .ok (.aload_n 0, 1) := by decide +kernel
theorem dL_law_611 : decode cL_law 611 = .ok (.iload_n 3, 1) := by decide +kernel
theorem dL_law_612 : decode cL_law 612 = .ok (.iconst 1, 1) := by decide +kernel
theorem dL_law_613 : decode cL_law 613 = .ok (.iadd, 1) := by decide +kernel
theorem dL_law_614 : decode cL_law 614 = .ok (.iaload, 1) := by decide +kernel
theorem dL_law_615 : decode cL_law 615 = .ok (.aload_n 0, 1) := by decide +kernel
theorem dL_law_616 : decode cL_law 616 = .ok (.iload_n 3, 1) := by decide +kernel
theorem dL_law_617 : decode cL_law 617 = .ok (.iconst 2, 1) := by decide +kernel
theorem dL_law_618 : decode cL_law 618 = .ok (.iadd, 1) := by decide +kernel
theorem dL_law_619 : decode cL_law 619 = .ok (.iaload, 1) := by decide +kernel
theorem dL_law_620 : decode cL_law 620 = .ok (.invokevirtual 76, 3) := by decide +kernel
theorem dL_law_623 : decode cL_law 623 = .ok (.if_icmp .eq 609, 3) := by decide +kernel
theorem dL_law_626 : decode cL_law 626 = .ok (.iconst 0, 1) := by decide +kernel
theorem dL_law_627 : decode cL_law 627 = .ok (.ireturn, 1) := by decide +kernel
theorem dL_law_628 : decode cL_law 628 = .ok (.aload_n 1, 1) := by decide +kernel
theorem dL_law_629 : decode cL_law 629 = .ok (.aload_n 0, 1) := by decide +kernel
theorem dL_law_630 : decode cL_law 630 = .ok (.iload_n 3, 1) := by decide +kernel
theorem dL_law_631 : decode cL_law 631 = .ok (.iconst 1, 1) := by decide +kernel
theorem dL_law_632 : decode cL_law 632 = .ok (.iadd, 1) := by decide +kernel
theorem dL_law_633 : decode cL_law 633 = .ok (.iaload, 1) := by decide +kernel
theorem dL_law_634 : decode cL_law 634 = .ok (.invokevirtual 77, 3) := by decide +kernel
theorem dL_law_637 : decode cL_law 637 = .ok (.aload_n 2, 1) := by decide +kernel
theorem dL_law_638 : decode cL_law 638 = .ok (.aload_n 0, 1) := by decide +kernel
theorem dL_law_639 : decode cL_law 639 = .ok (.iload_n 3, 1) := by decide +kernel
theorem dL_law_640 : decode cL_law 640 = .ok (.iconst 1, 1) := by decide +kernel
theorem dL_law_641 : decode cL_law 641 = .ok (.iadd, 1) := by decide +kernel
theorem dL_law_642 : decode cL_law 642 = .ok (.iaload, 1) := by decide +kernel
theorem dL_law_643 : decode cL_law 643 = .ok (.invokevirtual 80, 3) := by decide +kernel
theorem dL_law_646 : decode cL_law 646 = .ok (.if_icmp .eq 586, 3) := by decide +kernel
theorem dL_law_649 : decode cL_law 649 = .ok (.iconst 0, 1) := by decide +kernel
theorem dL_law_650 : decode cL_law 650 = .ok (.ireturn, 1) := by decide +kernel
theorem dL_law_651 : decode cL_law 651 = .ok (.aload_n 1, 1) := by decide +kernel
theorem dL_law_652 : decode cL_law 652 = .ok (.aload_n 0, 1) := by decide +kernel
theorem dL_law_653 : decode cL_law 653 = .ok (.iload_n 3, 1) := by decide +kernel
theorem dL_law_654 : decode cL_law 654 = .ok (.iconst 1, 1) := by decide +kernel
theorem dL_law_655 : decode cL_law 655 = .ok (.iadd, 1) := by decide +kernel
theorem dL_law_656 : decode cL_law 656 = .ok (.iaload, 1) := by decide +kernel
theorem dL_law_657 : decode cL_law 657 = .ok (.invokevirtual 81, 3) := by decide +kernel
theorem dL_law_660 : decode cL_law 660 = .ok (.aload_n 2, 1) := by decide +kernel
theorem dL_law_661 : decode cL_law 661 = .ok (.aload_n 0, 1) := by decide +kernel
theorem dL_law_662 : decode cL_law 662 = .ok (.iload_n 3, 1) := by decide +kernel
theorem dL_law_663 : decode cL_law 663 = .ok (.iconst 1, 1) := by decide +kernel
theorem dL_law_664 : decode cL_law 664 = .ok (.iadd, 1) := by decide +kernel
theorem dL_law_665 : decode cL_law 665 = .ok (.iaload, 1) := by decide +kernel
theorem dL_law_666 : decode cL_law 666 = .ok (.invokevirtual 84, 3) := by decide +kernel
theorem dL_law_669 : decode cL_law 669 = .ok (.if_icmp .eq 563, 3) := by decide +kernel
theorem dL_law_672 : decode cL_law 672 = .ok (.iconst 0, 1) := by decide +kernel
theorem dL_law_673 : decode cL_law 673 = .ok (.ireturn, 1) := by decide +kernel
theorem dL_law_674 : decode cL_law 674 = .ok (.aload_n 1, 1) := by decide +kernel
theorem dL_law_675 : decode cL_law 675 = .ok (.invokevirtual 85, 3) := by decide +kernel
theorem dL_law_678 : decode cL_law 678 = .ok (.aload_n 2, 1) := by decide +kernel
theorem dL_law_679 : decode cL_law 679 = .ok (.invokevirtual 88, 3) := by decide +kernel
theorem dL_law_682 : decode cL_law 682 = .ok (.if_icmp .eq 550, 3) := by decide +kernel
theorem dL_law_685 : decode cL_law 685 = .ok (.iconst 0, 1) := by decide +kernel
theorem dL_law_686 : decode cL_law 686 = .ok (.ireturn, 1) := by decide +kernel
theorem dL_law_687 : decode cL_law 687 = .ok (.aload_n 1, 1) := by decide +kernel
theorem dL_law_688 : decode cL_law 688 = .ok (.aload_n 0, 1) := by decide +kernel
theorem dL_law_689 : decode cL_law 689 = .ok (.iload_n 3, 1) := by decide +kernel
theorem dL_law_690 : decode cL_law 690 = .ok (.iconst 1, 1) := by decide +kernel
theorem dL_law_691 : decode cL_law 691 = .ok (.iadd, 1) := by decide +kernel
theorem dL_law_692 : decode cL_law 692 = .ok (.iaload, 1) := by decide +kernel
theorem dL_law_693 : decode cL_law 693 = .ok (.aload_n 0, 1) := by decide +kernel
theorem dL_law_694 : decode cL_law 694 = .ok (.iload_n 3, 1) := by decide +kernel
theorem dL_law_695 : decode cL_law 695 = .ok (.iconst 2, 1) := by decide +kernel
theorem dL_law_696 : decode cL_law 696 = .ok (.iadd, 1) := by decide +kernel
theorem dL_law_697 : decode cL_law 697 = .ok (.iaload, 1) := by decide +kernel
theorem dL_law_698 : decode cL_law 698 = .ok (.invokevirtual 89, 3) := by decide +kernel
theorem dL_law_701 : decode cL_law 701 = .ok (.aload_n 2, 1) := by decide +kernel
theorem dL_law_702 : decode cL_law 702 = .ok (.aload_n 0, 1) := by decide +kernel
theorem dL_law_703 : decode cL_law 703 = .ok (.iload_n 3, 1) := by decide +kernel
theorem dL_law_704 : decode cL_law 704 = .ok (.iconst 1, 1) := by decide +kernel
theorem dL_law_705 : decode cL_law 705 = .ok (.iadd, 1) := by decide +kernel
theorem dL_law_706 : decode cL_law 706 = .ok (.iaload, 1) := by decide +kernel
theorem dL_law_707 : decode cL_law 707 = .ok (.aload_n 0, 1) := by decide +kernel
theorem dL_law_708 : decode cL_law 708 = .ok (.iload_n 3, 1) := by decide +kernel
theorem dL_law_709 : decode cL_law 709 = .ok (.iconst 2, 1) := by decide +kernel
theorem dL_law_710 : decode cL_law 710 = .ok (.iadd, 1) := by decide +kernel
theorem dL_law_711 : decode cL_law 711 = .ok (.iaload, 1) := by decide +kernel
theorem dL_law_712 : decode cL_law 712 = .ok (.invokevirtual 92, 3) := by decide +kernel
theorem dL_law_715 : decode cL_law 715 = .ok (.if_icmp .eq 517, 3) := by decide +kernel
theorem dL_law_718 : decode cL_law 718 = .ok (.iconst 0, 1) := by decide +kernel
theorem dL_law_719 : decode cL_law 719 = .ok (.ireturn, 1) := by decide +kernel
theorem dL_law_720 : decode cL_law 720 = .ok (.aload_n 1, 1) := by decide +kernel
theorem dL_law_721 : decode cL_law 721 = .ok (.aload_n 0, 1) := by decide +kernel
theorem dL_law_722 : decode cL_law 722 = .ok (.iload_n 3, 1) := by decide +kernel
theorem dL_law_723 : decode cL_law 723 = .ok (.iconst 1, 1) := by decide +kernel
theorem dL_law_724 : decode cL_law 724 = .ok (.iadd, 1) := by decide +kernel
theorem dL_law_725 : decode cL_law 725 = .ok (.iaload, 1) := by decide +kernel
theorem dL_law_726 : decode cL_law 726 = .ok (.aload_n 0, 1) := by decide +kernel
theorem dL_law_727 : decode cL_law 727 = .ok (.iload_n 3, 1) := by decide +kernel
theorem dL_law_728 : decode cL_law 728 = .ok (.iconst 2, 1) := by decide +kernel
theorem dL_law_729 : decode cL_law 729 = .ok (.iadd, 1) := by decide +kernel
theorem dL_law_730 : decode cL_law 730 = .ok (.iaload, 1) := by decide +kernel
theorem dL_law_731 : decode cL_law 731 = .ok (.invokevirtual 93, 3) := by decide +kernel
theorem dL_law_734 : decode cL_law 734 = .ok (.aload_n 2, 1) := by decide +kernel
theorem dL_law_735 : decode cL_law 735 = .ok (.aload_n 0, 1) := by decide +kernel
theorem dL_law_736 : decode cL_law 736 = .ok (.iload_n 3, 1) := by decide +kernel
theorem dL_law_737 : decode cL_law 737 = .ok (.iconst 1, 1) := by decide +kernel
theorem dL_law_738 : decode cL_law 738 = .ok (.iadd, 1) := by decide +kernel
theorem dL_law_739 : decode cL_law 739 = .ok (.iaload, 1) := by decide +kernel
theorem dL_law_740 : decode cL_law 740 = .ok (.aload_n 0, 1) := by decide +kernel
theorem dL_law_741 : decode cL_law 741 = .ok (.iload_n 3, 1) := by decide +kernel
theorem dL_law_742 : decode cL_law 742 = .ok (.iconst 2, 1) := by decide +kernel
theorem dL_law_743 : decode cL_law 743 = .ok (.iadd, 1) := by decide +kernel
theorem dL_law_744 : decode cL_law 744 = .ok (.iaload, 1) := by decide +kernel
theorem dL_law_745 : decode cL_law 745 = .ok (.invokevirtual 96, 3) := by decide +kernel
theorem dL_law_748 : decode cL_law 748 = .ok (.if_icmp .eq 484, 3) := by decide +kernel
theorem dL_law_751 : decode cL_law 751 = .ok (.iconst 0, 1) := by decide +kernel
theorem dL_law_752 : decode cL_law 752 = .ok (.ireturn, 1) := by decide +kernel
theorem dL_law_753 : decode cL_law 753 = .ok (.aload_n 1, 1) := by decide +kernel
theorem dL_law_754 : decode cL_law 754 = .ok (.aload_n 0, 1) := by decide +kernel
theorem dL_law_755 : decode cL_law 755 = .ok (.iload_n 3, 1) := by decide +kernel
theorem dL_law_756 : decode cL_law 756 = .ok (.iconst 1, 1) := by decide +kernel
theorem dL_law_757 : decode cL_law 757 = .ok (.iadd, 1) := by decide +kernel
theorem dL_law_758 : decode cL_law 758 = .ok (.iaload, 1) := by decide +kernel
theorem dL_law_759 : decode cL_law 759 = .ok (.aload_n 0, 1) := by decide +kernel
theorem dL_law_760 : decode cL_law 760 = .ok (.iload_n 3, 1) := by decide +kernel
theorem dL_law_761 : decode cL_law 761 = .ok (.iconst 2, 1) := by decide +kernel
theorem dL_law_762 : decode cL_law 762 = .ok (.iadd, 1) := by decide +kernel
theorem dL_law_763 : decode cL_law 763 = .ok (.iaload, 1) := by decide +kernel
theorem dL_law_764 : decode cL_law 764 = .ok (.invokevirtual 97, 3) := by decide +kernel
theorem dL_law_767 : decode cL_law 767 = .ok (.aload_n 2, 1) := by decide +kernel
theorem dL_law_768 : decode cL_law 768 = .ok (.aload_n 0, 1) := by decide +kernel
theorem dL_law_769 : decode cL_law 769 = .ok (.iload_n 3, 1) := by decide +kernel
theorem dL_law_770 : decode cL_law 770 = .ok (.iconst 1, 1) := by decide +kernel
theorem dL_law_771 : decode cL_law 771 = .ok (.iadd, 1) := by decide +kernel
theorem dL_law_772 : decode cL_law 772 = .ok (.iaload, 1) := by decide +kernel
theorem dL_law_773 : decode cL_law 773 = .ok (.aload_n 0, 1) := by decide +kernel
theorem dL_law_774 : decode cL_law 774 = .ok (.iload_n 3, 1) := by decide +kernel
theorem dL_law_775 : decode cL_law 775 = .ok (.iconst 2, 1) := by decide +kernel
theorem dL_law_776 : decode cL_law 776 = .ok (.iadd, 1) := by decide +kernel
theorem dL_law_777 : decode cL_law 777 = .ok (.iaload, 1) := by decide +kernel
theorem dL_law_778 : decode cL_law 778 = .ok (.invokevirtual 100, 3) := by decide +kernel
theorem dL_law_781 : decode cL_law 781 = .ok (.if_icmp .eq 451, 3) := by decide +kernel
theorem dL_law_784 : decode cL_law 784 = .ok (.iconst 0, 1) := by decide +kernel
theorem dL_law_785 : decode cL_law 785 = .ok (.ireturn, 1) := by decide +kernel
theorem dL_law_786 : decode cL_law 786 = .ok (.aload_n 1, 1) := by decide +kernel
theorem dL_law_787 : decode cL_law 787 = .ok (.aload_n 0, 1) := by decide +kernel
theorem dL_law_788 : decode cL_law 788 = .ok (.iload_n 3, 1) := by decide +kernel
theorem dL_law_789 : decode cL_law 789 = .ok (.iconst 1, 1) := by decide +kernel
theorem dL_law_790 : decode cL_law 790 = .ok (.iadd, 1) := by decide +kernel
theorem dL_law_791 : decode cL_law 791 = .ok (.iaload, 1) := by decide +kernel
theorem dL_law_792 : decode cL_law 792 = .ok (.invokevirtual 101, 3) := by decide +kernel
theorem dL_law_795 : decode cL_law 795 = .ok (.aload_n 2, 1) := by decide +kernel
theorem dL_law_796 : decode cL_law 796 = .ok (.aload_n 0, 1) := by decide +kernel
theorem dL_law_797 : decode cL_law 797 = .ok (.iload_n 3, 1) := by decide +kernel
theorem dL_law_798 : decode cL_law 798 = .ok (.iconst 1, 1) := by decide +kernel
theorem dL_law_799 : decode cL_law 799 = .ok (.iadd, 1) := by decide +kernel
theorem dL_law_800 : decode cL_law 800 = .ok (.iaload, 1) := by decide +kernel
theorem dL_law_801 : decode cL_law 801 = .ok (.invokevirtual 104, 3) := by decide +kernel
theorem dL_law_804 : decode cL_law 804 = .ok (.if_icmp .eq 428, 3) := by decide +kernel
theorem dL_law_807 : decode cL_law 807 = .ok (.iconst 0, 1) := by decide +kernel
theorem dL_law_808 : decode cL_law 808 = .ok (.ireturn, 1) := by decide +kernel
theorem dL_law_809 : decode cL_law 809 = .ok (.aload_n 1, 1) := by decide +kernel
theorem dL_law_810 : decode cL_law 810 = .ok (.aload_n 0, 1) := by decide +kernel
theorem dL_law_811 : decode cL_law 811 = .ok (.iload_n 3, 1) := by decide +kernel
theorem dL_law_812 : decode cL_law 812 = .ok (.iconst 1, 1) := by decide +kernel
theorem dL_law_813 : decode cL_law 813 = .ok (.iadd, 1) := by decide +kernel
theorem dL_law_814 : decode cL_law 814 = .ok (.iaload, 1) := by decide +kernel
theorem dL_law_815 : decode cL_law 815 = .ok (.invokevirtual 105, 3) := by decide +kernel
theorem dL_law_818 : decode cL_law 818 = .ok (.aload_n 2, 1) := by decide +kernel
theorem dL_law_819 : decode cL_law 819 = .ok (.aload_n 0, 1) := by decide +kernel
theorem dL_law_820 : decode cL_law 820 = .ok (.iload_n 3, 1) := by decide +kernel
theorem dL_law_821 : decode cL_law 821 = .ok (.iconst 1, 1) := by decide +kernel
theorem dL_law_822 : decode cL_law 822 = .ok (.iadd, 1) := by decide +kernel
theorem dL_law_823 : decode cL_law 823 = .ok (.iaload, 1) := by decide +kernel
theorem dL_law_824 : decode cL_law 824 = .ok (.invokevirtual 108, 3) := by decide +kernel
theorem dL_law_827 : decode cL_law 827 = .ok (.if_icmp .eq 405, 3) := by decide +kernel
theorem dL_law_830 : decode cL_law 830 = .ok (.iconst 0, 1) := by decide +kernel
theorem dL_law_831 : decode cL_law 831 = .ok (.ireturn, 1) := by decide +kernel
theorem dL_law_832 : decode cL_law 832 = .ok (.aload_n 1, 1) := by decide +kernel
theorem dL_law_833 : decode cL_law 833 = .ok (.aload_n 0, 1) := by decide +kernel
theorem dL_law_834 : decode cL_law 834 = .ok (.iload_n 3, 1) := by decide +kernel
theorem dL_law_835 : decode cL_law 835 = .ok (.iconst 1, 1) := by decide +kernel
theorem dL_law_836 : decode cL_law 836 = .ok (.iadd, 1) := by decide +kernel
theorem dL_law_837 : decode cL_law 837 = .ok (.iaload, 1) := by decide +kernel
theorem dL_law_838 : decode cL_law 838 = .ok (.aload_n 0, 1) := by decide +kernel
theorem dL_law_839 : decode cL_law 839 = .ok (.iload_n 3, 1) := by decide +kernel
theorem dL_law_840 : decode cL_law 840 = .ok (.iconst 2, 1) := by decide +kernel
theorem dL_law_841 : decode cL_law 841 = .ok (.iadd, 1) := by decide +kernel
theorem dL_law_842 : decode cL_law 842 = .ok (.iaload, 1) := by decide +kernel
theorem dL_law_843 : decode cL_law 843 = .ok (.invokevirtual 109, 3) := by decide +kernel
theorem dL_law_846 : decode cL_law 846 = .ok (.aload_n 2, 1) := by decide +kernel
theorem dL_law_847 : decode cL_law 847 = .ok (.aload_n 0, 1) := by decide +kernel
theorem dL_law_848 : decode cL_law 848 = .ok (.iload_n 3, 1) := by decide +kernel
theorem dL_law_849 : decode cL_law 849 = .ok (.iconst 1, 1) := by decide +kernel
theorem dL_law_850 : decode cL_law 850 = .ok (.iadd, 1) := by decide +kernel
theorem dL_law_851 : decode cL_law 851 = .ok (.iaload, 1) := by decide +kernel
theorem dL_law_852 : decode cL_law 852 = .ok (.aload_n 0, 1) := by decide +kernel
theorem dL_law_853 : decode cL_law 853 = .ok (.iload_n 3, 1) := by decide +kernel
theorem dL_law_854 : decode cL_law 854 = .ok (.iconst 2, 1) := by decide +kernel
theorem dL_law_855 : decode cL_law 855 = .ok (.iadd, 1) := by decide +kernel
theorem dL_law_856 : decode cL_law 856 = .ok (.iaload, 1) := by decide +kernel
theorem dL_law_857 : decode cL_law 857 = .ok (.invokevirtual 112, 3) := by decide +kernel
theorem dL_law_860 : decode cL_law 860 = .ok (.if_icmp .eq 372, 3) := by decide +kernel
theorem dL_law_863 : decode cL_law 863 = .ok (.iconst 0, 1) := by decide +kernel
theorem dL_law_864 : decode cL_law 864 = .ok (.ireturn, 1) := by decide +kernel
theorem dL_law_865 : decode cL_law 865 = .ok (.aload_n 1, 1) := by decide +kernel
theorem dL_law_866 : decode cL_law 866 = .ok (.aload_n 0, 1) := by decide +kernel
theorem dL_law_867 : decode cL_law 867 = .ok (.iload_n 3, 1) := by decide +kernel
theorem dL_law_868 : decode cL_law 868 = .ok (.iconst 1, 1) := by decide +kernel
theorem dL_law_869 : decode cL_law 869 = .ok (.iadd, 1) := by decide +kernel
theorem dL_law_870 : decode cL_law 870 = .ok (.iaload, 1) := by decide +kernel
theorem dL_law_871 : decode cL_law 871 = .ok (.invokevirtual 113, 3) := by decide +kernel
theorem dL_law_874 : decode cL_law 874 = .ok (.aload_n 2, 1) := by decide +kernel
theorem dL_law_875 : decode cL_law 875 = .ok (.aload_n 0, 1) := by decide +kernel
theorem dL_law_876 : decode cL_law 876 = .ok (.iload_n 3, 1) := by decide +kernel
theorem dL_law_877 : decode cL_law 877 = .ok (.iconst 1, 1) := by decide +kernel
theorem dL_law_878 : decode cL_law 878 = .ok (.iadd, 1) := by decide +kernel
theorem dL_law_879 : decode cL_law 879 = .ok (.iaload, 1) := by decide +kernel
theorem dL_law_880 : decode cL_law 880 = .ok (.invokevirtual 116, 3) := by decide +kernel
theorem dL_law_883 : decode cL_law 883 = .ok (.if_icmp .eq 349, 3) := by decide +kernel
theorem dL_law_886 : decode cL_law 886 = .ok (.iconst 0, 1) := by decide +kernel
theorem dL_law_887 : decode cL_law 887 = .ok (.ireturn, 1) := by decide +kernel
theorem dL_law_888 : decode cL_law 888 = .ok (.aload_n 1, 1) := by decide +kernel
theorem dL_law_889 : decode cL_law 889 = .ok (.invokevirtual 117, 3) := by decide +kernel
theorem dL_law_892 : decode cL_law 892 = .ok (.aload_n 2, 1) := by decide +kernel
theorem dL_law_893 : decode cL_law 893 = .ok (.invokevirtual 120, 3) := by decide +kernel
theorem dL_law_896 : decode cL_law 896 = .ok (.if_icmp .eq 336, 3) := by decide +kernel
theorem dL_law_899 : decode cL_law 899 = .ok (.iconst 0, 1) := by decide +kernel
theorem dL_law_900 : decode cL_law 900 = .ok (.ireturn, 1) := by decide +kernel
theorem dL_law_901 : decode cL_law 901 = .ok (.aload_n 1, 1) := by decide +kernel
theorem dL_law_902 : decode cL_law 902 = .ok (.invokevirtual 121, 3) := by decide +kernel
theorem dL_law_905 : decode cL_law 905 = .ok (.aload_n 2, 1) := by decide +kernel
theorem dL_law_906 : decode cL_law 906 = .ok (.invokevirtual 124, 3) := by decide +kernel
theorem dL_law_909 : decode cL_law 909 = .ok (.if_icmp .eq 323, 3) := by decide +kernel
theorem dL_law_912 : decode cL_law 912 = .ok (.iconst 0, 1) := by decide +kernel
theorem dL_law_913 : decode cL_law 913 = .ok (.ireturn, 1) := by decide +kernel
theorem dL_law_914 : decode cL_law 914 = .ok (.aload_n 1, 1) := by decide +kernel
theorem dL_law_915 : decode cL_law 915 = .ok (.aload_n 0, 1) := by decide +kernel
theorem dL_law_916 : decode cL_law 916 = .ok (.iload_n 3, 1) := by decide +kernel
theorem dL_law_917 : decode cL_law 917 = .ok (.iconst 1, 1) := by decide +kernel
theorem dL_law_918 : decode cL_law 918 = .ok (.iadd, 1) := by decide +kernel
theorem dL_law_919 : decode cL_law 919 = .ok (.iaload, 1) := by decide +kernel
theorem dL_law_920 : decode cL_law 920 = .ok (.aload_n 0, 1) := by decide +kernel
theorem dL_law_921 : decode cL_law 921 = .ok (.iload_n 3, 1) := by decide +kernel
theorem dL_law_922 : decode cL_law 922 = .ok (.iconst 2, 1) := by decide +kernel
theorem dL_law_923 : decode cL_law 923 = .ok (.iadd, 1) := by decide +kernel
theorem dL_law_924 : decode cL_law 924 = .ok (.iaload, 1) := by decide +kernel
theorem dL_law_925 : decode cL_law 925 = .ok (.aload_n 0, 1) := by decide +kernel
theorem dL_law_926 : decode cL_law 926 = .ok (.iload_n 3, 1) := by decide +kernel
theorem dL_law_927 : decode cL_law 927 = .ok (.iconst 3, 1) := by decide +kernel
theorem dL_law_928 : decode cL_law 928 = .ok (.iadd, 1) := by decide +kernel
theorem dL_law_929 : decode cL_law 929 = .ok (.iaload, 1) := by decide +kernel
theorem dL_law_930 : decode cL_law 930 = .ok (.aload_n 0, 1) := by decide +kernel
theorem dL_law_931 : decode cL_law 931 = .ok (.iload_n 3, 1) := by decide +kernel
theorem dL_law_932 : decode cL_law 932 = .ok (.iconst 4, 1) := by decide +kernel
theorem dL_law_933 : decode cL_law 933 = .ok (.iadd, 1) := by decide +kernel
theorem dL_law_934 : decode cL_law 934 = .ok (.iaload, 1) := by decide +kernel
theorem dL_law_935 : decode cL_law 935 = .ok (.invokevirtual 125, 3) := by decide +kernel
theorem dL_law_938 : decode cL_law 938 = .ok (.aload_n 2, 1) := by decide +kernel
theorem dL_law_939 : decode cL_law 939 = .ok (.aload_n 0, 1) := by decide +kernel
theorem dL_law_940 : decode cL_law 940 = .ok (.iload_n 3, 1) := by decide +kernel
theorem dL_law_941 : decode cL_law 941 = .ok (.iconst 1, 1) := by decide +kernel
theorem dL_law_942 : decode cL_law 942 = .ok (.iadd, 1) := by decide +kernel
theorem dL_law_943 : decode cL_law 943 = .ok (.iaload, 1) := by decide +kernel
theorem dL_law_944 : decode cL_law 944 = .ok (.aload_n 0, 1) := by decide +kernel
theorem dL_law_945 : decode cL_law 945 = .ok (.iload_n 3, 1) := by decide +kernel
theorem dL_law_946 : decode cL_law 946 = .ok (.iconst 2, 1) := by decide +kernel
theorem dL_law_947 : decode cL_law 947 = .ok (.iadd, 1) := by decide +kernel
theorem dL_law_948 : decode cL_law 948 = .ok (.iaload, 1) := by decide +kernel
theorem dL_law_949 : decode cL_law 949 = .ok (.aload_n 0, 1) := by decide +kernel
theorem dL_law_950 : decode cL_law 950 = .ok (.iload_n 3, 1) := by decide +kernel
theorem dL_law_951 : decode cL_law 951 = .ok (.iconst 3, 1) := by decide +kernel
theorem dL_law_952 : decode cL_law 952 = .ok (.iadd, 1) := by decide +kernel
theorem dL_law_953 : decode cL_law 953 = .ok (.iaload, 1) := by decide +kernel
theorem dL_law_954 : decode cL_law 954 = .ok (.aload_n 0, 1) := by decide +kernel
theorem dL_law_955 : decode cL_law 955 = .ok (.iload_n 3, 1) := by decide +kernel
theorem dL_law_956 : decode cL_law 956 = .ok (.iconst 4, 1) := by decide +kernel
theorem dL_law_957 : decode cL_law 957 = .ok (.iadd, 1) := by decide +kernel
theorem dL_law_958 : decode cL_law 958 = .ok (.iaload, 1) := by decide +kernel
theorem dL_law_959 : decode cL_law 959 = .ok (.invokevirtual 128, 3) := by decide +kernel
theorem dL_law_962 : decode cL_law 962 = .ok (.if_icmp .eq 270, 3) := by decide +kernel
theorem dL_law_965 : decode cL_law 965 = .ok (.iconst 0, 1) := by decide +kernel
theorem dL_law_966 : decode cL_law 966 = .ok (.ireturn, 1) := by decide +kernel
theorem dL_law_967 : decode cL_law 967 = .ok (.aload_n 1, 1) := by decide +kernel
theorem dL_law_968 : decode cL_law 968 = .ok (.aload_n 0, 1) := by decide +kernel
theorem dL_law_969 : decode cL_law 969 = .ok (.iload_n 3, 1) := by decide +kernel
theorem dL_law_970 : decode cL_law 970 = .ok (.iconst 1, 1) := by decide +kernel
theorem dL_law_971 : decode cL_law 971 = .ok (.iadd, 1) := by decide +kernel
theorem dL_law_972 : decode cL_law 972 = .ok (.iaload, 1) := by decide +kernel
theorem dL_law_973 : decode cL_law 973 = .ok (.aload_n 0, 1) := by decide +kernel
theorem dL_law_974 : decode cL_law 974 = .ok (.iload_n 3, 1) := by decide +kernel
theorem dL_law_975 : decode cL_law 975 = .ok (.iconst 2, 1) := by decide +kernel
theorem dL_law_976 : decode cL_law 976 = .ok (.iadd, 1) := by decide +kernel
theorem dL_law_977 : decode cL_law 977 = .ok (.iaload, 1) := by decide +kernel
theorem dL_law_978 : decode cL_law 978 = .ok (.aload_n 0, 1) := by decide +kernel
theorem dL_law_979 : decode cL_law 979 = .ok (.iload_n 3, 1) := by decide +kernel
theorem dL_law_980 : decode cL_law 980 = .ok (.iconst 3, 1) := by decide +kernel
theorem dL_law_981 : decode cL_law 981 = .ok (.iadd, 1) := by decide +kernel
theorem dL_law_982 : decode cL_law 982 = .ok (.iaload, 1) := by decide +kernel
theorem dL_law_983 : decode cL_law 983 = .ok (.aload_n 0, 1) := by decide +kernel
theorem dL_law_984 : decode cL_law 984 = .ok (.iload_n 3, 1) := by decide +kernel
theorem dL_law_985 : decode cL_law 985 = .ok (.iconst 4, 1) := by decide +kernel
theorem dL_law_986 : decode cL_law 986 = .ok (.iadd, 1) := by decide +kernel
theorem dL_law_987 : decode cL_law 987 = .ok (.iaload, 1) := by decide +kernel
theorem dL_law_988 : decode cL_law 988 = .ok (.invokevirtual 129, 3) := by decide +kernel
theorem dL_law_991 : decode cL_law 991 = .ok (.aload_n 2, 1) := by decide +kernel
theorem dL_law_992 : decode cL_law 992 = .ok (.aload_n 0, 1) := by decide +kernel
theorem dL_law_993 : decode cL_law 993 = .ok (.iload_n 3, 1) := by decide +kernel
theorem dL_law_994 : decode cL_law 994 = .ok (.iconst 1, 1) := by decide +kernel
theorem dL_law_995 : decode cL_law 995 = .ok (.iadd, 1) := by decide +kernel
theorem dL_law_996 : decode cL_law 996 = .ok (.iaload, 1) := by decide +kernel
theorem dL_law_997 : decode cL_law 997 = .ok (.aload_n 0, 1) := by decide +kernel
theorem dL_law_998 : decode cL_law 998 = .ok (.iload_n 3, 1) := by decide +kernel
theorem dL_law_999 : decode cL_law 999 = .ok (.iconst 2, 1) := by decide +kernel
theorem dL_law_1000 : decode cL_law 1000 = .ok (.iadd, 1) := by decide +kernel
theorem dL_law_1001 : decode cL_law 1001 = .ok (.iaload, 1) := by decide +kernel
theorem dL_law_1002 : decode cL_law 1002 = .ok (.aload_n 0, 1) := by decide +kernel
theorem dL_law_1003 : decode cL_law 1003 = .ok (.iload_n 3, 1) := by decide +kernel
theorem dL_law_1004 : decode cL_law 1004 = .ok (.iconst 3, 1) := by decide +kernel
theorem dL_law_1005 : decode cL_law 1005 = .ok (.iadd, 1) := by decide +kernel
theorem dL_law_1006 : decode cL_law 1006 = .ok (.iaload, 1) := by decide +kernel
theorem dL_law_1007 : decode cL_law 1007 = .ok (.aload_n 0, 1) := by decide +kernel
theorem dL_law_1008 : decode cL_law 1008 = .ok (.iload_n 3, 1) := by decide +kernel
theorem dL_law_1009 : decode cL_law 1009 = .ok (.iconst 4, 1) := by decide +kernel
theorem dL_law_1010 : decode cL_law 1010 = .ok (.iadd, 1) := by decide +kernel
theorem dL_law_1011 : decode cL_law 1011 = .ok (.iaload, 1) := by decide +kernel
theorem dL_law_1012 : decode cL_law 1012 = .ok (.invokevirtual 132, 3) := by decide +kernel
theorem dL_law_1015 : decode cL_law 1015 = .ok (.if_icmp .eq 217, 3) := by decide +kernel
theorem dL_law_1018 : decode cL_law 1018 = .ok (.iconst 0, 1) := by decide +kernel
theorem dL_law_1019 : decode cL_law 1019 = .ok (.ireturn, 1) := by decide +kernel
theorem dL_law_1020 : decode cL_law 1020 = .ok (.aload_n 1, 1) := by decide +kernel
theorem dL_law_1021 : decode cL_law 1021 = .ok (.aload_n 0, 1) := by decide +kernel
theorem dL_law_1022 : decode cL_law 1022 = .ok (.iload_n 3, 1) := by decide +kernel
theorem dL_law_1023 : decode cL_law 1023 = .ok (.iconst 1, 1) := by decide +kernel
theorem dL_law_1024 : decode cL_law 1024 = .ok (.iadd, 1) := by decide +kernel
theorem dL_law_1025 : decode cL_law 1025 = .ok (.iaload, 1) := by decide +kernel
theorem dL_law_1026 : decode cL_law 1026 = .ok (.aload_n 0, 1) := by decide +kernel
theorem dL_law_1027 : decode cL_law 1027 = .ok (.iload_n 3, 1) := by decide +kernel
theorem dL_law_1028 : decode cL_law 1028 = .ok (.iconst 2, 1) := by decide +kernel
theorem dL_law_1029 : decode cL_law 1029 = .ok (.iadd, 1) := by decide +kernel
theorem dL_law_1030 : decode cL_law 1030 = .ok (.iaload, 1) := by decide +kernel
theorem dL_law_1031 : decode cL_law 1031 = .ok (.aload_n 0, 1) := by decide +kernel
theorem dL_law_1032 : decode cL_law 1032 = .ok (.iload_n 3, 1) := by decide +kernel
theorem dL_law_1033 : decode cL_law 1033 = .ok (.iconst 3, 1) := by decide +kernel
theorem dL_law_1034 : decode cL_law 1034 = .ok (.iadd, 1) := by decide +kernel
theorem dL_law_1035 : decode cL_law 1035 = .ok (.iaload, 1) := by decide +kernel
theorem dL_law_1036 : decode cL_law 1036 = .ok (.invokevirtual 133, 3) := by decide +kernel
theorem dL_law_1039 : decode cL_law 1039 = .ok (.aload_n 2, 1) := by decide +kernel
theorem dL_law_1040 : decode cL_law 1040 = .ok (.aload_n 0, 1) := by decide +kernel
theorem dL_law_1041 : decode cL_law 1041 = .ok (.iload_n 3, 1) := by decide +kernel
theorem dL_law_1042 : decode cL_law 1042 = .ok (.iconst 1, 1) := by decide +kernel
theorem dL_law_1043 : decode cL_law 1043 = .ok (.iadd, 1) := by decide +kernel
theorem dL_law_1044 : decode cL_law 1044 = .ok (.iaload, 1) := by decide +kernel
theorem dL_law_1045 : decode cL_law 1045 = .ok (.aload_n 0, 1) := by decide +kernel
theorem dL_law_1046 : decode cL_law 1046 = .ok (.iload_n 3, 1) := by decide +kernel
theorem dL_law_1047 : decode cL_law 1047 = .ok (.iconst 2, 1) := by decide +kernel
theorem dL_law_1048 : decode cL_law 1048 = .ok (.iadd, 1) := by decide +kernel
theorem dL_law_1049 : decode cL_law 1049 = .ok (.iaload, 1) := by decide +kernel
theorem dL_law_1050 : decode cL_law 1050 = .ok (.aload_n 0, 1) := by decide +kernel
theorem dL_law_1051 : decode cL_law 1051 = .ok (.iload_n 3, 1) := by decide +kernel
theorem dL_law_1052 : decode cL_law 1052 = .ok (.iconst 3, 1) := by decide +kernel
theorem dL_law_1053 : decode cL_law 1053 = .ok (.iadd, 1) := by decide +kernel
theorem dL_law_1054 : decode cL_law 1054 = .ok (.iaload, 1) := by decide +kernel
theorem dL_law_1055 : decode cL_law 1055 = .ok (.invokevirtual 136, 3) := by decide +kernel
theorem dL_law_1058 : decode cL_law 1058 = .ok (.if_icmp .eq 174, 3) := by decide +kernel
theorem dL_law_1061 : decode cL_law 1061 = .ok (.iconst 0, 1) := by decide +kernel
theorem dL_law_1062 : decode cL_law 1062 = .ok (.ireturn, 1) := by decide +kernel
theorem dL_law_1063 : decode cL_law 1063 = .ok (.aload_n 1, 1) := by decide +kernel
theorem dL_law_1064 : decode cL_law 1064 = .ok (.aload_n 0, 1) := by decide +kernel
theorem dL_law_1065 : decode cL_law 1065 = .ok (.iload_n 3, 1) := by decide +kernel
theorem dL_law_1066 : decode cL_law 1066 = .ok (.iconst 1, 1) := by decide +kernel
theorem dL_law_1067 : decode cL_law 1067 = .ok (.iadd, 1) := by decide +kernel
theorem dL_law_1068 : decode cL_law 1068 = .ok (.iaload, 1) := by decide +kernel
theorem dL_law_1069 : decode cL_law 1069 = .ok (.invokevirtual 137, 3) := by decide +kernel
theorem dL_law_1072 : decode cL_law 1072 = .ok (.aload_n 2, 1) := by decide +kernel
theorem dL_law_1073 : decode cL_law 1073 = .ok (.aload_n 0, 1) := by decide +kernel
theorem dL_law_1074 : decode cL_law 1074 = .ok (.iload_n 3, 1) := by decide +kernel
theorem dL_law_1075 : decode cL_law 1075 = .ok (.iconst 1, 1) := by decide +kernel
theorem dL_law_1076 : decode cL_law 1076 = .ok (.iadd, 1) := by decide +kernel
theorem dL_law_1077 : decode cL_law 1077 = .ok (.iaload, 1) := by decide +kernel
theorem dL_law_1078 : decode cL_law 1078 = .ok (.invokevirtual 140, 3) := by decide +kernel
theorem dL_law_1081 : decode cL_law 1081 = .ok (.if_icmp .eq 151, 3) := by decide +kernel
theorem dL_law_1084 : decode cL_law 1084 = .ok (.iconst 0, 1) := by decide +kernel
theorem dL_law_1085 : decode cL_law 1085 = .ok (.ireturn, 1) := by decide +kernel
theorem dL_law_1086 : decode cL_law 1086 = .ok (.aload_n 1, 1) := by decide +kernel
theorem dL_law_1087 : decode cL_law 1087 = .ok (.aload_n 0, 1) := by decide +kernel
theorem dL_law_1088 : decode cL_law 1088 = .ok (.iload_n 3, 1) := by decide +kernel
theorem dL_law_1089 : decode cL_law 1089 = .ok (.iconst 1, 1) := by decide +kernel
theorem dL_law_1090 : decode cL_law 1090 = .ok (.iadd, 1) := by decide +kernel
theorem dL_law_1091 : decode cL_law 1091 = .ok (.iaload, 1) := by decide +kernel
theorem dL_law_1092 : decode cL_law 1092 = .ok (.aload_n 0, 1) := by decide +kernel
theorem dL_law_1093 : decode cL_law 1093 = .ok (.iload_n 3, 1) := by decide +kernel
theorem dL_law_1094 : decode cL_law 1094 = .ok (.iconst 2, 1) := by decide +kernel
theorem dL_law_1095 : decode cL_law 1095 = .ok (.iadd, 1) := by decide +kernel
theorem dL_law_1096 : decode cL_law 1096 = .ok (.iaload, 1) := by decide +kernel
theorem dL_law_1097 : decode cL_law 1097 = .ok (.aload_n 0, 1) := by decide +kernel
theorem dL_law_1098 : decode cL_law 1098 = .ok (.iload_n 3, 1) := by decide +kernel
theorem dL_law_1099 : decode cL_law 1099 = .ok (.iconst 3, 1) := by decide +kernel
theorem dL_law_1100 : decode cL_law 1100 = .ok (.iadd, 1) := by decide +kernel
theorem dL_law_1101 : decode cL_law 1101 = .ok (.iaload, 1) := by decide +kernel
theorem dL_law_1102 : decode cL_law 1102 = .ok (.aload_n 0, 1) := by decide +kernel
theorem dL_law_1103 : decode cL_law 1103 = .ok (.iload_n 3, 1) := by decide +kernel
theorem dL_law_1104 : decode cL_law 1104 = .ok (.iconst 4, 1) := by decide +kernel
theorem dL_law_1105 : decode cL_law 1105 = .ok (.iadd, 1) := by decide +kernel
theorem dL_law_1106 : decode cL_law 1106 = .ok (.iaload, 1) := by decide +kernel
theorem dL_law_1107 : decode cL_law 1107 = .ok (.i2l, 1) := by decide +kernel
theorem dL_law_1108 : decode cL_law 1108 = .ok (.bipush 32, 2) := by decide +kernel
theorem dL_law_1110 : decode cL_law 1110 = .ok (.lshl, 1) := by decide +kernel
theorem dL_law_1111 : decode cL_law 1111 = .ok (.aload_n 0, 1) := by decide +kernel
theorem dL_law_1112 : decode cL_law 1112 = .ok (.iload_n 3, 1) := by decide +kernel
theorem dL_law_1113 : decode cL_law 1113 = .ok (.iconst 5, 1) := by decide +kernel
theorem dL_law_1114 : decode cL_law 1114 = .ok (.iadd, 1) := by decide +kernel
theorem dL_law_1115 : decode cL_law 1115 = .ok (.iaload, 1) := by decide +kernel
theorem dL_law_1116 : decode cL_law 1116 = .ok (.i2l, 1) := by decide +kernel
theorem dL_law_1117 : decode cL_law 1117 = .ok (.ldc2_w 13, 3) := by decide +kernel
theorem dL_law_1120 : decode cL_law 1120 = .ok (.land, 1) := by decide +kernel
theorem dL_law_1121 : decode cL_law 1121 = .ok (.lor, 1) := by decide +kernel
theorem dL_law_1122 : decode cL_law 1122 = .ok (.invokevirtual 141, 3) := by decide +kernel
theorem dL_law_1125 : decode cL_law 1125 = .ok (.aload_n 2, 1) := by decide +kernel
theorem dL_law_1126 : decode cL_law 1126 = .ok (.aload_n 0, 1) := by decide +kernel
theorem dL_law_1127 : decode cL_law 1127 = .ok (.iload_n 3, 1) := by decide +kernel
theorem dL_law_1128 : decode cL_law 1128 = .ok (.iconst 1, 1) := by decide +kernel
theorem dL_law_1129 : decode cL_law 1129 = .ok (.iadd, 1) := by decide +kernel
theorem dL_law_1130 : decode cL_law 1130 = .ok (.iaload, 1) := by decide +kernel
theorem dL_law_1131 : decode cL_law 1131 = .ok (.aload_n 0, 1) := by decide +kernel
theorem dL_law_1132 : decode cL_law 1132 = .ok (.iload_n 3, 1) := by decide +kernel
theorem dL_law_1133 : decode cL_law 1133 = .ok (.iconst 2, 1) := by decide +kernel
theorem dL_law_1134 : decode cL_law 1134 = .ok (.iadd, 1) := by decide +kernel
theorem dL_law_1135 : decode cL_law 1135 = .ok (.iaload, 1) := by decide +kernel
theorem dL_law_1136 : decode cL_law 1136 = .ok (.aload_n 0, 1) := by decide +kernel
theorem dL_law_1137 : decode cL_law 1137 = .ok (.iload_n 3, 1) := by decide +kernel
theorem dL_law_1138 : decode cL_law 1138 = .ok (.iconst 3, 1) := by decide +kernel
theorem dL_law_1139 : decode cL_law 1139 = .ok (.iadd, 1) := by decide +kernel
theorem dL_law_1140 : decode cL_law 1140 = .ok (.iaload, 1) := by decide +kernel
theorem dL_law_1141 : decode cL_law 1141 = .ok (.aload_n 0, 1) := by decide +kernel
theorem dL_law_1142 : decode cL_law 1142 = .ok (.iload_n 3, 1) := by decide +kernel
theorem dL_law_1143 : decode cL_law 1143 = .ok (.iconst 4, 1) := by decide +kernel
theorem dL_law_1144 : decode cL_law 1144 = .ok (.iadd, 1) := by decide +kernel
theorem dL_law_1145 : decode cL_law 1145 = .ok (.iaload, 1) := by decide +kernel
theorem dL_law_1146 : decode cL_law 1146 = .ok (.i2l, 1) := by decide +kernel
theorem dL_law_1147 : decode cL_law 1147 = .ok (.bipush 32, 2) := by decide +kernel
theorem dL_law_1149 : decode cL_law 1149 = .ok (.lshl, 1) := by decide +kernel
theorem dL_law_1150 : decode cL_law 1150 = .ok (.aload_n 0, 1) := by decide +kernel
theorem dL_law_1151 : decode cL_law 1151 = .ok (.iload_n 3, 1) := by decide +kernel
theorem dL_law_1152 : decode cL_law 1152 = .ok (.iconst 5, 1) := by decide +kernel
theorem dL_law_1153 : decode cL_law 1153 = .ok (.iadd, 1) := by decide +kernel
theorem dL_law_1154 : decode cL_law 1154 = .ok (.iaload, 1) := by decide +kernel
theorem dL_law_1155 : decode cL_law 1155 = .ok (.i2l, 1) := by decide +kernel
theorem dL_law_1156 : decode cL_law 1156 = .ok (.ldc2_w 13, 3) := by decide +kernel
theorem dL_law_1159 : decode cL_law 1159 = .ok (.land, 1) := by decide +kernel
theorem dL_law_1160 : decode cL_law 1160 = .ok (.lor, 1) := by decide +kernel
theorem dL_law_1161 : decode cL_law 1161 = .ok (.invokevirtual 145, 3) := by decide +kernel
theorem dL_law_1164 : decode cL_law 1164 = .ok (.if_icmp .eq 68, 3) := by decide +kernel
theorem dL_law_1167 : decode cL_law 1167 = .ok (.iconst 0, 1) := by decide +kernel
theorem dL_law_1168 : decode cL_law 1168 = .ok (.ireturn, 1) := by decide +kernel
theorem dL_law_1169 : decode cL_law 1169 = .ok (.aload_n 1, 1) := by decide +kernel
theorem dL_law_1170 : decode cL_law 1170 = .ok (.aload_n 0, 1) := by decide +kernel
theorem dL_law_1171 : decode cL_law 1171 = .ok (.iload_n 3, 1) := by decide +kernel
theorem dL_law_1172 : decode cL_law 1172 = .ok (.iconst 1, 1) := by decide +kernel
theorem dL_law_1173 : decode cL_law 1173 = .ok (.iadd, 1) := by decide +kernel
theorem dL_law_1174 : decode cL_law 1174 = .ok (.iaload, 1) := by decide +kernel
theorem dL_law_1175 : decode cL_law 1175 = .ok (.aload_n 0, 1) := by decide +kernel
theorem dL_law_1176 : decode cL_law 1176 = .ok (.iload_n 3, 1) := by decide +kernel
theorem dL_law_1177 : decode cL_law 1177 = .ok (.iconst 2, 1) := by decide +kernel
theorem dL_law_1178 : decode cL_law 1178 = .ok (.iadd, 1) := by decide +kernel
theorem dL_law_1179 : decode cL_law 1179 = .ok (.iaload, 1) := by decide +kernel
theorem dL_law_1180 : decode cL_law 1180 = .ok (.aload_n 0, 1) := by decide +kernel
theorem dL_law_1181 : decode cL_law 1181 = .ok (.iload_n 3, 1) := by decide +kernel
theorem dL_law_1182 : decode cL_law 1182 = .ok (.iconst 3, 1) := by decide +kernel
theorem dL_law_1183 : decode cL_law 1183 = .ok (.iadd, 1) := by decide +kernel
theorem dL_law_1184 : decode cL_law 1184 = .ok (.iaload, 1) := by decide +kernel
theorem dL_law_1185 : decode cL_law 1185 = .ok (.aload_n 0, 1) := by decide +kernel
theorem dL_law_1186 : decode cL_law 1186 = .ok (.iload_n 3, 1) := by decide +kernel
theorem dL_law_1187 : decode cL_law 1187 = .ok (.iconst 4, 1) := by decide +kernel
theorem dL_law_1188 : decode cL_law 1188 = .ok (.iadd, 1) := by decide +kernel
theorem dL_law_1189 : decode cL_law 1189 = .ok (.iaload, 1) := by decide +kernel
theorem dL_law_1190 : decode cL_law 1190 = .ok (.aload_n 0, 1) := by decide +kernel
theorem dL_law_1191 : decode cL_law 1191 = .ok (.iload_n 3, 1) := by decide +kernel
theorem dL_law_1192 : decode cL_law 1192 = .ok (.iconst 5, 1) := by decide +kernel
theorem dL_law_1193 : decode cL_law 1193 = .ok (.iadd, 1) := by decide +kernel
theorem dL_law_1194 : decode cL_law 1194 = .ok (.iaload, 1) := by decide +kernel
theorem dL_law_1195 : decode cL_law 1195 = .ok (.invokevirtual 146, 3) := by decide +kernel
theorem dL_law_1198 : decode cL_law 1198 = .ok (.aload_n 2, 1) := by decide +kernel
theorem dL_law_1199 : decode cL_law 1199 = .ok (.aload_n 0, 1) := by decide +kernel
theorem dL_law_1200 : decode cL_law 1200 = .ok (.iload_n 3, 1) := by decide +kernel
theorem dL_law_1201 : decode cL_law 1201 = .ok (.iconst 1, 1) := by decide +kernel
theorem dL_law_1202 : decode cL_law 1202 = .ok (.iadd, 1) := by decide +kernel
theorem dL_law_1203 : decode cL_law 1203 = .ok (.iaload, 1) := by decide +kernel
theorem dL_law_1204 : decode cL_law 1204 = .ok (.aload_n 0, 1) := by decide +kernel
theorem dL_law_1205 : decode cL_law 1205 = .ok (.iload_n 3, 1) := by decide +kernel
theorem dL_law_1206 : decode cL_law 1206 = .ok (.iconst 2, 1) := by decide +kernel
theorem dL_law_1207 : decode cL_law 1207 = .ok (.iadd, 1) := by decide +kernel
theorem dL_law_1208 : decode cL_law 1208 = .ok (.iaload, 1) := by decide +kernel
theorem dL_law_1209 : decode cL_law 1209 = .ok (.aload_n 0, 1) := by decide +kernel
theorem dL_law_1210 : decode cL_law 1210 = .ok (.iload_n 3, 1) := by decide +kernel
theorem dL_law_1211 : decode cL_law 1211 = .ok (.iconst 3, 1) := by decide +kernel
theorem dL_law_1212 : decode cL_law 1212 = .ok (.iadd, 1) := by decide +kernel
theorem dL_law_1213 : decode cL_law 1213 = .ok (.iaload, 1) := by decide +kernel
theorem dL_law_1214 : decode cL_law 1214 = .ok (.aload_n 0, 1) := by decide +kernel
theorem dL_law_1215 : decode cL_law 1215 = .ok (.iload_n 3, 1) := by decide +kernel
theorem dL_law_1216 : decode cL_law 1216 = .ok (.iconst 4, 1) := by decide +kernel
theorem dL_law_1217 : decode cL_law 1217 = .ok (.iadd, 1) := by decide +kernel
theorem dL_law_1218 : decode cL_law 1218 = .ok (.iaload, 1) := by decide +kernel
theorem dL_law_1219 : decode cL_law 1219 = .ok (.aload_n 0, 1) := by decide +kernel
theorem dL_law_1220 : decode cL_law 1220 = .ok (.iload_n 3, 1) := by decide +kernel
theorem dL_law_1221 : decode cL_law 1221 = .ok (.iconst 5, 1) := by decide +kernel
theorem dL_law_1222 : decode cL_law 1222 = .ok (.iadd, 1) := by decide +kernel
theorem dL_law_1223 : decode cL_law 1223 = .ok (.iaload, 1) := by decide +kernel
theorem dL_law_1224 : decode cL_law 1224 = .ok (.invokevirtual 150, 3) := by decide +kernel
theorem dL_law_1227 : decode cL_law 1227 = .ok (.if_icmp .eq 5, 3) := by decide +kernel
theorem dL_law_1230 : decode cL_law 1230 = .ok (.iconst 0, 1) := by decide +kernel
theorem dL_law_1231 : decode cL_law 1231 = .ok (.ireturn, 1) := by decide +kernel
theorem dL_law_1232 : decode cL_law 1232 = .ok (.iinc 3 6, 3) := by decide +kernel
theorem dL_law_1235 : decode cL_law 1235 = .ok (.goto (-1217), 3) := by decide +kernel
theorem dL_law_1238 : decode cL_law 1238 = .ok (.iconst 1, 1) := by decide +kernel
theorem dL_law_1239 : decode cL_law 1239 = .ok (.ireturn, 1) := by decide +kernel
end
section
/-- all the tables' words that may be handed on to a callee -/
def Al : List Cond := lw_tbl.filter goodWord
theorem Al_tbl {w : Cond} (h : w ∈ Al) : w ∈ lw_tbl := (List.mem_filter.mp h).1
theorem Al_good : GoodIn lw_tbl Al := fun w h => ⟨(List.mem_filter.mp h).1, good_of_word (List.mem_filter.mp h).2⟩
theorem Al_self : GoodIn Al Al := fun w h => ⟨h, good_of_word (List.mem_filter.mp h).2⟩
theorem in_tab {w : Cond} (h : w ∈ tables_1) (g : goodWord w = true) : w ∈ Al := List.mem_filter.mpr ⟨List.mem_append_right _ h, g⟩
theorem tb1 {w : Cond} (i : Nat) (h : tables_1_1[i]? = some w) : w ∈ tables_1 := List.mem_append_left _ (List.mem_of_getElem? h)
theorem in1 {w : Cond} (i : Nat) (h : tables_1_1[i]? = some w) (g : goodWord w = true) : w ∈ Al := in_tab (tb1 i h) g
theorem tb2 {w : Cond} (i : Nat) (h : tables_1_2[i]? = some w) : w ∈ tables_1 := List.mem_append_right _ (List.mem_append_left _ (List.mem_of_getElem? h))
theorem in2 {w : Cond} (i : Nat) (h : tables_1_2[i]? = some w) (g : goodWord w = true) : w ∈ Al := in_tab (tb2 i h) g
theorem tb3 {w : Cond} (i : Nat) (h : tables_1_3[i]? = some w) : w ∈ tables_1 := List.mem_append_right _ (List.mem_append_right _ (List.mem_append_left _ (List.mem_of_getElem? h)))
theorem in3 {w : Cond} (i : Nat) (h : tables_1_3[i]? = some w) (g : goodWord w = true) : w ∈ Al := in_tab (tb3 i h) g
theorem tb4 {w : Cond} (i : Nat) (h : tables_1_4[i]? = some w) : w ∈ tables_1 := List.mem_append_right _ (List.mem_append_right _ (List.mem_append_right _ (List.mem_of_getElem? h)))
theorem in4 {w : Cond} (i : Nat) (h : tables_1_4[i]? = some w) (g : goodWord w = true) : w ∈ Al := in_tab (tb4 i h) g
theorem wd1_0 : (Jvm.Cond.initialized "ShaftPlayLaw") ∈ Al := in1 0 rfl rfl
theorem wd1_1 : (Jvm.Cond.initialized "ShaftPlay") ∈ Al := in1 1 rfl rfl
theorem wd1_2 : (Jvm.Cond.initialized "ShaftPlay$Play") ∈ Al := in1 2 rfl rfl
theorem wd1_3 : (Jvm.Cond.initialized "ShaftPlay$Figure") ∈ Al := in1 3 rfl rfl
theorem wd1_4 : (Jvm.Cond.initialized "java/util/Arrays") ∈ Al := in1 4 rfl rfl
theorem wd1_5 : (Jvm.Cond.initialized "ShaftPlay$Tape") ∈ Al := in1 5 rfl rfl
theorem wd1_6 : (Jvm.Cond.initialized "ShaftPlay$Sheet") ∈ Al := in1 6 rfl rfl
theorem wd1_7 : (Jvm.Cond.initialized "ShaftPlay$Sharing") ∈ Al := in1 7 rfl rfl
theorem wd1_8 : (Jvm.Cond.initialized "ShaftPlayModel") ∈ Al := in1 8 rfl rfl
theorem wd1_9 : (Jvm.Cond.initialized "java/lang/System") ∈ Al := in1 9 rfl rfl
theorem wd1_10 : (Jvm.Cond.initialized "java/lang/Integer") ∈ Al := in1 10 rfl rfl
theorem wd1_11 : (Jvm.Cond.initialized "java/lang/Math") ∈ Al := in1 11 rfl rfl
theorem wd1_12 : (Jvm.Cond.classLink "ShaftPlayLaw" (7 : Nat) "ShaftPlay") ∈ Al := in1 12 rfl rfl
theorem wd1_13 : (Jvm.Cond.instantiable "ShaftPlay" (7 : Nat)) ∈ Al := in1 13 rfl rfl
theorem wd1_14 : (Jvm.Cond.methodLink "ShaftPlayLaw" (9 : Nat) ({ cls := "ShaftPlay", name := "<init>", desc := "()V" } : Jvm.MethodName)) ∈ Al := in1 14 rfl rfl
theorem wd1_15 : (Jvm.Cond.instanceMethod ({ cls := "ShaftPlay", name := "<init>", desc := "()V" } : Jvm.MethodName)) ∈ Al := in1 15 rfl rfl
theorem wd1_16 : (Jvm.Cond.code ({ cls := "ShaftPlay", name := "<init>", desc := "()V" } : Jvm.MethodName) prog_1_method_1_code (2 : Nat) (Option.none : Option Jvm.ClassFile.FieldType)) ∈ Al := in1 16 rfl rfl
theorem wd1_17 : (Jvm.Cond.methodLink "ShaftPlay" (1 : Nat) ({ cls := "java/lang/Object", name := "<init>", desc := "()V" } : Jvm.MethodName)) ∈ Al := in1 17 rfl rfl
theorem wd1_18 : (Jvm.Cond.instanceMethod ({ cls := "java/lang/Object", name := "<init>", desc := "()V" } : Jvm.MethodName)) ∈ Al := in1 18 rfl rfl
theorem wd1_19 : (Jvm.Cond.code ({ cls := "java/lang/Object", name := "<init>", desc := "()V" } : Jvm.MethodName) object_method_1_code (1 : Nat) (Option.none : Option Jvm.ClassFile.FieldType)) ∈ Al := in1 19 rfl rfl
theorem wd1_20 : (Jvm.Cond.classLink "ShaftPlay" (7 : Nat) "ShaftPlay$Play") ∈ Al := in1 20 rfl rfl
theorem wd1_21 : (Jvm.Cond.instantiable "ShaftPlay$Play" (10 : Nat)) ∈ Al := in1 21 rfl rfl
theorem wd1_22 : (Jvm.Cond.methodLink "ShaftPlay" (9 : Nat) ({ cls := "ShaftPlay$Play", name := "<init>", desc := "()V" } : Jvm.MethodName)) ∈ Al := in1 22 rfl rfl
theorem wd1_23 : (Jvm.Cond.instanceMethod ({ cls := "ShaftPlay$Play", name := "<init>", desc := "()V" } : Jvm.MethodName)) ∈ Al := in1 23 rfl rfl
theorem wd1_24 : (Jvm.Cond.code ({ cls := "ShaftPlay$Play", name := "<init>", desc := "()V" } : Jvm.MethodName) prog_3_method_1_code (2 : Nat) (Option.none : Option Jvm.ClassFile.FieldType)) ∈ Al := in1 24 rfl rfl
theorem wd1_25 : (Jvm.Cond.methodLink "ShaftPlay$Play" (3 : Nat) ({ cls := "java/lang/Object", name := "<init>", desc := "()V" } : Jvm.MethodName)) ∈ Al := in1 25 rfl rfl
theorem wd1_26 : (Jvm.Cond.classLink "ShaftPlay$Play" (9 : Nat) "[[I") ∈ Al := in1 26 rfl rfl
theorem wd1_27 : (Jvm.Cond.arrayOver (Jvm.ClassFile.FieldType.array Jvm.ClassFile.FieldType.int)) ∈ lw_tbl := List.mem_append_right _ (tb1 27 rfl)
theorem wd1_28 : (Jvm.Cond.classLink "ShaftPlay$Play" (16 : Nat) "ShaftPlay$Figure") ∈ Al := in1 28 rfl rfl
theorem wd1_29 : (Jvm.Cond.arrayOver (Jvm.ClassFile.FieldType.object "ShaftPlay$Figure")) ∈ lw_tbl := List.mem_append_right _ (tb1 29 rfl)
theorem wd1_30 : (Jvm.Cond.instantiable "ShaftPlay$Figure" (6 : Nat)) ∈ Al := in1 30 rfl rfl
theorem wd1_31 : (Jvm.Cond.methodLinkNest "ShaftPlay$Play" (22 : Nat) ({ cls := "ShaftPlay$Figure", name := "<init>", desc := "()V" } : Jvm.MethodName) "ShaftPlay") ∈ lw_tbl := List.mem_append_right _ (tb1 31 rfl)
theorem wd1_32 : (Jvm.Cond.instanceMethod ({ cls := "ShaftPlay$Figure", name := "<init>", desc := "()V" } : Jvm.MethodName)) ∈ Al := in1 32 rfl rfl
theorem wd1_33 : (Jvm.Cond.code ({ cls := "ShaftPlay$Figure", name := "<init>", desc := "()V" } : Jvm.MethodName) prog_2_method_1_code (1 : Nat) (Option.none : Option Jvm.ClassFile.FieldType)) ∈ Al := in1 33 rfl rfl
theorem wd1_34 : (Jvm.Cond.methodLink "ShaftPlay$Figure" (3 : Nat) ({ cls := "java/lang/Object", name := "<init>", desc := "()V" } : Jvm.MethodName)) ∈ Al := in1 34 rfl rfl
theorem wd1_35 : (Jvm.Cond.fieldLink "ShaftPlay$Figure" (9 : Nat) "ShaftPlay$Figure" "kind" "I") ∈ Al := in1 35 rfl rfl
theorem wd1_36 : (Jvm.Cond.fieldLink "ShaftPlay$Play" (65 : Nat) "ShaftPlay$Figure" "kind" "I") ∈ Al := in1 36 rfl rfl
theorem wd1_37 : (Jvm.Cond.fieldLink "ShaftPlay$Figure" (15 : Nat) "ShaftPlay$Figure" "cam" "I") ∈ Al := in1 37 rfl rfl
theorem wd1_38 : (Jvm.Cond.fieldLink "ShaftPlay$Play" (68 : Nat) "ShaftPlay$Figure" "cam" "I") ∈ Al := in1 38 rfl rfl
theorem wd1_39 : (Jvm.Cond.fieldLink "ShaftPlay" (136 : Nat) "ShaftPlay$Figure" "cam" "I") ∈ Al := in1 39 rfl rfl
theorem wd1_40 : (Jvm.Cond.fieldLink "ShaftPlay$Figure" (18 : Nat) "ShaftPlay$Figure" "lag" "I") ∈ Al := in1 40 rfl rfl
theorem wd1_41 : (Jvm.Cond.fieldLink "ShaftPlay$Play" (71 : Nat) "ShaftPlay$Figure" "lag" "I") ∈ Al := in1 41 rfl rfl
theorem wd1_42 : (Jvm.Cond.fieldLink "ShaftPlay$Play" (74 : Nat) "ShaftPlay$Figure" "place" "I") ∈ Al := in1 42 rfl rfl
theorem wd1_43 : (Jvm.Cond.fieldLink "ShaftPlay$Figure" (21 : Nat) "ShaftPlay$Figure" "place" "I") ∈ Al := in1 43 rfl rfl
theorem wd1_44 : (Jvm.Cond.fieldLink "ShaftPlay$Sharing" (27 : Nat) "ShaftPlay$Figure" "wishedUp" "I") ∈ Al := in1 44 rfl rfl
theorem wd1_45 : (Jvm.Cond.fieldLink "ShaftPlay$Play" (77 : Nat) "ShaftPlay$Figure" "wishedUp" "I") ∈ Al := in1 45 rfl rfl
theorem wd1_46 : (Jvm.Cond.fieldLink "ShaftPlay$Figure" (24 : Nat) "ShaftPlay$Figure" "wishedUp" "I") ∈ Al := in1 46 rfl rfl
theorem wd1_47 : (Jvm.Cond.fieldLink "ShaftPlay$Sharing" (37 : Nat) "ShaftPlay$Figure" "wishedDown" "I") ∈ Al := in1 47 rfl rfl
theorem wd1_48 : (Jvm.Cond.fieldLink "ShaftPlay$Play" (80 : Nat) "ShaftPlay$Figure" "wishedDown" "I") ∈ Al := in1 48 rfl rfl
theorem wd1_49 : (Jvm.Cond.fieldLink "ShaftPlay$Figure" (27 : Nat) "ShaftPlay$Figure" "wishedDown" "I") ∈ Al := in1 49 rfl rfl
theorem wd1_50 : (Jvm.Cond.lays "ShaftPlay$Figure" "ShaftPlay$Figure" "kind" "I") ∈ Al := in1 50 rfl rfl
theorem wd1_52 : (Jvm.Cond.lays "ShaftPlay$Figure" "ShaftPlay$Figure" "cam" "I") ∈ Al := in1 52 rfl rfl
theorem wd1_54 : (Jvm.Cond.lays "ShaftPlay$Figure" "ShaftPlay$Figure" "lag" "I") ∈ Al := in1 54 rfl rfl
theorem wd1_56 : (Jvm.Cond.lays "ShaftPlay$Figure" "ShaftPlay$Figure" "place" "I") ∈ Al := in1 56 rfl rfl
theorem wd1_58 : (Jvm.Cond.lays "ShaftPlay$Figure" "ShaftPlay$Figure" "wishedUp" "I") ∈ Al := in1 58 rfl rfl
theorem wd1_60 : (Jvm.Cond.lays "ShaftPlay$Figure" "ShaftPlay$Figure" "wishedDown" "I") ∈ Al := in1 60 rfl rfl
theorem wd1_63 : (Jvm.Cond.arrayClass Jvm.ClassFile.FieldType.int) ∈ Al := in1 63 rfl rfl
theorem wd1_64 : (Jvm.Cond.methodLink "ShaftPlay$Play" (31 : Nat) ({ cls := "java/util/Arrays", name := "fill", desc := "([II)V" } : Jvm.MethodName)) ∈ Al := in1 64 rfl rfl
theorem wd1_65 : (Jvm.Cond.static ({ cls := "java/util/Arrays", name := "fill", desc := "([II)V" } : Jvm.MethodName)) ∈ Al := in1 65 rfl rfl
theorem wd1_66 : (Jvm.Cond.code ({ cls := "java/util/Arrays", name := "fill", desc := "([II)V" } : Jvm.MethodName) prog_12_method_103_code (4 : Nat) (Option.none : Option Jvm.ClassFile.FieldType)) ∈ Al := in1 66 rfl rfl
theorem wd1_67 : (Jvm.Cond.fieldLink "ShaftPlay$Play" (11 : Nat) "ShaftPlay$Play" "hairs" "[[I") ∈ Al := in1 67 rfl rfl
theorem wd1_68 : (Jvm.Cond.fieldLink "ShaftPlay" (74 : Nat) "ShaftPlay$Play" "hairs" "[[I") ∈ Al := in1 68 rfl rfl
theorem wd1_69 : (Jvm.Cond.fieldLink "ShaftPlay$Play" (46 : Nat) "ShaftPlay$Play" "camCount" "I") ∈ Al := in1 69 rfl rfl
theorem wd1_70 : (Jvm.Cond.fieldLink "ShaftPlay" (120 : Nat) "ShaftPlay$Play" "camCount" "I") ∈ Al := in1 70 rfl rfl
theorem wd1_71 : (Jvm.Cond.fieldLink "ShaftPlay$Play" (18 : Nat) "ShaftPlay$Play" "figures" "[LShaftPlay$Figure;") ∈ Al := in1 71 rfl rfl
theorem wd1_72 : (Jvm.Cond.fieldLink "ShaftPlay" (91 : Nat) "ShaftPlay$Play" "figures" "[LShaftPlay$Figure;") ∈ Al := in1 72 rfl rfl
theorem wd1_73 : (Jvm.Cond.fieldLink "ShaftPlay$Play" (53 : Nat) "ShaftPlay$Play" "figureCount" "I") ∈ Al := in1 73 rfl rfl
theorem wd1_74 : (Jvm.Cond.fieldLink "ShaftPlay" (123 : Nat) "ShaftPlay$Play" "figureCount" "I") ∈ Al := in1 74 rfl rfl
theorem wd1_75 : (Jvm.Cond.fieldLink "ShaftPlay$Play" (23 : Nat) "ShaftPlay$Play" "upFrom" "I") ∈ Al := in1 75 rfl rfl
theorem wd1_76 : (Jvm.Cond.fieldLink "ShaftPlay" (113 : Nat) "ShaftPlay$Play" "upFrom" "I") ∈ Al := in1 76 rfl rfl
theorem wd1_77 : (Jvm.Cond.fieldLink "ShaftPlay$Play" (56 : Nat) "ShaftPlay$Play" "backwards" "I") ∈ Al := in1 77 rfl rfl
theorem wd1_78 : (Jvm.Cond.fieldLink "ShaftPlay" (117 : Nat) "ShaftPlay$Play" "backwards" "I") ∈ Al := in1 78 rfl rfl
theorem wd1_79 : (Jvm.Cond.fieldLink "ShaftPlay$Play" (59 : Nat) "ShaftPlay$Play" "angle" "I") ∈ Al := in1 79 rfl rfl
theorem wd1_80 : (Jvm.Cond.fieldLink "ShaftPlay" (126 : Nat) "ShaftPlay$Play" "angle" "I") ∈ Al := in1 80 rfl rfl
theorem wd1_81 : (Jvm.Cond.fieldLink "ShaftPlay$Play" (62 : Nat) "ShaftPlay$Play" "passed" "I") ∈ Al := in1 81 rfl rfl
theorem wd1_82 : (Jvm.Cond.fieldLink "ShaftPlay" (129 : Nat) "ShaftPlay$Play" "passed" "I") ∈ Al := in1 82 rfl rfl
theorem wd1_83 : (Jvm.Cond.fieldLink "ShaftPlay$Play" (27 : Nat) "ShaftPlay$Play" "beatsAt" "[I") ∈ Al := in1 83 rfl rfl
theorem wd1_84 : (Jvm.Cond.fieldLink "ShaftPlay" (177 : Nat) "ShaftPlay$Play" "beatsAt" "[I") ∈ Al := in1 84 rfl rfl
theorem wd1_85 : (Jvm.Cond.fieldLink "ShaftPlay$Play" (37 : Nat) "ShaftPlay$Play" "stepsOf" "[I") ∈ Al := in1 85 rfl rfl
theorem wd1_86 : (Jvm.Cond.fieldLink "ShaftPlay" (187 : Nat) "ShaftPlay$Play" "stepsOf" "[I") ∈ Al := in1 86 rfl rfl
theorem wd1_87 : (Jvm.Cond.laysFinal "ShaftPlay$Play" "ShaftPlay$Play" "hairs" "[[I") ∈ Al := in1 87 rfl rfl
theorem wd1_89 : (Jvm.Cond.lays "ShaftPlay$Play" "ShaftPlay$Play" "camCount" "I") ∈ Al := in1 89 rfl rfl
theorem wd1_91 : (Jvm.Cond.laysFinal "ShaftPlay$Play" "ShaftPlay$Play" "figures" "[LShaftPlay$Figure;") ∈ Al := in1 91 rfl rfl
theorem wd1_93 : (Jvm.Cond.lays "ShaftPlay$Play" "ShaftPlay$Play" "figureCount" "I") ∈ Al := in1 93 rfl rfl
theorem wd1_95 : (Jvm.Cond.lays "ShaftPlay$Play" "ShaftPlay$Play" "upFrom" "I") ∈ Al := in1 95 rfl rfl
theorem wd1_97 : (Jvm.Cond.lays "ShaftPlay$Play" "ShaftPlay$Play" "backwards" "I") ∈ Al := in1 97 rfl rfl
theorem wd1_99 : (Jvm.Cond.lays "ShaftPlay$Play" "ShaftPlay$Play" "angle" "I") ∈ Al := in1 99 rfl rfl
theorem wd1_101 : (Jvm.Cond.lays "ShaftPlay$Play" "ShaftPlay$Play" "passed" "I") ∈ Al := in1 101 rfl rfl
theorem wd1_103 : (Jvm.Cond.laysFinal "ShaftPlay$Play" "ShaftPlay$Play" "beatsAt" "[I") ∈ Al := in1 103 rfl rfl
theorem wd1_105 : (Jvm.Cond.laysFinal "ShaftPlay$Play" "ShaftPlay$Play" "stepsOf" "[I") ∈ Al := in1 105 rfl rfl
theorem wd1_108 : (Jvm.Cond.classLink "ShaftPlay" (19 : Nat) "ShaftPlay$Tape") ∈ Al := in1 108 rfl rfl
theorem wd1_109 : (Jvm.Cond.instantiable "ShaftPlay$Tape" (3 : Nat)) ∈ Al := in1 109 rfl rfl
theorem wd1_110 : (Jvm.Cond.methodLink "ShaftPlay" (21 : Nat) ({ cls := "ShaftPlay$Tape", name := "<init>", desc := "()V" } : Jvm.MethodName)) ∈ Al := in1 110 rfl rfl
theorem wd1_111 : (Jvm.Cond.instanceMethod ({ cls := "ShaftPlay$Tape", name := "<init>", desc := "()V" } : Jvm.MethodName)) ∈ Al := in1 111 rfl rfl
theorem wd1_112 : (Jvm.Cond.code ({ cls := "ShaftPlay$Tape", name := "<init>", desc := "()V" } : Jvm.MethodName) prog_6_method_1_code (1 : Nat) (Option.none : Option Jvm.ClassFile.FieldType)) ∈ Al := in1 112 rfl rfl
theorem wd1_113 : (Jvm.Cond.methodLink "ShaftPlay$Tape" (3 : Nat) ({ cls := "java/lang/Object", name := "<init>", desc := "()V" } : Jvm.MethodName)) ∈ Al := in1 113 rfl rfl
theorem wd1_114 : (Jvm.Cond.fieldLink "ShaftPlay$Tape" (9 : Nat) "ShaftPlay$Tape" "bytes" "[I") ∈ Al := in1 114 rfl rfl
theorem wd1_115 : (Jvm.Cond.fieldLink "ShaftPlay$Tape" (15 : Nat) "ShaftPlay$Tape" "signs" "[I") ∈ Al := in1 115 rfl rfl
theorem wd1_116 : (Jvm.Cond.fieldLink "ShaftPlay" (60 : Nat) "ShaftPlay$Tape" "signs" "[I") ∈ Al := in1 116 rfl rfl
theorem wd1_117 : (Jvm.Cond.fieldLink "ShaftPlay$Tape" (18 : Nat) "ShaftPlay$Tape" "length" "I") ∈ Al := in1 117 rfl rfl
theorem wd1_118 : (Jvm.Cond.laysFinal "ShaftPlay$Tape" "ShaftPlay$Tape" "bytes" "[I") ∈ Al := in1 118 rfl rfl
theorem wd1_120 : (Jvm.Cond.laysFinal "ShaftPlay$Tape" "ShaftPlay$Tape" "signs" "[I") ∈ Al := in1 120 rfl rfl
theorem wd1_122 : (Jvm.Cond.lays "ShaftPlay$Tape" "ShaftPlay$Tape" "length" "I") ∈ Al := in1 122 rfl rfl
theorem wd1_125 : (Jvm.Cond.classLink "ShaftPlay" (26 : Nat) "ShaftPlay$Sheet") ∈ Al := in1 125 rfl rfl
theorem wd1_126 : (Jvm.Cond.arrayOver (Jvm.ClassFile.FieldType.object "ShaftPlay$Sheet")) ∈ lw_tbl := List.mem_append_right _ (tb1 126 rfl)
theorem wd1_127 : (Jvm.Cond.instantiable "ShaftPlay$Sheet" (3 : Nat)) ∈ Al := in1 127 rfl rfl
theorem wd1_128 : (Jvm.Cond.methodLink "ShaftPlay" (32 : Nat) ({ cls := "ShaftPlay$Sheet", name := "<init>", desc := "()V" } : Jvm.MethodName)) ∈ Al := in1 128 rfl rfl
theorem wd1_129 : (Jvm.Cond.instanceMethod ({ cls := "ShaftPlay$Sheet", name := "<init>", desc := "()V" } : Jvm.MethodName)) ∈ Al := in1 129 rfl rfl
theorem wd1_130 : (Jvm.Cond.code ({ cls := "ShaftPlay$Sheet", name := "<init>", desc := "()V" } : Jvm.MethodName) prog_5_method_1_code (1 : Nat) (Option.none : Option Jvm.ClassFile.FieldType)) ∈ Al := in1 130 rfl rfl
theorem wd1_131 : (Jvm.Cond.methodLink "ShaftPlay$Sheet" (3 : Nat) ({ cls := "java/lang/Object", name := "<init>", desc := "()V" } : Jvm.MethodName)) ∈ Al := in1 131 rfl rfl
theorem wd1_132 : (Jvm.Cond.fieldLink "ShaftPlay$Sheet" (9 : Nat) "ShaftPlay$Sheet" "items" "[J") ∈ Al := in1 132 rfl rfl
theorem wd1_133 : (Jvm.Cond.fieldLink "ShaftPlay" (240 : Nat) "ShaftPlay$Sheet" "items" "[J") ∈ Al := in1 133 rfl rfl
theorem wd1_134 : (Jvm.Cond.fieldLink "ShaftPlay$Sheet" (15 : Nat) "ShaftPlay$Sheet" "lane" "I") ∈ Al := in1 134 rfl rfl
theorem wd1_135 : (Jvm.Cond.fieldLink "ShaftPlay" (233 : Nat) "ShaftPlay$Sheet" "lane" "I") ∈ Al := in1 135 rfl rfl
theorem wd1_136 : (Jvm.Cond.fieldLink "ShaftPlay$Sheet" (19 : Nat) "ShaftPlay$Sheet" "size" "I") ∈ Al := in1 136 rfl rfl
theorem wd1_137 : (Jvm.Cond.laysFinal "ShaftPlay$Sheet" "ShaftPlay$Sheet" "items" "[J") ∈ Al := in1 137 rfl rfl
theorem wd1_139 : (Jvm.Cond.lays "ShaftPlay$Sheet" "ShaftPlay$Sheet" "lane" "I") ∈ Al := in1 139 rfl rfl
theorem wd1_141 : (Jvm.Cond.lays "ShaftPlay$Sheet" "ShaftPlay$Sheet" "size" "I") ∈ Al := in1 141 rfl rfl
theorem wd1_144 : (Jvm.Cond.arrayClass Jvm.ClassFile.FieldType.long) ∈ Al := in1 144 rfl rfl
theorem wd1_145 : (Jvm.Cond.classLink "ShaftPlay" (33 : Nat) "ShaftPlay$Sharing") ∈ Al := in1 145 rfl rfl
theorem wd1_146 : (Jvm.Cond.instantiable "ShaftPlay$Sharing" (3 : Nat)) ∈ Al := in1 146 rfl rfl
theorem wd1_147 : (Jvm.Cond.methodLink "ShaftPlay" (35 : Nat) ({ cls := "ShaftPlay$Sharing", name := "<init>", desc := "()V" } : Jvm.MethodName)) ∈ Al := in1 147 rfl rfl
theorem wd1_148 : (Jvm.Cond.instanceMethod ({ cls := "ShaftPlay$Sharing", name := "<init>", desc := "()V" } : Jvm.MethodName)) ∈ Al := in1 148 rfl rfl
theorem wd1_149 : (Jvm.Cond.code ({ cls := "ShaftPlay$Sharing", name := "<init>", desc := "()V" } : Jvm.MethodName) prog_4_method_1_code (1 : Nat) (Option.none : Option Jvm.ClassFile.FieldType)) ∈ Al := in1 149 rfl rfl
theorem wd1_150 : (Jvm.Cond.methodLink "ShaftPlay$Sharing" (3 : Nat) ({ cls := "java/lang/Object", name := "<init>", desc := "()V" } : Jvm.MethodName)) ∈ Al := in1 150 rfl rfl
theorem wd1_151 : (Jvm.Cond.classLink "ShaftPlay$Sharing" (18 : Nat) "[[I") ∈ Al := in1 151 rfl rfl
theorem wd1_152 : (Jvm.Cond.fieldLink "ShaftPlay$Sharing" (9 : Nat) "ShaftPlay$Sharing" "cam" "[I") ∈ Al := in1 152 rfl rfl
theorem wd1_153 : (Jvm.Cond.fieldLink "ShaftPlay" (168 : Nat) "ShaftPlay$Sharing" "cam" "[I") ∈ Al := in1 153 rfl rfl
theorem wd1_154 : (Jvm.Cond.fieldLink "ShaftPlay$Sharing" (15 : Nat) "ShaftPlay$Sharing" "lag" "[I") ∈ Al := in1 154 rfl rfl
theorem wd1_155 : (Jvm.Cond.fieldLink "ShaftPlay" (170 : Nat) "ShaftPlay$Sharing" "lag" "[I") ∈ Al := in1 155 rfl rfl
theorem wd1_156 : (Jvm.Cond.fieldLink "ShaftPlay$Sharing" (20 : Nat) "ShaftPlay$Sharing" "lagsTogether" "[[I") ∈ Al := in1 156 rfl rfl
theorem wd1_157 : (Jvm.Cond.laysFinal "ShaftPlay$Sharing" "ShaftPlay$Sharing" "cam" "[I") ∈ Al := in1 157 rfl rfl
theorem wd1_159 : (Jvm.Cond.laysFinal "ShaftPlay$Sharing" "ShaftPlay$Sharing" "lag" "[I") ∈ Al := in1 159 rfl rfl
theorem wd1_161 : (Jvm.Cond.laysFinal "ShaftPlay$Sharing" "ShaftPlay$Sharing" "lagsTogether" "[[I") ∈ Al := in1 161 rfl rfl
theorem wd1_164 : (Jvm.Cond.fieldLink "ShaftPlay" (10 : Nat) "ShaftPlay" "now" "LShaftPlay$Play;") ∈ Al := in1 164 rfl rfl
theorem wd1_165 : (Jvm.Cond.fieldLink "ShaftPlay" (16 : Nat) "ShaftPlay" "imaged" "LShaftPlay$Play;") ∈ Al := in1 165 rfl rfl
theorem wd1_166 : (Jvm.Cond.fieldLink "ShaftPlay" (197 : Nat) "ShaftPlay" "hasImage" "Z") ∈ Al := in1 166 rfl rfl
theorem wd1_167 : (Jvm.Cond.fieldLink "ShaftPlay" (22 : Nat) "ShaftPlay" "tape" "LShaftPlay$Tape;") ∈ Al := in1 167 rfl rfl
theorem wd1_168 : (Jvm.Cond.fieldLink "ShaftPlay" (28 : Nat) "ShaftPlay" "sheets" "[LShaftPlay$Sheet;") ∈ Al := in1 168 rfl rfl
theorem wd1_169 : (Jvm.Cond.fieldLink "ShaftPlay" (36 : Nat) "ShaftPlay" "sharing" "LShaftPlay$Sharing;") ∈ Al := in1 169 rfl rfl
theorem wd1_170 : (Jvm.Cond.fieldLink "ShaftPlay" (40 : Nat) "ShaftPlay" "wornHairs" "[I") ∈ Al := in1 170 rfl rfl
theorem wd1_171 : (Jvm.Cond.laysFinal "ShaftPlay" "ShaftPlay" "now" "LShaftPlay$Play;") ∈ Al := in1 171 rfl rfl
theorem wd1_173 : (Jvm.Cond.laysFinal "ShaftPlay" "ShaftPlay" "imaged" "LShaftPlay$Play;") ∈ Al := in1 173 rfl rfl
theorem wd1_175 : (Jvm.Cond.lays "ShaftPlay" "ShaftPlay" "hasImage" "Z") ∈ Al := in1 175 rfl rfl
theorem wd1_177 : (Jvm.Cond.laysFinal "ShaftPlay" "ShaftPlay" "tape" "LShaftPlay$Tape;") ∈ Al := in1 177 rfl rfl
theorem wd1_179 : (Jvm.Cond.laysFinal "ShaftPlay" "ShaftPlay" "sheets" "[LShaftPlay$Sheet;") ∈ Al := in1 179 rfl rfl
theorem wd1_181 : (Jvm.Cond.laysFinal "ShaftPlay" "ShaftPlay" "sharing" "LShaftPlay$Sharing;") ∈ Al := in1 181 rfl rfl
theorem wd1_183 : (Jvm.Cond.laysFinal "ShaftPlay" "ShaftPlay" "wornHairs" "[I") ∈ Al := in1 183 rfl rfl
theorem wd1_186 : (Jvm.Cond.methodLink "ShaftPlayLaw" (15 : Nat) ({ cls := "ShaftPlay", name := "type", desc := "(JI)I" } : Jvm.MethodName)) ∈ Al := in1 186 rfl rfl
theorem wd1_187 : (Jvm.Cond.instanceMethod ({ cls := "ShaftPlay", name := "type", desc := "(JI)I" } : Jvm.MethodName)) ∈ Al := in1 187 rfl rfl
theorem wd1_188 : (Jvm.Cond.selects "ShaftPlay" ({ cls := "ShaftPlay", name := "type", desc := "(JI)I" } : Jvm.MethodName) ({ cls := "ShaftPlay", name := "type", desc := "(JI)I" } : Jvm.MethodName)) ∈ Al := in1 188 rfl rfl
theorem wd1_189 : (Jvm.Cond.code ({ cls := "ShaftPlay", name := "type", desc := "(JI)I" } : Jvm.MethodName) prog_1_method_2_code (4 : Nat) (Option.some Jvm.ClassFile.FieldType.int)) ∈ Al := in1 189 rfl rfl
theorem wd1_190 : (Jvm.Cond.methodLink "ShaftPlay" (44 : Nat) ({ cls := "ShaftPlay", name := "isWithin", desc := "(III)Z" } : Jvm.MethodName)) ∈ Al := in1 190 rfl rfl
theorem wd1_191 : (Jvm.Cond.static ({ cls := "ShaftPlay", name := "isWithin", desc := "(III)Z" } : Jvm.MethodName)) ∈ Al := in1 191 rfl rfl
theorem wd1_192 : (Jvm.Cond.code ({ cls := "ShaftPlay", name := "isWithin", desc := "(III)Z" } : Jvm.MethodName) prog_1_method_34_code (3 : Nat) (Option.some Jvm.ClassFile.FieldType.boolean)) ∈ Al := in1 192 rfl rfl
theorem wd1_193 : (Jvm.Cond.methodLink "ShaftPlay" (48 : Nat) ({ cls := "ShaftPlay", name := "areBytesOfTape", desc := "(JI)Z" } : Jvm.MethodName)) ∈ Al := in1 193 rfl rfl
theorem wd1_194 : (Jvm.Cond.static ({ cls := "ShaftPlay", name := "areBytesOfTape", desc := "(JI)Z" } : Jvm.MethodName)) ∈ Al := in1 194 rfl rfl
theorem wd1_195 : (Jvm.Cond.code ({ cls := "ShaftPlay", name := "areBytesOfTape", desc := "(JI)Z" } : Jvm.MethodName) prog_1_method_42_code (4 : Nat) (Option.some Jvm.ClassFile.FieldType.boolean)) ∈ Al := in1 195 rfl rfl
theorem wd1_196 : (Jvm.Cond.methodLink "ShaftPlay" (250 : Nat) ({ cls := "ShaftPlay", name := "byteOf", desc := "(JI)I" } : Jvm.MethodName)) ∈ Al := in1 196 rfl rfl
theorem wd1_197 : (Jvm.Cond.static ({ cls := "ShaftPlay", name := "byteOf", desc := "(JI)I" } : Jvm.MethodName)) ∈ Al := in1 197 rfl rfl
theorem wd1_198 : (Jvm.Cond.code ({ cls := "ShaftPlay", name := "byteOf", desc := "(JI)I" } : Jvm.MethodName) prog_1_method_44_code (3 : Nat) (Option.some Jvm.ClassFile.FieldType.int)) ∈ Al := in1 198 rfl rfl
theorem wd1_199 : (Jvm.Cond.methodLink "ShaftPlay" (52 : Nat) ({ cls := "ShaftPlay$Tape", name := "append", desc := "(JI)I" } : Jvm.MethodName)) ∈ Al := in1 199 rfl rfl
theorem wd1_200 : (Jvm.Cond.instanceMethod ({ cls := "ShaftPlay$Tape", name := "append", desc := "(JI)I" } : Jvm.MethodName)) ∈ Al := in1 200 rfl rfl
theorem wd1_201 : (Jvm.Cond.selects "ShaftPlay$Tape" ({ cls := "ShaftPlay$Tape", name := "append", desc := "(JI)I" } : Jvm.MethodName) ({ cls := "ShaftPlay$Tape", name := "append", desc := "(JI)I" } : Jvm.MethodName)) ∈ Al := in1 201 rfl rfl
theorem wd1_202 : (Jvm.Cond.code ({ cls := "ShaftPlay$Tape", name := "append", desc := "(JI)I" } : Jvm.MethodName) prog_6_method_2_code (5 : Nat) (Option.some Jvm.ClassFile.FieldType.int)) ∈ Al := in1 202 rfl rfl
theorem wd1_203 : (Jvm.Cond.methodLinkNest "ShaftPlay$Tape" (22 : Nat) ({ cls := "ShaftPlay", name := "byteOf", desc := "(JI)I" } : Jvm.MethodName) "ShaftPlay") ∈ lw_tbl := List.mem_append_right _ (tb1 203 rfl)
theorem wd1_204 : (Jvm.Cond.methodLink "ShaftPlayLaw" (20 : Nat) ({ cls := "ShaftPlay", name := "cam", desc := "()I" } : Jvm.MethodName)) ∈ Al := in1 204 rfl rfl
theorem wd1_205 : (Jvm.Cond.instanceMethod ({ cls := "ShaftPlay", name := "cam", desc := "()I" } : Jvm.MethodName)) ∈ Al := in1 205 rfl rfl
theorem wd1_206 : (Jvm.Cond.selects "ShaftPlay" ({ cls := "ShaftPlay", name := "cam", desc := "()I" } : Jvm.MethodName) ({ cls := "ShaftPlay", name := "cam", desc := "()I" } : Jvm.MethodName)) ∈ Al := in1 206 rfl rfl
theorem wd1_207 : (Jvm.Cond.code ({ cls := "ShaftPlay", name := "cam", desc := "()I" } : Jvm.MethodName) prog_1_method_3_code (2 : Nat) (Option.some Jvm.ClassFile.FieldType.int)) ∈ Al := in1 207 rfl rfl
theorem wd1_208 : (Jvm.Cond.methodLink "ShaftPlay" (56 : Nat) ({ cls := "ShaftPlay", name := "takeTape", desc := "(Z)I" } : Jvm.MethodName)) ∈ Al := in1 208 rfl rfl
theorem wd1_210 : (Jvm.Cond.instanceMethod ({ cls := "ShaftPlay", name := "takeTape", desc := "(Z)I" } : Jvm.MethodName)) ∈ Al := in1 210 rfl rfl
theorem wd1_211 : (Jvm.Cond.code ({ cls := "ShaftPlay", name := "takeTape", desc := "(Z)I" } : Jvm.MethodName) prog_1_method_47_code (3 : Nat) (Option.some Jvm.ClassFile.FieldType.int)) ∈ Al := in1 211 rfl rfl
theorem wd1_212 : (Jvm.Cond.methodLink "ShaftPlay" (262 : Nat) ({ cls := "ShaftPlay$Tape", name := "read", desc := "(Z)I" } : Jvm.MethodName)) ∈ Al := in1 212 rfl rfl
theorem wd1_213 : (Jvm.Cond.instanceMethod ({ cls := "ShaftPlay$Tape", name := "read", desc := "(Z)I" } : Jvm.MethodName)) ∈ Al := in1 213 rfl rfl
theorem wd1_214 : (Jvm.Cond.selects "ShaftPlay$Tape" ({ cls := "ShaftPlay$Tape", name := "read", desc := "(Z)I" } : Jvm.MethodName) ({ cls := "ShaftPlay$Tape", name := "read", desc := "(Z)I" } : Jvm.MethodName)) ∈ Al := in1 214 rfl rfl
theorem wd1_215 : (Jvm.Cond.code ({ cls := "ShaftPlay$Tape", name := "read", desc := "(Z)I" } : Jvm.MethodName) prog_6_method_4_code (5 : Nat) (Option.some Jvm.ClassFile.FieldType.int)) ∈ Al := in1 215 rfl rfl
theorem wd1_216 : (Jvm.Cond.methodLink "ShaftPlay$Tape" (26 : Nat) ({ cls := "ShaftPlay$Tape", name := "wishSignOf", desc := "(I)I" } : Jvm.MethodName)) ∈ Al := in1 216 rfl rfl
theorem wd1_217 : (Jvm.Cond.static ({ cls := "ShaftPlay$Tape", name := "wishSignOf", desc := "(I)I" } : Jvm.MethodName)) ∈ Al := in1 217 rfl rfl
theorem wd1_218 : (Jvm.Cond.code ({ cls := "ShaftPlay$Tape", name := "wishSignOf", desc := "(I)I" } : Jvm.MethodName) prog_6_method_6_code (1 : Nat) (Option.some Jvm.ClassFile.FieldType.int)) ∈ Al := in1 218 rfl rfl
theorem wd1_219 : (Jvm.Cond.methodLink "ShaftPlay$Tape" (30 : Nat) ({ cls := "ShaftPlay$Tape", name := "digitOf", desc := "(I)I" } : Jvm.MethodName)) ∈ Al := in1 219 rfl rfl
theorem wd1_220 : (Jvm.Cond.static ({ cls := "ShaftPlay$Tape", name := "digitOf", desc := "(I)I" } : Jvm.MethodName)) ∈ Al := in1 220 rfl rfl
theorem wd1_221 : (Jvm.Cond.code ({ cls := "ShaftPlay$Tape", name := "digitOf", desc := "(I)I" } : Jvm.MethodName) prog_6_method_5_code (1 : Nat) (Option.some Jvm.ClassFile.FieldType.int)) ∈ Al := in1 221 rfl rfl
theorem wd1_222 : (Jvm.Cond.methodLinkNest "ShaftPlay$Tape" (33 : Nat) ({ cls := "ShaftPlay", name := "isWithin", desc := "(III)Z" } : Jvm.MethodName) "ShaftPlay") ∈ lw_tbl := List.mem_append_right _ (tb1 222 rfl)
theorem wd1_223 : (Jvm.Cond.methodLink "ShaftPlay" (265 : Nat) ({ cls := "ShaftPlay$Tape", name := "clear", desc := "()V" } : Jvm.MethodName)) ∈ Al := in1 223 rfl rfl
theorem wd1_224 : (Jvm.Cond.instanceMethod ({ cls := "ShaftPlay$Tape", name := "clear", desc := "()V" } : Jvm.MethodName)) ∈ Al := in1 224 rfl rfl
theorem wd1_225 : (Jvm.Cond.selects "ShaftPlay$Tape" ({ cls := "ShaftPlay$Tape", name := "clear", desc := "()V" } : Jvm.MethodName) ({ cls := "ShaftPlay$Tape", name := "clear", desc := "()V" } : Jvm.MethodName)) ∈ Al := in1 225 rfl rfl
theorem wd1_226 : (Jvm.Cond.code ({ cls := "ShaftPlay$Tape", name := "clear", desc := "()V" } : Jvm.MethodName) prog_6_method_3_code (1 : Nat) (Option.none : Option Jvm.ClassFile.FieldType)) ∈ Al := in1 226 rfl rfl
theorem wd1_227 : (Jvm.Cond.methodLink "ShaftPlay" (63 : Nat) ({ cls := "ShaftPlay$Play", name := "addCam", desc := "([I)I" } : Jvm.MethodName)) ∈ Al := in1 227 rfl rfl
theorem wd1_228 : (Jvm.Cond.instanceMethod ({ cls := "ShaftPlay$Play", name := "addCam", desc := "([I)I" } : Jvm.MethodName)) ∈ Al := in1 228 rfl rfl
theorem wd1_229 : (Jvm.Cond.selects "ShaftPlay$Play" ({ cls := "ShaftPlay$Play", name := "addCam", desc := "([I)I" } : Jvm.MethodName) ({ cls := "ShaftPlay$Play", name := "addCam", desc := "([I)I" } : Jvm.MethodName)) ∈ Al := in1 229 rfl rfl
theorem wd1_230 : (Jvm.Cond.code ({ cls := "ShaftPlay$Play", name := "addCam", desc := "([I)I" } : Jvm.MethodName) prog_3_method_3_code (2 : Nat) (Option.some Jvm.ClassFile.FieldType.int)) ∈ Al := in1 230 rfl rfl
theorem wd1_231 : (Jvm.Cond.methodLink "ShaftPlay$Play" (40 : Nat) ({ cls := "java/lang/System", name := "arraycopy", desc := "(Ljava/lang/Object;ILjava/lang/Object;II)V" } : Jvm.MethodName)) ∈ Al := in1 231 rfl rfl
theorem wd1_232 : (Jvm.Cond.static ({ cls := "java/lang/System", name := "arraycopy", desc := "(Ljava/lang/Object;ILjava/lang/Object;II)V" } : Jvm.MethodName)) ∈ Al := in1 232 rfl rfl
theorem wd1_233 : (Jvm.Cond.native ({ cls := "java/lang/System", name := "arraycopy", desc := "(Ljava/lang/Object;ILjava/lang/Object;II)V" } : Jvm.MethodName)) ∈ Al := in1 233 rfl rfl
theorem wd1_234 : (Jvm.Cond.methodLink "ShaftPlayLaw" (25 : Nat) ({ cls := "ShaftPlay", name := "cut", desc := "(III)I" } : Jvm.MethodName)) ∈ Al := in1 234 rfl rfl
theorem wd1_235 : (Jvm.Cond.instanceMethod ({ cls := "ShaftPlay", name := "cut", desc := "(III)I" } : Jvm.MethodName)) ∈ Al := in1 235 rfl rfl
theorem wd1_236 : (Jvm.Cond.selects "ShaftPlay" ({ cls := "ShaftPlay", name := "cut", desc := "(III)I" } : Jvm.MethodName) ({ cls := "ShaftPlay", name := "cut", desc := "(III)I" } : Jvm.MethodName)) ∈ Al := in1 236 rfl rfl
theorem wd1_237 : (Jvm.Cond.code ({ cls := "ShaftPlay", name := "cut", desc := "(III)I" } : Jvm.MethodName) prog_1_method_4_code (5 : Nat) (Option.some Jvm.ClassFile.FieldType.int)) ∈ Al := in1 237 rfl rfl
theorem wd1_238 : (Jvm.Cond.methodLink "ShaftPlay" (67 : Nat) ({ cls := "ShaftPlay", name := "isCam", desc := "(I)Z" } : Jvm.MethodName)) ∈ Al := in1 238 rfl rfl
theorem wd2_0 : (Jvm.Cond.instanceMethod ({ cls := "ShaftPlay", name := "isCam", desc := "(I)Z" } : Jvm.MethodName)) ∈ Al := in2 0 rfl rfl
theorem wd2_1 : (Jvm.Cond.code ({ cls := "ShaftPlay", name := "isCam", desc := "(I)Z" } : Jvm.MethodName) prog_1_method_40_code (2 : Nat) (Option.some Jvm.ClassFile.FieldType.boolean)) ∈ Al := in2 1 rfl rfl
theorem wd2_2 : (Jvm.Cond.methodLink "ShaftPlay" (71 : Nat) ({ cls := "ShaftPlay", name := "isAngle", desc := "(I)Z" } : Jvm.MethodName)) ∈ Al := in2 2 rfl rfl
theorem wd2_3 : (Jvm.Cond.static ({ cls := "ShaftPlay", name := "isAngle", desc := "(I)Z" } : Jvm.MethodName)) ∈ Al := in2 3 rfl rfl
theorem wd2_4 : (Jvm.Cond.code ({ cls := "ShaftPlay", name := "isAngle", desc := "(I)Z" } : Jvm.MethodName) prog_1_method_35_code (1 : Nat) (Option.some Jvm.ClassFile.FieldType.boolean)) ∈ Al := in2 4 rfl rfl
theorem wd2_5 : (Jvm.Cond.methodLink "ShaftPlayLaw" (30 : Nat) ({ cls := "ShaftPlay", name := "told", desc := "(II)I" } : Jvm.MethodName)) ∈ Al := in2 5 rfl rfl
theorem wd2_6 : (Jvm.Cond.instanceMethod ({ cls := "ShaftPlay", name := "told", desc := "(II)I" } : Jvm.MethodName)) ∈ Al := in2 6 rfl rfl
theorem wd2_7 : (Jvm.Cond.selects "ShaftPlay" ({ cls := "ShaftPlay", name := "told", desc := "(II)I" } : Jvm.MethodName) ({ cls := "ShaftPlay", name := "told", desc := "(II)I" } : Jvm.MethodName)) ∈ Al := in2 7 rfl rfl
theorem wd2_8 : (Jvm.Cond.code ({ cls := "ShaftPlay", name := "told", desc := "(II)I" } : Jvm.MethodName) prog_1_method_5_code (3 : Nat) (Option.some Jvm.ClassFile.FieldType.int)) ∈ Al := in2 8 rfl rfl
theorem wd2_9 : (Jvm.Cond.methodLink "ShaftPlayLaw" (35 : Nat) ({ cls := "ShaftPlay", name := "figure", desc := "(IIII)I" } : Jvm.MethodName)) ∈ Al := in2 9 rfl rfl
theorem wd2_10 : (Jvm.Cond.instanceMethod ({ cls := "ShaftPlay", name := "figure", desc := "(IIII)I" } : Jvm.MethodName)) ∈ Al := in2 10 rfl rfl
theorem wd2_11 : (Jvm.Cond.selects "ShaftPlay" ({ cls := "ShaftPlay", name := "figure", desc := "(IIII)I" } : Jvm.MethodName) ({ cls := "ShaftPlay", name := "figure", desc := "(IIII)I" } : Jvm.MethodName)) ∈ Al := in2 11 rfl rfl
theorem wd2_12 : (Jvm.Cond.code ({ cls := "ShaftPlay", name := "figure", desc := "(IIII)I" } : Jvm.MethodName) prog_1_method_6_code (5 : Nat) (Option.some Jvm.ClassFile.FieldType.int)) ∈ Al := in2 12 rfl rfl
theorem wd2_13 : (Jvm.Cond.methodLink "ShaftPlay" (78 : Nat) ({ cls := "ShaftPlay", name := "isKind", desc := "(I)Z" } : Jvm.MethodName)) ∈ Al := in2 13 rfl rfl
theorem wd2_14 : (Jvm.Cond.static ({ cls := "ShaftPlay", name := "isKind", desc := "(I)Z" } : Jvm.MethodName)) ∈ Al := in2 14 rfl rfl
theorem wd2_15 : (Jvm.Cond.code ({ cls := "ShaftPlay", name := "isKind", desc := "(I)Z" } : Jvm.MethodName) prog_1_method_36_code (1 : Nat) (Option.some Jvm.ClassFile.FieldType.boolean)) ∈ Al := in2 15 rfl rfl
theorem wd2_16 : (Jvm.Cond.methodLink "ShaftPlay" (81 : Nat) ({ cls := "ShaftPlay", name := "isPlace", desc := "(I)Z" } : Jvm.MethodName)) ∈ Al := in2 16 rfl rfl
theorem wd2_17 : (Jvm.Cond.static ({ cls := "ShaftPlay", name := "isPlace", desc := "(I)Z" } : Jvm.MethodName)) ∈ Al := in2 17 rfl rfl
theorem wd2_18 : (Jvm.Cond.code ({ cls := "ShaftPlay", name := "isPlace", desc := "(I)Z" } : Jvm.MethodName) prog_1_method_37_code (1 : Nat) (Option.some Jvm.ClassFile.FieldType.boolean)) ∈ Al := in2 18 rfl rfl
theorem wd2_19 : (Jvm.Cond.methodLink "ShaftPlay" (84 : Nat) ({ cls := "ShaftPlay$Play", name := "addFigure", desc := "(IIII)I" } : Jvm.MethodName)) ∈ Al := in2 19 rfl rfl
theorem wd2_20 : (Jvm.Cond.instanceMethod ({ cls := "ShaftPlay$Play", name := "addFigure", desc := "(IIII)I" } : Jvm.MethodName)) ∈ Al := in2 20 rfl rfl
theorem wd2_21 : (Jvm.Cond.selects "ShaftPlay$Play" ({ cls := "ShaftPlay$Play", name := "addFigure", desc := "(IIII)I" } : Jvm.MethodName) ({ cls := "ShaftPlay$Play", name := "addFigure", desc := "(IIII)I" } : Jvm.MethodName)) ∈ Al := in2 21 rfl rfl
theorem wd2_22 : (Jvm.Cond.code ({ cls := "ShaftPlay$Play", name := "addFigure", desc := "(IIII)I" } : Jvm.MethodName) prog_3_method_4_code (6 : Nat) (Option.some Jvm.ClassFile.FieldType.int)) ∈ Al := in2 22 rfl rfl
theorem wd2_23 : (Jvm.Cond.methodLink "ShaftPlayLaw" (40 : Nat) ({ cls := "ShaftPlay", name := "set", desc := "(III)I" } : Jvm.MethodName)) ∈ Al := in2 23 rfl rfl
theorem wd2_24 : (Jvm.Cond.instanceMethod ({ cls := "ShaftPlay", name := "set", desc := "(III)I" } : Jvm.MethodName)) ∈ Al := in2 24 rfl rfl
theorem wd2_25 : (Jvm.Cond.selects "ShaftPlay" ({ cls := "ShaftPlay", name := "set", desc := "(III)I" } : Jvm.MethodName) ({ cls := "ShaftPlay", name := "set", desc := "(III)I" } : Jvm.MethodName)) ∈ Al := in2 25 rfl rfl
theorem wd2_26 : (Jvm.Cond.code ({ cls := "ShaftPlay", name := "set", desc := "(III)I" } : Jvm.MethodName) prog_1_method_7_code (4 : Nat) (Option.some Jvm.ClassFile.FieldType.int)) ∈ Al := in2 26 rfl rfl
theorem wd2_27 : (Jvm.Cond.methodLink "ShaftPlay" (88 : Nat) ({ cls := "ShaftPlay", name := "isFigure", desc := "(I)Z" } : Jvm.MethodName)) ∈ Al := in2 27 rfl rfl
theorem wd2_29 : (Jvm.Cond.instanceMethod ({ cls := "ShaftPlay", name := "isFigure", desc := "(I)Z" } : Jvm.MethodName)) ∈ Al := in2 29 rfl rfl
theorem wd2_30 : (Jvm.Cond.code ({ cls := "ShaftPlay", name := "isFigure", desc := "(I)Z" } : Jvm.MethodName) prog_1_method_41_code (2 : Nat) (Option.some Jvm.ClassFile.FieldType.boolean)) ∈ Al := in2 30 rfl rfl
theorem wd2_31 : (Jvm.Cond.methodLink "ShaftPlay" (95 : Nat) ({ cls := "ShaftPlay$Figure", name := "changeKind", desc := "(I)I" } : Jvm.MethodName)) ∈ Al := in2 31 rfl rfl
theorem wd2_32 : (Jvm.Cond.instanceMethod ({ cls := "ShaftPlay$Figure", name := "changeKind", desc := "(I)I" } : Jvm.MethodName)) ∈ Al := in2 32 rfl rfl
theorem wd2_33 : (Jvm.Cond.selects "ShaftPlay$Figure" ({ cls := "ShaftPlay$Figure", name := "changeKind", desc := "(I)I" } : Jvm.MethodName) ({ cls := "ShaftPlay$Figure", name := "changeKind", desc := "(I)I" } : Jvm.MethodName)) ∈ Al := in2 33 rfl rfl
theorem wd2_34 : (Jvm.Cond.code ({ cls := "ShaftPlay$Figure", name := "changeKind", desc := "(I)I" } : Jvm.MethodName) prog_2_method_2_code (3 : Nat) (Option.some Jvm.ClassFile.FieldType.int)) ∈ Al := in2 34 rfl rfl
theorem wd2_35 : (Jvm.Cond.methodLink "ShaftPlay" (101 : Nat) ({ cls := "ShaftPlay$Figure", name := "changeCam", desc := "(I)I" } : Jvm.MethodName)) ∈ Al := in2 35 rfl rfl
theorem wd2_36 : (Jvm.Cond.instanceMethod ({ cls := "ShaftPlay$Figure", name := "changeCam", desc := "(I)I" } : Jvm.MethodName)) ∈ Al := in2 36 rfl rfl
theorem wd2_37 : (Jvm.Cond.selects "ShaftPlay$Figure" ({ cls := "ShaftPlay$Figure", name := "changeCam", desc := "(I)I" } : Jvm.MethodName) ({ cls := "ShaftPlay$Figure", name := "changeCam", desc := "(I)I" } : Jvm.MethodName)) ∈ Al := in2 37 rfl rfl
theorem wd2_38 : (Jvm.Cond.code ({ cls := "ShaftPlay$Figure", name := "changeCam", desc := "(I)I" } : Jvm.MethodName) prog_2_method_3_code (3 : Nat) (Option.some Jvm.ClassFile.FieldType.int)) ∈ Al := in2 38 rfl rfl
theorem wd2_39 : (Jvm.Cond.methodLink "ShaftPlay" (104 : Nat) ({ cls := "ShaftPlay$Figure", name := "changeLag", desc := "(I)I" } : Jvm.MethodName)) ∈ Al := in2 39 rfl rfl
theorem wd2_40 : (Jvm.Cond.instanceMethod ({ cls := "ShaftPlay$Figure", name := "changeLag", desc := "(I)I" } : Jvm.MethodName)) ∈ Al := in2 40 rfl rfl
theorem wd2_41 : (Jvm.Cond.selects "ShaftPlay$Figure" ({ cls := "ShaftPlay$Figure", name := "changeLag", desc := "(I)I" } : Jvm.MethodName) ({ cls := "ShaftPlay$Figure", name := "changeLag", desc := "(I)I" } : Jvm.MethodName)) ∈ Al := in2 41 rfl rfl
theorem wd2_42 : (Jvm.Cond.code ({ cls := "ShaftPlay$Figure", name := "changeLag", desc := "(I)I" } : Jvm.MethodName) prog_2_method_4_code (3 : Nat) (Option.some Jvm.ClassFile.FieldType.int)) ∈ Al := in2 42 rfl rfl
theorem wd2_43 : (Jvm.Cond.methodLink "ShaftPlay" (107 : Nat) ({ cls := "ShaftPlay$Figure", name := "changePlace", desc := "(I)I" } : Jvm.MethodName)) ∈ Al := in2 43 rfl rfl
theorem wd2_44 : (Jvm.Cond.instanceMethod ({ cls := "ShaftPlay$Figure", name := "changePlace", desc := "(I)I" } : Jvm.MethodName)) ∈ Al := in2 44 rfl rfl
theorem wd2_45 : (Jvm.Cond.selects "ShaftPlay$Figure" ({ cls := "ShaftPlay$Figure", name := "changePlace", desc := "(I)I" } : Jvm.MethodName) ({ cls := "ShaftPlay$Figure", name := "changePlace", desc := "(I)I" } : Jvm.MethodName)) ∈ Al := in2 45 rfl rfl
theorem wd2_46 : (Jvm.Cond.code ({ cls := "ShaftPlay$Figure", name := "changePlace", desc := "(I)I" } : Jvm.MethodName) prog_2_method_5_code (3 : Nat) (Option.some Jvm.ClassFile.FieldType.int)) ∈ Al := in2 46 rfl rfl
theorem wd2_47 : (Jvm.Cond.methodLink "ShaftPlayLaw" (44 : Nat) ({ cls := "ShaftPlay", name := "wish", desc := "(I)I" } : Jvm.MethodName)) ∈ Al := in2 47 rfl rfl
theorem wd2_48 : (Jvm.Cond.instanceMethod ({ cls := "ShaftPlay", name := "wish", desc := "(I)I" } : Jvm.MethodName)) ∈ Al := in2 48 rfl rfl
theorem wd2_49 : (Jvm.Cond.selects "ShaftPlay" ({ cls := "ShaftPlay", name := "wish", desc := "(I)I" } : Jvm.MethodName) ({ cls := "ShaftPlay", name := "wish", desc := "(I)I" } : Jvm.MethodName)) ∈ Al := in2 49 rfl rfl
theorem wd2_50 : (Jvm.Cond.code ({ cls := "ShaftPlay", name := "wish", desc := "(I)I" } : Jvm.MethodName) prog_1_method_8_code (3 : Nat) (Option.some Jvm.ClassFile.FieldType.int)) ∈ Al := in2 50 rfl rfl
theorem wd2_51 : (Jvm.Cond.methodLink "ShaftPlay" (110 : Nat) ({ cls := "ShaftPlay$Figure", name := "wishFor", desc := "([I)I" } : Jvm.MethodName)) ∈ Al := in2 51 rfl rfl
theorem wd2_52 : (Jvm.Cond.instanceMethod ({ cls := "ShaftPlay$Figure", name := "wishFor", desc := "([I)I" } : Jvm.MethodName)) ∈ Al := in2 52 rfl rfl
theorem wd2_53 : (Jvm.Cond.selects "ShaftPlay$Figure" ({ cls := "ShaftPlay$Figure", name := "wishFor", desc := "([I)I" } : Jvm.MethodName) ({ cls := "ShaftPlay$Figure", name := "wishFor", desc := "([I)I" } : Jvm.MethodName)) ∈ Al := in2 53 rfl rfl
theorem wd2_54 : (Jvm.Cond.code ({ cls := "ShaftPlay$Figure", name := "wishFor", desc := "([I)I" } : Jvm.MethodName) prog_2_method_6_code (3 : Nat) (Option.some Jvm.ClassFile.FieldType.int)) ∈ Al := in2 54 rfl rfl
theorem wd2_55 : (Jvm.Cond.methodLink "ShaftPlay$Figure" (30 : Nat) ({ cls := "java/lang/Integer", name := "bitCount", desc := "(I)I" } : Jvm.MethodName)) ∈ Al := in2 55 rfl rfl
theorem wd2_56 : (Jvm.Cond.static ({ cls := "java/lang/Integer", name := "bitCount", desc := "(I)I" } : Jvm.MethodName)) ∈ Al := in2 56 rfl rfl
theorem wd2_57 : (Jvm.Cond.code ({ cls := "java/lang/Integer", name := "bitCount", desc := "(I)I" } : Jvm.MethodName) prog_9_method_49_code (1 : Nat) (Option.some Jvm.ClassFile.FieldType.int)) ∈ Al := in2 57 rfl rfl
theorem wd2_58 : (Jvm.Cond.constant "java/lang/Integer" (265 : Nat) (1431655765 : Int32)) ∈ Al := in2 58 rfl rfl
theorem wd2_59 : (Jvm.Cond.constant "java/lang/Integer" (266 : Nat) (858993459 : Int32)) ∈ Al := in2 59 rfl rfl
theorem wd2_60 : (Jvm.Cond.constant "java/lang/Integer" (267 : Nat) (252645135 : Int32)) ∈ Al := in2 60 rfl rfl
theorem wd2_61 : (Jvm.Cond.methodLink "ShaftPlayLaw" (49 : Nat) ({ cls := "ShaftPlay", name := "line", desc := "(I)I" } : Jvm.MethodName)) ∈ Al := in2 61 rfl rfl
theorem wd2_62 : (Jvm.Cond.instanceMethod ({ cls := "ShaftPlay", name := "line", desc := "(I)I" } : Jvm.MethodName)) ∈ Al := in2 62 rfl rfl
theorem wd2_63 : (Jvm.Cond.selects "ShaftPlay" ({ cls := "ShaftPlay", name := "line", desc := "(I)I" } : Jvm.MethodName) ({ cls := "ShaftPlay", name := "line", desc := "(I)I" } : Jvm.MethodName)) ∈ Al := in2 63 rfl rfl
theorem wd2_64 : (Jvm.Cond.code ({ cls := "ShaftPlay", name := "line", desc := "(I)I" } : Jvm.MethodName) prog_1_method_9_code (3 : Nat) (Option.some Jvm.ClassFile.FieldType.int)) ∈ Al := in2 64 rfl rfl
theorem wd2_65 : (Jvm.Cond.methodLink "ShaftPlayLaw" (53 : Nat) ({ cls := "ShaftPlay", name := "way", desc := "(I)I" } : Jvm.MethodName)) ∈ Al := in2 65 rfl rfl
theorem wd2_66 : (Jvm.Cond.instanceMethod ({ cls := "ShaftPlay", name := "way", desc := "(I)I" } : Jvm.MethodName)) ∈ Al := in2 66 rfl rfl
theorem wd2_67 : (Jvm.Cond.selects "ShaftPlay" ({ cls := "ShaftPlay", name := "way", desc := "(I)I" } : Jvm.MethodName) ({ cls := "ShaftPlay", name := "way", desc := "(I)I" } : Jvm.MethodName)) ∈ Al := in2 67 rfl rfl
theorem wd2_68 : (Jvm.Cond.code ({ cls := "ShaftPlay", name := "way", desc := "(I)I" } : Jvm.MethodName) prog_1_method_10_code (3 : Nat) (Option.some Jvm.ClassFile.FieldType.int)) ∈ Al := in2 68 rfl rfl
theorem wd2_69 : (Jvm.Cond.methodLink "ShaftPlayLaw" (57 : Nat) ({ cls := "ShaftPlay", name := "count", desc := "(I)I" } : Jvm.MethodName)) ∈ Al := in2 69 rfl rfl
theorem wd2_70 : (Jvm.Cond.instanceMethod ({ cls := "ShaftPlay", name := "count", desc := "(I)I" } : Jvm.MethodName)) ∈ Al := in2 70 rfl rfl
theorem wd2_71 : (Jvm.Cond.selects "ShaftPlay" ({ cls := "ShaftPlay", name := "count", desc := "(I)I" } : Jvm.MethodName) ({ cls := "ShaftPlay", name := "count", desc := "(I)I" } : Jvm.MethodName)) ∈ Al := in2 71 rfl rfl
theorem wd2_72 : (Jvm.Cond.code ({ cls := "ShaftPlay", name := "count", desc := "(I)I" } : Jvm.MethodName) prog_1_method_11_code (2 : Nat) (Option.some Jvm.ClassFile.FieldType.int)) ∈ Al := in2 72 rfl rfl
theorem wd2_73 : (Jvm.Cond.methodLink "ShaftPlay" (132 : Nat) ({ cls := "ShaftPlay$Play", name := "figuresUpNow", desc := "()I" } : Jvm.MethodName)) ∈ Al := in2 73 rfl rfl
theorem wd2_74 : (Jvm.Cond.instanceMethod ({ cls := "ShaftPlay$Play", name := "figuresUpNow", desc := "()I" } : Jvm.MethodName)) ∈ Al := in2 74 rfl rfl
theorem wd2_75 : (Jvm.Cond.selects "ShaftPlay$Play" ({ cls := "ShaftPlay$Play", name := "figuresUpNow", desc := "()I" } : Jvm.MethodName) ({ cls := "ShaftPlay$Play", name := "figuresUpNow", desc := "()I" } : Jvm.MethodName)) ∈ Al := in2 75 rfl rfl
theorem wd2_76 : (Jvm.Cond.code ({ cls := "ShaftPlay$Play", name := "figuresUpNow", desc := "()I" } : Jvm.MethodName) prog_3_method_12_code (4 : Nat) (Option.some Jvm.ClassFile.FieldType.int)) ∈ Al := in2 76 rfl rfl
theorem wd2_77 : (Jvm.Cond.methodLink "ShaftPlay$Play" (103 : Nat) ({ cls := "ShaftPlay$Play", name := "heightOn", desc := "([ILShaftPlay$Figure;I)I" } : Jvm.MethodName)) ∈ Al := in2 77 rfl rfl
theorem wd2_78 : (Jvm.Cond.instanceMethod ({ cls := "ShaftPlay$Play", name := "heightOn", desc := "([ILShaftPlay$Figure;I)I" } : Jvm.MethodName)) ∈ Al := in2 78 rfl rfl
theorem wd2_79 : (Jvm.Cond.selects "ShaftPlay$Play" ({ cls := "ShaftPlay$Play", name := "heightOn", desc := "([ILShaftPlay$Figure;I)I" } : Jvm.MethodName) ({ cls := "ShaftPlay$Play", name := "heightOn", desc := "([ILShaftPlay$Figure;I)I" } : Jvm.MethodName)) ∈ Al := in2 79 rfl rfl
theorem wd2_80 : (Jvm.Cond.code ({ cls := "ShaftPlay$Play", name := "heightOn", desc := "([ILShaftPlay$Figure;I)I" } : Jvm.MethodName) prog_3_method_8_code (5 : Nat) (Option.some Jvm.ClassFile.FieldType.int)) ∈ Al := in2 80 rfl rfl
theorem wd2_81 : (Jvm.Cond.methodLink "ShaftPlay$Play" (87 : Nat) ({ cls := "ShaftPlay$Play", name := "hairOf", desc := "([ILShaftPlay$Figure;I)I" } : Jvm.MethodName)) ∈ Al := in2 81 rfl rfl
theorem wd2_82 : (Jvm.Cond.static ({ cls := "ShaftPlay$Play", name := "hairOf", desc := "([ILShaftPlay$Figure;I)I" } : Jvm.MethodName)) ∈ Al := in2 82 rfl rfl
theorem wd2_83 : (Jvm.Cond.code ({ cls := "ShaftPlay$Play", name := "hairOf", desc := "([ILShaftPlay$Figure;I)I" } : Jvm.MethodName) prog_3_method_7_code (3 : Nat) (Option.some Jvm.ClassFile.FieldType.int)) ∈ Al := in2 83 rfl rfl
theorem wd2_84 : (Jvm.Cond.methodLinkNest "ShaftPlay$Play" (83 : Nat) ({ cls := "ShaftPlay", name := "angleOf", desc := "(I)I" } : Jvm.MethodName) "ShaftPlay") ∈ lw_tbl := List.mem_append_right _ (tb2 84 rfl)
theorem wd2_85 : (Jvm.Cond.static ({ cls := "ShaftPlay", name := "angleOf", desc := "(I)I" } : Jvm.MethodName)) ∈ Al := in2 85 rfl rfl
theorem wd2_86 : (Jvm.Cond.code ({ cls := "ShaftPlay", name := "angleOf", desc := "(I)I" } : Jvm.MethodName) prog_1_method_45_code (1 : Nat) (Option.some Jvm.ClassFile.FieldType.int)) ∈ Al := in2 86 rfl rfl
theorem wd2_87 : (Jvm.Cond.methodLink "ShaftPlay" (253 : Nat) ({ cls := "java/lang/Math", name := "floorMod", desc := "(II)I" } : Jvm.MethodName)) ∈ Al := in2 87 rfl rfl
theorem wd2_88 : (Jvm.Cond.static ({ cls := "java/lang/Math", name := "floorMod", desc := "(II)I" } : Jvm.MethodName)) ∈ Al := in2 88 rfl rfl
theorem wd2_89 : (Jvm.Cond.code ({ cls := "java/lang/Math", name := "floorMod", desc := "(II)I" } : Jvm.MethodName) prog_10_method_50_code (3 : Nat) (Option.some Jvm.ClassFile.FieldType.int)) ∈ Al := in2 89 rfl rfl
theorem wd2_90 : (Jvm.Cond.methodLink "ShaftPlay$Play" (91 : Nat) ({ cls := "ShaftPlay$Play", name := "slowHeight", desc := "([ILShaftPlay$Figure;I)I" } : Jvm.MethodName)) ∈ Al := in2 90 rfl rfl
theorem wd2_91 : (Jvm.Cond.instanceMethod ({ cls := "ShaftPlay$Play", name := "slowHeight", desc := "([ILShaftPlay$Figure;I)I" } : Jvm.MethodName)) ∈ Al := in2 91 rfl rfl
theorem wd2_92 : (Jvm.Cond.selects "ShaftPlay$Play" ({ cls := "ShaftPlay$Play", name := "slowHeight", desc := "([ILShaftPlay$Figure;I)I" } : Jvm.MethodName) ({ cls := "ShaftPlay$Play", name := "slowHeight", desc := "([ILShaftPlay$Figure;I)I" } : Jvm.MethodName)) ∈ Al := in2 92 rfl rfl
theorem wd2_93 : (Jvm.Cond.code ({ cls := "ShaftPlay$Play", name := "slowHeight", desc := "([ILShaftPlay$Figure;I)I" } : Jvm.MethodName) prog_3_method_9_code (6 : Nat) (Option.some Jvm.ClassFile.FieldType.int)) ∈ Al := in2 93 rfl rfl
theorem wd2_94 : (Jvm.Cond.methodLink "ShaftPlay$Play" (94 : Nat) ({ cls := "ShaftPlay$Play", name := "someAhead", desc := "(II)I" } : Jvm.MethodName)) ∈ Al := in2 94 rfl rfl
theorem wd2_95 : (Jvm.Cond.instanceMethod ({ cls := "ShaftPlay$Play", name := "someAhead", desc := "(II)I" } : Jvm.MethodName)) ∈ Al := in2 95 rfl rfl
theorem wd2_96 : (Jvm.Cond.selects "ShaftPlay$Play" ({ cls := "ShaftPlay$Play", name := "someAhead", desc := "(II)I" } : Jvm.MethodName) ({ cls := "ShaftPlay$Play", name := "someAhead", desc := "(II)I" } : Jvm.MethodName)) ∈ Al := in2 96 rfl rfl
theorem wd2_97 : (Jvm.Cond.code ({ cls := "ShaftPlay$Play", name := "someAhead", desc := "(II)I" } : Jvm.MethodName) prog_3_method_6_code (3 : Nat) (Option.some Jvm.ClassFile.FieldType.int)) ∈ Al := in2 97 rfl rfl
theorem wd2_98 : (Jvm.Cond.methodLink "ShaftPlay$Play" (98 : Nat) ({ cls := "java/lang/Math", name := "max", desc := "(II)I" } : Jvm.MethodName)) ∈ Al := in2 98 rfl rfl
theorem wd2_99 : (Jvm.Cond.static ({ cls := "java/lang/Math", name := "max", desc := "(II)I" } : Jvm.MethodName)) ∈ Al := in2 99 rfl rfl
theorem wd2_100 : (Jvm.Cond.code ({ cls := "java/lang/Math", name := "max", desc := "(II)I" } : Jvm.MethodName) prog_10_method_65_code (2 : Nat) (Option.some Jvm.ClassFile.FieldType.int)) ∈ Al := in2 100 rfl rfl
theorem wd2_101 : (Jvm.Cond.methodLink "ShaftPlayLaw" (61 : Nat) ({ cls := "ShaftPlay", name := "height", desc := "(II)I" } : Jvm.MethodName)) ∈ Al := in2 101 rfl rfl
theorem wd2_102 : (Jvm.Cond.instanceMethod ({ cls := "ShaftPlay", name := "height", desc := "(II)I" } : Jvm.MethodName)) ∈ Al := in2 102 rfl rfl
theorem wd2_103 : (Jvm.Cond.selects "ShaftPlay" ({ cls := "ShaftPlay", name := "height", desc := "(II)I" } : Jvm.MethodName) ({ cls := "ShaftPlay", name := "height", desc := "(II)I" } : Jvm.MethodName)) ∈ Al := in2 103 rfl rfl
theorem wd2_104 : (Jvm.Cond.code ({ cls := "ShaftPlay", name := "height", desc := "(II)I" } : Jvm.MethodName) prog_1_method_12_code (4 : Nat) (Option.some Jvm.ClassFile.FieldType.int)) ∈ Al := in2 104 rfl rfl
theorem wd2_105 : (Jvm.Cond.methodLink "ShaftPlay" (139 : Nat) ({ cls := "ShaftPlay$Play", name := "heightOn", desc := "([ILShaftPlay$Figure;I)I" } : Jvm.MethodName)) ∈ Al := in2 105 rfl rfl
theorem wd2_106 : (Jvm.Cond.methodLink "ShaftPlayLaw" (65 : Nat) ({ cls := "ShaftPlay", name := "ups", desc := "(I)I" } : Jvm.MethodName)) ∈ Al := in2 106 rfl rfl
theorem wd2_107 : (Jvm.Cond.instanceMethod ({ cls := "ShaftPlay", name := "ups", desc := "(I)I" } : Jvm.MethodName)) ∈ Al := in2 107 rfl rfl
theorem wd2_108 : (Jvm.Cond.selects "ShaftPlay" ({ cls := "ShaftPlay", name := "ups", desc := "(I)I" } : Jvm.MethodName) ({ cls := "ShaftPlay", name := "ups", desc := "(I)I" } : Jvm.MethodName)) ∈ Al := in2 108 rfl rfl
theorem wd2_109 : (Jvm.Cond.code ({ cls := "ShaftPlay", name := "ups", desc := "(I)I" } : Jvm.MethodName) prog_1_method_13_code (2 : Nat) (Option.some Jvm.ClassFile.FieldType.int)) ∈ Al := in2 109 rfl rfl
theorem wd2_110 : (Jvm.Cond.methodLink "ShaftPlay" (143 : Nat) ({ cls := "ShaftPlay$Play", name := "upsOf", desc := "(LShaftPlay$Figure;)I" } : Jvm.MethodName)) ∈ Al := in2 110 rfl rfl
theorem wd2_111 : (Jvm.Cond.instanceMethod ({ cls := "ShaftPlay$Play", name := "upsOf", desc := "(LShaftPlay$Figure;)I" } : Jvm.MethodName)) ∈ Al := in2 111 rfl rfl
theorem wd2_112 : (Jvm.Cond.selects "ShaftPlay$Play" ({ cls := "ShaftPlay$Play", name := "upsOf", desc := "(LShaftPlay$Figure;)I" } : Jvm.MethodName) ({ cls := "ShaftPlay$Play", name := "upsOf", desc := "(LShaftPlay$Figure;)I" } : Jvm.MethodName)) ∈ Al := in2 112 rfl rfl
theorem wd2_113 : (Jvm.Cond.code ({ cls := "ShaftPlay$Play", name := "upsOf", desc := "(LShaftPlay$Figure;)I" } : Jvm.MethodName) prog_3_method_11_code (2 : Nat) (Option.some Jvm.ClassFile.FieldType.int)) ∈ Al := in2 113 rfl rfl
theorem wd2_114 : (Jvm.Cond.methodLink "ShaftPlay$Play" (106 : Nat) ({ cls := "ShaftPlay$Play", name := "upsOn", desc := "([ILShaftPlay$Figure;)I" } : Jvm.MethodName)) ∈ Al := in2 114 rfl rfl
theorem wd2_115 : (Jvm.Cond.instanceMethod ({ cls := "ShaftPlay$Play", name := "upsOn", desc := "([ILShaftPlay$Figure;)I" } : Jvm.MethodName)) ∈ Al := in2 115 rfl rfl
theorem wd2_116 : (Jvm.Cond.selects "ShaftPlay$Play" ({ cls := "ShaftPlay$Play", name := "upsOn", desc := "([ILShaftPlay$Figure;)I" } : Jvm.MethodName) ({ cls := "ShaftPlay$Play", name := "upsOn", desc := "([ILShaftPlay$Figure;)I" } : Jvm.MethodName)) ∈ Al := in2 116 rfl rfl
theorem wd2_117 : (Jvm.Cond.code ({ cls := "ShaftPlay$Play", name := "upsOn", desc := "([ILShaftPlay$Figure;)I" } : Jvm.MethodName) prog_3_method_10_code (5 : Nat) (Option.some Jvm.ClassFile.FieldType.int)) ∈ Al := in2 117 rfl rfl
theorem wd2_118 : (Jvm.Cond.methodLink "ShaftPlayLaw" (69 : Nat) ({ cls := "ShaftPlay", name := "turn", desc := "(I)I" } : Jvm.MethodName)) ∈ Al := in2 118 rfl rfl
theorem wd2_119 : (Jvm.Cond.instanceMethod ({ cls := "ShaftPlay", name := "turn", desc := "(I)I" } : Jvm.MethodName)) ∈ Al := in2 119 rfl rfl
theorem wd2_120 : (Jvm.Cond.selects "ShaftPlay" ({ cls := "ShaftPlay", name := "turn", desc := "(I)I" } : Jvm.MethodName) ({ cls := "ShaftPlay", name := "turn", desc := "(I)I" } : Jvm.MethodName)) ∈ Al := in2 120 rfl rfl
theorem wd2_121 : (Jvm.Cond.code ({ cls := "ShaftPlay", name := "turn", desc := "(I)I" } : Jvm.MethodName) prog_1_method_14_code (3 : Nat) (Option.some Jvm.ClassFile.FieldType.int)) ∈ Al := in2 121 rfl rfl
theorem wd2_122 : (Jvm.Cond.methodLink "ShaftPlay" (147 : Nat) ({ cls := "ShaftPlay$Play", name := "strikesInTurning", desc := "(I)I" } : Jvm.MethodName)) ∈ Al := in2 122 rfl rfl
theorem wd2_123 : (Jvm.Cond.instanceMethod ({ cls := "ShaftPlay$Play", name := "strikesInTurning", desc := "(I)I" } : Jvm.MethodName)) ∈ Al := in2 123 rfl rfl
theorem wd2_124 : (Jvm.Cond.selects "ShaftPlay$Play" ({ cls := "ShaftPlay$Play", name := "strikesInTurning", desc := "(I)I" } : Jvm.MethodName) ({ cls := "ShaftPlay$Play", name := "strikesInTurning", desc := "(I)I" } : Jvm.MethodName)) ∈ Al := in2 124 rfl rfl
theorem wd2_125 : (Jvm.Cond.code ({ cls := "ShaftPlay$Play", name := "strikesInTurning", desc := "(I)I" } : Jvm.MethodName) prog_3_method_14_code (8 : Nat) (Option.some Jvm.ClassFile.FieldType.int)) ∈ Al := in2 125 rfl rfl
theorem wd2_126 : (Jvm.Cond.methodLink "ShaftPlay$Play" (117 : Nat) ({ cls := "ShaftPlay$Play", name := "anglesToCome", desc := "(I)I" } : Jvm.MethodName)) ∈ Al := in2 126 rfl rfl
theorem wd2_127 : (Jvm.Cond.instanceMethod ({ cls := "ShaftPlay$Play", name := "anglesToCome", desc := "(I)I" } : Jvm.MethodName)) ∈ Al := in2 127 rfl rfl
theorem wd2_128 : (Jvm.Cond.selects "ShaftPlay$Play" ({ cls := "ShaftPlay$Play", name := "anglesToCome", desc := "(I)I" } : Jvm.MethodName) ({ cls := "ShaftPlay$Play", name := "anglesToCome", desc := "(I)I" } : Jvm.MethodName)) ∈ Al := in2 128 rfl rfl
theorem wd2_129 : (Jvm.Cond.code ({ cls := "ShaftPlay$Play", name := "anglesToCome", desc := "(I)I" } : Jvm.MethodName) prog_3_method_15_code (5 : Nat) (Option.some Jvm.ClassFile.FieldType.int)) ∈ Al := in2 129 rfl rfl
theorem wd2_130 : (Jvm.Cond.methodLink "ShaftPlay$Play" (129 : Nat) ({ cls := "ShaftPlay$Play", name := "oneBehind", desc := "(I)I" } : Jvm.MethodName)) ∈ Al := in2 130 rfl rfl
theorem wd2_131 : (Jvm.Cond.instanceMethod ({ cls := "ShaftPlay$Play", name := "oneBehind", desc := "(I)I" } : Jvm.MethodName)) ∈ Al := in2 131 rfl rfl
theorem wd2_132 : (Jvm.Cond.selects "ShaftPlay$Play" ({ cls := "ShaftPlay$Play", name := "oneBehind", desc := "(I)I" } : Jvm.MethodName) ({ cls := "ShaftPlay$Play", name := "oneBehind", desc := "(I)I" } : Jvm.MethodName)) ∈ Al := in2 132 rfl rfl
theorem wd2_133 : (Jvm.Cond.code ({ cls := "ShaftPlay$Play", name := "oneBehind", desc := "(I)I" } : Jvm.MethodName) prog_3_method_5_code (2 : Nat) (Option.some Jvm.ClassFile.FieldType.int)) ∈ Al := in2 133 rfl rfl
theorem wd2_134 : (Jvm.Cond.methodLink "ShaftPlay$Play" (120 : Nat) ({ cls := "ShaftPlay$Play", name := "strikesOf", desc := "(LShaftPlay$Figure;LShaftPlay$Figure;)I" } : Jvm.MethodName)) ∈ Al := in2 134 rfl rfl
theorem wd2_135 : (Jvm.Cond.instanceMethod ({ cls := "ShaftPlay$Play", name := "strikesOf", desc := "(LShaftPlay$Figure;LShaftPlay$Figure;)I" } : Jvm.MethodName)) ∈ Al := in2 135 rfl rfl
theorem wd2_136 : (Jvm.Cond.selects "ShaftPlay$Play" ({ cls := "ShaftPlay$Play", name := "strikesOf", desc := "(LShaftPlay$Figure;LShaftPlay$Figure;)I" } : Jvm.MethodName) ({ cls := "ShaftPlay$Play", name := "strikesOf", desc := "(LShaftPlay$Figure;LShaftPlay$Figure;)I" } : Jvm.MethodName)) ∈ Al := in2 136 rfl rfl
theorem wd2_137 : (Jvm.Cond.code ({ cls := "ShaftPlay$Play", name := "strikesOf", desc := "(LShaftPlay$Figure;LShaftPlay$Figure;)I" } : Jvm.MethodName) prog_3_method_13_code (5 : Nat) (Option.some Jvm.ClassFile.FieldType.int)) ∈ Al := in2 137 rfl rfl
theorem wd2_138 : (Jvm.Cond.methodLink "ShaftPlay$Play" (110 : Nat) ({ cls := "ShaftPlay$Play", name := "upsOf", desc := "(LShaftPlay$Figure;)I" } : Jvm.MethodName)) ∈ Al := in2 138 rfl rfl
theorem wd2_139 : (Jvm.Cond.methodLinkNest "ShaftPlay$Play" (114 : Nat) ({ cls := "ShaftPlay", name := "movedOn", desc := "(II)I" } : Jvm.MethodName) "ShaftPlay") ∈ lw_tbl := List.mem_append_right _ (tb2 139 rfl)
theorem wd2_140 : (Jvm.Cond.static ({ cls := "ShaftPlay", name := "movedOn", desc := "(II)I" } : Jvm.MethodName)) ∈ Al := in2 140 rfl rfl
theorem wd2_141 : (Jvm.Cond.code ({ cls := "ShaftPlay", name := "movedOn", desc := "(II)I" } : Jvm.MethodName) prog_1_method_46_code (3 : Nat) (Option.some Jvm.ClassFile.FieldType.int)) ∈ Al := in2 141 rfl rfl
theorem wd2_142 : (Jvm.Cond.methodLink "ShaftPlay" (259 : Nat) ({ cls := "ShaftPlay", name := "angleOf", desc := "(I)I" } : Jvm.MethodName)) ∈ Al := in2 142 rfl rfl
theorem wd2_143 : (Jvm.Cond.methodLink "ShaftPlay$Play" (124 : Nat) ({ cls := "java/lang/Integer", name := "bitCount", desc := "(I)I" } : Jvm.MethodName)) ∈ Al := in2 143 rfl rfl
theorem wd2_144 : (Jvm.Cond.methodLink "ShaftPlay" (150 : Nat) ({ cls := "ShaftPlay$Play", name := "goOn", desc := "(I)V" } : Jvm.MethodName)) ∈ Al := in2 144 rfl rfl
theorem wd2_145 : (Jvm.Cond.instanceMethod ({ cls := "ShaftPlay$Play", name := "goOn", desc := "(I)V" } : Jvm.MethodName)) ∈ Al := in2 145 rfl rfl
theorem wd2_146 : (Jvm.Cond.selects "ShaftPlay$Play" ({ cls := "ShaftPlay$Play", name := "goOn", desc := "(I)V" } : Jvm.MethodName) ({ cls := "ShaftPlay$Play", name := "goOn", desc := "(I)V" } : Jvm.MethodName)) ∈ Al := in2 146 rfl rfl
theorem wd2_147 : (Jvm.Cond.code ({ cls := "ShaftPlay$Play", name := "goOn", desc := "(I)V" } : Jvm.MethodName) prog_3_method_16_code (2 : Nat) (Option.none : Option Jvm.ClassFile.FieldType)) ∈ Al := in2 147 rfl rfl
theorem wd2_148 : (Jvm.Cond.constant "ShaftPlay$Play" (132 : Nat) (1000000000 : Int32)) ∈ Al := in2 148 rfl rfl
theorem wd2_149 : (Jvm.Cond.methodLink "ShaftPlay$Play" (133 : Nat) ({ cls := "java/lang/Math", name := "min", desc := "(II)I" } : Jvm.MethodName)) ∈ Al := in2 149 rfl rfl
theorem wd2_150 : (Jvm.Cond.static ({ cls := "java/lang/Math", name := "min", desc := "(II)I" } : Jvm.MethodName)) ∈ Al := in2 150 rfl rfl
theorem wd2_151 : (Jvm.Cond.code ({ cls := "java/lang/Math", name := "min", desc := "(II)I" } : Jvm.MethodName) prog_10_method_69_code (2 : Nat) (Option.some Jvm.ClassFile.FieldType.int)) ∈ Al := in2 151 rfl rfl
theorem wd2_152 : (Jvm.Cond.methodLink "ShaftPlayLaw" (73 : Nat) ({ cls := "ShaftPlay", name := "strikes", desc := "(II)I" } : Jvm.MethodName)) ∈ Al := in2 152 rfl rfl
theorem wd2_153 : (Jvm.Cond.instanceMethod ({ cls := "ShaftPlay", name := "strikes", desc := "(II)I" } : Jvm.MethodName)) ∈ Al := in2 153 rfl rfl
theorem wd2_154 : (Jvm.Cond.selects "ShaftPlay" ({ cls := "ShaftPlay", name := "strikes", desc := "(II)I" } : Jvm.MethodName) ({ cls := "ShaftPlay", name := "strikes", desc := "(II)I" } : Jvm.MethodName)) ∈ Al := in2 154 rfl rfl
theorem wd2_155 : (Jvm.Cond.code ({ cls := "ShaftPlay", name := "strikes", desc := "(II)I" } : Jvm.MethodName) prog_1_method_15_code (3 : Nat) (Option.some Jvm.ClassFile.FieldType.int)) ∈ Al := in2 155 rfl rfl
theorem wd2_156 : (Jvm.Cond.methodLink "ShaftPlay" (154 : Nat) ({ cls := "ShaftPlay$Play", name := "strikesOf", desc := "(LShaftPlay$Figure;LShaftPlay$Figure;)I" } : Jvm.MethodName)) ∈ Al := in2 156 rfl rfl
theorem wd2_157 : (Jvm.Cond.methodLink "ShaftPlayLaw" (77 : Nat) ({ cls := "ShaftPlay", name := "wear", desc := "(I)I" } : Jvm.MethodName)) ∈ Al := in2 157 rfl rfl
theorem wd2_158 : (Jvm.Cond.instanceMethod ({ cls := "ShaftPlay", name := "wear", desc := "(I)I" } : Jvm.MethodName)) ∈ Al := in2 158 rfl rfl
theorem wd2_159 : (Jvm.Cond.selects "ShaftPlay" ({ cls := "ShaftPlay", name := "wear", desc := "(I)I" } : Jvm.MethodName) ({ cls := "ShaftPlay", name := "wear", desc := "(I)I" } : Jvm.MethodName)) ∈ Al := in2 159 rfl rfl
theorem wd2_160 : (Jvm.Cond.code ({ cls := "ShaftPlay", name := "wear", desc := "(I)I" } : Jvm.MethodName) prog_1_method_16_code (4 : Nat) (Option.some Jvm.ClassFile.FieldType.int)) ∈ Al := in2 160 rfl rfl
theorem wd2_161 : (Jvm.Cond.methodLink "ShaftPlay" (158 : Nat) ({ cls := "ShaftPlay", name := "wornBy", desc := "([II)I" } : Jvm.MethodName)) ∈ Al := in2 161 rfl rfl
theorem wd2_162 : (Jvm.Cond.static ({ cls := "ShaftPlay", name := "wornBy", desc := "([II)I" } : Jvm.MethodName)) ∈ Al := in2 162 rfl rfl
theorem wd2_163 : (Jvm.Cond.code ({ cls := "ShaftPlay", name := "wornBy", desc := "([II)I" } : Jvm.MethodName) prog_1_method_50_code (4 : Nat) (Option.some Jvm.ClassFile.FieldType.int)) ∈ Al := in2 163 rfl rfl
theorem wd2_164 : (Jvm.Cond.methodLink "ShaftPlay" (274 : Nat) ({ cls := "ShaftPlay", name := "wornByOneTurn", desc := "([I)I" } : Jvm.MethodName)) ∈ Al := in2 164 rfl rfl
theorem wd2_165 : (Jvm.Cond.static ({ cls := "ShaftPlay", name := "wornByOneTurn", desc := "([I)I" } : Jvm.MethodName)) ∈ Al := in2 165 rfl rfl
theorem wd2_166 : (Jvm.Cond.code ({ cls := "ShaftPlay", name := "wornByOneTurn", desc := "([I)I" } : Jvm.MethodName) prog_1_method_51_code (3 : Nat) (Option.some Jvm.ClassFile.FieldType.int)) ∈ Al := in2 166 rfl rfl
theorem wd2_167 : (Jvm.Cond.methodLink "ShaftPlay" (277 : Nat) ({ cls := "java/lang/Integer", name := "bitCount", desc := "(I)I" } : Jvm.MethodName)) ∈ Al := in2 167 rfl rfl
theorem wd2_168 : (Jvm.Cond.methodLink "ShaftPlayLaw" (81 : Nat) ({ cls := "ShaftPlay", name := "missed", desc := "(I)I" } : Jvm.MethodName)) ∈ Al := in2 168 rfl rfl
theorem wd2_169 : (Jvm.Cond.instanceMethod ({ cls := "ShaftPlay", name := "missed", desc := "(I)I" } : Jvm.MethodName)) ∈ Al := in2 169 rfl rfl
theorem wd2_170 : (Jvm.Cond.selects "ShaftPlay" ({ cls := "ShaftPlay", name := "missed", desc := "(I)I" } : Jvm.MethodName) ({ cls := "ShaftPlay", name := "missed", desc := "(I)I" } : Jvm.MethodName)) ∈ Al := in2 170 rfl rfl
theorem wd2_171 : (Jvm.Cond.code ({ cls := "ShaftPlay", name := "missed", desc := "(I)I" } : Jvm.MethodName) prog_1_method_17_code (5 : Nat) (Option.some Jvm.ClassFile.FieldType.int)) ∈ Al := in2 171 rfl rfl
theorem wd2_172 : (Jvm.Cond.methodLink "ShaftPlay" (162 : Nat) ({ cls := "ShaftPlay$Figure", name := "missedWith", desc := "(I)I" } : Jvm.MethodName)) ∈ Al := in2 172 rfl rfl
theorem wd2_173 : (Jvm.Cond.instanceMethod ({ cls := "ShaftPlay$Figure", name := "missedWith", desc := "(I)I" } : Jvm.MethodName)) ∈ Al := in2 173 rfl rfl
theorem wd2_174 : (Jvm.Cond.selects "ShaftPlay$Figure" ({ cls := "ShaftPlay$Figure", name := "missedWith", desc := "(I)I" } : Jvm.MethodName) ({ cls := "ShaftPlay$Figure", name := "missedWith", desc := "(I)I" } : Jvm.MethodName)) ∈ Al := in2 174 rfl rfl
theorem wd2_175 : (Jvm.Cond.code ({ cls := "ShaftPlay$Figure", name := "missedWith", desc := "(I)I" } : Jvm.MethodName) prog_2_method_7_code (2 : Nat) (Option.some Jvm.ClassFile.FieldType.int)) ∈ Al := in2 175 rfl rfl
theorem wd2_176 : (Jvm.Cond.methodLink "ShaftPlayLaw" (85 : Nat) ({ cls := "ShaftPlay", name := "fewest", desc := "()I" } : Jvm.MethodName)) ∈ Al := in2 176 rfl rfl
theorem wd2_177 : (Jvm.Cond.instanceMethod ({ cls := "ShaftPlay", name := "fewest", desc := "()I" } : Jvm.MethodName)) ∈ Al := in2 177 rfl rfl
theorem wd2_178 : (Jvm.Cond.selects "ShaftPlay" ({ cls := "ShaftPlay", name := "fewest", desc := "()I" } : Jvm.MethodName) ({ cls := "ShaftPlay", name := "fewest", desc := "()I" } : Jvm.MethodName)) ∈ Al := in2 178 rfl rfl
theorem wd2_179 : (Jvm.Cond.code ({ cls := "ShaftPlay", name := "fewest", desc := "()I" } : Jvm.MethodName) prog_1_method_18_code (1 : Nat) (Option.some Jvm.ClassFile.FieldType.int)) ∈ Al := in2 179 rfl rfl
theorem wd2_180 : (Jvm.Cond.methodLink "ShaftPlay" (165 : Nat) ({ cls := "ShaftPlay", name := "shareCams", desc := "()I" } : Jvm.MethodName)) ∈ Al := in2 180 rfl rfl
theorem wd2_182 : (Jvm.Cond.instanceMethod ({ cls := "ShaftPlay", name := "shareCams", desc := "()I" } : Jvm.MethodName)) ∈ Al := in2 182 rfl rfl
theorem wd2_183 : (Jvm.Cond.code ({ cls := "ShaftPlay", name := "shareCams", desc := "()I" } : Jvm.MethodName) prog_1_method_53_code (2 : Nat) (Option.some Jvm.ClassFile.FieldType.int)) ∈ Al := in2 183 rfl rfl
theorem wd2_184 : (Jvm.Cond.methodLink "ShaftPlay" (286 : Nat) ({ cls := "ShaftPlay$Sharing", name := "compare", desc := "([LShaftPlay$Figure;I)V" } : Jvm.MethodName)) ∈ Al := in2 184 rfl rfl
theorem wd2_185 : (Jvm.Cond.instanceMethod ({ cls := "ShaftPlay$Sharing", name := "compare", desc := "([LShaftPlay$Figure;I)V" } : Jvm.MethodName)) ∈ Al := in2 185 rfl rfl
theorem wd2_186 : (Jvm.Cond.selects "ShaftPlay$Sharing" ({ cls := "ShaftPlay$Sharing", name := "compare", desc := "([LShaftPlay$Figure;I)V" } : Jvm.MethodName) ({ cls := "ShaftPlay$Sharing", name := "compare", desc := "([LShaftPlay$Figure;I)V" } : Jvm.MethodName)) ∈ Al := in2 186 rfl rfl
theorem wd2_187 : (Jvm.Cond.code ({ cls := "ShaftPlay$Sharing", name := "compare", desc := "([LShaftPlay$Figure;I)V" } : Jvm.MethodName) prog_4_method_2_code (5 : Nat) (Option.none : Option Jvm.ClassFile.FieldType)) ∈ Al := in2 187 rfl rfl
theorem wd2_188 : (Jvm.Cond.methodLink "ShaftPlay$Sharing" (23 : Nat) ({ cls := "ShaftPlay$Sharing", name := "lagsOf", desc := "(LShaftPlay$Figure;LShaftPlay$Figure;)I" } : Jvm.MethodName)) ∈ Al := in2 188 rfl rfl
theorem wd2_189 : (Jvm.Cond.static ({ cls := "ShaftPlay$Sharing", name := "lagsOf", desc := "(LShaftPlay$Figure;LShaftPlay$Figure;)I" } : Jvm.MethodName)) ∈ Al := in2 189 rfl rfl
theorem wd2_190 : (Jvm.Cond.code ({ cls := "ShaftPlay$Sharing", name := "lagsOf", desc := "(LShaftPlay$Figure;LShaftPlay$Figure;)I" } : Jvm.MethodName) prog_4_method_3_code (6 : Nat) (Option.some Jvm.ClassFile.FieldType.int)) ∈ Al := in2 190 rfl rfl
theorem wd2_191 : (Jvm.Cond.methodLinkNest "ShaftPlay$Sharing" (33 : Nat) ({ cls := "ShaftPlay", name := "movedOn", desc := "(II)I" } : Jvm.MethodName) "ShaftPlay") ∈ lw_tbl := List.mem_append_right _ (tb2 191 rfl)
theorem wd2_192 : (Jvm.Cond.methodLink "ShaftPlay" (290 : Nat) ({ cls := "ShaftPlay", name := "isSeated", desc := "(LShaftPlay$Sharing;IIII)Z" } : Jvm.MethodName)) ∈ Al := in2 192 rfl rfl
theorem wd2_193 : (Jvm.Cond.static ({ cls := "ShaftPlay", name := "isSeated", desc := "(LShaftPlay$Sharing;IIII)Z" } : Jvm.MethodName)) ∈ Al := in2 193 rfl rfl
theorem wd2_194 : (Jvm.Cond.code ({ cls := "ShaftPlay", name := "isSeated", desc := "(LShaftPlay$Sharing;IIII)Z" } : Jvm.MethodName) prog_1_method_54_code (8 : Nat) (Option.some Jvm.ClassFile.FieldType.boolean)) ∈ Al := in2 194 rfl rfl
theorem wd2_195 : (Jvm.Cond.methodLink "ShaftPlay" (294 : Nat) ({ cls := "ShaftPlay$Sharing", name := "lagsOn", desc := "(II)I" } : Jvm.MethodName)) ∈ Al := in2 195 rfl rfl
theorem wd2_196 : (Jvm.Cond.instanceMethod ({ cls := "ShaftPlay$Sharing", name := "lagsOn", desc := "(II)I" } : Jvm.MethodName)) ∈ Al := in2 196 rfl rfl
theorem wd2_197 : (Jvm.Cond.selects "ShaftPlay$Sharing" ({ cls := "ShaftPlay$Sharing", name := "lagsOn", desc := "(II)I" } : Jvm.MethodName) ({ cls := "ShaftPlay$Sharing", name := "lagsOn", desc := "(II)I" } : Jvm.MethodName)) ∈ Al := in2 197 rfl rfl
theorem wd2_198 : (Jvm.Cond.code ({ cls := "ShaftPlay$Sharing", name := "lagsOn", desc := "(II)I" } : Jvm.MethodName) prog_4_method_4_code (5 : Nat) (Option.some Jvm.ClassFile.FieldType.int)) ∈ Al := in2 198 rfl rfl
theorem wd2_199 : (Jvm.Cond.methodLink "ShaftPlay" (271 : Nat) ({ cls := "java/lang/Math", name := "max", desc := "(II)I" } : Jvm.MethodName)) ∈ Al := in2 199 rfl rfl
theorem wd2_200 : (Jvm.Cond.methodLink "ShaftPlayLaw" (89 : Nat) ({ cls := "ShaftPlay", name := "share", desc := "(II)I" } : Jvm.MethodName)) ∈ Al := in2 200 rfl rfl
theorem wd2_201 : (Jvm.Cond.instanceMethod ({ cls := "ShaftPlay", name := "share", desc := "(II)I" } : Jvm.MethodName)) ∈ Al := in2 201 rfl rfl
theorem wd2_202 : (Jvm.Cond.selects "ShaftPlay" ({ cls := "ShaftPlay", name := "share", desc := "(II)I" } : Jvm.MethodName) ({ cls := "ShaftPlay", name := "share", desc := "(II)I" } : Jvm.MethodName)) ∈ Al := in2 202 rfl rfl
theorem wd2_203 : (Jvm.Cond.code ({ cls := "ShaftPlay", name := "share", desc := "(II)I" } : Jvm.MethodName) prog_1_method_19_code (3 : Nat) (Option.some Jvm.ClassFile.FieldType.int)) ∈ Al := in2 203 rfl rfl
theorem wd2_204 : (Jvm.Cond.methodLink "ShaftPlayLaw" (93 : Nat) ({ cls := "ShaftPlay", name := "pegs", desc := "(II)I" } : Jvm.MethodName)) ∈ Al := in2 204 rfl rfl
theorem wd2_205 : (Jvm.Cond.instanceMethod ({ cls := "ShaftPlay", name := "pegs", desc := "(II)I" } : Jvm.MethodName)) ∈ Al := in2 205 rfl rfl
theorem wd2_206 : (Jvm.Cond.selects "ShaftPlay" ({ cls := "ShaftPlay", name := "pegs", desc := "(II)I" } : Jvm.MethodName) ({ cls := "ShaftPlay", name := "pegs", desc := "(II)I" } : Jvm.MethodName)) ∈ Al := in2 206 rfl rfl
theorem wd2_207 : (Jvm.Cond.code ({ cls := "ShaftPlay", name := "pegs", desc := "(II)I" } : Jvm.MethodName) prog_1_method_20_code (7 : Nat) (Option.some Jvm.ClassFile.FieldType.int)) ∈ Al := in2 207 rfl rfl
theorem wd2_208 : (Jvm.Cond.methodLink "ShaftPlay" (173 : Nat) ({ cls := "ShaftPlay$Play", name := "pegsBy", desc := "(LShaftPlay$Figure;I)I" } : Jvm.MethodName)) ∈ Al := in2 208 rfl rfl
theorem wd2_209 : (Jvm.Cond.instanceMethod ({ cls := "ShaftPlay$Play", name := "pegsBy", desc := "(LShaftPlay$Figure;I)I" } : Jvm.MethodName)) ∈ Al := in2 209 rfl rfl
theorem wd2_210 : (Jvm.Cond.selects "ShaftPlay$Play" ({ cls := "ShaftPlay$Play", name := "pegsBy", desc := "(LShaftPlay$Figure;I)I" } : Jvm.MethodName) ({ cls := "ShaftPlay$Play", name := "pegsBy", desc := "(LShaftPlay$Figure;I)I" } : Jvm.MethodName)) ∈ Al := in2 210 rfl rfl
theorem wd2_211 : (Jvm.Cond.code ({ cls := "ShaftPlay$Play", name := "pegsBy", desc := "(LShaftPlay$Figure;I)I" } : Jvm.MethodName) prog_3_method_17_code (5 : Nat) (Option.some Jvm.ClassFile.FieldType.int)) ∈ Al := in2 211 rfl rfl
theorem wd2_212 : (Jvm.Cond.methodLink "ShaftPlay$Play" (136 : Nat) ({ cls := "ShaftPlay$Figure", name := "missedWith", desc := "(I)I" } : Jvm.MethodName)) ∈ Al := in2 212 rfl rfl
theorem wd2_213 : (Jvm.Cond.methodLink "ShaftPlayLaw" (97 : Nat) ({ cls := "ShaftPlay", name := "beats", desc := "(II)I" } : Jvm.MethodName)) ∈ Al := in2 213 rfl rfl
theorem wd2_214 : (Jvm.Cond.instanceMethod ({ cls := "ShaftPlay", name := "beats", desc := "(II)I" } : Jvm.MethodName)) ∈ Al := in2 214 rfl rfl
theorem wd2_215 : (Jvm.Cond.selects "ShaftPlay" ({ cls := "ShaftPlay", name := "beats", desc := "(II)I" } : Jvm.MethodName) ({ cls := "ShaftPlay", name := "beats", desc := "(II)I" } : Jvm.MethodName)) ∈ Al := in2 215 rfl rfl
theorem wd2_216 : (Jvm.Cond.code ({ cls := "ShaftPlay", name := "beats", desc := "(II)I" } : Jvm.MethodName) prog_1_method_21_code (4 : Nat) (Option.some Jvm.ClassFile.FieldType.int)) ∈ Al := in2 216 rfl rfl
theorem wd2_217 : (Jvm.Cond.methodLink "ShaftPlayLaw" (101 : Nat) ({ cls := "ShaftPlay", name := "when", desc := "(I)I" } : Jvm.MethodName)) ∈ Al := in2 217 rfl rfl
theorem wd2_218 : (Jvm.Cond.instanceMethod ({ cls := "ShaftPlay", name := "when", desc := "(I)I" } : Jvm.MethodName)) ∈ Al := in2 218 rfl rfl
theorem wd2_219 : (Jvm.Cond.selects "ShaftPlay" ({ cls := "ShaftPlay", name := "when", desc := "(I)I" } : Jvm.MethodName) ({ cls := "ShaftPlay", name := "when", desc := "(I)I" } : Jvm.MethodName)) ∈ Al := in2 219 rfl rfl
theorem wd2_220 : (Jvm.Cond.code ({ cls := "ShaftPlay", name := "when", desc := "(I)I" } : Jvm.MethodName) prog_1_method_22_code (2 : Nat) (Option.some Jvm.ClassFile.FieldType.int)) ∈ Al := in2 220 rfl rfl
theorem wd2_221 : (Jvm.Cond.methodLink "ShaftPlay" (180 : Nat) ({ cls := "ShaftPlay$Play", name := "beatsTill", desc := "(I)I" } : Jvm.MethodName)) ∈ Al := in2 221 rfl rfl
theorem wd2_222 : (Jvm.Cond.instanceMethod ({ cls := "ShaftPlay$Play", name := "beatsTill", desc := "(I)I" } : Jvm.MethodName)) ∈ Al := in2 222 rfl rfl
theorem wd2_223 : (Jvm.Cond.selects "ShaftPlay$Play" ({ cls := "ShaftPlay$Play", name := "beatsTill", desc := "(I)I" } : Jvm.MethodName) ({ cls := "ShaftPlay$Play", name := "beatsTill", desc := "(I)I" } : Jvm.MethodName)) ∈ Al := in2 223 rfl rfl
theorem wd2_224 : (Jvm.Cond.code ({ cls := "ShaftPlay$Play", name := "beatsTill", desc := "(I)I" } : Jvm.MethodName) prog_3_method_18_code (5 : Nat) (Option.some Jvm.ClassFile.FieldType.int)) ∈ Al := in2 224 rfl rfl
theorem wd2_225 : (Jvm.Cond.methodLink "ShaftPlayLaw" (105 : Nat) ({ cls := "ShaftPlay", name := "at", desc := "(I)I" } : Jvm.MethodName)) ∈ Al := in2 225 rfl rfl
theorem wd2_226 : (Jvm.Cond.instanceMethod ({ cls := "ShaftPlay", name := "at", desc := "(I)I" } : Jvm.MethodName)) ∈ Al := in2 226 rfl rfl
theorem wd2_227 : (Jvm.Cond.selects "ShaftPlay" ({ cls := "ShaftPlay", name := "at", desc := "(I)I" } : Jvm.MethodName) ({ cls := "ShaftPlay", name := "at", desc := "(I)I" } : Jvm.MethodName)) ∈ Al := in2 227 rfl rfl
theorem wd2_228 : (Jvm.Cond.code ({ cls := "ShaftPlay", name := "at", desc := "(I)I" } : Jvm.MethodName) prog_1_method_23_code (2 : Nat) (Option.some Jvm.ClassFile.FieldType.int)) ∈ Al := in2 228 rfl rfl
theorem wd2_229 : (Jvm.Cond.constant "ShaftPlay" (183 : Nat) (99999 : Int32)) ∈ Al := in2 229 rfl rfl
theorem wd2_230 : (Jvm.Cond.methodLink "ShaftPlay" (184 : Nat) ({ cls := "ShaftPlay$Play", name := "angleAfter", desc := "(I)I" } : Jvm.MethodName)) ∈ Al := in2 230 rfl rfl
theorem wd2_231 : (Jvm.Cond.instanceMethod ({ cls := "ShaftPlay$Play", name := "angleAfter", desc := "(I)I" } : Jvm.MethodName)) ∈ Al := in2 231 rfl rfl
theorem wd2_232 : (Jvm.Cond.selects "ShaftPlay$Play" ({ cls := "ShaftPlay$Play", name := "angleAfter", desc := "(I)I" } : Jvm.MethodName) ({ cls := "ShaftPlay$Play", name := "angleAfter", desc := "(I)I" } : Jvm.MethodName)) ∈ Al := in2 232 rfl rfl
theorem wd2_233 : (Jvm.Cond.code ({ cls := "ShaftPlay$Play", name := "angleAfter", desc := "(I)I" } : Jvm.MethodName) prog_3_method_19_code (6 : Nat) (Option.some Jvm.ClassFile.FieldType.int)) ∈ Al := in2 233 rfl rfl
theorem wd2_234 : (Jvm.Cond.methodLink "ShaftPlayLaw" (109 : Nat) ({ cls := "ShaftPlay", name := "hand", desc := "(II)I" } : Jvm.MethodName)) ∈ Al := in2 234 rfl rfl
theorem wd2_235 : (Jvm.Cond.instanceMethod ({ cls := "ShaftPlay", name := "hand", desc := "(II)I" } : Jvm.MethodName)) ∈ Al := in2 235 rfl rfl
theorem wd2_236 : (Jvm.Cond.selects "ShaftPlay" ({ cls := "ShaftPlay", name := "hand", desc := "(II)I" } : Jvm.MethodName) ({ cls := "ShaftPlay", name := "hand", desc := "(II)I" } : Jvm.MethodName)) ∈ Al := in2 236 rfl rfl
theorem wd2_237 : (Jvm.Cond.code ({ cls := "ShaftPlay", name := "hand", desc := "(II)I" } : Jvm.MethodName) prog_1_method_24_code (4 : Nat) (Option.some Jvm.ClassFile.FieldType.int)) ∈ Al := in2 237 rfl rfl
theorem wd2_238 : (Jvm.Cond.methodLink "ShaftPlayLaw" (113 : Nat) ({ cls := "ShaftPlay", name := "whose", desc := "(I)I" } : Jvm.MethodName)) ∈ Al := in2 238 rfl rfl
theorem wd2_239 : (Jvm.Cond.instanceMethod ({ cls := "ShaftPlay", name := "whose", desc := "(I)I" } : Jvm.MethodName)) ∈ Al := in2 239 rfl rfl
theorem wd3_0 : (Jvm.Cond.selects "ShaftPlay" ({ cls := "ShaftPlay", name := "whose", desc := "(I)I" } : Jvm.MethodName) ({ cls := "ShaftPlay", name := "whose", desc := "(I)I" } : Jvm.MethodName)) ∈ Al := in3 0 rfl rfl
theorem wd3_1 : (Jvm.Cond.code ({ cls := "ShaftPlay", name := "whose", desc := "(I)I" } : Jvm.MethodName) prog_1_method_25_code (5 : Nat) (Option.some Jvm.ClassFile.FieldType.int)) ∈ Al := in3 1 rfl rfl
theorem wd3_2 : (Jvm.Cond.methodLink "ShaftPlay" (190 : Nat) ({ cls := "ShaftPlay", name := "stepsIn", desc := "([I)I" } : Jvm.MethodName)) ∈ Al := in3 2 rfl rfl
theorem wd3_3 : (Jvm.Cond.static ({ cls := "ShaftPlay", name := "stepsIn", desc := "([I)I" } : Jvm.MethodName)) ∈ Al := in3 3 rfl rfl
theorem wd3_4 : (Jvm.Cond.code ({ cls := "ShaftPlay", name := "stepsIn", desc := "([I)I" } : Jvm.MethodName) prog_1_method_48_code (3 : Nat) (Option.some Jvm.ClassFile.FieldType.int)) ∈ Al := in3 4 rfl rfl
theorem wd3_5 : (Jvm.Cond.methodLink "ShaftPlay" (268 : Nat) ({ cls := "java/lang/Math", name := "abs", desc := "(I)I" } : Jvm.MethodName)) ∈ Al := in3 5 rfl rfl
theorem wd3_6 : (Jvm.Cond.static ({ cls := "java/lang/Math", name := "abs", desc := "(I)I" } : Jvm.MethodName)) ∈ Al := in3 6 rfl rfl
theorem wd3_7 : (Jvm.Cond.code ({ cls := "java/lang/Math", name := "abs", desc := "(I)I" } : Jvm.MethodName) prog_10_method_59_code (1 : Nat) (Option.some Jvm.ClassFile.FieldType.int)) ∈ Al := in3 7 rfl rfl
theorem wd3_8 : (Jvm.Cond.methodLink "ShaftPlayLaw" (117 : Nat) ({ cls := "ShaftPlay", name := "image", desc := "()I" } : Jvm.MethodName)) ∈ Al := in3 8 rfl rfl
theorem wd3_9 : (Jvm.Cond.instanceMethod ({ cls := "ShaftPlay", name := "image", desc := "()I" } : Jvm.MethodName)) ∈ Al := in3 9 rfl rfl
theorem wd3_10 : (Jvm.Cond.selects "ShaftPlay" ({ cls := "ShaftPlay", name := "image", desc := "()I" } : Jvm.MethodName) ({ cls := "ShaftPlay", name := "image", desc := "()I" } : Jvm.MethodName)) ∈ Al := in3 10 rfl rfl
theorem wd3_11 : (Jvm.Cond.code ({ cls := "ShaftPlay", name := "image", desc := "()I" } : Jvm.MethodName) prog_1_method_26_code (1 : Nat) (Option.some Jvm.ClassFile.FieldType.int)) ∈ Al := in3 11 rfl rfl
theorem wd3_12 : (Jvm.Cond.methodLink "ShaftPlay" (193 : Nat) ({ cls := "ShaftPlay$Play", name := "becomeLike", desc := "(LShaftPlay$Play;)V" } : Jvm.MethodName)) ∈ Al := in3 12 rfl rfl
theorem wd3_13 : (Jvm.Cond.instanceMethod ({ cls := "ShaftPlay$Play", name := "becomeLike", desc := "(LShaftPlay$Play;)V" } : Jvm.MethodName)) ∈ Al := in3 13 rfl rfl
theorem wd3_14 : (Jvm.Cond.selects "ShaftPlay$Play" ({ cls := "ShaftPlay$Play", name := "becomeLike", desc := "(LShaftPlay$Play;)V" } : Jvm.MethodName) ({ cls := "ShaftPlay$Play", name := "becomeLike", desc := "(LShaftPlay$Play;)V" } : Jvm.MethodName)) ∈ Al := in3 14 rfl rfl
theorem wd3_15 : (Jvm.Cond.code ({ cls := "ShaftPlay$Play", name := "becomeLike", desc := "(LShaftPlay$Play;)V" } : Jvm.MethodName) prog_3_method_2_code (3 : Nat) (Option.none : Option Jvm.ClassFile.FieldType)) ∈ Al := in3 15 rfl rfl
theorem wd3_16 : (Jvm.Cond.methodLink "ShaftPlay$Play" (49 : Nat) ({ cls := "ShaftPlay$Figure", name := "becomeLike", desc := "(LShaftPlay$Figure;)V" } : Jvm.MethodName)) ∈ Al := in3 16 rfl rfl
theorem wd3_17 : (Jvm.Cond.instanceMethod ({ cls := "ShaftPlay$Figure", name := "becomeLike", desc := "(LShaftPlay$Figure;)V" } : Jvm.MethodName)) ∈ Al := in3 17 rfl rfl
theorem wd3_18 : (Jvm.Cond.selects "ShaftPlay$Figure" ({ cls := "ShaftPlay$Figure", name := "becomeLike", desc := "(LShaftPlay$Figure;)V" } : Jvm.MethodName) ({ cls := "ShaftPlay$Figure", name := "becomeLike", desc := "(LShaftPlay$Figure;)V" } : Jvm.MethodName)) ∈ Al := in3 18 rfl rfl
theorem wd3_19 : (Jvm.Cond.code ({ cls := "ShaftPlay$Figure", name := "becomeLike", desc := "(LShaftPlay$Figure;)V" } : Jvm.MethodName) prog_2_method_8_code (2 : Nat) (Option.none : Option Jvm.ClassFile.FieldType)) ∈ Al := in3 19 rfl rfl
theorem wd3_20 : (Jvm.Cond.methodLink "ShaftPlayLaw" (121 : Nat) ({ cls := "ShaftPlay", name := "restore", desc := "()I" } : Jvm.MethodName)) ∈ Al := in3 20 rfl rfl
theorem wd3_21 : (Jvm.Cond.instanceMethod ({ cls := "ShaftPlay", name := "restore", desc := "()I" } : Jvm.MethodName)) ∈ Al := in3 21 rfl rfl
theorem wd3_22 : (Jvm.Cond.selects "ShaftPlay" ({ cls := "ShaftPlay", name := "restore", desc := "()I" } : Jvm.MethodName) ({ cls := "ShaftPlay", name := "restore", desc := "()I" } : Jvm.MethodName)) ∈ Al := in3 22 rfl rfl
theorem wd3_23 : (Jvm.Cond.code ({ cls := "ShaftPlay", name := "restore", desc := "()I" } : Jvm.MethodName) prog_1_method_27_code (1 : Nat) (Option.some Jvm.ClassFile.FieldType.int)) ∈ Al := in3 23 rfl rfl
theorem wd3_24 : (Jvm.Cond.methodLink "ShaftPlayLaw" (125 : Nat) ({ cls := "ShaftPlay", name := "worn", desc := "(IIII)I" } : Jvm.MethodName)) ∈ Al := in3 24 rfl rfl
theorem wd3_25 : (Jvm.Cond.instanceMethod ({ cls := "ShaftPlay", name := "worn", desc := "(IIII)I" } : Jvm.MethodName)) ∈ Al := in3 25 rfl rfl
theorem wd3_26 : (Jvm.Cond.selects "ShaftPlay" ({ cls := "ShaftPlay", name := "worn", desc := "(IIII)I" } : Jvm.MethodName) ({ cls := "ShaftPlay", name := "worn", desc := "(IIII)I" } : Jvm.MethodName)) ∈ Al := in3 26 rfl rfl
theorem wd3_27 : (Jvm.Cond.code ({ cls := "ShaftPlay", name := "worn", desc := "(IIII)I" } : Jvm.MethodName) prog_1_method_28_code (9 : Nat) (Option.some Jvm.ClassFile.FieldType.int)) ∈ Al := in3 27 rfl rfl
theorem wd3_28 : (Jvm.Cond.methodLink "ShaftPlay" (201 : Nat) ({ cls := "ShaftPlay", name := "refusalOf", desc := "(IIII)I" } : Jvm.MethodName)) ∈ Al := in3 28 rfl rfl
theorem wd3_30 : (Jvm.Cond.instanceMethod ({ cls := "ShaftPlay", name := "refusalOf", desc := "(IIII)I" } : Jvm.MethodName)) ∈ Al := in3 30 rfl rfl
theorem wd3_31 : (Jvm.Cond.code ({ cls := "ShaftPlay", name := "refusalOf", desc := "(IIII)I" } : Jvm.MethodName) prog_1_method_43_code (5 : Nat) (Option.some Jvm.ClassFile.FieldType.int)) ∈ Al := in3 31 rfl rfl
theorem wd3_32 : (Jvm.Cond.methodLink "ShaftPlay" (216 : Nat) ({ cls := "ShaftPlay", name := "isSheet", desc := "(I)Z" } : Jvm.MethodName)) ∈ Al := in3 32 rfl rfl
theorem wd3_33 : (Jvm.Cond.static ({ cls := "ShaftPlay", name := "isSheet", desc := "(I)Z" } : Jvm.MethodName)) ∈ Al := in3 33 rfl rfl
theorem wd3_34 : (Jvm.Cond.code ({ cls := "ShaftPlay", name := "isSheet", desc := "(I)Z" } : Jvm.MethodName) prog_1_method_38_code (1 : Nat) (Option.some Jvm.ClassFile.FieldType.boolean)) ∈ Al := in3 34 rfl rfl
theorem wd3_35 : (Jvm.Cond.methodLink "ShaftPlay" (219 : Nat) ({ cls := "ShaftPlay", name := "isLane", desc := "(I)Z" } : Jvm.MethodName)) ∈ Al := in3 35 rfl rfl
theorem wd3_36 : (Jvm.Cond.static ({ cls := "ShaftPlay", name := "isLane", desc := "(I)Z" } : Jvm.MethodName)) ∈ Al := in3 36 rfl rfl
theorem wd3_37 : (Jvm.Cond.code ({ cls := "ShaftPlay", name := "isLane", desc := "(I)Z" } : Jvm.MethodName) prog_1_method_39_code (1 : Nat) (Option.some Jvm.ClassFile.FieldType.boolean)) ∈ Al := in3 37 rfl rfl
theorem wd3_38 : (Jvm.Cond.methodLink "ShaftPlay" (226 : Nat) ({ cls := "ShaftPlay$Sheet", name := "isNothing", desc := "()Z" } : Jvm.MethodName)) ∈ Al := in3 38 rfl rfl
theorem wd3_39 : (Jvm.Cond.instanceMethod ({ cls := "ShaftPlay$Sheet", name := "isNothing", desc := "()Z" } : Jvm.MethodName)) ∈ Al := in3 39 rfl rfl
theorem wd3_40 : (Jvm.Cond.selects "ShaftPlay$Sheet" ({ cls := "ShaftPlay$Sheet", name := "isNothing", desc := "()Z" } : Jvm.MethodName) ({ cls := "ShaftPlay$Sheet", name := "isNothing", desc := "()Z" } : Jvm.MethodName)) ∈ Al := in3 40 rfl rfl
theorem wd3_41 : (Jvm.Cond.code ({ cls := "ShaftPlay$Sheet", name := "isNothing", desc := "()Z" } : Jvm.MethodName) prog_5_method_2_code (1 : Nat) (Option.some Jvm.ClassFile.FieldType.boolean)) ∈ Al := in3 41 rfl rfl
theorem wd3_42 : (Jvm.Cond.methodLink "ShaftPlay" (236 : Nat) ({ cls := "ShaftPlay$Sheet", name := "hasItems", desc := "(II)Z" } : Jvm.MethodName)) ∈ Al := in3 42 rfl rfl
theorem wd3_43 : (Jvm.Cond.instanceMethod ({ cls := "ShaftPlay$Sheet", name := "hasItems", desc := "(II)Z" } : Jvm.MethodName)) ∈ Al := in3 43 rfl rfl
theorem wd3_44 : (Jvm.Cond.selects "ShaftPlay$Sheet" ({ cls := "ShaftPlay$Sheet", name := "hasItems", desc := "(II)Z" } : Jvm.MethodName) ({ cls := "ShaftPlay$Sheet", name := "hasItems", desc := "(II)Z" } : Jvm.MethodName)) ∈ Al := in3 44 rfl rfl
theorem wd3_45 : (Jvm.Cond.code ({ cls := "ShaftPlay$Sheet", name := "hasItems", desc := "(II)Z" } : Jvm.MethodName) prog_5_method_5_code (3 : Nat) (Option.some Jvm.ClassFile.FieldType.boolean)) ∈ Al := in3 45 rfl rfl
theorem wd3_46 : (Jvm.Cond.methodLink "ShaftPlay" (204 : Nat) ({ cls := "ShaftPlay", name := "isSo", desc := "(LShaftPlay$Sheet;II)Z" } : Jvm.MethodName)) ∈ Al := in3 46 rfl rfl
theorem wd3_48 : (Jvm.Cond.instanceMethod ({ cls := "ShaftPlay", name := "isSo", desc := "(LShaftPlay$Sheet;II)Z" } : Jvm.MethodName)) ∈ Al := in3 48 rfl rfl
theorem wd3_49 : (Jvm.Cond.code ({ cls := "ShaftPlay", name := "isSo", desc := "(LShaftPlay$Sheet;II)Z" } : Jvm.MethodName) prog_1_method_52_code (7 : Nat) (Option.some Jvm.ClassFile.FieldType.boolean)) ∈ Al := in3 49 rfl rfl
theorem wd3_50 : (Jvm.Cond.methodLink "ShaftPlay" (282 : Nat) ({ cls := "ShaftPlay$Play", name := "upsOn", desc := "([ILShaftPlay$Figure;)I" } : Jvm.MethodName)) ∈ Al := in3 50 rfl rfl
theorem wd3_51 : (Jvm.Cond.methodLink "ShaftPlay" (208 : Nat) ({ cls := "ShaftPlay", name := "lessenInto", desc := "([I[II)V" } : Jvm.MethodName)) ∈ Al := in3 51 rfl rfl
theorem wd3_52 : (Jvm.Cond.static ({ cls := "ShaftPlay", name := "lessenInto", desc := "([I[II)V" } : Jvm.MethodName)) ∈ Al := in3 52 rfl rfl
theorem wd3_53 : (Jvm.Cond.code ({ cls := "ShaftPlay", name := "lessenInto", desc := "([I[II)V" } : Jvm.MethodName) prog_1_method_49_code (4 : Nat) (Option.none : Option Jvm.ClassFile.FieldType)) ∈ Al := in3 53 rfl rfl
theorem wd3_54 : (Jvm.Cond.methodLink "ShaftPlayLaw" (129 : Nat) ({ cls := "ShaftPlay", name := "film", desc := "(IIII)I" } : Jvm.MethodName)) ∈ Al := in3 54 rfl rfl
theorem wd3_55 : (Jvm.Cond.instanceMethod ({ cls := "ShaftPlay", name := "film", desc := "(IIII)I" } : Jvm.MethodName)) ∈ Al := in3 55 rfl rfl
theorem wd3_56 : (Jvm.Cond.selects "ShaftPlay" ({ cls := "ShaftPlay", name := "film", desc := "(IIII)I" } : Jvm.MethodName) ({ cls := "ShaftPlay", name := "film", desc := "(IIII)I" } : Jvm.MethodName)) ∈ Al := in3 56 rfl rfl
theorem wd3_57 : (Jvm.Cond.code ({ cls := "ShaftPlay", name := "film", desc := "(IIII)I" } : Jvm.MethodName) prog_1_method_29_code (8 : Nat) (Option.some Jvm.ClassFile.FieldType.int)) ∈ Al := in3 57 rfl rfl
theorem wd3_58 : (Jvm.Cond.methodLink "ShaftPlay" (212 : Nat) ({ cls := "ShaftPlay$Sheet", name := "put", desc := "(IJ)V" } : Jvm.MethodName)) ∈ Al := in3 58 rfl rfl
theorem wd3_59 : (Jvm.Cond.instanceMethod ({ cls := "ShaftPlay$Sheet", name := "put", desc := "(IJ)V" } : Jvm.MethodName)) ∈ Al := in3 59 rfl rfl
theorem wd3_60 : (Jvm.Cond.selects "ShaftPlay$Sheet" ({ cls := "ShaftPlay$Sheet", name := "put", desc := "(IJ)V" } : Jvm.MethodName) ({ cls := "ShaftPlay$Sheet", name := "put", desc := "(IJ)V" } : Jvm.MethodName)) ∈ Al := in3 60 rfl rfl
theorem wd3_61 : (Jvm.Cond.code ({ cls := "ShaftPlay$Sheet", name := "put", desc := "(IJ)V" } : Jvm.MethodName) prog_5_method_6_code (4 : Nat) (Option.none : Option Jvm.ClassFile.FieldType)) ∈ Al := in3 61 rfl rfl
theorem wd3_62 : (Jvm.Cond.methodLink "ShaftPlayLaw" (133 : Nat) ({ cls := "ShaftPlay", name := "sheet", desc := "(III)I" } : Jvm.MethodName)) ∈ Al := in3 62 rfl rfl
theorem wd3_63 : (Jvm.Cond.instanceMethod ({ cls := "ShaftPlay", name := "sheet", desc := "(III)I" } : Jvm.MethodName)) ∈ Al := in3 63 rfl rfl
theorem wd3_64 : (Jvm.Cond.selects "ShaftPlay" ({ cls := "ShaftPlay", name := "sheet", desc := "(III)I" } : Jvm.MethodName) ({ cls := "ShaftPlay", name := "sheet", desc := "(III)I" } : Jvm.MethodName)) ∈ Al := in3 64 rfl rfl
theorem wd3_65 : (Jvm.Cond.code ({ cls := "ShaftPlay", name := "sheet", desc := "(III)I" } : Jvm.MethodName) prog_1_method_30_code (4 : Nat) (Option.some Jvm.ClassFile.FieldType.int)) ∈ Al := in3 65 rfl rfl
theorem wd3_66 : (Jvm.Cond.methodLink "ShaftPlay" (222 : Nat) ({ cls := "ShaftPlay$Sheet", name := "begin", desc := "(II)V" } : Jvm.MethodName)) ∈ Al := in3 66 rfl rfl
theorem wd3_67 : (Jvm.Cond.instanceMethod ({ cls := "ShaftPlay$Sheet", name := "begin", desc := "(II)V" } : Jvm.MethodName)) ∈ Al := in3 67 rfl rfl
theorem wd3_68 : (Jvm.Cond.selects "ShaftPlay$Sheet" ({ cls := "ShaftPlay$Sheet", name := "begin", desc := "(II)V" } : Jvm.MethodName) ({ cls := "ShaftPlay$Sheet", name := "begin", desc := "(II)V" } : Jvm.MethodName)) ∈ Al := in3 68 rfl rfl
theorem wd3_69 : (Jvm.Cond.code ({ cls := "ShaftPlay$Sheet", name := "begin", desc := "(II)V" } : Jvm.MethodName) prog_5_method_3_code (3 : Nat) (Option.none : Option Jvm.ClassFile.FieldType)) ∈ Al := in3 69 rfl rfl
theorem wd3_70 : (Jvm.Cond.methodLink "ShaftPlay$Sheet" (22 : Nat) ({ cls := "java/util/Arrays", name := "fill", desc := "([JJ)V" } : Jvm.MethodName)) ∈ Al := in3 70 rfl rfl
theorem wd3_71 : (Jvm.Cond.static ({ cls := "java/util/Arrays", name := "fill", desc := "([JJ)V" } : Jvm.MethodName)) ∈ Al := in3 71 rfl rfl
theorem wd3_72 : (Jvm.Cond.code ({ cls := "java/util/Arrays", name := "fill", desc := "([JJ)V" } : Jvm.MethodName) prog_12_method_101_code (5 : Nat) (Option.none : Option Jvm.ClassFile.FieldType)) ∈ Al := in3 72 rfl rfl
theorem wd3_73 : (Jvm.Cond.methodLink "ShaftPlayLaw" (137 : Nat) ({ cls := "ShaftPlay", name := "drop", desc := "(I)I" } : Jvm.MethodName)) ∈ Al := in3 73 rfl rfl
theorem wd3_74 : (Jvm.Cond.instanceMethod ({ cls := "ShaftPlay", name := "drop", desc := "(I)I" } : Jvm.MethodName)) ∈ Al := in3 74 rfl rfl
theorem wd3_75 : (Jvm.Cond.selects "ShaftPlay" ({ cls := "ShaftPlay", name := "drop", desc := "(I)I" } : Jvm.MethodName) ({ cls := "ShaftPlay", name := "drop", desc := "(I)I" } : Jvm.MethodName)) ∈ Al := in3 75 rfl rfl
theorem wd3_76 : (Jvm.Cond.code ({ cls := "ShaftPlay", name := "drop", desc := "(I)I" } : Jvm.MethodName) prog_1_method_31_code (2 : Nat) (Option.some Jvm.ClassFile.FieldType.int)) ∈ Al := in3 76 rfl rfl
theorem wd3_77 : (Jvm.Cond.methodLink "ShaftPlay" (230 : Nat) ({ cls := "ShaftPlay$Sheet", name := "end", desc := "()I" } : Jvm.MethodName)) ∈ Al := in3 77 rfl rfl
theorem wd3_78 : (Jvm.Cond.instanceMethod ({ cls := "ShaftPlay$Sheet", name := "end", desc := "()I" } : Jvm.MethodName)) ∈ Al := in3 78 rfl rfl
theorem wd3_79 : (Jvm.Cond.selects "ShaftPlay$Sheet" ({ cls := "ShaftPlay$Sheet", name := "end", desc := "()I" } : Jvm.MethodName) ({ cls := "ShaftPlay$Sheet", name := "end", desc := "()I" } : Jvm.MethodName)) ∈ Al := in3 79 rfl rfl
theorem wd3_80 : (Jvm.Cond.code ({ cls := "ShaftPlay$Sheet", name := "end", desc := "()I" } : Jvm.MethodName) prog_5_method_4_code (1 : Nat) (Option.some Jvm.ClassFile.FieldType.int)) ∈ Al := in3 80 rfl rfl
theorem wd3_81 : (Jvm.Cond.methodLink "ShaftPlayLaw" (141 : Nat) ({ cls := "ShaftPlay", name := "item", desc := "(IIIJ)I" } : Jvm.MethodName)) ∈ Al := in3 81 rfl rfl
theorem wd3_82 : (Jvm.Cond.instanceMethod ({ cls := "ShaftPlay", name := "item", desc := "(IIIJ)I" } : Jvm.MethodName)) ∈ Al := in3 82 rfl rfl
theorem wd3_83 : (Jvm.Cond.selects "ShaftPlay" ({ cls := "ShaftPlay", name := "item", desc := "(IIIJ)I" } : Jvm.MethodName) ({ cls := "ShaftPlay", name := "item", desc := "(IIIJ)I" } : Jvm.MethodName)) ∈ Al := in3 83 rfl rfl
theorem wd3_84 : (Jvm.Cond.code ({ cls := "ShaftPlay", name := "item", desc := "(IIIJ)I" } : Jvm.MethodName) prog_1_method_32_code (7 : Nat) (Option.some Jvm.ClassFile.FieldType.int)) ∈ Al := in3 84 rfl rfl
theorem wd3_85 : (Jvm.Cond.methodLink "ShaftPlayLaw" (146 : Nat) ({ cls := "ShaftPlay", name := "copy", desc := "(IIIII)I" } : Jvm.MethodName)) ∈ Al := in3 85 rfl rfl
theorem wd3_86 : (Jvm.Cond.instanceMethod ({ cls := "ShaftPlay", name := "copy", desc := "(IIIII)I" } : Jvm.MethodName)) ∈ Al := in3 86 rfl rfl
theorem wd3_87 : (Jvm.Cond.selects "ShaftPlay" ({ cls := "ShaftPlay", name := "copy", desc := "(IIIII)I" } : Jvm.MethodName) ({ cls := "ShaftPlay", name := "copy", desc := "(IIIII)I" } : Jvm.MethodName)) ∈ Al := in3 87 rfl rfl
theorem wd3_88 : (Jvm.Cond.code ({ cls := "ShaftPlay", name := "copy", desc := "(IIIII)I" } : Jvm.MethodName) prog_1_method_33_code (8 : Nat) (Option.some Jvm.ClassFile.FieldType.int)) ∈ Al := in3 88 rfl rfl
theorem wd3_89 : (Jvm.Cond.methodLink "ShaftPlay" (244 : Nat) ({ cls := "java/lang/System", name := "arraycopy", desc := "(Ljava/lang/Object;ILjava/lang/Object;II)V" } : Jvm.MethodName)) ∈ Al := in3 89 rfl rfl
theorem wd3_90 : (Jvm.Cond.classLink "ShaftPlayLaw" (10 : Nat) "ShaftPlayModel") ∈ Al := in3 90 rfl rfl
theorem wd3_91 : (Jvm.Cond.instantiable "ShaftPlayModel" (15 : Nat)) ∈ Al := in3 91 rfl rfl
theorem wd3_92 : (Jvm.Cond.methodLink "ShaftPlayLaw" (12 : Nat) ({ cls := "ShaftPlayModel", name := "<init>", desc := "()V" } : Jvm.MethodName)) ∈ Al := in3 92 rfl rfl
theorem wd3_93 : (Jvm.Cond.instanceMethod ({ cls := "ShaftPlayModel", name := "<init>", desc := "()V" } : Jvm.MethodName)) ∈ Al := in3 93 rfl rfl
theorem wd3_94 : (Jvm.Cond.code ({ cls := "ShaftPlayModel", name := "<init>", desc := "()V" } : Jvm.MethodName) prog_8_method_1_code (2 : Nat) (Option.none : Option Jvm.ClassFile.FieldType)) ∈ Al := in3 94 rfl rfl
theorem wd3_95 : (Jvm.Cond.methodLink "ShaftPlayModel" (1 : Nat) ({ cls := "java/lang/Object", name := "<init>", desc := "()V" } : Jvm.MethodName)) ∈ Al := in3 95 rfl rfl
theorem wd3_96 : (Jvm.Cond.fieldLink "ShaftPlayModel" (7 : Nat) "ShaftPlayModel" "w" "[I") ∈ Al := in3 96 rfl rfl
theorem wd3_97 : (Jvm.Cond.fieldLink "ShaftPlayModel" (145 : Nat) "ShaftPlayModel" "isKept" "Z") ∈ Al := in3 97 rfl rfl
theorem wd3_98 : (Jvm.Cond.fieldLink "ShaftPlayModel" (13 : Nat) "ShaftPlayModel" "tape" "[I") ∈ Al := in3 98 rfl rfl
theorem wd3_99 : (Jvm.Cond.fieldLink "ShaftPlayModel" (64 : Nat) "ShaftPlayModel" "taped" "I") ∈ Al := in3 99 rfl rfl
theorem wd3_100 : (Jvm.Cond.fieldLink "ShaftPlayModel" (16 : Nat) "ShaftPlayModel" "signs" "[I") ∈ Al := in3 100 rfl rfl
theorem wd3_101 : (Jvm.Cond.fieldLink "ShaftPlayModel" (19 : Nat) "ShaftPlayModel" "hairs" "[I") ∈ Al := in3 101 rfl rfl
theorem wd3_102 : (Jvm.Cond.fieldLink "ShaftPlayModel" (22 : Nat) "ShaftPlayModel" "first" "[I") ∈ Al := in3 102 rfl rfl
theorem wd3_103 : (Jvm.Cond.fieldLink "ShaftPlayModel" (25 : Nat) "ShaftPlayModel" "cams" "[I") ∈ Al := in3 103 rfl rfl
theorem wd3_104 : (Jvm.Cond.fieldLink "ShaftPlayModel" (28 : Nat) "ShaftPlayModel" "lags" "[I") ∈ Al := in3 104 rfl rfl
theorem wd3_105 : (Jvm.Cond.fieldLink "ShaftPlayModel" (31 : Nat) "ShaftPlayModel" "asksUp" "[I") ∈ Al := in3 105 rfl rfl
theorem wd3_106 : (Jvm.Cond.fieldLink "ShaftPlayModel" (34 : Nat) "ShaftPlayModel" "asksDown" "[I") ∈ Al := in3 106 rfl rfl
theorem wd3_107 : (Jvm.Cond.fieldLink "ShaftPlayModel" (37 : Nat) "ShaftPlayModel" "lanes" "[I") ∈ Al := in3 107 rfl rfl
theorem wd3_108 : (Jvm.Cond.fieldLink "ShaftPlayModel" (40 : Nat) "ShaftPlayModel" "sizes" "[I") ∈ Al := in3 108 rfl rfl
theorem wd3_109 : (Jvm.Cond.fieldLink "ShaftPlayModel" (43 : Nat) "ShaftPlayModel" "items" "[J") ∈ Al := in3 109 rfl rfl
theorem wd3_110 : (Jvm.Cond.fieldLink "ShaftPlayModel" (47 : Nat) "ShaftPlayModel" "taken" "[J") ∈ Al := in3 110 rfl rfl
theorem wd3_111 : (Jvm.Cond.laysFinal "ShaftPlayModel" "ShaftPlayModel" "w" "[I") ∈ Al := in3 111 rfl rfl
theorem wd3_113 : (Jvm.Cond.lays "ShaftPlayModel" "ShaftPlayModel" "isKept" "Z") ∈ Al := in3 113 rfl rfl
theorem wd3_115 : (Jvm.Cond.laysFinal "ShaftPlayModel" "ShaftPlayModel" "tape" "[I") ∈ Al := in3 115 rfl rfl
theorem wd3_117 : (Jvm.Cond.lays "ShaftPlayModel" "ShaftPlayModel" "taped" "I") ∈ Al := in3 117 rfl rfl
theorem wd3_119 : (Jvm.Cond.laysFinal "ShaftPlayModel" "ShaftPlayModel" "signs" "[I") ∈ Al := in3 119 rfl rfl
theorem wd3_121 : (Jvm.Cond.laysFinal "ShaftPlayModel" "ShaftPlayModel" "hairs" "[I") ∈ Al := in3 121 rfl rfl
theorem wd3_123 : (Jvm.Cond.laysFinal "ShaftPlayModel" "ShaftPlayModel" "first" "[I") ∈ Al := in3 123 rfl rfl
theorem wd3_125 : (Jvm.Cond.laysFinal "ShaftPlayModel" "ShaftPlayModel" "cams" "[I") ∈ Al := in3 125 rfl rfl
theorem wd3_127 : (Jvm.Cond.laysFinal "ShaftPlayModel" "ShaftPlayModel" "lags" "[I") ∈ Al := in3 127 rfl rfl
theorem wd3_129 : (Jvm.Cond.laysFinal "ShaftPlayModel" "ShaftPlayModel" "asksUp" "[I") ∈ Al := in3 129 rfl rfl
theorem wd3_131 : (Jvm.Cond.laysFinal "ShaftPlayModel" "ShaftPlayModel" "asksDown" "[I") ∈ Al := in3 131 rfl rfl
theorem wd3_133 : (Jvm.Cond.laysFinal "ShaftPlayModel" "ShaftPlayModel" "lanes" "[I") ∈ Al := in3 133 rfl rfl
theorem wd3_135 : (Jvm.Cond.laysFinal "ShaftPlayModel" "ShaftPlayModel" "sizes" "[I") ∈ Al := in3 135 rfl rfl
theorem wd3_137 : (Jvm.Cond.laysFinal "ShaftPlayModel" "ShaftPlayModel" "items" "[J") ∈ Al := in3 137 rfl rfl
theorem wd3_139 : (Jvm.Cond.laysFinal "ShaftPlayModel" "ShaftPlayModel" "taken" "[J") ∈ Al := in3 139 rfl rfl
theorem wd3_142 : (Jvm.Cond.methodLink "ShaftPlayLaw" (19 : Nat) ({ cls := "ShaftPlayModel", name := "type", desc := "(JI)I" } : Jvm.MethodName)) ∈ Al := in3 142 rfl rfl
theorem wd3_143 : (Jvm.Cond.instanceMethod ({ cls := "ShaftPlayModel", name := "type", desc := "(JI)I" } : Jvm.MethodName)) ∈ Al := in3 143 rfl rfl
theorem wd3_144 : (Jvm.Cond.selects "ShaftPlayModel" ({ cls := "ShaftPlayModel", name := "type", desc := "(JI)I" } : Jvm.MethodName) ({ cls := "ShaftPlayModel", name := "type", desc := "(JI)I" } : Jvm.MethodName)) ∈ Al := in3 144 rfl rfl
theorem wd3_145 : (Jvm.Cond.code ({ cls := "ShaftPlayModel", name := "type", desc := "(JI)I" } : Jvm.MethodName) prog_8_method_9_code (5 : Nat) (Option.some Jvm.ClassFile.FieldType.int)) ∈ Al := in3 145 rfl rfl
theorem wd3_146 : (Jvm.Cond.constantLong "ShaftPlayModel" (56 : Nat) (8 : Int64)) ∈ Al := in3 146 rfl rfl
theorem wd3_147 : (Jvm.Cond.methodLink "ShaftPlayModel" (52 : Nat) ({ cls := "ShaftPlayModel", name := "in", desc := "(JJJ)Z" } : Jvm.MethodName)) ∈ Al := in3 147 rfl rfl
theorem wd3_148 : (Jvm.Cond.static ({ cls := "ShaftPlayModel", name := "in", desc := "(JJJ)Z" } : Jvm.MethodName)) ∈ Al := in3 148 rfl rfl
theorem wd3_149 : (Jvm.Cond.code ({ cls := "ShaftPlayModel", name := "in", desc := "(JJJ)Z" } : Jvm.MethodName) prog_8_method_3_code (6 : Nat) (Option.some Jvm.ClassFile.FieldType.boolean)) ∈ Al := in3 149 rfl rfl
theorem wd3_150 : (Jvm.Cond.constantLong "ShaftPlayModel" (58 : Nat) (255 : Int64)) ∈ Al := in3 150 rfl rfl
theorem wd3_151 : (Jvm.Cond.constantLong "ShaftPlayModel" (60 : Nat) (32 : Int64)) ∈ Al := in3 151 rfl rfl
theorem wd3_152 : (Jvm.Cond.constantLong "ShaftPlayModel" (62 : Nat) (126 : Int64)) ∈ Al := in3 152 rfl rfl
theorem wd3_153 : (Jvm.Cond.methodLink "ShaftPlayLaw" (24 : Nat) ({ cls := "ShaftPlayModel", name := "cam", desc := "()I" } : Jvm.MethodName)) ∈ Al := in3 153 rfl rfl
theorem wd3_154 : (Jvm.Cond.instanceMethod ({ cls := "ShaftPlayModel", name := "cam", desc := "()I" } : Jvm.MethodName)) ∈ Al := in3 154 rfl rfl
theorem wd3_155 : (Jvm.Cond.selects "ShaftPlayModel" ({ cls := "ShaftPlayModel", name := "cam", desc := "()I" } : Jvm.MethodName) ({ cls := "ShaftPlayModel", name := "cam", desc := "()I" } : Jvm.MethodName)) ∈ Al := in3 155 rfl rfl
theorem wd3_156 : (Jvm.Cond.code ({ cls := "ShaftPlayModel", name := "cam", desc := "()I" } : Jvm.MethodName) prog_8_method_12_code (4 : Nat) (Option.some Jvm.ClassFile.FieldType.int)) ∈ Al := in3 156 rfl rfl
theorem wd3_157 : (Jvm.Cond.methodLink "ShaftPlayModel" (76 : Nat) ({ cls := "ShaftPlayModel", name := "takeSigns", desc := "(Z)I" } : Jvm.MethodName)) ∈ Al := in3 157 rfl rfl
theorem wd3_159 : (Jvm.Cond.instanceMethod ({ cls := "ShaftPlayModel", name := "takeSigns", desc := "(Z)I" } : Jvm.MethodName)) ∈ Al := in3 159 rfl rfl
theorem wd3_160 : (Jvm.Cond.code ({ cls := "ShaftPlayModel", name := "takeSigns", desc := "(Z)I" } : Jvm.MethodName) prog_8_method_11_code (5 : Nat) (Option.some Jvm.ClassFile.FieldType.int)) ∈ Al := in3 160 rfl rfl
theorem wd3_161 : (Jvm.Cond.methodLink "ShaftPlayModel" (72 : Nat) ({ cls := "ShaftPlayModel", name := "isSign", desc := "(IZ)Z" } : Jvm.MethodName)) ∈ Al := in3 161 rfl rfl
theorem wd3_162 : (Jvm.Cond.static ({ cls := "ShaftPlayModel", name := "isSign", desc := "(IZ)Z" } : Jvm.MethodName)) ∈ Al := in3 162 rfl rfl
theorem wd3_163 : (Jvm.Cond.code ({ cls := "ShaftPlayModel", name := "isSign", desc := "(IZ)Z" } : Jvm.MethodName) prog_8_method_10_code (2 : Nat) (Option.some Jvm.ClassFile.FieldType.boolean)) ∈ Al := in3 163 rfl rfl
theorem wd3_164 : (Jvm.Cond.constantLong "ShaftPlayModel" (68 : Nat) (48 : Int64)) ∈ Al := in3 164 rfl rfl
theorem wd3_165 : (Jvm.Cond.constantLong "ShaftPlayModel" (70 : Nat) (57 : Int64)) ∈ Al := in3 165 rfl rfl
theorem wd3_166 : (Jvm.Cond.methodLink "ShaftPlayLaw" (29 : Nat) ({ cls := "ShaftPlayModel", name := "cut", desc := "(III)I" } : Jvm.MethodName)) ∈ Al := in3 166 rfl rfl
theorem wd3_167 : (Jvm.Cond.instanceMethod ({ cls := "ShaftPlayModel", name := "cut", desc := "(III)I" } : Jvm.MethodName)) ∈ Al := in3 167 rfl rfl
theorem wd3_168 : (Jvm.Cond.selects "ShaftPlayModel" ({ cls := "ShaftPlayModel", name := "cut", desc := "(III)I" } : Jvm.MethodName) ({ cls := "ShaftPlayModel", name := "cut", desc := "(III)I" } : Jvm.MethodName)) ∈ Al := in3 168 rfl rfl
theorem wd3_169 : (Jvm.Cond.code ({ cls := "ShaftPlayModel", name := "cut", desc := "(III)I" } : Jvm.MethodName) prog_8_method_13_code (6 : Nat) (Option.some Jvm.ClassFile.FieldType.int)) ∈ Al := in3 169 rfl rfl
theorem wd3_170 : (Jvm.Cond.methodLink "ShaftPlayModel" (80 : Nat) ({ cls := "ShaftPlayModel", name := "isCam", desc := "(I)Z" } : Jvm.MethodName)) ∈ Al := in3 170 rfl rfl
theorem wd3_172 : (Jvm.Cond.instanceMethod ({ cls := "ShaftPlayModel", name := "isCam", desc := "(I)Z" } : Jvm.MethodName)) ∈ Al := in3 172 rfl rfl
theorem wd3_173 : (Jvm.Cond.code ({ cls := "ShaftPlayModel", name := "isCam", desc := "(I)Z" } : Jvm.MethodName) prog_8_method_7_code (2 : Nat) (Option.some Jvm.ClassFile.FieldType.boolean)) ∈ Al := in3 173 rfl rfl
theorem wd3_174 : (Jvm.Cond.methodLink "ShaftPlayModel" (84 : Nat) ({ cls := "ShaftPlayModel", name := "isAngle", desc := "(I)Z" } : Jvm.MethodName)) ∈ Al := in3 174 rfl rfl
theorem wd3_175 : (Jvm.Cond.static ({ cls := "ShaftPlayModel", name := "isAngle", desc := "(I)Z" } : Jvm.MethodName)) ∈ Al := in3 175 rfl rfl
theorem wd3_176 : (Jvm.Cond.code ({ cls := "ShaftPlayModel", name := "isAngle", desc := "(I)Z" } : Jvm.MethodName) prog_8_method_6_code (1 : Nat) (Option.some Jvm.ClassFile.FieldType.boolean)) ∈ Al := in3 176 rfl rfl
theorem wd3_177 : (Jvm.Cond.constantLong "ShaftPlayModel" (50 : Nat) (11 : Int64)) ∈ Al := in3 177 rfl rfl
theorem wd3_178 : (Jvm.Cond.constantLong "ShaftPlayModel" (87 : Nat) (9 : Int64)) ∈ Al := in3 178 rfl rfl
theorem wd3_179 : (Jvm.Cond.methodLink "ShaftPlayLaw" (34 : Nat) ({ cls := "ShaftPlayModel", name := "told", desc := "(II)I" } : Jvm.MethodName)) ∈ Al := in3 179 rfl rfl
theorem wd3_180 : (Jvm.Cond.instanceMethod ({ cls := "ShaftPlayModel", name := "told", desc := "(II)I" } : Jvm.MethodName)) ∈ Al := in3 180 rfl rfl
theorem wd3_181 : (Jvm.Cond.selects "ShaftPlayModel" ({ cls := "ShaftPlayModel", name := "told", desc := "(II)I" } : Jvm.MethodName) ({ cls := "ShaftPlayModel", name := "told", desc := "(II)I" } : Jvm.MethodName)) ∈ Al := in3 181 rfl rfl
theorem wd3_182 : (Jvm.Cond.code ({ cls := "ShaftPlayModel", name := "told", desc := "(II)I" } : Jvm.MethodName) prog_8_method_14_code (3 : Nat) (Option.some Jvm.ClassFile.FieldType.int)) ∈ Al := in3 182 rfl rfl
theorem wd3_183 : (Jvm.Cond.methodLink "ShaftPlayLaw" (39 : Nat) ({ cls := "ShaftPlayModel", name := "figure", desc := "(IIII)I" } : Jvm.MethodName)) ∈ Al := in3 183 rfl rfl
theorem wd3_184 : (Jvm.Cond.instanceMethod ({ cls := "ShaftPlayModel", name := "figure", desc := "(IIII)I" } : Jvm.MethodName)) ∈ Al := in3 184 rfl rfl
theorem wd3_185 : (Jvm.Cond.selects "ShaftPlayModel" ({ cls := "ShaftPlayModel", name := "figure", desc := "(IIII)I" } : Jvm.MethodName) ({ cls := "ShaftPlayModel", name := "figure", desc := "(IIII)I" } : Jvm.MethodName)) ∈ Al := in3 185 rfl rfl
theorem wd3_186 : (Jvm.Cond.code ({ cls := "ShaftPlayModel", name := "figure", desc := "(IIII)I" } : Jvm.MethodName) prog_8_method_16_code (6 : Nat) (Option.some Jvm.ClassFile.FieldType.int)) ∈ Al := in3 186 rfl rfl
theorem wd3_187 : (Jvm.Cond.methodLink "ShaftPlayModel" (91 : Nat) ({ cls := "ShaftPlayModel", name := "isGood", desc := "(II)Z" } : Jvm.MethodName)) ∈ Al := in3 187 rfl rfl
theorem wd3_189 : (Jvm.Cond.instanceMethod ({ cls := "ShaftPlayModel", name := "isGood", desc := "(II)Z" } : Jvm.MethodName)) ∈ Al := in3 189 rfl rfl
theorem wd3_190 : (Jvm.Cond.code ({ cls := "ShaftPlayModel", name := "isGood", desc := "(II)Z" } : Jvm.MethodName) prog_8_method_15_code (3 : Nat) (Option.some Jvm.ClassFile.FieldType.boolean)) ∈ Al := in3 190 rfl rfl
theorem wd3_191 : (Jvm.Cond.constantLong "ShaftPlayModel" (89 : Nat) (3 : Int64)) ∈ Al := in3 191 rfl rfl
theorem wd3_192 : (Jvm.Cond.methodLink "ShaftPlayLaw" (43 : Nat) ({ cls := "ShaftPlayModel", name := "set", desc := "(III)I" } : Jvm.MethodName)) ∈ Al := in3 192 rfl rfl
theorem wd3_193 : (Jvm.Cond.instanceMethod ({ cls := "ShaftPlayModel", name := "set", desc := "(III)I" } : Jvm.MethodName)) ∈ Al := in3 193 rfl rfl
theorem wd3_194 : (Jvm.Cond.selects "ShaftPlayModel" ({ cls := "ShaftPlayModel", name := "set", desc := "(III)I" } : Jvm.MethodName) ({ cls := "ShaftPlayModel", name := "set", desc := "(III)I" } : Jvm.MethodName)) ∈ Al := in3 194 rfl rfl
theorem wd3_195 : (Jvm.Cond.code ({ cls := "ShaftPlayModel", name := "set", desc := "(III)I" } : Jvm.MethodName) prog_8_method_17_code (6 : Nat) (Option.some Jvm.ClassFile.FieldType.int)) ∈ Al := in3 195 rfl rfl
theorem wd3_196 : (Jvm.Cond.methodLink "ShaftPlayModel" (95 : Nat) ({ cls := "ShaftPlayModel", name := "isFigure", desc := "(I)Z" } : Jvm.MethodName)) ∈ Al := in3 196 rfl rfl
theorem wd3_198 : (Jvm.Cond.instanceMethod ({ cls := "ShaftPlayModel", name := "isFigure", desc := "(I)Z" } : Jvm.MethodName)) ∈ Al := in3 198 rfl rfl
theorem wd3_199 : (Jvm.Cond.code ({ cls := "ShaftPlayModel", name := "isFigure", desc := "(I)Z" } : Jvm.MethodName) prog_8_method_8_code (2 : Nat) (Option.some Jvm.ClassFile.FieldType.boolean)) ∈ Al := in3 199 rfl rfl
theorem wd3_200 : (Jvm.Cond.methodLink "ShaftPlayLaw" (48 : Nat) ({ cls := "ShaftPlayModel", name := "wish", desc := "(I)I" } : Jvm.MethodName)) ∈ Al := in3 200 rfl rfl
theorem wd3_201 : (Jvm.Cond.instanceMethod ({ cls := "ShaftPlayModel", name := "wish", desc := "(I)I" } : Jvm.MethodName)) ∈ Al := in3 201 rfl rfl
theorem wd3_202 : (Jvm.Cond.selects "ShaftPlayModel" ({ cls := "ShaftPlayModel", name := "wish", desc := "(I)I" } : Jvm.MethodName) ({ cls := "ShaftPlayModel", name := "wish", desc := "(I)I" } : Jvm.MethodName)) ∈ Al := in3 202 rfl rfl
theorem wd3_203 : (Jvm.Cond.code ({ cls := "ShaftPlayModel", name := "wish", desc := "(I)I" } : Jvm.MethodName) prog_8_method_18_code (6 : Nat) (Option.some Jvm.ClassFile.FieldType.int)) ∈ Al := in3 203 rfl rfl
theorem wd3_204 : (Jvm.Cond.methodLink "ShaftPlayModel" (98 : Nat) ({ cls := "ShaftPlayModel", name := "ones", desc := "(I)I" } : Jvm.MethodName)) ∈ Al := in3 204 rfl rfl
theorem wd3_205 : (Jvm.Cond.static ({ cls := "ShaftPlayModel", name := "ones", desc := "(I)I" } : Jvm.MethodName)) ∈ Al := in3 205 rfl rfl
theorem wd3_206 : (Jvm.Cond.code ({ cls := "ShaftPlayModel", name := "ones", desc := "(I)I" } : Jvm.MethodName) prog_8_method_5_code (3 : Nat) (Option.some Jvm.ClassFile.FieldType.int)) ∈ Al := in3 206 rfl rfl
theorem wd3_207 : (Jvm.Cond.methodLink "ShaftPlayLaw" (52 : Nat) ({ cls := "ShaftPlayModel", name := "line", desc := "(I)I" } : Jvm.MethodName)) ∈ Al := in3 207 rfl rfl
theorem wd3_208 : (Jvm.Cond.instanceMethod ({ cls := "ShaftPlayModel", name := "line", desc := "(I)I" } : Jvm.MethodName)) ∈ Al := in3 208 rfl rfl
theorem wd3_209 : (Jvm.Cond.selects "ShaftPlayModel" ({ cls := "ShaftPlayModel", name := "line", desc := "(I)I" } : Jvm.MethodName) ({ cls := "ShaftPlayModel", name := "line", desc := "(I)I" } : Jvm.MethodName)) ∈ Al := in3 209 rfl rfl
theorem wd3_210 : (Jvm.Cond.code ({ cls := "ShaftPlayModel", name := "line", desc := "(I)I" } : Jvm.MethodName) prog_8_method_19_code (3 : Nat) (Option.some Jvm.ClassFile.FieldType.int)) ∈ Al := in3 210 rfl rfl
theorem wd3_211 : (Jvm.Cond.methodLink "ShaftPlayLaw" (56 : Nat) ({ cls := "ShaftPlayModel", name := "way", desc := "(I)I" } : Jvm.MethodName)) ∈ Al := in3 211 rfl rfl
theorem wd3_212 : (Jvm.Cond.instanceMethod ({ cls := "ShaftPlayModel", name := "way", desc := "(I)I" } : Jvm.MethodName)) ∈ Al := in3 212 rfl rfl
theorem wd3_213 : (Jvm.Cond.selects "ShaftPlayModel" ({ cls := "ShaftPlayModel", name := "way", desc := "(I)I" } : Jvm.MethodName) ({ cls := "ShaftPlayModel", name := "way", desc := "(I)I" } : Jvm.MethodName)) ∈ Al := in3 213 rfl rfl
theorem wd3_214 : (Jvm.Cond.code ({ cls := "ShaftPlayModel", name := "way", desc := "(I)I" } : Jvm.MethodName) prog_8_method_20_code (3 : Nat) (Option.some Jvm.ClassFile.FieldType.int)) ∈ Al := in3 214 rfl rfl
theorem wd3_215 : (Jvm.Cond.methodLink "ShaftPlayLaw" (64 : Nat) ({ cls := "ShaftPlayModel", name := "height", desc := "(II)I" } : Jvm.MethodName)) ∈ Al := in3 215 rfl rfl
theorem wd3_216 : (Jvm.Cond.instanceMethod ({ cls := "ShaftPlayModel", name := "height", desc := "(II)I" } : Jvm.MethodName)) ∈ Al := in3 216 rfl rfl
theorem wd3_217 : (Jvm.Cond.selects "ShaftPlayModel" ({ cls := "ShaftPlayModel", name := "height", desc := "(II)I" } : Jvm.MethodName) ({ cls := "ShaftPlayModel", name := "height", desc := "(II)I" } : Jvm.MethodName)) ∈ Al := in3 217 rfl rfl
theorem wd3_218 : (Jvm.Cond.code ({ cls := "ShaftPlayModel", name := "height", desc := "(II)I" } : Jvm.MethodName) prog_8_method_26_code (3 : Nat) (Option.some Jvm.ClassFile.FieldType.int)) ∈ Al := in3 218 rfl rfl
theorem wd3_219 : (Jvm.Cond.methodLink "ShaftPlayModel" (109 : Nat) ({ cls := "ShaftPlayModel", name := "heightOf", desc := "(II)I" } : Jvm.MethodName)) ∈ Al := in3 219 rfl rfl
theorem wd3_221 : (Jvm.Cond.instanceMethod ({ cls := "ShaftPlayModel", name := "heightOf", desc := "(II)I" } : Jvm.MethodName)) ∈ Al := in3 221 rfl rfl
theorem wd3_222 : (Jvm.Cond.code ({ cls := "ShaftPlayModel", name := "heightOf", desc := "(II)I" } : Jvm.MethodName) prog_8_method_24_code (7 : Nat) (Option.some Jvm.ClassFile.FieldType.int)) ∈ Al := in3 222 rfl rfl
theorem wd3_223 : (Jvm.Cond.methodLink "ShaftPlayModel" (102 : Nat) ({ cls := "ShaftPlayModel", name := "hairOf", desc := "(II)I" } : Jvm.MethodName)) ∈ Al := in3 223 rfl rfl
theorem wd3_225 : (Jvm.Cond.instanceMethod ({ cls := "ShaftPlayModel", name := "hairOf", desc := "(II)I" } : Jvm.MethodName)) ∈ Al := in3 225 rfl rfl
theorem wd3_226 : (Jvm.Cond.code ({ cls := "ShaftPlayModel", name := "hairOf", desc := "(II)I" } : Jvm.MethodName) prog_8_method_23_code (3 : Nat) (Option.some Jvm.ClassFile.FieldType.int)) ∈ Al := in3 226 rfl rfl
theorem wd3_227 : (Jvm.Cond.methodLink "ShaftPlayModel" (106 : Nat) ({ cls := "ShaftPlayModel", name := "aheadOf", desc := "(I)I" } : Jvm.MethodName)) ∈ Al := in3 227 rfl rfl
theorem wd3_229 : (Jvm.Cond.instanceMethod ({ cls := "ShaftPlayModel", name := "aheadOf", desc := "(I)I" } : Jvm.MethodName)) ∈ Al := in3 229 rfl rfl
theorem wd3_230 : (Jvm.Cond.code ({ cls := "ShaftPlayModel", name := "aheadOf", desc := "(I)I" } : Jvm.MethodName) prog_8_method_21_code (2 : Nat) (Option.some Jvm.ClassFile.FieldType.int)) ∈ Al := in3 230 rfl rfl
theorem wd3_231 : (Jvm.Cond.methodLink "ShaftPlayLaw" (68 : Nat) ({ cls := "ShaftPlayModel", name := "ups", desc := "(I)I" } : Jvm.MethodName)) ∈ Al := in3 231 rfl rfl
theorem wd3_232 : (Jvm.Cond.instanceMethod ({ cls := "ShaftPlayModel", name := "ups", desc := "(I)I" } : Jvm.MethodName)) ∈ Al := in3 232 rfl rfl
theorem wd3_233 : (Jvm.Cond.selects "ShaftPlayModel" ({ cls := "ShaftPlayModel", name := "ups", desc := "(I)I" } : Jvm.MethodName) ({ cls := "ShaftPlayModel", name := "ups", desc := "(I)I" } : Jvm.MethodName)) ∈ Al := in3 233 rfl rfl
theorem wd3_234 : (Jvm.Cond.code ({ cls := "ShaftPlayModel", name := "ups", desc := "(I)I" } : Jvm.MethodName) prog_8_method_27_code (2 : Nat) (Option.some Jvm.ClassFile.FieldType.int)) ∈ Al := in3 234 rfl rfl
theorem wd3_235 : (Jvm.Cond.methodLink "ShaftPlayModel" (112 : Nat) ({ cls := "ShaftPlayModel", name := "upsOf", desc := "(I)I" } : Jvm.MethodName)) ∈ Al := in3 235 rfl rfl
theorem wd3_237 : (Jvm.Cond.instanceMethod ({ cls := "ShaftPlayModel", name := "upsOf", desc := "(I)I" } : Jvm.MethodName)) ∈ Al := in3 237 rfl rfl
theorem wd3_238 : (Jvm.Cond.code ({ cls := "ShaftPlayModel", name := "upsOf", desc := "(I)I" } : Jvm.MethodName) prog_8_method_25_code (4 : Nat) (Option.some Jvm.ClassFile.FieldType.int)) ∈ Al := in3 238 rfl rfl
theorem wd3_239 : (Jvm.Cond.methodLink "ShaftPlayLaw" (76 : Nat) ({ cls := "ShaftPlayModel", name := "strikes", desc := "(II)I" } : Jvm.MethodName)) ∈ Al := in3 239 rfl rfl
theorem wd4_0 : (Jvm.Cond.instanceMethod ({ cls := "ShaftPlayModel", name := "strikes", desc := "(II)I" } : Jvm.MethodName)) ∈ Al := in4 0 rfl rfl
theorem wd4_1 : (Jvm.Cond.selects "ShaftPlayModel" ({ cls := "ShaftPlayModel", name := "strikes", desc := "(II)I" } : Jvm.MethodName) ({ cls := "ShaftPlayModel", name := "strikes", desc := "(II)I" } : Jvm.MethodName)) ∈ Al := in4 1 rfl rfl
theorem wd4_2 : (Jvm.Cond.code ({ cls := "ShaftPlayModel", name := "strikes", desc := "(II)I" } : Jvm.MethodName) prog_8_method_29_code (3 : Nat) (Option.some Jvm.ClassFile.FieldType.int)) ∈ Al := in4 2 rfl rfl
theorem wd4_3 : (Jvm.Cond.methodLink "ShaftPlayModel" (118 : Nat) ({ cls := "ShaftPlayModel", name := "strikesOf", desc := "(II)I" } : Jvm.MethodName)) ∈ Al := in4 3 rfl rfl
theorem wd4_5 : (Jvm.Cond.instanceMethod ({ cls := "ShaftPlayModel", name := "strikesOf", desc := "(II)I" } : Jvm.MethodName)) ∈ Al := in4 5 rfl rfl
theorem wd4_6 : (Jvm.Cond.code ({ cls := "ShaftPlayModel", name := "strikesOf", desc := "(II)I" } : Jvm.MethodName) prog_8_method_28_code (6 : Nat) (Option.some Jvm.ClassFile.FieldType.int)) ∈ Al := in4 6 rfl rfl
theorem wd4_7 : (Jvm.Cond.methodLink "ShaftPlayModel" (115 : Nat) ({ cls := "ShaftPlayModel", name := "has", desc := "(II)Z" } : Jvm.MethodName)) ∈ Al := in4 7 rfl rfl
theorem wd4_8 : (Jvm.Cond.static ({ cls := "ShaftPlayModel", name := "has", desc := "(II)Z" } : Jvm.MethodName)) ∈ Al := in4 8 rfl rfl
theorem wd4_9 : (Jvm.Cond.code ({ cls := "ShaftPlayModel", name := "has", desc := "(II)Z" } : Jvm.MethodName) prog_8_method_4_code (2 : Nat) (Option.some Jvm.ClassFile.FieldType.boolean)) ∈ Al := in4 9 rfl rfl
theorem wd4_10 : (Jvm.Cond.methodLink "ShaftPlayLaw" (72 : Nat) ({ cls := "ShaftPlayModel", name := "turn", desc := "(I)I" } : Jvm.MethodName)) ∈ Al := in4 10 rfl rfl
theorem wd4_11 : (Jvm.Cond.instanceMethod ({ cls := "ShaftPlayModel", name := "turn", desc := "(I)I" } : Jvm.MethodName)) ∈ Al := in4 11 rfl rfl
theorem wd4_12 : (Jvm.Cond.selects "ShaftPlayModel" ({ cls := "ShaftPlayModel", name := "turn", desc := "(I)I" } : Jvm.MethodName) ({ cls := "ShaftPlayModel", name := "turn", desc := "(I)I" } : Jvm.MethodName)) ∈ Al := in4 12 rfl rfl
theorem wd4_13 : (Jvm.Cond.code ({ cls := "ShaftPlayModel", name := "turn", desc := "(I)I" } : Jvm.MethodName) prog_8_method_30_code (8 : Nat) (Option.some Jvm.ClassFile.FieldType.int)) ∈ Al := in4 13 rfl rfl
theorem wd4_14 : (Jvm.Cond.constantLong "ShaftPlayModel" (121 : Nat) (600 : Int64)) ∈ Al := in4 14 rfl rfl
theorem wd4_15 : (Jvm.Cond.methodLink "ShaftPlayModel" (123 : Nat) ({ cls := "ShaftPlayModel", name := "behind", desc := "(I)I" } : Jvm.MethodName)) ∈ Al := in4 15 rfl rfl
theorem wd4_17 : (Jvm.Cond.instanceMethod ({ cls := "ShaftPlayModel", name := "behind", desc := "(I)I" } : Jvm.MethodName)) ∈ Al := in4 17 rfl rfl
theorem wd4_18 : (Jvm.Cond.code ({ cls := "ShaftPlayModel", name := "behind", desc := "(I)I" } : Jvm.MethodName) prog_8_method_22_code (2 : Nat) (Option.some Jvm.ClassFile.FieldType.int)) ∈ Al := in4 18 rfl rfl
theorem wd4_19 : (Jvm.Cond.constant "ShaftPlayModel" (126 : Nat) (1000000000 : Int32)) ∈ Al := in4 19 rfl rfl
theorem wd4_20 : (Jvm.Cond.methodLink "ShaftPlayLaw" (80 : Nat) ({ cls := "ShaftPlayModel", name := "wear", desc := "(I)I" } : Jvm.MethodName)) ∈ Al := in4 20 rfl rfl
theorem wd4_21 : (Jvm.Cond.instanceMethod ({ cls := "ShaftPlayModel", name := "wear", desc := "(I)I" } : Jvm.MethodName)) ∈ Al := in4 21 rfl rfl
theorem wd4_22 : (Jvm.Cond.selects "ShaftPlayModel" ({ cls := "ShaftPlayModel", name := "wear", desc := "(I)I" } : Jvm.MethodName) ({ cls := "ShaftPlayModel", name := "wear", desc := "(I)I" } : Jvm.MethodName)) ∈ Al := in4 22 rfl rfl
theorem wd4_23 : (Jvm.Cond.code ({ cls := "ShaftPlayModel", name := "wear", desc := "(I)I" } : Jvm.MethodName) prog_8_method_31_code (6 : Nat) (Option.some Jvm.ClassFile.FieldType.int)) ∈ Al := in4 23 rfl rfl
theorem wd4_24 : (Jvm.Cond.methodLink "ShaftPlayLaw" (84 : Nat) ({ cls := "ShaftPlayModel", name := "missed", desc := "(I)I" } : Jvm.MethodName)) ∈ Al := in4 24 rfl rfl
theorem wd4_25 : (Jvm.Cond.instanceMethod ({ cls := "ShaftPlayModel", name := "missed", desc := "(I)I" } : Jvm.MethodName)) ∈ Al := in4 25 rfl rfl
theorem wd4_26 : (Jvm.Cond.selects "ShaftPlayModel" ({ cls := "ShaftPlayModel", name := "missed", desc := "(I)I" } : Jvm.MethodName) ({ cls := "ShaftPlayModel", name := "missed", desc := "(I)I" } : Jvm.MethodName)) ∈ Al := in4 26 rfl rfl
theorem wd4_27 : (Jvm.Cond.code ({ cls := "ShaftPlayModel", name := "missed", desc := "(I)I" } : Jvm.MethodName) prog_8_method_32_code (5 : Nat) (Option.some Jvm.ClassFile.FieldType.int)) ∈ Al := in4 27 rfl rfl
theorem wd4_28 : (Jvm.Cond.methodLink "ShaftPlayLaw" (88 : Nat) ({ cls := "ShaftPlayModel", name := "fewest", desc := "()I" } : Jvm.MethodName)) ∈ Al := in4 28 rfl rfl
theorem wd4_29 : (Jvm.Cond.instanceMethod ({ cls := "ShaftPlayModel", name := "fewest", desc := "()I" } : Jvm.MethodName)) ∈ Al := in4 29 rfl rfl
theorem wd4_30 : (Jvm.Cond.selects "ShaftPlayModel" ({ cls := "ShaftPlayModel", name := "fewest", desc := "()I" } : Jvm.MethodName) ({ cls := "ShaftPlayModel", name := "fewest", desc := "()I" } : Jvm.MethodName)) ∈ Al := in4 30 rfl rfl
theorem wd4_31 : (Jvm.Cond.code ({ cls := "ShaftPlayModel", name := "fewest", desc := "()I" } : Jvm.MethodName) prog_8_method_37_code (2 : Nat) (Option.some Jvm.ClassFile.FieldType.int)) ∈ Al := in4 31 rfl rfl
theorem wd4_32 : (Jvm.Cond.methodLink "ShaftPlayModel" (136 : Nat) ({ cls := "ShaftPlayModel", name := "sharesBy", desc := "(I)Z" } : Jvm.MethodName)) ∈ Al := in4 32 rfl rfl
theorem wd4_34 : (Jvm.Cond.instanceMethod ({ cls := "ShaftPlayModel", name := "sharesBy", desc := "(I)Z" } : Jvm.MethodName)) ∈ Al := in4 34 rfl rfl
theorem wd4_35 : (Jvm.Cond.code ({ cls := "ShaftPlayModel", name := "sharesBy", desc := "(I)Z" } : Jvm.MethodName) prog_8_method_36_code (5 : Nat) (Option.some Jvm.ClassFile.FieldType.boolean)) ∈ Al := in4 35 rfl rfl
theorem wd4_36 : (Jvm.Cond.methodLink "ShaftPlayModel" (130 : Nat) ({ cls := "ShaftPlayModel", name := "camsUsed", desc := "(I)I" } : Jvm.MethodName)) ∈ Al := in4 36 rfl rfl
theorem wd4_38 : (Jvm.Cond.instanceMethod ({ cls := "ShaftPlayModel", name := "camsUsed", desc := "(I)I" } : Jvm.MethodName)) ∈ Al := in4 38 rfl rfl
theorem wd4_39 : (Jvm.Cond.code ({ cls := "ShaftPlayModel", name := "camsUsed", desc := "(I)I" } : Jvm.MethodName) prog_8_method_35_code (4 : Nat) (Option.some Jvm.ClassFile.FieldType.int)) ∈ Al := in4 39 rfl rfl
theorem wd4_40 : (Jvm.Cond.methodLink "ShaftPlayModel" (133 : Nat) ({ cls := "ShaftPlayModel", name := "puts", desc := "(I)Z" } : Jvm.MethodName)) ∈ Al := in4 40 rfl rfl
theorem wd4_42 : (Jvm.Cond.instanceMethod ({ cls := "ShaftPlayModel", name := "puts", desc := "(I)Z" } : Jvm.MethodName)) ∈ Al := in4 42 rfl rfl
theorem wd4_43 : (Jvm.Cond.code ({ cls := "ShaftPlayModel", name := "puts", desc := "(I)Z" } : Jvm.MethodName) prog_8_method_34_code (3 : Nat) (Option.some Jvm.ClassFile.FieldType.boolean)) ∈ Al := in4 43 rfl rfl
theorem wd4_44 : (Jvm.Cond.methodLink "ShaftPlayModel" (127 : Nat) ({ cls := "ShaftPlayModel", name := "turned", desc := "(II)I" } : Jvm.MethodName)) ∈ Al := in4 44 rfl rfl
theorem wd4_45 : (Jvm.Cond.static ({ cls := "ShaftPlayModel", name := "turned", desc := "(II)I" } : Jvm.MethodName)) ∈ Al := in4 45 rfl rfl
theorem wd4_46 : (Jvm.Cond.code ({ cls := "ShaftPlayModel", name := "turned", desc := "(II)I" } : Jvm.MethodName) prog_8_method_33_code (2 : Nat) (Option.some Jvm.ClassFile.FieldType.int)) ∈ Al := in4 46 rfl rfl
theorem wd4_47 : (Jvm.Cond.methodLink "ShaftPlayLaw" (92 : Nat) ({ cls := "ShaftPlayModel", name := "share", desc := "(II)I" } : Jvm.MethodName)) ∈ Al := in4 47 rfl rfl
theorem wd4_48 : (Jvm.Cond.instanceMethod ({ cls := "ShaftPlayModel", name := "share", desc := "(II)I" } : Jvm.MethodName)) ∈ Al := in4 48 rfl rfl
theorem wd4_49 : (Jvm.Cond.selects "ShaftPlayModel" ({ cls := "ShaftPlayModel", name := "share", desc := "(II)I" } : Jvm.MethodName) ({ cls := "ShaftPlayModel", name := "share", desc := "(II)I" } : Jvm.MethodName)) ∈ Al := in4 49 rfl rfl
theorem wd4_50 : (Jvm.Cond.code ({ cls := "ShaftPlayModel", name := "share", desc := "(II)I" } : Jvm.MethodName) prog_8_method_38_code (4 : Nat) (Option.some Jvm.ClassFile.FieldType.int)) ∈ Al := in4 50 rfl rfl
theorem wd4_51 : (Jvm.Cond.methodLink "ShaftPlayLaw" (96 : Nat) ({ cls := "ShaftPlayModel", name := "pegs", desc := "(II)I" } : Jvm.MethodName)) ∈ Al := in4 51 rfl rfl
theorem wd4_52 : (Jvm.Cond.instanceMethod ({ cls := "ShaftPlayModel", name := "pegs", desc := "(II)I" } : Jvm.MethodName)) ∈ Al := in4 52 rfl rfl
theorem wd4_53 : (Jvm.Cond.selects "ShaftPlayModel" ({ cls := "ShaftPlayModel", name := "pegs", desc := "(II)I" } : Jvm.MethodName) ({ cls := "ShaftPlayModel", name := "pegs", desc := "(II)I" } : Jvm.MethodName)) ∈ Al := in4 53 rfl rfl
theorem wd4_54 : (Jvm.Cond.code ({ cls := "ShaftPlayModel", name := "pegs", desc := "(II)I" } : Jvm.MethodName) prog_8_method_39_code (8 : Nat) (Option.some Jvm.ClassFile.FieldType.int)) ∈ Al := in4 54 rfl rfl
theorem wd4_55 : (Jvm.Cond.methodLink "ShaftPlayLaw" (100 : Nat) ({ cls := "ShaftPlayModel", name := "beats", desc := "(II)I" } : Jvm.MethodName)) ∈ Al := in4 55 rfl rfl
theorem wd4_56 : (Jvm.Cond.instanceMethod ({ cls := "ShaftPlayModel", name := "beats", desc := "(II)I" } : Jvm.MethodName)) ∈ Al := in4 56 rfl rfl
theorem wd4_57 : (Jvm.Cond.selects "ShaftPlayModel" ({ cls := "ShaftPlayModel", name := "beats", desc := "(II)I" } : Jvm.MethodName) ({ cls := "ShaftPlayModel", name := "beats", desc := "(II)I" } : Jvm.MethodName)) ∈ Al := in4 57 rfl rfl
theorem wd4_58 : (Jvm.Cond.code ({ cls := "ShaftPlayModel", name := "beats", desc := "(II)I" } : Jvm.MethodName) prog_8_method_40_code (4 : Nat) (Option.some Jvm.ClassFile.FieldType.int)) ∈ Al := in4 58 rfl rfl
theorem wd4_59 : (Jvm.Cond.constantLong "ShaftPlayModel" (139 : Nat) (99 : Int64)) ∈ Al := in4 59 rfl rfl
theorem wd4_60 : (Jvm.Cond.methodLink "ShaftPlayLaw" (104 : Nat) ({ cls := "ShaftPlayModel", name := "when", desc := "(I)I" } : Jvm.MethodName)) ∈ Al := in4 60 rfl rfl
theorem wd4_61 : (Jvm.Cond.instanceMethod ({ cls := "ShaftPlayModel", name := "when", desc := "(I)I" } : Jvm.MethodName)) ∈ Al := in4 61 rfl rfl
theorem wd4_62 : (Jvm.Cond.selects "ShaftPlayModel" ({ cls := "ShaftPlayModel", name := "when", desc := "(I)I" } : Jvm.MethodName) ({ cls := "ShaftPlayModel", name := "when", desc := "(I)I" } : Jvm.MethodName)) ∈ Al := in4 62 rfl rfl
theorem wd4_63 : (Jvm.Cond.code ({ cls := "ShaftPlayModel", name := "when", desc := "(I)I" } : Jvm.MethodName) prog_8_method_41_code (4 : Nat) (Option.some Jvm.ClassFile.FieldType.int)) ∈ Al := in4 63 rfl rfl
theorem wd4_64 : (Jvm.Cond.methodLink "ShaftPlayLaw" (108 : Nat) ({ cls := "ShaftPlayModel", name := "at", desc := "(I)I" } : Jvm.MethodName)) ∈ Al := in4 64 rfl rfl
theorem wd4_65 : (Jvm.Cond.instanceMethod ({ cls := "ShaftPlayModel", name := "at", desc := "(I)I" } : Jvm.MethodName)) ∈ Al := in4 65 rfl rfl
theorem wd4_66 : (Jvm.Cond.selects "ShaftPlayModel" ({ cls := "ShaftPlayModel", name := "at", desc := "(I)I" } : Jvm.MethodName) ({ cls := "ShaftPlayModel", name := "at", desc := "(I)I" } : Jvm.MethodName)) ∈ Al := in4 66 rfl rfl
theorem wd4_67 : (Jvm.Cond.code ({ cls := "ShaftPlayModel", name := "at", desc := "(I)I" } : Jvm.MethodName) prog_8_method_42_code (5 : Nat) (Option.some Jvm.ClassFile.FieldType.int)) ∈ Al := in4 67 rfl rfl
theorem wd4_68 : (Jvm.Cond.constantLong "ShaftPlayModel" (141 : Nat) (99999 : Int64)) ∈ Al := in4 68 rfl rfl
theorem wd4_69 : (Jvm.Cond.methodLink "ShaftPlayLaw" (112 : Nat) ({ cls := "ShaftPlayModel", name := "hand", desc := "(II)I" } : Jvm.MethodName)) ∈ Al := in4 69 rfl rfl
theorem wd4_70 : (Jvm.Cond.instanceMethod ({ cls := "ShaftPlayModel", name := "hand", desc := "(II)I" } : Jvm.MethodName)) ∈ Al := in4 70 rfl rfl
theorem wd4_71 : (Jvm.Cond.selects "ShaftPlayModel" ({ cls := "ShaftPlayModel", name := "hand", desc := "(II)I" } : Jvm.MethodName) ({ cls := "ShaftPlayModel", name := "hand", desc := "(II)I" } : Jvm.MethodName)) ∈ Al := in4 71 rfl rfl
theorem wd4_72 : (Jvm.Cond.code ({ cls := "ShaftPlayModel", name := "hand", desc := "(II)I" } : Jvm.MethodName) prog_8_method_43_code (4 : Nat) (Option.some Jvm.ClassFile.FieldType.int)) ∈ Al := in4 72 rfl rfl
theorem wd4_73 : (Jvm.Cond.constantLong "ShaftPlayModel" (143 : Nat) (1023 : Int64)) ∈ Al := in4 73 rfl rfl
theorem wd4_74 : (Jvm.Cond.methodLink "ShaftPlayLaw" (116 : Nat) ({ cls := "ShaftPlayModel", name := "whose", desc := "(I)I" } : Jvm.MethodName)) ∈ Al := in4 74 rfl rfl
theorem wd4_75 : (Jvm.Cond.instanceMethod ({ cls := "ShaftPlayModel", name := "whose", desc := "(I)I" } : Jvm.MethodName)) ∈ Al := in4 75 rfl rfl
theorem wd4_76 : (Jvm.Cond.selects "ShaftPlayModel" ({ cls := "ShaftPlayModel", name := "whose", desc := "(I)I" } : Jvm.MethodName) ({ cls := "ShaftPlayModel", name := "whose", desc := "(I)I" } : Jvm.MethodName)) ∈ Al := in4 76 rfl rfl
theorem wd4_77 : (Jvm.Cond.code ({ cls := "ShaftPlayModel", name := "whose", desc := "(I)I" } : Jvm.MethodName) prog_8_method_44_code (5 : Nat) (Option.some Jvm.ClassFile.FieldType.int)) ∈ Al := in4 77 rfl rfl
theorem wd4_78 : (Jvm.Cond.methodLink "ShaftPlayLaw" (120 : Nat) ({ cls := "ShaftPlayModel", name := "image", desc := "()I" } : Jvm.MethodName)) ∈ Al := in4 78 rfl rfl
theorem wd4_79 : (Jvm.Cond.instanceMethod ({ cls := "ShaftPlayModel", name := "image", desc := "()I" } : Jvm.MethodName)) ∈ Al := in4 79 rfl rfl
theorem wd4_80 : (Jvm.Cond.selects "ShaftPlayModel" ({ cls := "ShaftPlayModel", name := "image", desc := "()I" } : Jvm.MethodName) ({ cls := "ShaftPlayModel", name := "image", desc := "()I" } : Jvm.MethodName)) ∈ Al := in4 80 rfl rfl
theorem wd4_81 : (Jvm.Cond.code ({ cls := "ShaftPlayModel", name := "image", desc := "()I" } : Jvm.MethodName) prog_8_method_45_code (2 : Nat) (Option.some Jvm.ClassFile.FieldType.int)) ∈ Al := in4 81 rfl rfl
theorem wd4_82 : (Jvm.Cond.methodLink "ShaftPlayLaw" (124 : Nat) ({ cls := "ShaftPlayModel", name := "restore", desc := "()I" } : Jvm.MethodName)) ∈ Al := in4 82 rfl rfl
theorem wd4_83 : (Jvm.Cond.instanceMethod ({ cls := "ShaftPlayModel", name := "restore", desc := "()I" } : Jvm.MethodName)) ∈ Al := in4 83 rfl rfl
theorem wd4_84 : (Jvm.Cond.selects "ShaftPlayModel" ({ cls := "ShaftPlayModel", name := "restore", desc := "()I" } : Jvm.MethodName) ({ cls := "ShaftPlayModel", name := "restore", desc := "()I" } : Jvm.MethodName)) ∈ Al := in4 84 rfl rfl
theorem wd4_85 : (Jvm.Cond.code ({ cls := "ShaftPlayModel", name := "restore", desc := "()I" } : Jvm.MethodName) prog_8_method_46_code (2 : Nat) (Option.some Jvm.ClassFile.FieldType.int)) ∈ Al := in4 85 rfl rfl
theorem wd4_86 : (Jvm.Cond.methodLink "ShaftPlayLaw" (60 : Nat) ({ cls := "ShaftPlayModel", name := "count", desc := "(I)I" } : Jvm.MethodName)) ∈ Al := in4 86 rfl rfl
theorem wd4_87 : (Jvm.Cond.instanceMethod ({ cls := "ShaftPlayModel", name := "count", desc := "(I)I" } : Jvm.MethodName)) ∈ Al := in4 87 rfl rfl
theorem wd4_88 : (Jvm.Cond.selects "ShaftPlayModel" ({ cls := "ShaftPlayModel", name := "count", desc := "(I)I" } : Jvm.MethodName) ({ cls := "ShaftPlayModel", name := "count", desc := "(I)I" } : Jvm.MethodName)) ∈ Al := in4 88 rfl rfl
theorem wd4_89 : (Jvm.Cond.code ({ cls := "ShaftPlayModel", name := "count", desc := "(I)I" } : Jvm.MethodName) prog_8_method_47_code (4 : Nat) (Option.some Jvm.ClassFile.FieldType.int)) ∈ Al := in4 89 rfl rfl
theorem wd4_90 : (Jvm.Cond.methodLink "ShaftPlayLaw" (128 : Nat) ({ cls := "ShaftPlayModel", name := "worn", desc := "(IIII)I" } : Jvm.MethodName)) ∈ Al := in4 90 rfl rfl
theorem wd4_91 : (Jvm.Cond.instanceMethod ({ cls := "ShaftPlayModel", name := "worn", desc := "(IIII)I" } : Jvm.MethodName)) ∈ Al := in4 91 rfl rfl
theorem wd4_92 : (Jvm.Cond.selects "ShaftPlayModel" ({ cls := "ShaftPlayModel", name := "worn", desc := "(IIII)I" } : Jvm.MethodName) ({ cls := "ShaftPlayModel", name := "worn", desc := "(IIII)I" } : Jvm.MethodName)) ∈ Al := in4 92 rfl rfl
theorem wd4_93 : (Jvm.Cond.code ({ cls := "ShaftPlayModel", name := "worn", desc := "(IIII)I" } : Jvm.MethodName) prog_8_method_52_code (10 : Nat) (Option.some Jvm.ClassFile.FieldType.int)) ∈ Al := in4 93 rfl rfl
theorem wd4_94 : (Jvm.Cond.methodLink "ShaftPlayModel" (149 : Nat) ({ cls := "ShaftPlayModel", name := "isSheet", desc := "(I)Z" } : Jvm.MethodName)) ∈ Al := in4 94 rfl rfl
theorem wd4_95 : (Jvm.Cond.static ({ cls := "ShaftPlayModel", name := "isSheet", desc := "(I)Z" } : Jvm.MethodName)) ∈ Al := in4 95 rfl rfl
theorem wd4_96 : (Jvm.Cond.code ({ cls := "ShaftPlayModel", name := "isSheet", desc := "(I)Z" } : Jvm.MethodName) prog_8_method_48_code (1 : Nat) (Option.some Jvm.ClassFile.FieldType.boolean)) ∈ Al := in4 96 rfl rfl
theorem wd4_97 : (Jvm.Cond.constantLong "ShaftPlayModel" (152 : Nat) (2 : Int64)) ∈ Al := in4 97 rfl rfl
theorem wd4_98 : (Jvm.Cond.methodLink "ShaftPlayModel" (154 : Nat) ({ cls := "ShaftPlayModel", name := "bars", desc := "(IIII)I" } : Jvm.MethodName)) ∈ Al := in4 98 rfl rfl
theorem wd4_100 : (Jvm.Cond.instanceMethod ({ cls := "ShaftPlayModel", name := "bars", desc := "(IIII)I" } : Jvm.MethodName)) ∈ Al := in4 100 rfl rfl
theorem wd4_101 : (Jvm.Cond.code ({ cls := "ShaftPlayModel", name := "bars", desc := "(IIII)I" } : Jvm.MethodName) prog_8_method_49_code (5 : Nat) (Option.some Jvm.ClassFile.FieldType.int)) ∈ Al := in4 101 rfl rfl
theorem wd4_102 : (Jvm.Cond.methodLink "ShaftPlayModel" (158 : Nat) ({ cls := "ShaftPlayModel", name := "isSo", desc := "(I)Z" } : Jvm.MethodName)) ∈ Al := in4 102 rfl rfl
theorem wd4_104 : (Jvm.Cond.instanceMethod ({ cls := "ShaftPlayModel", name := "isSo", desc := "(I)Z" } : Jvm.MethodName)) ∈ Al := in4 104 rfl rfl
theorem wd4_105 : (Jvm.Cond.code ({ cls := "ShaftPlayModel", name := "isSo", desc := "(I)Z" } : Jvm.MethodName) prog_8_method_51_code (4 : Nat) (Option.some Jvm.ClassFile.FieldType.boolean)) ∈ Al := in4 105 rfl rfl
theorem wd4_106 : (Jvm.Cond.methodLink "ShaftPlayLaw" (132 : Nat) ({ cls := "ShaftPlayModel", name := "film", desc := "(IIII)I" } : Jvm.MethodName)) ∈ Al := in4 106 rfl rfl
theorem wd4_107 : (Jvm.Cond.instanceMethod ({ cls := "ShaftPlayModel", name := "film", desc := "(IIII)I" } : Jvm.MethodName)) ∈ Al := in4 107 rfl rfl
theorem wd4_108 : (Jvm.Cond.selects "ShaftPlayModel" ({ cls := "ShaftPlayModel", name := "film", desc := "(IIII)I" } : Jvm.MethodName) ({ cls := "ShaftPlayModel", name := "film", desc := "(IIII)I" } : Jvm.MethodName)) ∈ Al := in4 108 rfl rfl
theorem wd4_109 : (Jvm.Cond.code ({ cls := "ShaftPlayModel", name := "film", desc := "(IIII)I" } : Jvm.MethodName) prog_8_method_53_code (7 : Nat) (Option.some Jvm.ClassFile.FieldType.int)) ∈ Al := in4 109 rfl rfl
theorem wd4_110 : (Jvm.Cond.methodLink "ShaftPlayLaw" (136 : Nat) ({ cls := "ShaftPlayModel", name := "sheet", desc := "(III)I" } : Jvm.MethodName)) ∈ Al := in4 110 rfl rfl
theorem wd4_111 : (Jvm.Cond.instanceMethod ({ cls := "ShaftPlayModel", name := "sheet", desc := "(III)I" } : Jvm.MethodName)) ∈ Al := in4 111 rfl rfl
theorem wd4_112 : (Jvm.Cond.selects "ShaftPlayModel" ({ cls := "ShaftPlayModel", name := "sheet", desc := "(III)I" } : Jvm.MethodName) ({ cls := "ShaftPlayModel", name := "sheet", desc := "(III)I" } : Jvm.MethodName)) ∈ Al := in4 112 rfl rfl
theorem wd4_113 : (Jvm.Cond.code ({ cls := "ShaftPlayModel", name := "sheet", desc := "(III)I" } : Jvm.MethodName) prog_8_method_54_code (5 : Nat) (Option.some Jvm.ClassFile.FieldType.int)) ∈ Al := in4 113 rfl rfl
theorem wd4_114 : (Jvm.Cond.methodLink "ShaftPlayLaw" (140 : Nat) ({ cls := "ShaftPlayModel", name := "drop", desc := "(I)I" } : Jvm.MethodName)) ∈ Al := in4 114 rfl rfl
theorem wd4_115 : (Jvm.Cond.instanceMethod ({ cls := "ShaftPlayModel", name := "drop", desc := "(I)I" } : Jvm.MethodName)) ∈ Al := in4 115 rfl rfl
theorem wd4_116 : (Jvm.Cond.selects "ShaftPlayModel" ({ cls := "ShaftPlayModel", name := "drop", desc := "(I)I" } : Jvm.MethodName) ({ cls := "ShaftPlayModel", name := "drop", desc := "(I)I" } : Jvm.MethodName)) ∈ Al := in4 116 rfl rfl
theorem wd4_117 : (Jvm.Cond.code ({ cls := "ShaftPlayModel", name := "drop", desc := "(I)I" } : Jvm.MethodName) prog_8_method_55_code (2 : Nat) (Option.some Jvm.ClassFile.FieldType.int)) ∈ Al := in4 117 rfl rfl
theorem wd4_118 : (Jvm.Cond.methodLink "ShaftPlayLaw" (145 : Nat) ({ cls := "ShaftPlayModel", name := "item", desc := "(IIIJ)I" } : Jvm.MethodName)) ∈ Al := in4 118 rfl rfl
theorem wd4_119 : (Jvm.Cond.instanceMethod ({ cls := "ShaftPlayModel", name := "item", desc := "(IIIJ)I" } : Jvm.MethodName)) ∈ Al := in4 119 rfl rfl
theorem wd4_120 : (Jvm.Cond.selects "ShaftPlayModel" ({ cls := "ShaftPlayModel", name := "item", desc := "(IIIJ)I" } : Jvm.MethodName) ({ cls := "ShaftPlayModel", name := "item", desc := "(IIIJ)I" } : Jvm.MethodName)) ∈ Al := in4 120 rfl rfl
theorem wd4_121 : (Jvm.Cond.code ({ cls := "ShaftPlayModel", name := "item", desc := "(IIIJ)I" } : Jvm.MethodName) prog_8_method_56_code (7 : Nat) (Option.some Jvm.ClassFile.FieldType.int)) ∈ Al := in4 121 rfl rfl
theorem wd4_122 : (Jvm.Cond.methodLink "ShaftPlayModel" (161 : Nat) ({ cls := "ShaftPlayModel", name := "cutTo", desc := "(IJ)J" } : Jvm.MethodName)) ∈ Al := in4 122 rfl rfl
theorem wd4_123 : (Jvm.Cond.static ({ cls := "ShaftPlayModel", name := "cutTo", desc := "(IJ)J" } : Jvm.MethodName)) ∈ Al := in4 123 rfl rfl
theorem wd4_124 : (Jvm.Cond.code ({ cls := "ShaftPlayModel", name := "cutTo", desc := "(IJ)J" } : Jvm.MethodName) prog_8_method_50_code (3 : Nat) (Option.some Jvm.ClassFile.FieldType.long)) ∈ Al := in4 124 rfl rfl
theorem wd4_125 : (Jvm.Cond.methodLink "ShaftPlayLaw" (150 : Nat) ({ cls := "ShaftPlayModel", name := "copy", desc := "(IIIII)I" } : Jvm.MethodName)) ∈ Al := in4 125 rfl rfl
theorem wd4_126 : (Jvm.Cond.instanceMethod ({ cls := "ShaftPlayModel", name := "copy", desc := "(IIIII)I" } : Jvm.MethodName)) ∈ Al := in4 126 rfl rfl
theorem wd4_127 : (Jvm.Cond.selects "ShaftPlayModel" ({ cls := "ShaftPlayModel", name := "copy", desc := "(IIIII)I" } : Jvm.MethodName) ({ cls := "ShaftPlayModel", name := "copy", desc := "(IIIII)I" } : Jvm.MethodName)) ∈ Al := in4 127 rfl rfl
theorem wd4_128 : (Jvm.Cond.code ({ cls := "ShaftPlayModel", name := "copy", desc := "(IIIII)I" } : Jvm.MethodName) prog_8_method_57_code (8 : Nat) (Option.some Jvm.ClassFile.FieldType.int)) ∈ Al := in4 128 rfl rfl
theorem wd4_129 : (Jvm.Cond.constantLong "ShaftPlayLaw" (13 : Nat) (4294967295 : Int64)) ∈ Al := in4 129 rfl rfl
theorem in_sel {q : MethodName × Nat} (i : Nat) (h : lw_privs[i]? = some q) (g : goodWord (Cond.selects q.1.cls q.1 q.1) = true) : Cond.selects q.1.cls q.1 q.1 ∈ Al := List.mem_filter.mpr ⟨List.mem_append_left _ (List.mem_map.mpr ⟨q, List.mem_of_getElem? h, rfl⟩), g⟩
theorem wdp_0 : Cond.selects "ShaftPlay" ⟨"ShaftPlay", "takeTape", "(Z)I"⟩ ⟨"ShaftPlay", "takeTape", "(Z)I"⟩ ∈ Al := in_sel 0 rfl rfl
theorem wdp_1 : Cond.selects "ShaftPlay" ⟨"ShaftPlay", "isCam", "(I)Z"⟩ ⟨"ShaftPlay", "isCam", "(I)Z"⟩ ∈ Al := in_sel 1 rfl rfl
theorem wdp_2 : Cond.selects "ShaftPlay" ⟨"ShaftPlay", "isFigure", "(I)Z"⟩ ⟨"ShaftPlay", "isFigure", "(I)Z"⟩ ∈ Al := in_sel 2 rfl rfl
theorem wdp_3 : Cond.selects "ShaftPlay" ⟨"ShaftPlay", "shareCams", "()I"⟩ ⟨"ShaftPlay", "shareCams", "()I"⟩ ∈ Al := in_sel 3 rfl rfl
theorem wdp_4 : Cond.selects "ShaftPlay" ⟨"ShaftPlay", "refusalOf", "(IIII)I"⟩ ⟨"ShaftPlay", "refusalOf", "(IIII)I"⟩ ∈ Al := in_sel 4 rfl rfl
theorem wdp_5 : Cond.selects "ShaftPlay" ⟨"ShaftPlay", "isSo", "(LShaftPlay$Sheet;II)Z"⟩ ⟨"ShaftPlay", "isSo", "(LShaftPlay$Sheet;II)Z"⟩ ∈ Al := in_sel 5 rfl rfl
theorem wdp_6 : Cond.selects "ShaftPlayModel" ⟨"ShaftPlayModel", "takeSigns", "(Z)I"⟩ ⟨"ShaftPlayModel", "takeSigns", "(Z)I"⟩ ∈ Al := in_sel 6 rfl rfl
theorem wdp_7 : Cond.selects "ShaftPlayModel" ⟨"ShaftPlayModel", "isCam", "(I)Z"⟩ ⟨"ShaftPlayModel", "isCam", "(I)Z"⟩ ∈ Al := in_sel 7 rfl rfl
theorem wdp_8 : Cond.selects "ShaftPlayModel" ⟨"ShaftPlayModel", "isGood", "(II)Z"⟩ ⟨"ShaftPlayModel", "isGood", "(II)Z"⟩ ∈ Al := in_sel 8 rfl rfl
theorem wdp_9 : Cond.selects "ShaftPlayModel" ⟨"ShaftPlayModel", "isFigure", "(I)Z"⟩ ⟨"ShaftPlayModel", "isFigure", "(I)Z"⟩ ∈ Al := in_sel 9 rfl rfl
theorem wdp_10 : Cond.selects "ShaftPlayModel" ⟨"ShaftPlayModel", "heightOf", "(II)I"⟩ ⟨"ShaftPlayModel", "heightOf", "(II)I"⟩ ∈ Al := in_sel 10 rfl rfl
theorem wdp_11 : Cond.selects "ShaftPlayModel" ⟨"ShaftPlayModel", "hairOf", "(II)I"⟩ ⟨"ShaftPlayModel", "hairOf", "(II)I"⟩ ∈ Al := in_sel 11 rfl rfl
theorem wdp_12 : Cond.selects "ShaftPlayModel" ⟨"ShaftPlayModel", "aheadOf", "(I)I"⟩ ⟨"ShaftPlayModel", "aheadOf", "(I)I"⟩ ∈ Al := in_sel 12 rfl rfl
theorem wdp_13 : Cond.selects "ShaftPlayModel" ⟨"ShaftPlayModel", "upsOf", "(I)I"⟩ ⟨"ShaftPlayModel", "upsOf", "(I)I"⟩ ∈ Al := in_sel 13 rfl rfl
theorem wdp_14 : Cond.selects "ShaftPlayModel" ⟨"ShaftPlayModel", "strikesOf", "(II)I"⟩ ⟨"ShaftPlayModel", "strikesOf", "(II)I"⟩ ∈ Al := in_sel 14 rfl rfl
theorem wdp_15 : Cond.selects "ShaftPlayModel" ⟨"ShaftPlayModel", "behind", "(I)I"⟩ ⟨"ShaftPlayModel", "behind", "(I)I"⟩ ∈ Al := in_sel 15 rfl rfl
theorem wdp_16 : Cond.selects "ShaftPlayModel" ⟨"ShaftPlayModel", "sharesBy", "(I)Z"⟩ ⟨"ShaftPlayModel", "sharesBy", "(I)Z"⟩ ∈ Al := in_sel 16 rfl rfl
theorem wdp_17 : Cond.selects "ShaftPlayModel" ⟨"ShaftPlayModel", "camsUsed", "(I)I"⟩ ⟨"ShaftPlayModel", "camsUsed", "(I)I"⟩ ∈ Al := in_sel 17 rfl rfl
theorem wdp_18 : Cond.selects "ShaftPlayModel" ⟨"ShaftPlayModel", "puts", "(I)Z"⟩ ⟨"ShaftPlayModel", "puts", "(I)Z"⟩ ∈ Al := in_sel 18 rfl rfl
theorem wdp_19 : Cond.selects "ShaftPlayModel" ⟨"ShaftPlayModel", "bars", "(IIII)I"⟩ ⟨"ShaftPlayModel", "bars", "(IIII)I"⟩ ∈ Al := in_sel 19 rfl rfl
theorem wdp_20 : Cond.selects "ShaftPlayModel" ⟨"ShaftPlayModel", "isSo", "(I)Z"⟩ ⟨"ShaftPlayModel", "isSo", "(I)Z"⟩ ∈ Al := in_sel 20 rfl rfl
end
section
/-! The flat memory: a system's cells stand at logical places 0 .. n-1, at addresses ad; ints as naturals -/
abbrev gE : Type := va_G × (Nat → ClassId)
def g_tys (g : gE) : List (ClassId × FieldType) := [(g.2 0, .int), (g.2 1, .long), (g.2 2, .object "ShaftPlay$Figure"), (g.2 3, .object "ShaftPlay$Sheet"), (g.2 4, .array .int)]
abbrev gMem : Type := Nat → Nat → Nat
abbrev gMeL : Type := Nat → Nat → Int64
abbrev gDs : Type := Nat → Nat × Nat × List (Option Nat)
def g_slot (ad : Nat → Nat) (m : Nat → Nat) (k : Nat) : Option Nat → Value
  | some j => .ref (ad j)
  | none => .int (nI (m k))
def g_fld (ad : Nat → Nat) (m : Nat → Nat) (l : List (Option Nat)) : List Value := l.mapIdx (fun k o => g_slot ad m k o)
def g_cell (g : gE) (ad : Nat → Nat) (d : Nat × Nat × List (Option Nat)) (m : Nat → Nat) (j : Nat → Int64) : va_E := match d.1 with
  | 0 => .inr (d.2.1, g_fld ad m d.2.2)
  | 1 => .inl (g.2 0, d.2.1, .inl (fun k => nI (m k)))
  | 2 => .inl (g.2 1, d.2.1, .inr (.inl j))
  | t + 3 => .inl (g.2 (t + 2), d.2.1, .inr (.inr (.inr (.inr (fun k => (d.2.2.getD k none).map ad)))))
def g_wl (ad : Nat → Nat) (n : Nat) (E : Nat → va_E) : va_W := (List.range n).map (fun i => (ad i, E i))
def g_E (g : gE) (ad : Nat → Nat) (ds : gDs) (M : gMem) (J : gMeL) : Nat → va_E := fun i => g_cell g ad (ds i) (M i) (J i)
def g_P (g : gE) (ad : Nat → Nat) (ds : gDs) (n : Nat) (M : gMem) (J : gMeL) (H : Heap) : Prop := va_P g.1 vwCl (g_wl ad n (g_E g ad ds M J)) H
def g_inj (ad : Nat → Nat) (n : Nat) : Prop := ∀ i j, i < n → j < n → ad i = ad j → i = j
def g_A (ad : Nat → Nat) (n : Nat) : Nat → Prop := fun q => ∃ i, i < n ∧ q = ad i
def g_N (s : State) : Prop := va_Nw (.methodLinkNest "ShaftPlay$Play" 83 yX5_angleOf "ShaftPlay") s ∧ va_Nw (.methodLinkNest "ShaftPlay$Play" 114 yX5_movedOn "ShaftPlay") s ∧ va_Nw (.methodLinkNest "ShaftPlay$Sharing" 33 yX5_movedOn "ShaftPlay") s ∧ va_Nw (.methodLinkNest "ShaftPlay$Tape" 22 yX5_byteOf "ShaftPlay") s ∧ va_Nw (.methodLinkNest "ShaftPlay$Tape" 33 yX5_isWithin "ShaftPlay") s
def g_K (g : gE) (s : State) : Prop := va_K g.1 vwCl (g_tys g) s ∧ g_N s
theorem g_K.warm {g : gE} {s U : State} (h : g_K g s) (hW : s.WarmedH U.vm) : g_K g U :=
  ⟨va_K.moved hW.alike h.1, va_Nw.warmM hW h.2.1, va_Nw.warmM hW h.2.2.1, va_Nw.warmM hW h.2.2.2.1, va_Nw.warmM hW h.2.2.2.2.1, va_Nw.warmM hW h.2.2.2.2.2⟩
theorem g_K.calling {g : gE} {a : Array Value} {U : State} {f : JFrame} {mk : MethodId} (h : g_K g U) : g_K g (U.calling f mk a) :=
  ⟨va_K.moved (u := U) (U := U.calling f mk a) (Vm.Alike.refl U.vm) h.1, va_Nw.same rfl rfl h.2.1, va_Nw.same rfl rfl h.2.2.1, va_Nw.same rfl rfl h.2.2.2.1, va_Nw.same rfl rfl h.2.2.2.2.1, va_Nw.same rfl rfl h.2.2.2.2.2⟩
def u2 (M : gMem) (i k v : Nat) : gMem := fun a b => if a = i ∧ b = k then v else M a b
def u2L (J : gMeL) (i k : Nat) (v : Int64) : gMeL := fun a b => if a = i ∧ b = k then v else J a b
theorem u2_same (M : gMem) (i k v : Nat) : u2 M i k v i k = v := by simp [u2]
theorem u2_row {M : gMem} {i k v j : Nat} (h : j ≠ i) : u2 M i k v j = M j := by funext b; simp [u2, h]
theorem u2L_row {J : gMeL} {i k : Nat} {v : Int64} {j : Nat} (h : j ≠ i) : u2L J i k v j = J j := by funext b; simp [u2L, h]
theorem g_wl_at {ad : Nat → Nat} {n : Nat} {E : Nat → va_E} {i : Nat} (hi : i < n) {x : va_E} (h : E i = x) : (g_wl ad n E)[i]? = some (ad i, x) := by
  simp [g_wl, hi, h]
theorem g_wl_set {ad : Nat → Nat} {n : Nat} {E E' : Nat → va_E} {i : Nat} {x : va_E} (h1 : E' i = x) (h2 : ∀ j, j ≠ i → E' j = E j) : (g_wl ad n E).set i (ad i, x) = g_wl ad n E' := by
  apply List.ext_getElem?
  intro k
  unfold g_wl
  rw [List.getElem?_set]
  simp only [List.getElem?_map, List.length_map, List.length_range]
  by_cases hk : i = k
  · subst hk
    by_cases hn : i < n
    · simp [hn, h1]
    · simp [hn]
  · rw [if_neg hk]
    by_cases hn : k < n
    · simp [hn, h2 k (fun e => hk e.symm)]
    · simp [hn]
theorem g_wl_D {ad : Nat → Nat} {n : Nat} (E : Nat → va_E) (h : g_inj ad n) : va_D (g_A ad n) (g_wl ad n E) := by
  have key : ∀ (k : Nat) (q : Nat × va_E), (g_wl ad n E)[k]? = some q → k < n ∧ q = (ad k, E k) := fun k q hk => by
    unfold g_wl at hk
    by_cases hn : k < n
    · simp [hn] at hk
      exact ⟨hn, hk.symm⟩
    · simp [hn] at hk
  refine ⟨fun i j p q hi hj e => ?_, fun k q hk => ?_⟩
  · obtain ⟨a1, rfl⟩ := key i p hi
    obtain ⟨b1, rfl⟩ := key j q hj
    exact h i j a1 b1 e
  · obtain ⟨a1, rfl⟩ := key k q hk
    exact ⟨k, a1, rfl⟩
theorem g_P.kept {g : gE} {ad : Nat → Nat} {ds : gDs} {n : Nat} {M : gMem} {J : gMeL} {H H1 : Heap} (h : g_P g ad ds n M J H) (hk : ∀ q : Nat, q < H.size → H1[q]? = H[q]?) : g_P g ad ds n M J H1 :=
  va_P.kept h (fun k x hx => hk x.1 ((h k x hx).lt))
/-! contracts -/
def g_ws (y : MethodName) (b : ByteArray) (maxL : Nat) (ret : Option FieldType) : List Cond := .code y b maxL ret :: Al
def g_rm (k : Nat) : Room := { frames := k, cells := 0, slots := 0, locals := 40 * k }
/-- reads and writes memory; the answer is the int r -/
def CI (l : Launch) (g : gE) (ad : Nat → Nat) (ds : gDs) (n : Nat) (y : MethodName) (b : ByteArray) (maxL : Nat) (ret : Option FieldType) (k : Nat) (As : List Value) (M : gMem) (J : gMeL) (r : Int32) (M' : gMem) (J' : gMeL) : Prop :=
  Met l y (g_ws y b maxL ret) (g_rm k) (va_Pc As (fun U => g_P g ad ds n M J U.heap ∧ g_K g U)) (va_Qi (fun r' (_ : Unit) => r' = r) (fun _ t => g_P g ad ds n M' J' t.heap) (g_A ad n)) 0 0 (g_A ad n)
def CV (l : Launch) (g : gE) (ad : Nat → Nat) (ds : gDs) (n : Nat) (y : MethodName) (b : ByteArray) (maxL : Nat) (k : Nat) (As : List Value) (M : gMem) (J : gMeL) (M' : gMem) (J' : gMeL) : Prop :=
  Met l y (g_ws y b maxL none) (g_rm k) (va_Pc As (fun U => g_P g ad ds n M J U.heap ∧ g_K g U)) (va_Qv (fun (_ : Unit) => True) (fun _ t => g_P g ad ds n M' J' t.heap) (g_A ad n)) 0 0 (g_A ad n)
/-- reads no memory at all -/
def CP (l : Launch) (g : gE) (y : MethodName) (b : ByteArray) (maxL : Nat) (ret : Option FieldType) (k : Nat) (As : List Value) (r : Int32) : Prop :=
  Met l y (g_ws y b maxL ret) (g_rm k) (va_Pc As (fun U => g_K g U)) (va_Qi (fun r' (_ : Unit) => r' = r) (fun _ _ => True) (fun _ => False)) 0 0 (fun _ => False)
def CPL (l : Launch) (g : gE) (y : MethodName) (b : ByteArray) (maxL : Nat) (k : Nat) (As : List Value) (r : Int64) : Prop :=
  Met l y (g_ws y b maxL (some .long)) (g_rm k) (va_Pc As (fun U => g_K g U)) (va_Ql (fun r' (_ : Unit) => r' = r) (fun _ _ => True) (fun _ => False)) 0 0 (fun _ => False)
theorem g_good {y0 y : MethodName} {b0 b : ByteArray} {m0 m1 : Nat} {r0 r1 : Option FieldType} (h : Cond.code y b m1 r1 ∈ Al) : GoodIn (g_ws y0 b0 m0 r0) (g_ws y b m1 r1) := by
  intro w hw
  rcases List.mem_cons.mp hw with rfl | hw
  · exact ⟨List.mem_cons_of_mem _ h, Or.inl rfl⟩
  · exact ⟨List.mem_cons_of_mem _ hw, (Al_self w hw).2⟩
/-- what a callee's name asks of the tables -/
def kwV (y : MethodName) (C : String) (b : ByteArray) (maxL : Nat) (ret : Option FieldType) (n : Nat) : Prop := (Cond.code y b maxL ret ∈ Al ∧ Cond.instanceMethod y ∈ Al ∧ Cond.selects C y y ∈ Al ∧ Cond.initialized C ∈ Al) ∧ (y.cls = C ∧ y.cls ≠ "java/lang/invoke/MethodHandle" ∧ y.cls ≠ "java/lang/invoke/VarHandle" ∧ (parseMethodDescriptor y.desc).map (fun d => d.parameters.length) = some n)
def kwS (y : MethodName) (b : ByteArray) (maxL : Nat) (ret : Option FieldType) (n : Nat) : Prop := (Cond.code y b maxL ret ∈ Al ∧ Cond.static y ∈ Al ∧ Cond.initialized y.cls ∈ Al) ∧ (y.cls ≠ "java/lang/invoke/MethodHandle" ∧ y.cls ≠ "java/lang/invoke/VarHandle" ∧ (parseMethodDescriptor y.desc).map (fun d => d.parameters.length) = some n)
section XF
variable {p : Program} {l : Launch} {e : Env} {R : Room} {s : State} {m : MethodId} {args : Array Value} {below : List Frame} {meth : Method} {c : Code} {H : Heap} {locs : List Loc} {cells slots : Nat} {Q : State → Prop}
variable {cc : ByteArray} {pc nL : Nat} {ls : Array Slot} {rest : List Value} {g : gE} {ad : Nat → Nat} {ds : gDs} {n : Nat} {M M' : gMem} {J J' : gMeL} {A : Nat → Prop} {H0 : Heap}
variable {y0 : MethodName} {b0 : ByteArray} {mL0 : Nat} {r0 : Option FieldType} {own : String} {index : Nat}
theorem x_ri {x z : Int32} (h : x = z) (kk : W p l e R s m args below meth c H locs cells slots Q (F0 m pc ls (.int z :: rest))) : W p l e R s m args below meth c H locs cells slots Q (F0 m pc ls (.int x :: rest)) := h ▸ kk
theorem x_rl {x z : Int64} (h : x = z) (kk : W p l e R s m args below meth c H locs cells slots Q (F0 m pc ls (.long z :: rest))) : W p l e R s m args below meth c H locs cells slots Q (F0 m pc ls (.long x :: rest)) := h ▸ kk
/-- a field that holds a cell -/
theorem x_getr (CF : CallFix p m c cc nL s args (g_ws y0 b0 mL0 r0) own) (hK : g_K g s) (hP : g_P g ad ds n M J H) (i : Nat) (hi : i < n) {ci : Nat} {fl : List (Option Nat)} (hd : ds i = (0, ci, fl)) {C ref : String} {T : u_T} {N : Nat} (hc : vwCl[ci]? = some (C, T, N)) (hin : ∀ w ∈ u_ws C T N, w ∈ Al) (f : Nat) (hf : f < N) {j : Nat} (hj : fl[f]? = some (some j)) (hlink : Cond.fieldLink own index ref (T f).2.1 (T f).2.2.1 ∈ Al) (hsame : (T f).1 = ref) (hdg : decode cc pc = .ok (.getfield index, 3))
    (kk : W p l e R s m args below meth c H locs cells slots Q (F0 m (pc + 3) ls (.ref (ad j) :: rest))) : W p l e R s m args below meth c H locs cells slots Q (F0 m pc ls (.ref (ad i) :: rest)) := by
  obtain ⟨hx, hb, hml, hown, hts⟩ := CF
  subst hsame
  have hE : g_E g ad ds M J i = .inr (ci, g_fld ad (M i) fl) := by simp [g_E, g_cell, hd]
  refine va_get hx hb hts (fun w h => List.mem_cons_of_mem _ (hin w h)) hown hK.1 hP i (g_wl_at hi hE) hc f hf (hts _ (List.mem_cons_of_mem _ hlink)) (fun _ h => h) (v := .ref (ad j)) ?_ hdg kk
  simp [g_fld, hj, g_slot]
/-- a field that holds an int -/
theorem x_geti (CF : CallFix p m c cc nL s args (g_ws y0 b0 mL0 r0) own) (hK : g_K g s) (hP : g_P g ad ds n M J H) (i : Nat) (hi : i < n) {ci : Nat} {fl : List (Option Nat)} (hd : ds i = (0, ci, fl)) {C ref : String} {T : u_T} {N : Nat} (hc : vwCl[ci]? = some (C, T, N)) (hin : ∀ w ∈ u_ws C T N, w ∈ Al) (f : Nat) (hf : f < N) (hj : fl[f]? = some none) (hlink : Cond.fieldLink own index ref (T f).2.1 (T f).2.2.1 ∈ Al) (hsame : (T f).1 = ref) (hdg : decode cc pc = .ok (.getfield index, 3))
    (kk : W p l e R s m args below meth c H locs cells slots Q (F0 m (pc + 3) ls (.int (nI (M i f)) :: rest))) : W p l e R s m args below meth c H locs cells slots Q (F0 m pc ls (.ref (ad i) :: rest)) := by
  obtain ⟨hx, hb, hml, hown, hts⟩ := CF
  subst hsame
  have hE : g_E g ad ds M J i = .inr (ci, g_fld ad (M i) fl) := by simp [g_E, g_cell, hd]
  refine va_get hx hb hts (fun w h => List.mem_cons_of_mem _ (hin w h)) hown hK.1 hP i (g_wl_at hi hE) hc f hf (hts _ (List.mem_cons_of_mem _ hlink)) (fun _ h => h) (v := .int (nI (M i f))) ?_ hdg kk
  simp [g_fld, hj, g_slot]
theorem x_puti (CF : CallFix p m c cc nL s args (g_ws y0 b0 mL0 r0) own) (hK : g_K g s) (hI : g_inj ad n) (hA : ∀ q, g_A ad n q → A q) (hP : g_P g ad ds n M J H) (hS : va_S A H0 H locs) (i : Nat) (hi : i < n) {ci : Nat} {fl : List (Option Nat)} (hd : ds i = (0, ci, fl)) {C ref : String} {T : u_T} {N : Nat} (hc : vwCl[ci]? = some (C, T, N)) (hin : ∀ w ∈ u_ws C T N, w ∈ Al) (ty0 : Nat → FieldType) (hty : ∀ k, k < N → parseFieldDescriptor (T k).2.2.1 = some (ty0 k)) (hnm : ∀ a, a < N → ∀ b, b < N → a ≠ b → (T a).2.1 ≠ (T b).2.1) (f : Nat) (hf : f < N) (hj : fl[f]? = some none) (hlink : Cond.fieldLink own index ref (T f).2.1 (T f).2.2.1 ∈ Al) (hsame : (T f).1 = ref) (hfin : (T f).2.2.2 = false) (v : Nat)
    {ty : FieldType} (hd' : parseFieldDescriptor (T f).2.2.1 = some ty) (hn : narrow ty (.int (nI v)) = .int (nI v)) (hfit : fits ty (.int (nI v)) = true) (hdg : decode cc pc = .ok (.putfield index, 3))
    (kk : ∀ (H1 : Heap) (locs1 : List Loc), g_P g ad ds n (u2 M i f v) J H1 → va_S A H0 H1 locs1 → W p l e R s m args below meth c H1 locs1 cells slots Q (F0 m (pc + 3) ls rest)) : W p l e R s m args below meth c H locs cells slots Q (F0 m pc ls (.int (nI v) :: .ref (ad i) :: rest)) := by
  obtain ⟨hx, hb, hml, hown, hts⟩ := CF
  subst hsame
  have hE : g_E g ad ds M J i = .inr (ci, g_fld ad (M i) fl) := by simp [g_E, g_cell, hd]
  have hlt : f < fl.length := (List.getElem?_eq_some_iff.mp hj).1
  refine va_put hx hb hts (fun w h => List.mem_cons_of_mem _ (hin w h)) ty0 hty hnm hown hK.1 hP ((g_wl_D _ hI).weaken (fun _ q _ h => hA q.1 h)) hS i (g_wl_at hi hE) hc f hf (hts _ (List.mem_cons_of_mem _ hlink)) (fun _ h => h) hfin hd' hn hfit (by simp [g_fld, hlt]) hdg (fun H1 locs1 hP1 _ hS1 => kk H1 locs1 ?_ hS1)
  rw [g_wl_set (E' := g_E g ad ds (u2 M i f v) J) (i := i)] at hP1
  · exact hP1
  · simp only [g_E, g_cell, hd]
    congr 2
    apply List.ext_getElem?
    intro q
    simp only [g_fld, List.getElem?_set, List.getElem?_mapIdx, List.length_mapIdx]
    by_cases hq : f = q
    · subst hq
      have h9 := (List.getElem?_eq_some_iff.mp hj).2
      simp [hlt, g_slot, u2, h9]
    · simp only [if_neg hq]
      cases fl[q]? with
      | none => rfl
      | some o => cases o with
        | none => simp [g_slot, u2, Ne.symm hq]
        | some o => simp [g_slot]
  · intro j hne
    simp only [g_E]
    rw [u2_row hne]
theorem x_iald (CF : CallFix p m c cc nL s args (g_ws y0 b0 mL0 r0) own) (hK : g_K g s) (hP : g_P g ad ds n M J H) (i : Nat) (hi : i < n) {N : Nat} {fl : List (Option Nat)} (hd : ds i = (1, N, fl)) (a : Nat) (ha : a < N) (hN : N < 2 ^ 31) (hdg : decode cc pc = .ok (.iaload, 1))
    (kk : W p l e R s m args below meth c H locs cells slots Q (F0 m (pc + 1) ls (.int (nI (M i a)) :: rest))) : W p l e R s m args below meth c H locs cells slots Q (F0 m pc ls (.int (nI a) :: .ref (ad i) :: rest)) := by
  obtain ⟨hx, hb, hml, hown, hts⟩ := CF
  have hE : g_E g ad ds M J i = .inl (g.2 0, N, .inl (fun k => nI (M i k))) := by simp [g_E, g_cell, hd]
  refine va_iald hx hb hK.1 hP i 0 (g_wl_at hi hE) rfl (vp_in_nI ha hN) hdg ?_
  rw [nI_clamp (by omega)]
  exact kk
theorem x_iast (CF : CallFix p m c cc nL s args (g_ws y0 b0 mL0 r0) own) (hK : g_K g s) (hI : g_inj ad n) (hA : ∀ q, g_A ad n q → A q) (hP : g_P g ad ds n M J H) (hS : va_S A H0 H locs) (i : Nat) (hi : i < n) {N : Nat} {fl : List (Option Nat)} (hd : ds i = (1, N, fl)) (a : Nat) (ha : a < N) (hN : N < 2 ^ 31) (v : Nat) (hdg : decode cc pc = .ok (.iastore, 1))
    (kk : ∀ (H1 : Heap) (locs1 : List Loc), g_P g ad ds n (u2 M i a v) J H1 → va_S A H0 H1 locs1 → W p l e R s m args below meth c H1 locs1 cells slots Q (F0 m (pc + 1) ls rest)) : W p l e R s m args below meth c H locs cells slots Q (F0 m pc ls (.int (nI v) :: .int (nI a) :: .ref (ad i) :: rest)) := by
  obtain ⟨hx, hb, hml, hown, hts⟩ := CF
  have hE : g_E g ad ds M J i = .inl (g.2 0, N, .inl (fun k => nI (M i k))) := by simp [g_E, g_cell, hd]
  refine va_iast hx hb hK.1 hP ((g_wl_D _ hI).weaken (fun _ q _ h => hA q.1 h)) hS i 0 (g_wl_at hi hE) rfl (vp_in_nI ha hN) hdg (fun H1 locs1 hP1 _ hS1 => kk H1 locs1 ?_ hS1)
  rw [nI_clamp (by omega)] at hP1
  rw [g_wl_set (E' := g_E g ad ds (u2 M i a v) J) (i := i)] at hP1
  · exact hP1
  · simp only [g_E, g_cell, hd]
    congr 4
    funext q
    simp only [upd, u2]
    by_cases hq : q = a <;> simp [hq]
  · intro j hne
    simp only [g_E]
    rw [u2_row hne]
theorem x_lald (CF : CallFix p m c cc nL s args (g_ws y0 b0 mL0 r0) own) (hK : g_K g s) (hP : g_P g ad ds n M J H) (i : Nat) (hi : i < n) {N : Nat} {fl : List (Option Nat)} (hd : ds i = (2, N, fl)) (a : Nat) (ha : a < N) (hN : N < 2 ^ 31) (hdg : decode cc pc = .ok (.laload, 1))
    (kk : W p l e R s m args below meth c H locs cells slots Q (F0 m (pc + 1) ls (.long (J i a) :: rest))) : W p l e R s m args below meth c H locs cells slots Q (F0 m pc ls (.int (nI a) :: .ref (ad i) :: rest)) := by
  obtain ⟨hx, hb, hml, hown, hts⟩ := CF
  have hE : g_E g ad ds M J i = .inl (g.2 1, N, .inr (.inl (J i))) := by simp [g_E, g_cell, hd]
  refine va_lald hx hb hK.1 hP i 1 (g_wl_at hi hE) rfl (vp_in_nI ha hN) hdg ?_
  rw [nI_clamp (by omega)]
  exact kk
theorem x_last (CF : CallFix p m c cc nL s args (g_ws y0 b0 mL0 r0) own) (hK : g_K g s) (hI : g_inj ad n) (hA : ∀ q, g_A ad n q → A q) (hP : g_P g ad ds n M J H) (hS : va_S A H0 H locs) (i : Nat) (hi : i < n) {N : Nat} {fl : List (Option Nat)} (hd : ds i = (2, N, fl)) (a : Nat) (ha : a < N) (hN : N < 2 ^ 31) (v : Int64) (hdg : decode cc pc = .ok (.lastore, 1))
    (kk : ∀ (H1 : Heap) (locs1 : List Loc), g_P g ad ds n M (u2L J i a v) H1 → va_S A H0 H1 locs1 → W p l e R s m args below meth c H1 locs1 cells slots Q (F0 m (pc + 1) ls rest)) : W p l e R s m args below meth c H locs cells slots Q (F0 m pc ls (.long v :: .int (nI a) :: .ref (ad i) :: rest)) := by
  obtain ⟨hx, hb, hml, hown, hts⟩ := CF
  have hE : g_E g ad ds M J i = .inl (g.2 1, N, .inr (.inl (J i))) := by simp [g_E, g_cell, hd]
  refine va_last hx hb hK.1 hP ((g_wl_D _ hI).weaken (fun _ q _ h => hA q.1 h)) hS i 1 (g_wl_at hi hE) rfl (vp_in_nI ha hN) hdg (fun H1 locs1 hP1 _ hS1 => kk H1 locs1 ?_ hS1)
  rw [nI_clamp (by omega)] at hP1
  rw [g_wl_set (E' := g_E g ad ds M (u2L J i a v)) (i := i)] at hP1
  · exact hP1
  · simp only [g_E, g_cell, hd]
    congr 5
    funext q
    simp only [vp_updL, u2L]
    by_cases hq : q = a <;> simp [hq]
  · intro j hne
    simp only [g_E]
    rw [u2L_row hne]
theorem x_aald (CF : CallFix p m c cc nL s args (g_ws y0 b0 mL0 r0) own) (hK : g_K g s) (hP : g_P g ad ds n M J H) (i : Nat) (hi : i < n) {t N : Nat} {fl : List (Option Nat)} (hd : ds i = (t + 3, N, fl)) (ht : t < 3) (a : Nat) (ha : a < N) (hN : N < 2 ^ 31) {j : Nat} (hj : fl[a]? = some (some j)) (hdg : decode cc pc = .ok (.aaload, 1))
    (kk : W p l e R s m args below meth c H locs cells slots Q (F0 m (pc + 1) ls (.ref (ad j) :: rest))) : W p l e R s m args below meth c H locs cells slots Q (F0 m pc ls (.int (nI a) :: .ref (ad i) :: rest)) := by
  obtain ⟨hx, hb, hml, hown, hts⟩ := CF
  have hE : g_E g ad ds M J i = .inl (g.2 (t + 2), N, .inr (.inr (.inr (.inr (fun k => (fl.getD k none).map ad))))) := by simp [g_E, g_cell, hd]
  have hin : vp_in (nI a) N := vp_in_nI ha hN
  have hlt : (nI a).toNatClampNeg < N := Nat.not_le.mp fun q => hin (Or.inr q)
  have hv : va_rf ((fl.getD a none).map ad) = .ref (ad j) := by simp [List.getD, hj, va_rf]
  have hty : ∃ ty : FieldType, refKind ty = true ∧ (g_tys g)[t + 2]? = some (g.2 (t + 2), ty) := by
    rcases (show t = 0 ∨ t = 1 ∨ t = 2 by omega) with rfl | rfl | rfl
    · exact ⟨_, rfl, rfl⟩
    · exact ⟨_, rfl, rfl⟩
    · exact ⟨_, rfl, rfl⟩
  obtain ⟨ty, hr, ht2⟩ := hty
  refine W.aald (v := .ref (ad j)) (ty := ty) hx hb (hP i _ (g_wl_at hi hE)) ((hK.1.2 (t + 2) _ ht2).1 N (fun k => va_rf ((fl.getD k none).map ad))) hr (fun q => by cases q) (by show ¬ ((nI a) < 0 ∨ (arrV _ _ _).slots.size ≤ _); rw [arrV_size]; exact hin) (by show (arrV _ _ _).slots[_]? = _; rw [arrV_read _ _ hlt, nI_clamp (by omega), hv]) rfl rfl hdg kk
end XF
section XC
variable {p : Program} {l : Launch} {e : Env} {R : Room} {s : State} {m : MethodId} {args : Array Value} {below : List Frame} {meth : Method} {c : Code} {H : Heap} {locs : List Loc} {cells slots : Nat} {Q : State → Prop}
variable {cc : ByteArray} {pc nL : Nat} {ls : Array Slot} {st rest : List Value} {g : gE} {ad : Nat → Nat} {ds : gDs} {n : Nat} {M M' : gMem} {J J' : gMeL} {A : Nat → Prop} {H0 : Heap}
variable {y0 : MethodName} {b0 : ByteArray} {mL0 : Nat} {r0 : Option FieldType} {own : String} {y : MethodName} {b : ByteArray} {maxL k index : Nat} {ret : Option FieldType} {As : List Value} {r : Int32} {lv : List (Nat × Value)}
theorem g_recv (hK : g_K g s) (hP : g_P g ad ds n M J H) {i : Nat} (hi : i < n) {ci : Nat} {fl : List (Option Nat)} (hd : ds i = (0, ci, fl)) {C : String} {T : u_T} {N : Nat} (hc : vwCl[ci]? = some (C, T, N)) : ∃ cell : Cell, H[ad i]? = some cell ∧ cell.vm.isStatics = false ∧ s.vm.findClass C = some cell.cls := by
  have hE : g_E g ad ds M J i = .inr (ci, g_fld ad (M i) fl) := by simp [g_E, g_cell, hd]
  exact va_recv hK.1 hP hc (g_wl_at hi hE)
theorem g_cwV (ht : ∀ w ∈ g_ws y0 b0 mL0 r0, w.before args s = true) {C : String} {q : Nat} (hw : kwV y C b maxL ret q) (hl : Cond.methodLink own index y ∈ Al) (hR : k + 1 ≤ R.frames ∧ 8 + (maxL + 11) + 40 * k ≤ R.locals) : CallW R s args own C index y b maxL ret (g_ws y b maxL ret) (g_rm k) 0 0 q := by
  obtain ⟨⟨h1, h2, h3, h4⟩, h5, h6⟩ := hw
  have ok : ∀ w ∈ Al, w.before args s = true := fun w h => ht w (List.mem_cons_of_mem _ h)
  exact ⟨callB_of q ht (g_good h1) rfl rfl rfl (by rw [h5]; exact ok _ h4) (ok _ hl) h6 hR, ok _ h2, ok _ h3⟩
theorem g_cwS (ht : ∀ w ∈ g_ws y0 b0 mL0 r0, w.before args s = true) {q : Nat} (hw : kwS y b maxL ret q) (hl : Cond.methodLink own index y ∈ Al) (hR : k + 1 ≤ R.frames ∧ 8 + (maxL + 11) + 40 * k ≤ R.locals) : CallB R s args own index y b maxL ret (g_ws y b maxL ret) (g_rm k) 0 0 q ∧ (Cond.static y).before args s = true := by
  obtain ⟨⟨h1, h2, h4⟩, h6⟩ := hw
  have ok : ∀ w ∈ Al, w.before args s = true := fun w h => ht w (List.mem_cons_of_mem _ h)
  exact ⟨callB_of q ht (g_good h1) rfl rfl rfl (ok _ h4) (ok _ hl) h6 hR, ok _ h2⟩
theorem g_cwN (ht : ∀ w ∈ g_ws y0 b0 mL0 r0, w.before args s = true) {q : Nat} (hw : kwS y b maxL ret q) (hl : va_Nw (.methodLinkNest own index y "ShaftPlay") s) (hR : k + 1 ≤ R.frames ∧ 8 + (maxL + 11) + 40 * k ≤ R.locals) : va_CN R s args own index y "ShaftPlay" b maxL ret (g_ws y b maxL ret) (g_rm k) 0 0 q ∧ (Cond.static y).before args s = true ∧ True := by
  obtain ⟨⟨h1, h2, h4⟩, h6⟩ := hw
  have ok : ∀ w ∈ Al, w.before args s = true := fun w h => ht w (List.mem_cons_of_mem _ h)
  exact ⟨va_cnB q ht (g_good h1) rfl rfl rfl hl (ok _ h4) h6 hR, ok _ h2, trivial⟩
theorem g_preS {Pc : Array Value → State → Prop} {B : State → Prop} (hb1 : ∀ (a : Array Value) (U : State) (f : JFrame) (mk : MethodId), B U → B (U.calling f mk a)) (hb2 : ∀ U : State, U.heap = H → s.WarmedH U.vm → B U) : PreS s H (va_Pc As B) As :=
  ⟨fun a U f mk q => ⟨q.1, hb1 a U f mk q.2⟩, fun U h1 h2 => ⟨rfl, hb2 U h1 h2⟩⟩
theorem x_callVI (CF : CallFix p m c cc nL s args (g_ws y0 b0 mL0 r0) own) (hK : g_K g s) (hP : g_P g ad ds n M J H) (hS : va_S A H0 H locs) (hA : ∀ q, g_A ad n q → A q) (hl : lv_has ls nL lv) {i : Nat} (hc : CI l g ad ds n y b maxL ret k (.ref (ad i) :: As) M J r M' J') {C : String} (hw : kwV y C b maxL ret As.length) (hlink : Cond.methodLink own index y ∈ Al) (hi : i < n) {ci : Nat} {fl : List (Option Nat)} (hd : ds i = (0, ci, fl)) {T : u_T} {N : Nat} (hcl : vwCl[ci]? = some (C, T, N)) (hst : st = As.reverse ++ .ref (ad i) :: rest) (hR : k + 1 ≤ R.frames ∧ 8 + (maxL + 11) + 40 * k ≤ R.locals) (hfit : cells ≤ R.cells ∧ slots ≤ R.slots) (hr : (rest.map fun v => v.category).sum ≤ 8) (hdg : decode cc pc = .ok (.invokevirtual index, 3))
    (kk : ∀ (H1 : Heap) (locs1 : List Loc), g_P g ad ds n M' J' H1 → va_S A H0 H1 locs1 → W p l e R s m args below meth c H1 locs1 cells slots Q (F0 m (pc + 3) ls (.int r :: rest))) : W p l e R s m args below meth c H locs cells slots Q (F0 m pc ls st) := by
  subst hst
  refine va_calli (va_runV (As := As) (rest := rest) CF hc (g_cwV CF.2.2.2.2 hw hlink hR) ⟨fun a U f mk q => ⟨q.1, q.2.1, q.2.2.calling⟩, g_recv hK hP hi hd hcl, fun U h1 h2 => ⟨rfl, by rw [h1]; exact hP, hK.warm h2⟩⟩ rfl rfl hl.1 rfl (lv_room hr) hdg hfit) hS (fun q _ h => hA q h) hA (fun r' _ t H1 locs1 ht _ hq hB _ _ hS1 => ?_)
  subst hq
  exact kk H1 locs1 (by rw [← ht]; exact hB) hS1
theorem x_callVV (CF : CallFix p m c cc nL s args (g_ws y0 b0 mL0 r0) own) (hK : g_K g s) (hP : g_P g ad ds n M J H) (hS : va_S A H0 H locs) (hA : ∀ q, g_A ad n q → A q) (hl : lv_has ls nL lv) {i : Nat} (hc : CV l g ad ds n y b maxL k (.ref (ad i) :: As) M J M' J') {C : String} (hw : kwV y C b maxL none As.length) (hlink : Cond.methodLink own index y ∈ Al) (hi : i < n) {ci : Nat} {fl : List (Option Nat)} (hd : ds i = (0, ci, fl)) {T : u_T} {N : Nat} (hcl : vwCl[ci]? = some (C, T, N)) (hst : st = As.reverse ++ .ref (ad i) :: rest) (hR : k + 1 ≤ R.frames ∧ 8 + (maxL + 11) + 40 * k ≤ R.locals) (hfit : cells ≤ R.cells ∧ slots ≤ R.slots) (hr : (rest.map fun v => v.category).sum ≤ 8) (hdg : decode cc pc = .ok (.invokevirtual index, 3))
    (kk : ∀ (H1 : Heap) (locs1 : List Loc), g_P g ad ds n M' J' H1 → va_S A H0 H1 locs1 → W p l e R s m args below meth c H1 locs1 cells slots Q (F0 m (pc + 3) ls rest)) : W p l e R s m args below meth c H locs cells slots Q (F0 m pc ls st) := by
  subst hst
  refine va_callv (va_runV (As := As) (rest := rest) CF hc (g_cwV CF.2.2.2.2 hw hlink hR) ⟨fun a U f mk q => ⟨q.1, q.2.1, q.2.2.calling⟩, g_recv hK hP hi hd hcl, fun U h1 h2 => ⟨rfl, by rw [h1]; exact hP, hK.warm h2⟩⟩ rfl rfl hl.1 rfl (lv_room hr) hdg hfit) hS (fun q _ h => hA q h) hA (fun _ t H1 locs1 ht _ hq hB _ _ hS1 => ?_)
  exact kk H1 locs1 (by rw [← ht]; exact hB) hS1
theorem x_callSI (CF : CallFix p m c cc nL s args (g_ws y0 b0 mL0 r0) own) (hK : g_K g s) (hP : g_P g ad ds n M J H) (hS : va_S A H0 H locs) (hA : ∀ q, g_A ad n q → A q) (hl : lv_has ls nL lv) (hc : CI l g ad ds n y b maxL ret k As M J r M' J') (hw : kwS y b maxL ret As.length) (hlink : Cond.methodLink own index y ∈ Al) (hst : st = As.reverse ++ rest) (hR : k + 1 ≤ R.frames ∧ 8 + (maxL + 11) + 40 * k ≤ R.locals) (hfit : cells ≤ R.cells ∧ slots ≤ R.slots) (hr : (rest.map fun v => v.category).sum ≤ 8) (hdg : decode cc pc = .ok (.invokestatic index, 3))
    (kk : ∀ (H1 : Heap) (locs1 : List Loc), g_P g ad ds n M' J' H1 → va_S A H0 H1 locs1 → W p l e R s m args below meth c H1 locs1 cells slots Q (F0 m (pc + 3) ls (.int r :: rest))) : W p l e R s m args below meth c H locs cells slots Q (F0 m pc ls st) := by
  subst hst
  refine va_calli (va_runS (As := As) (rest := rest) CF hc (g_cwS CF.2.2.2.2 hw hlink hR) ⟨fun a U f mk q => ⟨q.1, q.2.1, q.2.2.calling⟩, fun U h1 h2 => ⟨rfl, by rw [h1]; exact hP, hK.warm h2⟩⟩ rfl rfl hl.1 rfl (lv_room hr) hdg hfit) hS (fun q _ h => hA q h) hA (fun r' _ t H1 locs1 ht _ hq hB _ _ hS1 => ?_)
  subst hq
  exact kk H1 locs1 (by rw [← ht]; exact hB) hS1
theorem x_callSV (CF : CallFix p m c cc nL s args (g_ws y0 b0 mL0 r0) own) (hK : g_K g s) (hP : g_P g ad ds n M J H) (hS : va_S A H0 H locs) (hA : ∀ q, g_A ad n q → A q) (hl : lv_has ls nL lv) (hc : CV l g ad ds n y b maxL k As M J M' J') (hw : kwS y b maxL none As.length) (hlink : Cond.methodLink own index y ∈ Al) (hst : st = As.reverse ++ rest) (hR : k + 1 ≤ R.frames ∧ 8 + (maxL + 11) + 40 * k ≤ R.locals) (hfit : cells ≤ R.cells ∧ slots ≤ R.slots) (hr : (rest.map fun v => v.category).sum ≤ 8) (hdg : decode cc pc = .ok (.invokestatic index, 3))
    (kk : ∀ (H1 : Heap) (locs1 : List Loc), g_P g ad ds n M' J' H1 → va_S A H0 H1 locs1 → W p l e R s m args below meth c H1 locs1 cells slots Q (F0 m (pc + 3) ls rest)) : W p l e R s m args below meth c H locs cells slots Q (F0 m pc ls st) := by
  subst hst
  refine va_callv (va_runS (As := As) (rest := rest) CF hc (g_cwS CF.2.2.2.2 hw hlink hR) ⟨fun a U f mk q => ⟨q.1, q.2.1, q.2.2.calling⟩, fun U h1 h2 => ⟨rfl, by rw [h1]; exact hP, hK.warm h2⟩⟩ rfl rfl hl.1 rfl (lv_room hr) hdg hfit) hS (fun q _ h => hA q h) hA (fun _ t H1 locs1 ht _ hq hB _ _ hS1 => ?_)
  exact kk H1 locs1 (by rw [← ht]; exact hB) hS1
/-- a pure call: the heap's cells stay (in a world) -/
theorem x_callSP (CF : CallFix p m c cc nL s args (g_ws y0 b0 mL0 r0) own) (hK : g_K g s) (hP : g_P g ad ds n M J H) (hS : va_S A H0 H locs) (hl : lv_has ls nL lv) (hc : CP l g y b maxL ret k As r) (hw : kwS y b maxL ret As.length) (hlink : Cond.methodLink own index y ∈ Al) (hst : st = As.reverse ++ rest) (hR : k + 1 ≤ R.frames ∧ 8 + (maxL + 11) + 40 * k ≤ R.locals) (hfit : cells ≤ R.cells ∧ slots ≤ R.slots) (hr : (rest.map fun v => v.category).sum ≤ 8) (hdg : decode cc pc = .ok (.invokestatic index, 3))
    (kk : ∀ (H1 : Heap) (locs1 : List Loc), g_P g ad ds n M J H1 → va_S A H0 H1 locs1 → W p l e R s m args below meth c H1 locs1 cells slots Q (F0 m (pc + 3) ls (.int r :: rest))) : W p l e R s m args below meth c H locs cells slots Q (F0 m pc ls st) := by
  subst hst
  refine va_calli (va_runS (As := As) (rest := rest) CF hc (g_cwS CF.2.2.2.2 hw hlink hR) ⟨fun a U f mk q => ⟨q.1, q.2.calling⟩, fun U h1 h2 => ⟨rfl, hK.warm h2⟩⟩ rfl rfl hl.1 rfl (lv_room hr) hdg hfit) hS (fun q _ h => h.elim) (fun q h => h.elim) (fun r' _ t H1 locs1 ht _ hq _ _ hk1 hS1 => ?_)
  subst hq
  exact kk H1 locs1 (hP.kept (fun q h => hk1 q h (fun x => x))) hS1
/-- a pure call, in a pure method -/
theorem x_callPP (CF : CallFix p m c cc nL s args (g_ws y0 b0 mL0 r0) own) (hK : g_K g s) (hS : va_S A H0 H locs) (hl : lv_has ls nL lv) (hc : CP l g y b maxL ret k As r) (hw : kwS y b maxL ret As.length) (hlink : Cond.methodLink own index y ∈ Al) (hst : st = As.reverse ++ rest) (hR : k + 1 ≤ R.frames ∧ 8 + (maxL + 11) + 40 * k ≤ R.locals) (hfit : cells ≤ R.cells ∧ slots ≤ R.slots) (hr : (rest.map fun v => v.category).sum ≤ 8) (hdg : decode cc pc = .ok (.invokestatic index, 3))
    (kk : ∀ (H1 : Heap) (locs1 : List Loc), va_S A H0 H1 locs1 → W p l e R s m args below meth c H1 locs1 cells slots Q (F0 m (pc + 3) ls (.int r :: rest))) : W p l e R s m args below meth c H locs cells slots Q (F0 m pc ls st) := by
  subst hst
  refine va_calli (va_runS (As := As) (rest := rest) CF hc (g_cwS CF.2.2.2.2 hw hlink hR) ⟨fun a U f mk q => ⟨q.1, q.2.calling⟩, fun U h1 h2 => ⟨rfl, hK.warm h2⟩⟩ rfl rfl hl.1 rfl (lv_room hr) hdg hfit) hS (fun q _ h => h.elim) (fun q h => h.elim) (fun r' _ t H1 locs1 ht _ hq _ _ _ hS1 => ?_)
  subst hq
  exact kk H1 locs1 hS1
theorem x_callNP (CF : CallFix p m c cc nL s args (g_ws y0 b0 mL0 r0) own) (hK : g_K g s) (hP : g_P g ad ds n M J H) (hS : va_S A H0 H locs) (hl : lv_has ls nL lv) (hc : CP l g y b maxL ret k As r) (hw : kwS y b maxL ret As.length) (hlink : va_Nw (.methodLinkNest own index y "ShaftPlay") s) (hst : st = As.reverse ++ rest) (hR : k + 1 ≤ R.frames ∧ 8 + (maxL + 11) + 40 * k ≤ R.locals) (hfit : cells ≤ R.cells ∧ slots ≤ R.slots) (hr : (rest.map fun v => v.category).sum ≤ 8) (hdg : decode cc pc = .ok (.invokestatic index, 3))
    (kk : ∀ (H1 : Heap) (locs1 : List Loc), g_P g ad ds n M J H1 → va_S A H0 H1 locs1 → W p l e R s m args below meth c H1 locs1 cells slots Q (F0 m (pc + 3) ls (.int r :: rest))) : W p l e R s m args below meth c H locs cells slots Q (F0 m pc ls st) := by
  subst hst
  refine va_calli (va_runSN (As := As) (rest := rest) CF hc (g_cwN CF.2.2.2.2 hw hlink hR) ⟨fun a U f mk q => ⟨q.1, q.2.calling⟩, fun U h1 h2 => ⟨rfl, hK.warm h2⟩⟩ rfl rfl hl.1 rfl (lv_room hr) hdg hfit) hS (fun q _ h => h.elim) (fun q h => h.elim) (fun r' _ t H1 locs1 ht _ hq _ _ hk1 hS1 => ?_)
  subst hq
  exact kk H1 locs1 (hP.kept (fun q h => hk1 q h (fun x => x))) hS1
theorem x_callNPP (CF : CallFix p m c cc nL s args (g_ws y0 b0 mL0 r0) own) (hK : g_K g s) (hS : va_S A H0 H locs) (hl : lv_has ls nL lv) (hc : CP l g y b maxL ret k As r) (hw : kwS y b maxL ret As.length) (hlink : va_Nw (.methodLinkNest own index y "ShaftPlay") s) (hst : st = As.reverse ++ rest) (hR : k + 1 ≤ R.frames ∧ 8 + (maxL + 11) + 40 * k ≤ R.locals) (hfit : cells ≤ R.cells ∧ slots ≤ R.slots) (hr : (rest.map fun v => v.category).sum ≤ 8) (hdg : decode cc pc = .ok (.invokestatic index, 3))
    (kk : ∀ (H1 : Heap) (locs1 : List Loc), va_S A H0 H1 locs1 → W p l e R s m args below meth c H1 locs1 cells slots Q (F0 m (pc + 3) ls (.int r :: rest))) : W p l e R s m args below meth c H locs cells slots Q (F0 m pc ls st) := by
  subst hst
  refine va_calli (va_runSN (As := As) (rest := rest) CF hc (g_cwN CF.2.2.2.2 hw hlink hR) ⟨fun a U f mk q => ⟨q.1, q.2.calling⟩, fun U h1 h2 => ⟨rfl, hK.warm h2⟩⟩ rfl rfl hl.1 rfl (lv_room hr) hdg hfit) hS (fun q _ h => h.elim) (fun q h => h.elim) (fun r' _ t H1 locs1 ht _ hq _ _ _ hS1 => ?_)
  subst hq
  exact kk H1 locs1 hS1
theorem x_callSPL {r : Int64} (CF : CallFix p m c cc nL s args (g_ws y0 b0 mL0 r0) own) (hK : g_K g s) (hP : g_P g ad ds n M J H) (hS : va_S A H0 H locs) (hl : lv_has ls nL lv) (hc : CPL l g y b maxL k As r) (hw : kwS y b maxL (some .long) As.length) (hlink : Cond.methodLink own index y ∈ Al) (hst : st = As.reverse ++ rest) (hR : k + 1 ≤ R.frames ∧ 8 + (maxL + 11) + 40 * k ≤ R.locals) (hfit : cells ≤ R.cells ∧ slots ≤ R.slots) (hr : (rest.map fun v => v.category).sum ≤ 8) (hdg : decode cc pc = .ok (.invokestatic index, 3))
    (kk : ∀ (H1 : Heap) (locs1 : List Loc), g_P g ad ds n M J H1 → va_S A H0 H1 locs1 → W p l e R s m args below meth c H1 locs1 cells slots Q (F0 m (pc + 3) ls (.long r :: rest))) : W p l e R s m args below meth c H locs cells slots Q (F0 m pc ls st) := by
  subst hst
  refine va_calll (va_runS (As := As) (rest := rest) CF hc (g_cwS CF.2.2.2.2 hw hlink hR) ⟨fun a U f mk q => ⟨q.1, q.2.calling⟩, fun U h1 h2 => ⟨rfl, hK.warm h2⟩⟩ rfl rfl hl.1 rfl (lv_room hr) hdg hfit) hS (fun q _ h => h.elim) (fun q h => h.elim) (fun r' _ t H1 locs1 ht _ hq _ _ hk1 hS1 => ?_)
  subst hq
  exact kk H1 locs1 (hP.kept (fun q h => hk1 q h (fun x => x))) hS1
end XC
end
section
/-! one-instruction rows over naturals -/
theorem n_add (a b : Nat) : nI a + nI b = nI (a + b) := nI_add a b
theorem n_s32 : ∀ n, n < 32 → ((nI n &&& 31).toBitVec.smod 32).toNat = n := by decide +kernel
theorem n_u32 : ∀ n, n < 32 → (((nI n).toUInt32 &&& Int32.toUInt32 31).toBitVec % 32).toNat = n := by decide +kernel
theorem n_and (a b : Nat) : nI a &&& nI b = nI (a &&& b) := by
  apply Int32.toBitVec_inj.mp
  rw [Int32.toBitVec_and]
  simp [nI]
theorem n_or (a b : Nat) : nI a ||| nI b = nI (a ||| b) := by
  apply Int32.toBitVec_inj.mp
  rw [Int32.toBitVec_or]
  simp [nI]
theorem n_xor (a b : Nat) : nI a ^^^ nI b = nI (a ^^^ b) := by
  apply Int32.toBitVec_inj.mp
  rw [Int32.toBitVec_xor]
  simp [nI]
theorem n_eqv {x : Int32} {n : Nat} (h : x.toBitVec.toNat = n % 2 ^ 32) : x = nI n := by
  apply Int32.toBitVec_inj.mp
  apply BitVec.eq_of_toNat_eq
  rw [h]
  simp [nI]
theorem n_tn (n : Nat) : (nI n).toBitVec.toNat = n % 2 ^ 32 := by simp [nI]
theorem n_shl (v : Nat) {a : Nat} (ha : a < 32) : nI v <<< (nI a &&& 31) = nI (v <<< a) := by
  apply n_eqv
  rw [pk_shl _ _ a (n_s32 a ha), n_tn, Nat.shiftLeft_eq, Nat.mod_mul_mod]
theorem n_shr {v a : Nat} (hv : v < 2 ^ 31) (ha : a < 32) : nI v >>> (nI a &&& 31) = nI (v >>> a) := by
  rw [pk_shrN hv _ a (n_s32 a ha), Nat.shiftRight_eq_div_pow]
theorem n_ushr {v a : Nat} (hv : v < 2 ^ 32) (ha : a < 32) : ((nI v).toUInt32 >>> ((nI a).toUInt32 &&& Int32.toUInt32 31)).toInt32 = nI (v >>> a) := by
  rw [pk_ushrN hv _ a (n_u32 a ha), Nat.shiftRight_eq_div_pow]
theorem n_int {x : Int32} {n : Nat} (hn : n ≤ 2 ^ 31) : (∃ a, a < n ∧ x = nI a) ∨ (x.toInt < 0 ∨ (n : Int) ≤ x.toInt) := by
  by_cases h : 0 ≤ x.toInt ∧ x.toInt < n
  · refine Or.inl ⟨x.toInt.toNat, by omega, ?_⟩
    apply Int32.toInt_inj.mp
    rw [nI_toInt (by omega)]
    omega
  · exact Or.inr (by omega)
theorem n_inc (a d : Nat) : nI a + Int32.ofInt (d : Int) = nI (a + d) := nI_add a d
theorem n_i2 {x y : Int32} : x < y ↔ x.toInt < y.toInt := Int32.lt_iff_toInt_lt
theorem n_i3 {x y : Int32} : x ≤ y ↔ x.toInt ≤ y.toInt := Int32.le_iff_toInt_le
theorem n_i4 {x y : Int32} : x = y ↔ x.toInt = y.toInt := Int32.toInt_inj.symm
section XR
variable {p : Program} {l : Launch} {e : Env} {R : Room} {s : State} {m : MethodId} {args : Array Value} {below : List Frame} {meth : Method} {c : Code} {H : Heap} {locs : List Loc} {cells slots : Nat} {Q : State → Prop}
variable {cc : ByteArray} {pc nL : Nat} {ls : Array Slot} {rest : List Value}
theorem x_iadd (hx : p.tables.exec = Jvm.exec) (hb : c.code = cc) {a b : Nat} (hdg : decode cc pc = .ok (.iadd, 1)) (k : W p l e R s m args below meth c H locs cells slots Q (F0 m (pc + 1) ls (.int (nI (a + b)) :: rest))) : W p l e R s m args below meth c H locs cells slots Q (F0 m pc ls (.int (nI b) :: .int (nI a) :: rest)) :=
  lv_iadd hx hb hdg (by rw [n_add]; exact k)
theorem x_isub (hx : p.tables.exec = Jvm.exec) (hb : c.code = cc) {a b : Nat} (h : b ≤ a) (hdg : decode cc pc = .ok (.isub, 1)) (k : W p l e R s m args below meth c H locs cells slots Q (F0 m (pc + 1) ls (.int (nI (a - b)) :: rest))) : W p l e R s m args below meth c H locs cells slots Q (F0 m pc ls (.int (nI b) :: .int (nI a) :: rest)) :=
  lv_isub hx hb hdg (by rw [pk_sub h]; exact k)
theorem x_imul (hx : p.tables.exec = Jvm.exec) (hb : c.code = cc) {a b : Nat} (hdg : decode cc pc = .ok (.imul, 1)) (k : W p l e R s m args below meth c H locs cells slots Q (F0 m (pc + 1) ls (.int (nI (a * b)) :: rest))) : W p l e R s m args below meth c H locs cells slots Q (F0 m pc ls (.int (nI b) :: .int (nI a) :: rest)) :=
  lv_imul hx hb hdg (by rw [pk_mul]; exact k)
theorem x_idiv (hx : p.tables.exec = Jvm.exec) (hb : c.code = cc) {a b : Nat} (ha : a < 2 ^ 31) (h0 : 0 < b) (h1 : b < 2 ^ 31) (hdg : decode cc pc = .ok (.idiv, 1)) (k : W p l e R s m args below meth c H locs cells slots Q (F0 m (pc + 1) ls (.int (nI (a / b)) :: rest))) : W p l e R s m args below meth c H locs cells slots Q (F0 m pc ls (.int (nI b) :: .int (nI a) :: rest)) :=
  lv_idiv hx hb hdg (nI_ne0 h0 h1) (by rw [pk_div ha h0 h1]; exact k)
theorem x_irem (hx : p.tables.exec = Jvm.exec) (hb : c.code = cc) {a b : Nat} (ha : a < 2 ^ 31) (h0 : 0 < b) (h1 : b < 2 ^ 31) (hdg : decode cc pc = .ok (.irem, 1)) (k : W p l e R s m args below meth c H locs cells slots Q (F0 m (pc + 1) ls (.int (nI (a % b)) :: rest))) : W p l e R s m args below meth c H locs cells slots Q (F0 m pc ls (.int (nI b) :: .int (nI a) :: rest)) :=
  lv_irem hx hb hdg (nI_ne0 h0 h1) (by rw [pk_rem ha h0 h1]; exact k)
theorem x_iand (hx : p.tables.exec = Jvm.exec) (hb : c.code = cc) {a b : Nat} (hdg : decode cc pc = .ok (.iand, 1)) (k : W p l e R s m args below meth c H locs cells slots Q (F0 m (pc + 1) ls (.int (nI (a &&& b)) :: rest))) : W p l e R s m args below meth c H locs cells slots Q (F0 m pc ls (.int (nI b) :: .int (nI a) :: rest)) :=
  lv_iand hx hb hdg (by rw [n_and]; exact k)
theorem x_ior (hx : p.tables.exec = Jvm.exec) (hb : c.code = cc) {a b : Nat} (hdg : decode cc pc = .ok (.ior, 1)) (k : W p l e R s m args below meth c H locs cells slots Q (F0 m (pc + 1) ls (.int (nI (a ||| b)) :: rest))) : W p l e R s m args below meth c H locs cells slots Q (F0 m pc ls (.int (nI b) :: .int (nI a) :: rest)) :=
  lv_ior hx hb hdg (by rw [n_or]; exact k)
theorem x_ixor (hx : p.tables.exec = Jvm.exec) (hb : c.code = cc) {a b : Nat} (hdg : decode cc pc = .ok (.ixor, 1)) (k : W p l e R s m args below meth c H locs cells slots Q (F0 m (pc + 1) ls (.int (nI (a ^^^ b)) :: rest))) : W p l e R s m args below meth c H locs cells slots Q (F0 m pc ls (.int (nI b) :: .int (nI a) :: rest)) :=
  lv_ixor hx hb hdg (by rw [n_xor]; exact k)
theorem x_ishl (hx : p.tables.exec = Jvm.exec) (hb : c.code = cc) {a b : Nat} (h : b < 32) (hdg : decode cc pc = .ok (.ishl, 1)) (k : W p l e R s m args below meth c H locs cells slots Q (F0 m (pc + 1) ls (.int (nI (a <<< b)) :: rest))) : W p l e R s m args below meth c H locs cells slots Q (F0 m pc ls (.int (nI b) :: .int (nI a) :: rest)) :=
  lv_ishl hx hb hdg (by rw [n_shl a h]; exact k)
theorem x_ishr (hx : p.tables.exec = Jvm.exec) (hb : c.code = cc) {a b : Nat} (ha : a < 2 ^ 31) (h : b < 32) (hdg : decode cc pc = .ok (.ishr, 1)) (k : W p l e R s m args below meth c H locs cells slots Q (F0 m (pc + 1) ls (.int (nI (a >>> b)) :: rest))) : W p l e R s m args below meth c H locs cells slots Q (F0 m pc ls (.int (nI b) :: .int (nI a) :: rest)) :=
  lv_ishr hx hb hdg (by rw [n_shr ha h]; exact k)
theorem x_iushr (hx : p.tables.exec = Jvm.exec) (hb : c.code = cc) {a b : Nat} (ha : a < 2 ^ 32) (h : b < 32) (hdg : decode cc pc = .ok (.iushr, 1)) (k : W p l e R s m args below meth c H locs cells slots Q (F0 m (pc + 1) ls (.int (nI (a >>> b)) :: rest))) : W p l e R s m args below meth c H locs cells slots Q (F0 m pc ls (.int (nI b) :: .int (nI a) :: rest)) :=
  lv_iushr hx hb hdg (n_ushr ha h) k
variable {x y : Int32} {off : Int} {tgt : Nat}
theorem x_zlt (hx : p.tables.exec = Jvm.exec) (hb : c.code = cc) {u v : Int} (hu : x.toInt = u) (hv : y.toInt = v) (hdg : decode cc pc = .ok (.if_icmp .lt off, 3)) (ht : (pc : Int) + off = (tgt : Int)) (kt : u < v → W p l e R s m args below meth c H locs cells slots Q (F0 m tgt ls rest)) (kf : v ≤ u → W p l e R s m args below meth c H locs cells slots Q (F0 m (pc + 3) ls rest)) : W p l e R s m args below meth c H locs cells slots Q (F0 m pc ls (.int y :: .int x :: rest)) := by
  subst hu; subst hv
  exact lv_icmp_lt hx hb hdg ht (fun h => kt (n_i2.mp h)) (fun h => kf (by rw [n_i2] at h; omega))
theorem x_zge (hx : p.tables.exec = Jvm.exec) (hb : c.code = cc) {u v : Int} (hu : x.toInt = u) (hv : y.toInt = v) (hdg : decode cc pc = .ok (.if_icmp .ge off, 3)) (ht : (pc : Int) + off = (tgt : Int)) (kt : v ≤ u → W p l e R s m args below meth c H locs cells slots Q (F0 m tgt ls rest)) (kf : u < v → W p l e R s m args below meth c H locs cells slots Q (F0 m (pc + 3) ls rest)) : W p l e R s m args below meth c H locs cells slots Q (F0 m pc ls (.int y :: .int x :: rest)) := by
  subst hu; subst hv
  exact lv_icmp_ge hx hb hdg ht (fun h => kt (n_i3.mp h)) (fun h => kf (by rw [n_i3] at h; omega))
theorem x_zgt (hx : p.tables.exec = Jvm.exec) (hb : c.code = cc) {u v : Int} (hu : x.toInt = u) (hv : y.toInt = v) (hdg : decode cc pc = .ok (.if_icmp .gt off, 3)) (ht : (pc : Int) + off = (tgt : Int)) (kt : v < u → W p l e R s m args below meth c H locs cells slots Q (F0 m tgt ls rest)) (kf : u ≤ v → W p l e R s m args below meth c H locs cells slots Q (F0 m (pc + 3) ls rest)) : W p l e R s m args below meth c H locs cells slots Q (F0 m pc ls (.int y :: .int x :: rest)) := by
  subst hu; subst hv
  exact lv_icmp_gt hx hb hdg ht (fun h => kt (n_i2.mp h)) (fun h => kf (by rw [n_i2] at h; omega))
theorem x_zle (hx : p.tables.exec = Jvm.exec) (hb : c.code = cc) {u v : Int} (hu : x.toInt = u) (hv : y.toInt = v) (hdg : decode cc pc = .ok (.if_icmp .le off, 3)) (ht : (pc : Int) + off = (tgt : Int)) (kt : u ≤ v → W p l e R s m args below meth c H locs cells slots Q (F0 m tgt ls rest)) (kf : v < u → W p l e R s m args below meth c H locs cells slots Q (F0 m (pc + 3) ls rest)) : W p l e R s m args below meth c H locs cells slots Q (F0 m pc ls (.int y :: .int x :: rest)) := by
  subst hu; subst hv
  exact lv_icmp_le hx hb hdg ht (fun h => kt (n_i3.mp h)) (fun h => kf (by rw [n_i3] at h; omega))
theorem x_zeq (hx : p.tables.exec = Jvm.exec) (hb : c.code = cc) {u v : Int} (hu : x.toInt = u) (hv : y.toInt = v) (hdg : decode cc pc = .ok (.if_icmp .eq off, 3)) (ht : (pc : Int) + off = (tgt : Int)) (kt : u = v → W p l e R s m args below meth c H locs cells slots Q (F0 m tgt ls rest)) (kf : ¬ u = v → W p l e R s m args below meth c H locs cells slots Q (F0 m (pc + 3) ls rest)) : W p l e R s m args below meth c H locs cells slots Q (F0 m pc ls (.int y :: .int x :: rest)) := by
  subst hu; subst hv
  exact lv_icmp_eq hx hb hdg ht (fun h => kt (n_i4.mp h)) (fun h => kf (by rw [n_i4] at h; omega))
theorem x_zne (hx : p.tables.exec = Jvm.exec) (hb : c.code = cc) {u v : Int} (hu : x.toInt = u) (hv : y.toInt = v) (hdg : decode cc pc = .ok (.if_icmp .ne off, 3)) (ht : (pc : Int) + off = (tgt : Int)) (kt : ¬ u = v → W p l e R s m args below meth c H locs cells slots Q (F0 m tgt ls rest)) (kf : u = v → W p l e R s m args below meth c H locs cells slots Q (F0 m (pc + 3) ls rest)) : W p l e R s m args below meth c H locs cells slots Q (F0 m pc ls (.int y :: .int x :: rest)) := by
  subst hu; subst hv
  exact lv_icmp_ne hx hb hdg ht (fun h => kt (fun q => h (n_i4.mpr q))) (fun h => kf (n_i4.mp (by first | exact h | exact Classical.not_not.mp h)))
theorem x_ylt (hx : p.tables.exec = Jvm.exec) (hb : c.code = cc) {u : Int} (hu : x.toInt = u) (hdg : decode cc pc = .ok (.ifCond .lt off, 3)) (ht : (pc : Int) + off = (tgt : Int)) (kt : u < 0 → W p l e R s m args below meth c H locs cells slots Q (F0 m tgt ls rest)) (kf : 0 ≤ u → W p l e R s m args below meth c H locs cells slots Q (F0 m (pc + 3) ls rest)) : W p l e R s m args below meth c H locs cells slots Q (F0 m pc ls (.int x :: rest)) := by
  subst hu
  exact lv_if_lt hx hb hdg ht (fun h => kt (n_i2.mp h)) (fun h => kf (by rw [n_i2] at h; exact Int.not_lt.mp h))
theorem x_yge (hx : p.tables.exec = Jvm.exec) (hb : c.code = cc) {u : Int} (hu : x.toInt = u) (hdg : decode cc pc = .ok (.ifCond .ge off, 3)) (ht : (pc : Int) + off = (tgt : Int)) (kt : 0 ≤ u → W p l e R s m args below meth c H locs cells slots Q (F0 m tgt ls rest)) (kf : u < 0 → W p l e R s m args below meth c H locs cells slots Q (F0 m (pc + 3) ls rest)) : W p l e R s m args below meth c H locs cells slots Q (F0 m pc ls (.int x :: rest)) := by
  subst hu
  exact lv_if_ge hx hb hdg ht (fun h => kt (n_i3.mp h)) (fun h => kf (by rw [n_i3] at h; exact Int.not_le.mp h))
theorem x_ygt (hx : p.tables.exec = Jvm.exec) (hb : c.code = cc) {u : Int} (hu : x.toInt = u) (hdg : decode cc pc = .ok (.ifCond .gt off, 3)) (ht : (pc : Int) + off = (tgt : Int)) (kt : 0 < u → W p l e R s m args below meth c H locs cells slots Q (F0 m tgt ls rest)) (kf : u ≤ 0 → W p l e R s m args below meth c H locs cells slots Q (F0 m (pc + 3) ls rest)) : W p l e R s m args below meth c H locs cells slots Q (F0 m pc ls (.int x :: rest)) := by
  subst hu
  exact lv_if_gt hx hb hdg ht (fun h => kt (n_i2.mp h)) (fun h => kf (by rw [n_i2] at h; exact Int.not_lt.mp h))
theorem x_yle (hx : p.tables.exec = Jvm.exec) (hb : c.code = cc) {u : Int} (hu : x.toInt = u) (hdg : decode cc pc = .ok (.ifCond .le off, 3)) (ht : (pc : Int) + off = (tgt : Int)) (kt : u ≤ 0 → W p l e R s m args below meth c H locs cells slots Q (F0 m tgt ls rest)) (kf : 0 < u → W p l e R s m args below meth c H locs cells slots Q (F0 m (pc + 3) ls rest)) : W p l e R s m args below meth c H locs cells slots Q (F0 m pc ls (.int x :: rest)) := by
  subst hu
  exact lv_if_le hx hb hdg ht (fun h => kt (n_i3.mp h)) (fun h => kf (by rw [n_i3] at h; exact Int.not_le.mp h))
theorem x_yeq (hx : p.tables.exec = Jvm.exec) (hb : c.code = cc) {u : Int} (hu : x.toInt = u) (hdg : decode cc pc = .ok (.ifCond .eq off, 3)) (ht : (pc : Int) + off = (tgt : Int)) (kt : u = 0 → W p l e R s m args below meth c H locs cells slots Q (F0 m tgt ls rest)) (kf : ¬ u = 0 → W p l e R s m args below meth c H locs cells slots Q (F0 m (pc + 3) ls rest)) : W p l e R s m args below meth c H locs cells slots Q (F0 m pc ls (.int x :: rest)) := by
  subst hu
  exact lv_if_eq hx hb hdg ht (fun h => kt (n_i4.mp h)) (fun h => kf (fun q => h (n_i4.mpr q)))
theorem x_yne (hx : p.tables.exec = Jvm.exec) (hb : c.code = cc) {u : Int} (hu : x.toInt = u) (hdg : decode cc pc = .ok (.ifCond .ne off, 3)) (ht : (pc : Int) + off = (tgt : Int)) (kt : ¬ u = 0 → W p l e R s m args below meth c H locs cells slots Q (F0 m tgt ls rest)) (kf : u = 0 → W p l e R s m args below meth c H locs cells slots Q (F0 m (pc + 3) ls rest)) : W p l e R s m args below meth c H locs cells slots Q (F0 m pc ls (.int x :: rest)) := by
  subst hu
  exact lv_if_ne hx hb hdg ht (fun h => kt (fun q => h (n_i4.mpr q))) (fun h => kf (n_i4.mp (by first | exact h | exact Classical.not_not.mp h)))
end XR
/-! a method's begin and end -/
theorem Met.ofWF {l : Launch} {y : MethodName} {ws ws' : List Cond} {rm : Room} {Pc : Array Value → State → Prop} {Qc : Array Value → State → Outcome → State → Prop} {mc ms : Nat} {free : Addr → Prop} {cc : ByteArray} {maxL : Nat} {ret : Option FieldType}
    (hy : plainFor y = true) (hw : ws = Cond.code y cc maxL ret :: ws')
    (body : ∀ p e s m args below meth c s₁, BodyLoose p l y (headSpec ws rm) cc maxL ret e s m args below meth c s₁ → c.maxLocals = maxL → Pc args s →
      W p l e (headSpec ws rm).room s m args below meth c s.heap [] 0 0 (MQ below Qc args s mc ms free) (entryFrame m args maxL)) : Met l y ws rm Pc Qc mc ms free := by
  refine MetFree.of_bodySF (code := cc) (maxLocals := maxL) (ret := ret) hy ?_ ?_
  · intro args s m h hn
    obtain ⟨meth, c, h1, h2, h3, h4, h5, h6, -, -⟩ := Cond.code_spec hn (atoms_spec (ws := ws) h _ (by rw [hw]; exact List.mem_cons_self))
    exact ⟨meth, c, h1, h2, h3, h4, h5, h6⟩
  · intro p e s m args below meth c s₁ B hml hP _
    have hh0 : s₁.heap = s.heap := by rw [B.state]; rfl
    obtain ⟨t, a1, o, b1, b2, b3⟩ := body p e s m args below meth c s₁ B hml hP s₁ hh0 (Stand.of_body B)
    exact ⟨t, o, a1, b1, b2, ⟨b3.1, b3.2⟩⟩
section XB
variable {l : Launch} {g : gE} {ad : Nat → Nat} {ds : gDs} {n : Nat} {y : MethodName} {b : ByteArray} {maxL : Nat} {ret : Option FieldType} {k : Nat} {As : List Value} {M M' : gMem} {J J' : gMeL} {r : Int32}
theorem CI.of (hy : plainFor y = true) (hlen : (lg_sl As).length ≤ maxL) (body : ∀ (p : Program) (e : Env) (s : State) (m : MethodId) (args : Array Value) (below : List Frame) (meth : Method) (c : Code), CallFix p m c b maxL s args (g_ws y b maxL ret) y.cls → g_K g s → meth.sig.returnType = ret → meth.locks = false → g_P g ad ds n M J s.heap → va_S (g_A ad n) s.heap s.heap [] → ∀ ls : Array Slot, lv_has ls maxL (lv_args 0 As) →
    W p l e (g_rm k) s m args below meth c s.heap [] 0 0 (MQ below (va_Qi (fun r' (_ : Unit) => r' = r) (fun _ t => g_P g ad ds n M' J' t.heap) (g_A ad n)) args s 0 0 (g_A ad n)) (F0 m 0 ls [])) : CI l g ad ds n y b maxL ret k As M J r M' J' := by
  refine Met.ofWF (cc := b) (maxL := maxL) (ret := ret) hy rfl ?_
  intro p e s m args below meth c s₁ B hml hv
  obtain ⟨rfl, hP, hK⟩ := hv
  rw [lg_entry_eq]
  exact body p e s m _ below meth c ⟨B.exec, B.bytes, hml, findClass_of_methodNamed B.named, atoms_spec (ws := g_ws y b maxL ret) B.pre⟩ hK B.returns B.notSynchronized hP va_S.rf _ (lv_entry As hlen)
theorem CV.of (hy : plainFor y = true) (hlen : (lg_sl As).length ≤ maxL) (body : ∀ (p : Program) (e : Env) (s : State) (m : MethodId) (args : Array Value) (below : List Frame) (meth : Method) (c : Code), CallFix p m c b maxL s args (g_ws y b maxL none) y.cls → g_K g s → meth.sig.returnType = none → meth.locks = false → g_P g ad ds n M J s.heap → va_S (g_A ad n) s.heap s.heap [] → ∀ ls : Array Slot, lv_has ls maxL (lv_args 0 As) →
    W p l e (g_rm k) s m args below meth c s.heap [] 0 0 (MQ below (va_Qv (fun (_ : Unit) => True) (fun _ t => g_P g ad ds n M' J' t.heap) (g_A ad n)) args s 0 0 (g_A ad n)) (F0 m 0 ls [])) : CV l g ad ds n y b maxL k As M J M' J' := by
  refine Met.ofWF (cc := b) (maxL := maxL) (ret := none) hy rfl ?_
  intro p e s m args below meth c s₁ B hml hv
  obtain ⟨rfl, hP, hK⟩ := hv
  rw [lg_entry_eq]
  exact body p e s m _ below meth c ⟨B.exec, B.bytes, hml, findClass_of_methodNamed B.named, atoms_spec (ws := g_ws y b maxL none) B.pre⟩ hK B.returns B.notSynchronized hP va_S.rf _ (lv_entry As hlen)
theorem CP.of (hy : plainFor y = true) (hlen : (lg_sl As).length ≤ maxL) (body : ∀ (p : Program) (e : Env) (s : State) (m : MethodId) (args : Array Value) (below : List Frame) (meth : Method) (c : Code), CallFix p m c b maxL s args (g_ws y b maxL ret) y.cls → g_K g s → meth.sig.returnType = ret → meth.locks = false → va_S (fun _ => False) s.heap s.heap [] → ∀ ls : Array Slot, lv_has ls maxL (lv_args 0 As) →
    W p l e (g_rm k) s m args below meth c s.heap [] 0 0 (MQ below (va_Qi (fun r' (_ : Unit) => r' = r) (fun _ _ => True) (fun _ => False)) args s 0 0 (fun _ => False)) (F0 m 0 ls [])) : CP l g y b maxL ret k As r := by
  refine Met.ofWF (cc := b) (maxL := maxL) (ret := ret) hy rfl ?_
  intro p e s m args below meth c s₁ B hml hv
  obtain ⟨rfl, hK⟩ := hv
  rw [lg_entry_eq]
  exact body p e s m _ below meth c ⟨B.exec, B.bytes, hml, findClass_of_methodNamed B.named, atoms_spec (ws := g_ws y b maxL ret) B.pre⟩ hK B.returns B.notSynchronized va_S.rf _ (lv_entry As hlen)
theorem CPL.of {r : Int64} (hy : plainFor y = true) (hlen : (lg_sl As).length ≤ maxL) (body : ∀ (p : Program) (e : Env) (s : State) (m : MethodId) (args : Array Value) (below : List Frame) (meth : Method) (c : Code), CallFix p m c b maxL s args (g_ws y b maxL (some .long)) y.cls → g_K g s → meth.sig.returnType = some .long → meth.locks = false → va_S (fun _ => False) s.heap s.heap [] → ∀ ls : Array Slot, lv_has ls maxL (lv_args 0 As) →
    W p l e (g_rm k) s m args below meth c s.heap [] 0 0 (MQ below (va_Ql (fun r' (_ : Unit) => r' = r) (fun _ _ => True) (fun _ => False)) args s 0 0 (fun _ => False)) (F0 m 0 ls [])) : CPL l g y b maxL k As r := by
  refine Met.ofWF (cc := b) (maxL := maxL) (ret := some .long) hy rfl ?_
  intro p e s m args below meth c s₁ B hml hv
  obtain ⟨rfl, hK⟩ := hv
  rw [lg_entry_eq]
  exact body p e s m _ below meth c ⟨B.exec, B.bytes, hml, findClass_of_methodNamed B.named, atoms_spec (ws := g_ws y b maxL (some .long)) B.pre⟩ hK B.returns B.notSynchronized va_S.rf _ (lv_entry As hlen)
variable {p : Program} {e : Env} {R : Room} {s : State} {m : MethodId} {args : Array Value} {below : List Frame} {meth : Method} {c : Code} {H : Heap} {locs : List Loc} {pc : Nat} {ls : Array Slot} {v : Int32} {cc : ByteArray}
theorem x_reti (hx : p.tables.exec = Jvm.exec) (hb : c.code = cc) (hr : meth.sig.returnType = some .int) (hlk : meth.locks = false) (hS : va_S (g_A ad n) s.heap H locs) (hP : g_P g ad ds n M' J' H) (hv : v = r) (hdg : decode cc pc = .ok (.ireturn, 1)) : W p l e R s m args below meth c H locs 0 0 (MQ below (va_Qi (fun r' (_ : Unit) => r' = r) (fun _ t => g_P g ad ds n M' J' t.heap) (g_A ad n)) args s 0 0 (g_A ad n)) (F0 m pc ls [.int v]) :=
  W.iret hx hb hr (fun t ht _ => ⟨⟨v, (), rfl, hv, (by subst ht; exact hP)⟩, hS.F ht⟩) hS.2.2 hdg hlk
theorem x_retz (hx : p.tables.exec = Jvm.exec) (hb : c.code = cc) (hr : meth.sig.returnType = some .boolean) (hlk : meth.locks = false) (hS : va_S (g_A ad n) s.heap H locs) (hP : g_P g ad ds n M' J' H) (hv : v = r) (hn : narrow .boolean (.int v) = .int v) (hdg : decode cc pc = .ok (.ireturn, 1)) : W p l e R s m args below meth c H locs 0 0 (MQ below (va_Qi (fun r' (_ : Unit) => r' = r) (fun _ t => g_P g ad ds n M' J' t.heap) (g_A ad n)) args s 0 0 (g_A ad n)) (F0 m pc ls [.int v]) :=
  W.zret hx hb hr hn (fun t ht _ => ⟨⟨v, (), rfl, hv, (by subst ht; exact hP)⟩, hS.F ht⟩) hS.2.2 hdg hlk
theorem x_retv (hx : p.tables.exec = Jvm.exec) (hb : c.code = cc) (hr : meth.sig.returnType = none) (hlk : meth.locks = false) (hS : va_S (g_A ad n) s.heap H locs) (hP : g_P g ad ds n M' J' H) (hdg : decode cc pc = .ok (.return_, 1)) : W p l e R s m args below meth c H locs 0 0 (MQ below (va_Qv (fun (_ : Unit) => True) (fun _ t => g_P g ad ds n M' J' t.heap) (g_A ad n)) args s 0 0 (g_A ad n)) (F0 m pc ls []) :=
  W.vret hx hb hr (fun t ht _ => ⟨⟨(), rfl, trivial, (by subst ht; exact hP)⟩, hS.F ht⟩) hS.2.2 hdg hlk
theorem x_retp (hx : p.tables.exec = Jvm.exec) (hb : c.code = cc) (hr : meth.sig.returnType = some .int) (hlk : meth.locks = false) (hS : va_S (fun _ => False) s.heap H locs) (hv : v = r) (hdg : decode cc pc = .ok (.ireturn, 1)) : W p l e R s m args below meth c H locs 0 0 (MQ below (va_Qi (fun r' (_ : Unit) => r' = r) (fun _ _ => True) (fun _ => False)) args s 0 0 (fun _ => False)) (F0 m pc ls [.int v]) :=
  W.iret hx hb hr (fun t ht _ => ⟨⟨v, (), rfl, hv, trivial⟩, hS.F ht⟩) hS.2.2 hdg hlk
theorem x_retpz (hx : p.tables.exec = Jvm.exec) (hb : c.code = cc) (hr : meth.sig.returnType = some .boolean) (hlk : meth.locks = false) (hS : va_S (fun _ => False) s.heap H locs) (hv : v = r) (hn : narrow .boolean (.int v) = .int v) (hdg : decode cc pc = .ok (.ireturn, 1)) : W p l e R s m args below meth c H locs 0 0 (MQ below (va_Qi (fun r' (_ : Unit) => r' = r) (fun _ _ => True) (fun _ => False)) args s 0 0 (fun _ => False)) (F0 m pc ls [.int v]) :=
  W.zret hx hb hr hn (fun t ht _ => ⟨⟨v, (), rfl, hv, trivial⟩, hS.F ht⟩) hS.2.2 hdg hlk
theorem x_retpl {r v : Int64} (hx : p.tables.exec = Jvm.exec) (hb : c.code = cc) (hr : meth.sig.returnType = some .long) (hlk : meth.locks = false) (hS : va_S (fun _ => False) s.heap H locs) (hv : v = r) (hdg : decode cc pc = .ok (.lreturn, 1)) : W p l e R s m args below meth c H locs 0 0 (MQ below (va_Ql (fun r' (_ : Unit) => r' = r) (fun _ _ => True) (fun _ => False)) args s 0 0 (fun _ => False)) (F0 m pc ls [.long v]) :=
  W.lret hx hb hr (fun t ht _ => ⟨⟨v, (), rfl, hv, trivial⟩, hS.F ht⟩) hS.2.2 hdg hlk
end XB
end
section
def lsX : List (Nat × Nat × List (Option Nat)) := [(0, 5, [some 23, some 39, none, some 1, some 4, some 13, some 22]), (0, 4, [some 2, some 3, none]), (1, 40, []), (1, 12, []), (4, 4, [some 5, some 6, some 7, some 8]), (0, 3, [some 9, none, none]), (0, 3, [some 10, none, none]), (0, 3, [some 11, none, none]), (0, 3, [some 12, none, none]), (2, 24, []), (2, 24, []), (2, 24, []), (2, 24, []), (0, 2, [some 14, some 15, some 16]), (1, 5, []), (1, 5, []), (5, 5, [some 17, some 18, some 19, some 20, some 21]), (1, 5, []), (1, 5, []), (1, 5, []), (1, 5, []), (1, 5, []), (1, 12, []), (0, 1, [some 24, none, some 31, none, none, none, none, none, some 37, some 38]), (5, 6, [some 25, some 26, some 27, some 28, some 29, some 30]), (1, 12, []), (1, 12, []), (1, 12, []), (1, 12, []), (1, 12, []), (1, 12, []), (3, 5, [some 32, some 33, some 34, some 35, some 36]), (0, 0, [none, none, none, none, none, none]), (0, 0, [none, none, none, none, none, none]), (0, 0, [none, none, none, none, none, none]), (0, 0, [none, none, none, none, none, none]), (0, 0, [none, none, none, none, none, none]), (1, 12, []), (1, 4, []), (0, 1, [some 40, none, some 47, none, none, none, none, none, some 53, some 54]), (5, 6, [some 41, some 42, some 43, some 44, some 45, some 46]), (1, 12, []), (1, 12, []), (1, 12, []), (1, 12, []), (1, 12, []), (1, 12, []), (3, 5, [some 48, some 49, some 50, some 51, some 52]), (0, 0, [none, none, none, none, none, none]), (0, 0, [none, none, none, none, none, none]), (0, 0, [none, none, none, none, none, none]), (0, 0, [none, none, none, none, none, none]), (0, 0, [none, none, none, none, none, none]), (1, 12, []), (1, 4, [])]
def dsX : gDs := fun i => lsX.getD i (0, 99, [])
theorem dX_0 : dsX 0 = (0, 5, [some 23, some 39, none, some 1, some 4, some 13, some 22]) := rfl
theorem dX_1 : dsX 1 = (0, 4, [some 2, some 3, none]) := rfl
theorem dX_2 : dsX 2 = (1, 40, []) := rfl
theorem dX_3 : dsX 3 = (1, 12, []) := rfl
theorem dX_4 : dsX 4 = (4, 4, [some 5, some 6, some 7, some 8]) := rfl
theorem dX_5 : dsX 5 = (0, 3, [some 9, none, none]) := rfl
theorem dX_6 : dsX 6 = (0, 3, [some 10, none, none]) := rfl
theorem dX_7 : dsX 7 = (0, 3, [some 11, none, none]) := rfl
theorem dX_8 : dsX 8 = (0, 3, [some 12, none, none]) := rfl
theorem dX_9 : dsX 9 = (2, 24, []) := rfl
theorem dX_10 : dsX 10 = (2, 24, []) := rfl
theorem dX_11 : dsX 11 = (2, 24, []) := rfl
theorem dX_12 : dsX 12 = (2, 24, []) := rfl
theorem dX_13 : dsX 13 = (0, 2, [some 14, some 15, some 16]) := rfl
theorem dX_14 : dsX 14 = (1, 5, []) := rfl
theorem dX_15 : dsX 15 = (1, 5, []) := rfl
theorem dX_16 : dsX 16 = (5, 5, [some 17, some 18, some 19, some 20, some 21]) := rfl
theorem dX_17 : dsX 17 = (1, 5, []) := rfl
theorem dX_18 : dsX 18 = (1, 5, []) := rfl
theorem dX_19 : dsX 19 = (1, 5, []) := rfl
theorem dX_20 : dsX 20 = (1, 5, []) := rfl
theorem dX_21 : dsX 21 = (1, 5, []) := rfl
theorem dX_22 : dsX 22 = (1, 12, []) := rfl
theorem dX_23 : dsX 23 = (0, 1, [some 24, none, some 31, none, none, none, none, none, some 37, some 38]) := rfl
theorem dX_24 : dsX 24 = (5, 6, [some 25, some 26, some 27, some 28, some 29, some 30]) := rfl
theorem dX_25 : dsX 25 = (1, 12, []) := rfl
theorem dX_26 : dsX 26 = (1, 12, []) := rfl
theorem dX_27 : dsX 27 = (1, 12, []) := rfl
theorem dX_28 : dsX 28 = (1, 12, []) := rfl
theorem dX_29 : dsX 29 = (1, 12, []) := rfl
theorem dX_30 : dsX 30 = (1, 12, []) := rfl
theorem dX_31 : dsX 31 = (3, 5, [some 32, some 33, some 34, some 35, some 36]) := rfl
theorem dX_32 : dsX 32 = (0, 0, [none, none, none, none, none, none]) := rfl
theorem dX_33 : dsX 33 = (0, 0, [none, none, none, none, none, none]) := rfl
theorem dX_34 : dsX 34 = (0, 0, [none, none, none, none, none, none]) := rfl
theorem dX_35 : dsX 35 = (0, 0, [none, none, none, none, none, none]) := rfl
theorem dX_36 : dsX 36 = (0, 0, [none, none, none, none, none, none]) := rfl
theorem dX_37 : dsX 37 = (1, 12, []) := rfl
theorem dX_38 : dsX 38 = (1, 4, []) := rfl
theorem dX_39 : dsX 39 = (0, 1, [some 40, none, some 47, none, none, none, none, none, some 53, some 54]) := rfl
theorem dX_40 : dsX 40 = (5, 6, [some 41, some 42, some 43, some 44, some 45, some 46]) := rfl
theorem dX_41 : dsX 41 = (1, 12, []) := rfl
theorem dX_42 : dsX 42 = (1, 12, []) := rfl
theorem dX_43 : dsX 43 = (1, 12, []) := rfl
theorem dX_44 : dsX 44 = (1, 12, []) := rfl
theorem dX_45 : dsX 45 = (1, 12, []) := rfl
theorem dX_46 : dsX 46 = (1, 12, []) := rfl
theorem dX_47 : dsX 47 = (3, 5, [some 48, some 49, some 50, some 51, some 52]) := rfl
theorem dX_48 : dsX 48 = (0, 0, [none, none, none, none, none, none]) := rfl
theorem dX_49 : dsX 49 = (0, 0, [none, none, none, none, none, none]) := rfl
theorem dX_50 : dsX 50 = (0, 0, [none, none, none, none, none, none]) := rfl
theorem dX_51 : dsX 51 = (0, 0, [none, none, none, none, none, none]) := rfl
theorem dX_52 : dsX 52 = (0, 0, [none, none, none, none, none, none]) := rfl
theorem dX_53 : dsX 53 = (1, 12, []) := rfl
theorem dX_54 : dsX 54 = (1, 4, []) := rfl
theorem dX_hair : ∀ c, c < 6 → dsX (25 + c) = (1, 12, []) := by decide
theorem oX_hair : ∀ c, c < 6 → ([some 25, some 26, some 27, some 28, some 29, some 30] : List (Option Nat))[c]? = some (some (25 + c)) := by decide
theorem dX_fig : ∀ c, c < 5 → dsX (32 + c) = (0, 0, [none, none, none, none, none, none]) := by decide
theorem oX_fig : ∀ c, c < 5 → ([some 32, some 33, some 34, some 35, some 36] : List (Option Nat))[c]? = some (some (32 + c)) := by decide
theorem dX_sheet : ∀ c, c < 4 → dsX (5 + c) = (0, 3, [some (9 + c), none, none]) := by decide
theorem oX_sheet : ∀ c, c < 4 → ([some 5, some 6, some 7, some 8] : List (Option Nat))[c]? = some (some (5 + c)) := by decide
theorem dX_items : ∀ c, c < 4 → dsX (9 + c) = (2, 24, []) := by decide
theorem dX_ltr : ∀ c, c < 5 → dsX (17 + c) = (1, 5, []) := by decide
theorem oX_ltr : ∀ c, c < 5 → ([some 17, some 18, some 19, some 20, some 21] : List (Option Nat))[c]? = some (some (17 + c)) := by decide
theorem dX_hai2 : ∀ c, c < 6 → dsX (41 + c) = (1, 12, []) := by decide
theorem oX_hai2 : ∀ c, c < 6 → ([some 41, some 42, some 43, some 44, some 45, some 46] : List (Option Nat))[c]? = some (some (41 + c)) := by decide
theorem dX_fig2 : ∀ c, c < 5 → dsX (48 + c) = (0, 0, [none, none, none, none, none, none]) := by decide
theorem oX_fig2 : ∀ c, c < 5 → ([some 48, some 49, some 50, some 51, some 52] : List (Option Nat))[c]? = some (some (48 + c)) := by decide
def lsR : List (Nat × Nat × List (Option Nat)) := [(0, 6, [some 1, none, some 2, none, some 3, some 4, some 5, some 6, some 7, some 8, some 9, some 10, some 11, some 12, some 13]), (1, 248, []), (1, 40, []), (1, 12, []), (1, 72, []), (1, 72, []), (1, 6, []), (1, 6, []), (1, 36, []), (1, 36, []), (1, 4, []), (1, 4, []), (2, 96, []), (2, 24, [])]
def dsR : gDs := fun i => lsR.getD i (0, 99, [])
theorem dR_0 : dsR 0 = (0, 6, [some 1, none, some 2, none, some 3, some 4, some 5, some 6, some 7, some 8, some 9, some 10, some 11, some 12, some 13]) := rfl
theorem dR_1 : dsR 1 = (1, 248, []) := rfl
theorem dR_2 : dsR 2 = (1, 40, []) := rfl
theorem dR_3 : dsR 3 = (1, 12, []) := rfl
theorem dR_4 : dsR 4 = (1, 72, []) := rfl
theorem dR_5 : dsR 5 = (1, 72, []) := rfl
theorem dR_6 : dsR 6 = (1, 6, []) := rfl
theorem dR_7 : dsR 7 = (1, 6, []) := rfl
theorem dR_8 : dsR 8 = (1, 36, []) := rfl
theorem dR_9 : dsR 9 = (1, 36, []) := rfl
theorem dR_10 : dsR 10 = (1, 4, []) := rfl
theorem dR_11 : dsR 11 = (1, 4, []) := rfl
theorem dR_12 : dsR 12 = (2, 96, []) := rfl
theorem dR_13 : dsR 13 = (2, 24, []) := rfl
theorem uX0 : ∀ w ∈ u_ws RX0 TX0 6, w ∈ Al := List.forall_mem_cons.mpr ⟨wd1_50, List.forall_mem_cons.mpr ⟨wd1_52, List.forall_mem_cons.mpr ⟨wd1_54, List.forall_mem_cons.mpr ⟨wd1_56, List.forall_mem_cons.mpr ⟨wd1_58, List.forall_mem_cons.mpr ⟨wd1_60, fun _ h => absurd h List.not_mem_nil⟩⟩⟩⟩⟩⟩
theorem uX1 : ∀ w ∈ u_ws RX1 TX1 10, w ∈ Al := List.forall_mem_cons.mpr ⟨wd1_87, List.forall_mem_cons.mpr ⟨wd1_89, List.forall_mem_cons.mpr ⟨wd1_91, List.forall_mem_cons.mpr ⟨wd1_93, List.forall_mem_cons.mpr ⟨wd1_95, List.forall_mem_cons.mpr ⟨wd1_97, List.forall_mem_cons.mpr ⟨wd1_99, List.forall_mem_cons.mpr ⟨wd1_101, List.forall_mem_cons.mpr ⟨wd1_103, List.forall_mem_cons.mpr ⟨wd1_105, fun _ h => absurd h List.not_mem_nil⟩⟩⟩⟩⟩⟩⟩⟩⟩⟩
theorem uX2 : ∀ w ∈ u_ws RX2 TX2 3, w ∈ Al := List.forall_mem_cons.mpr ⟨wd1_157, List.forall_mem_cons.mpr ⟨wd1_159, List.forall_mem_cons.mpr ⟨wd1_161, fun _ h => absurd h List.not_mem_nil⟩⟩⟩
theorem uX3 : ∀ w ∈ u_ws RX3 TX3 3, w ∈ Al := List.forall_mem_cons.mpr ⟨wd1_137, List.forall_mem_cons.mpr ⟨wd1_139, List.forall_mem_cons.mpr ⟨wd1_141, fun _ h => absurd h List.not_mem_nil⟩⟩⟩
theorem uX4 : ∀ w ∈ u_ws RX4 TX4 3, w ∈ Al := List.forall_mem_cons.mpr ⟨wd1_118, List.forall_mem_cons.mpr ⟨wd1_120, List.forall_mem_cons.mpr ⟨wd1_122, fun _ h => absurd h List.not_mem_nil⟩⟩⟩
theorem uX5 : ∀ w ∈ u_ws RX5 TX5 7, w ∈ Al := List.forall_mem_cons.mpr ⟨wd1_171, List.forall_mem_cons.mpr ⟨wd1_173, List.forall_mem_cons.mpr ⟨wd1_175, List.forall_mem_cons.mpr ⟨wd1_177, List.forall_mem_cons.mpr ⟨wd1_179, List.forall_mem_cons.mpr ⟨wd1_181, List.forall_mem_cons.mpr ⟨wd1_183, fun _ h => absurd h List.not_mem_nil⟩⟩⟩⟩⟩⟩⟩
theorem uX6 : ∀ w ∈ u_ws RX6 TX6 15, w ∈ Al := List.forall_mem_cons.mpr ⟨wd3_111, List.forall_mem_cons.mpr ⟨wd3_113, List.forall_mem_cons.mpr ⟨wd3_115, List.forall_mem_cons.mpr ⟨wd3_117, List.forall_mem_cons.mpr ⟨wd3_119, List.forall_mem_cons.mpr ⟨wd3_121, List.forall_mem_cons.mpr ⟨wd3_123, List.forall_mem_cons.mpr ⟨wd3_125, List.forall_mem_cons.mpr ⟨wd3_127, List.forall_mem_cons.mpr ⟨wd3_129, List.forall_mem_cons.mpr ⟨wd3_131, List.forall_mem_cons.mpr ⟨wd3_133, List.forall_mem_cons.mpr ⟨wd3_135, List.forall_mem_cons.mpr ⟨wd3_137, List.forall_mem_cons.mpr ⟨wd3_139, fun _ h => absurd h List.not_mem_nil⟩⟩⟩⟩⟩⟩⟩⟩⟩⟩⟩⟩⟩⟩⟩
theorem kw_X0_changeKind : kwV yX0_changeKind RX0 cX0_changeKind 3 (some .int) 1 := ⟨⟨wd2_34, wd2_32, wd2_33, wd1_3⟩, by decide +kernel⟩
theorem kw_X0_changeCam : kwV yX0_changeCam RX0 cX0_changeCam 3 (some .int) 1 := ⟨⟨wd2_38, wd2_36, wd2_37, wd1_3⟩, by decide +kernel⟩
theorem kw_X0_changeLag : kwV yX0_changeLag RX0 cX0_changeLag 3 (some .int) 1 := ⟨⟨wd2_42, wd2_40, wd2_41, wd1_3⟩, by decide +kernel⟩
theorem kw_X0_changePlace : kwV yX0_changePlace RX0 cX0_changePlace 3 (some .int) 1 := ⟨⟨wd2_46, wd2_44, wd2_45, wd1_3⟩, by decide +kernel⟩
theorem kw_X0_wishFor : kwV yX0_wishFor RX0 cX0_wishFor 3 (some .int) 1 := ⟨⟨wd2_54, wd2_52, wd2_53, wd1_3⟩, by decide +kernel⟩
theorem kw_X0_missedWith : kwV yX0_missedWith RX0 cX0_missedWith 2 (some .int) 1 := ⟨⟨wd2_175, wd2_173, wd2_174, wd1_3⟩, by decide +kernel⟩
theorem kw_X0_becomeLike : kwV yX0_becomeLike RX0 cX0_becomeLike 2 none 1 := ⟨⟨wd3_19, wd3_17, wd3_18, wd1_3⟩, by decide +kernel⟩
theorem kw_X1_becomeLike : kwV yX1_becomeLike RX1 cX1_becomeLike 3 none 1 := ⟨⟨wd3_15, wd3_13, wd3_14, wd1_2⟩, by decide +kernel⟩
theorem kw_X1_addCam : kwV yX1_addCam RX1 cX1_addCam 2 (some .int) 1 := ⟨⟨wd1_230, wd1_228, wd1_229, wd1_2⟩, by decide +kernel⟩
theorem kw_X1_addFigure : kwV yX1_addFigure RX1 cX1_addFigure 6 (some .int) 4 := ⟨⟨wd2_22, wd2_20, wd2_21, wd1_2⟩, by decide +kernel⟩
theorem kw_X1_oneBehind : kwV yX1_oneBehind RX1 cX1_oneBehind 2 (some .int) 1 := ⟨⟨wd2_133, wd2_131, wd2_132, wd1_2⟩, by decide +kernel⟩
theorem kw_X1_someAhead : kwV yX1_someAhead RX1 cX1_someAhead 3 (some .int) 2 := ⟨⟨wd2_97, wd2_95, wd2_96, wd1_2⟩, by decide +kernel⟩
theorem kw_X1_hairOf : kwS yX1_hairOf cX1_hairOf 3 (some .int) 3 := ⟨⟨wd2_83, wd2_82, wd1_2⟩, by decide +kernel⟩
theorem kw_X1_heightOn : kwV yX1_heightOn RX1 cX1_heightOn 5 (some .int) 3 := ⟨⟨wd2_80, wd2_78, wd2_79, wd1_2⟩, by decide +kernel⟩
theorem kw_X1_slowHeight : kwV yX1_slowHeight RX1 cX1_slowHeight 6 (some .int) 3 := ⟨⟨wd2_93, wd2_91, wd2_92, wd1_2⟩, by decide +kernel⟩
theorem kw_X1_upsOn : kwV yX1_upsOn RX1 cX1_upsOn 5 (some .int) 2 := ⟨⟨wd2_117, wd2_115, wd2_116, wd1_2⟩, by decide +kernel⟩
theorem kw_X1_upsOf : kwV yX1_upsOf RX1 cX1_upsOf 2 (some .int) 1 := ⟨⟨wd2_113, wd2_111, wd2_112, wd1_2⟩, by decide +kernel⟩
theorem kw_X1_figuresUpNow : kwV yX1_figuresUpNow RX1 cX1_figuresUpNow 4 (some .int) 0 := ⟨⟨wd2_76, wd2_74, wd2_75, wd1_2⟩, by decide +kernel⟩
theorem kw_X1_strikesOf : kwV yX1_strikesOf RX1 cX1_strikesOf 5 (some .int) 2 := ⟨⟨wd2_137, wd2_135, wd2_136, wd1_2⟩, by decide +kernel⟩
theorem kw_X1_strikesInTurning : kwV yX1_strikesInTurning RX1 cX1_strikesInTurning 8 (some .int) 1 := ⟨⟨wd2_125, wd2_123, wd2_124, wd1_2⟩, by decide +kernel⟩
theorem kw_X1_anglesToCome : kwV yX1_anglesToCome RX1 cX1_anglesToCome 5 (some .int) 1 := ⟨⟨wd2_129, wd2_127, wd2_128, wd1_2⟩, by decide +kernel⟩
theorem kw_X1_goOn : kwV yX1_goOn RX1 cX1_goOn 2 none 1 := ⟨⟨wd2_147, wd2_145, wd2_146, wd1_2⟩, by decide +kernel⟩
theorem kw_X1_pegsBy : kwV yX1_pegsBy RX1 cX1_pegsBy 5 (some .int) 2 := ⟨⟨wd2_211, wd2_209, wd2_210, wd1_2⟩, by decide +kernel⟩
theorem kw_X1_beatsTill : kwV yX1_beatsTill RX1 cX1_beatsTill 5 (some .int) 1 := ⟨⟨wd2_224, wd2_222, wd2_223, wd1_2⟩, by decide +kernel⟩
theorem kw_X1_angleAfter : kwV yX1_angleAfter RX1 cX1_angleAfter 6 (some .int) 1 := ⟨⟨wd2_233, wd2_231, wd2_232, wd1_2⟩, by decide +kernel⟩
theorem kw_X2_compare : kwV yX2_compare RX2 cX2_compare 5 none 2 := ⟨⟨wd2_187, wd2_185, wd2_186, wd1_7⟩, by decide +kernel⟩
theorem kw_X2_lagsOf : kwS yX2_lagsOf cX2_lagsOf 6 (some .int) 2 := ⟨⟨wd2_190, wd2_189, wd1_7⟩, by decide +kernel⟩
theorem kw_X2_lagsOn : kwV yX2_lagsOn RX2 cX2_lagsOn 5 (some .int) 2 := ⟨⟨wd2_198, wd2_196, wd2_197, wd1_7⟩, by decide +kernel⟩
theorem kw_X3_isNothing : kwV yX3_isNothing RX3 cX3_isNothing 1 (some .boolean) 0 := ⟨⟨wd3_41, wd3_39, wd3_40, wd1_6⟩, by decide +kernel⟩
theorem kw_X3_begin : kwV yX3_begin RX3 cX3_begin 3 none 2 := ⟨⟨wd3_69, wd3_67, wd3_68, wd1_6⟩, by decide +kernel⟩
theorem kw_X3_end : kwV yX3_end RX3 cX3_end 1 (some .int) 0 := ⟨⟨wd3_80, wd3_78, wd3_79, wd1_6⟩, by decide +kernel⟩
theorem kw_X3_hasItems : kwV yX3_hasItems RX3 cX3_hasItems 3 (some .boolean) 2 := ⟨⟨wd3_45, wd3_43, wd3_44, wd1_6⟩, by decide +kernel⟩
theorem kw_X3_put : kwV yX3_put RX3 cX3_put 4 none 2 := ⟨⟨wd3_61, wd3_59, wd3_60, wd1_6⟩, by decide +kernel⟩
theorem kw_X4_append : kwV yX4_append RX4 cX4_append 5 (some .int) 2 := ⟨⟨wd1_202, wd1_200, wd1_201, wd1_5⟩, by decide +kernel⟩
theorem kw_X4_clear : kwV yX4_clear RX4 cX4_clear 1 none 0 := ⟨⟨wd1_226, wd1_224, wd1_225, wd1_5⟩, by decide +kernel⟩
theorem kw_X4_read : kwV yX4_read RX4 cX4_read 5 (some .int) 1 := ⟨⟨wd1_215, wd1_213, wd1_214, wd1_5⟩, by decide +kernel⟩
theorem kw_X4_digitOf : kwS yX4_digitOf cX4_digitOf 1 (some .int) 1 := ⟨⟨wd1_221, wd1_220, wd1_5⟩, by decide +kernel⟩
theorem kw_X4_wishSignOf : kwS yX4_wishSignOf cX4_wishSignOf 1 (some .int) 1 := ⟨⟨wd1_218, wd1_217, wd1_5⟩, by decide +kernel⟩
theorem kw_X5_type : kwV yX5_type RX5 cX5_type 4 (some .int) 2 := ⟨⟨wd1_189, wd1_187, wd1_188, wd1_1⟩, by decide +kernel⟩
theorem kw_X5_cam : kwV yX5_cam RX5 cX5_cam 2 (some .int) 0 := ⟨⟨wd1_207, wd1_205, wd1_206, wd1_1⟩, by decide +kernel⟩
theorem kw_X5_cut : kwV yX5_cut RX5 cX5_cut 5 (some .int) 3 := ⟨⟨wd1_237, wd1_235, wd1_236, wd1_1⟩, by decide +kernel⟩
theorem kw_X5_told : kwV yX5_told RX5 cX5_told 3 (some .int) 2 := ⟨⟨wd2_8, wd2_6, wd2_7, wd1_1⟩, by decide +kernel⟩
theorem kw_X5_figure : kwV yX5_figure RX5 cX5_figure 5 (some .int) 4 := ⟨⟨wd2_12, wd2_10, wd2_11, wd1_1⟩, by decide +kernel⟩
theorem kw_X5_set : kwV yX5_set RX5 cX5_set 4 (some .int) 3 := ⟨⟨wd2_26, wd2_24, wd2_25, wd1_1⟩, by decide +kernel⟩
theorem kw_X5_wish : kwV yX5_wish RX5 cX5_wish 3 (some .int) 1 := ⟨⟨wd2_50, wd2_48, wd2_49, wd1_1⟩, by decide +kernel⟩
theorem kw_X5_line : kwV yX5_line RX5 cX5_line 3 (some .int) 1 := ⟨⟨wd2_64, wd2_62, wd2_63, wd1_1⟩, by decide +kernel⟩
theorem kw_X5_way : kwV yX5_way RX5 cX5_way 3 (some .int) 1 := ⟨⟨wd2_68, wd2_66, wd2_67, wd1_1⟩, by decide +kernel⟩
theorem kw_X5_count : kwV yX5_count RX5 cX5_count 2 (some .int) 1 := ⟨⟨wd2_72, wd2_70, wd2_71, wd1_1⟩, by decide +kernel⟩
theorem kw_X5_height : kwV yX5_height RX5 cX5_height 4 (some .int) 2 := ⟨⟨wd2_104, wd2_102, wd2_103, wd1_1⟩, by decide +kernel⟩
theorem kw_X5_ups : kwV yX5_ups RX5 cX5_ups 2 (some .int) 1 := ⟨⟨wd2_109, wd2_107, wd2_108, wd1_1⟩, by decide +kernel⟩
theorem kw_X5_turn : kwV yX5_turn RX5 cX5_turn 3 (some .int) 1 := ⟨⟨wd2_121, wd2_119, wd2_120, wd1_1⟩, by decide +kernel⟩
theorem kw_X5_strikes : kwV yX5_strikes RX5 cX5_strikes 3 (some .int) 2 := ⟨⟨wd2_155, wd2_153, wd2_154, wd1_1⟩, by decide +kernel⟩
theorem kw_X5_wear : kwV yX5_wear RX5 cX5_wear 4 (some .int) 1 := ⟨⟨wd2_160, wd2_158, wd2_159, wd1_1⟩, by decide +kernel⟩
theorem kw_X5_missed : kwV yX5_missed RX5 cX5_missed 5 (some .int) 1 := ⟨⟨wd2_171, wd2_169, wd2_170, wd1_1⟩, by decide +kernel⟩
theorem kw_X5_fewest : kwV yX5_fewest RX5 cX5_fewest 1 (some .int) 0 := ⟨⟨wd2_179, wd2_177, wd2_178, wd1_1⟩, by decide +kernel⟩
theorem kw_X5_share : kwV yX5_share RX5 cX5_share 3 (some .int) 2 := ⟨⟨wd2_203, wd2_201, wd2_202, wd1_1⟩, by decide +kernel⟩
theorem kw_X5_pegs : kwV yX5_pegs RX5 cX5_pegs 7 (some .int) 2 := ⟨⟨wd2_207, wd2_205, wd2_206, wd1_1⟩, by decide +kernel⟩
theorem kw_X5_beats : kwV yX5_beats RX5 cX5_beats 4 (some .int) 2 := ⟨⟨wd2_216, wd2_214, wd2_215, wd1_1⟩, by decide +kernel⟩
theorem kw_X5_when : kwV yX5_when RX5 cX5_when 2 (some .int) 1 := ⟨⟨wd2_220, wd2_218, wd2_219, wd1_1⟩, by decide +kernel⟩
theorem kw_X5_at : kwV yX5_at RX5 cX5_at 2 (some .int) 1 := ⟨⟨wd2_228, wd2_226, wd2_227, wd1_1⟩, by decide +kernel⟩
theorem kw_X5_hand : kwV yX5_hand RX5 cX5_hand 4 (some .int) 2 := ⟨⟨wd2_237, wd2_235, wd2_236, wd1_1⟩, by decide +kernel⟩
theorem kw_X5_whose : kwV yX5_whose RX5 cX5_whose 5 (some .int) 1 := ⟨⟨wd3_1, wd2_239, wd3_0, wd1_1⟩, by decide +kernel⟩
theorem kw_X5_image : kwV yX5_image RX5 cX5_image 1 (some .int) 0 := ⟨⟨wd3_11, wd3_9, wd3_10, wd1_1⟩, by decide +kernel⟩
theorem kw_X5_restore : kwV yX5_restore RX5 cX5_restore 1 (some .int) 0 := ⟨⟨wd3_23, wd3_21, wd3_22, wd1_1⟩, by decide +kernel⟩
theorem kw_X5_worn : kwV yX5_worn RX5 cX5_worn 9 (some .int) 4 := ⟨⟨wd3_27, wd3_25, wd3_26, wd1_1⟩, by decide +kernel⟩
theorem kw_X5_film : kwV yX5_film RX5 cX5_film 8 (some .int) 4 := ⟨⟨wd3_57, wd3_55, wd3_56, wd1_1⟩, by decide +kernel⟩
theorem kw_X5_sheet : kwV yX5_sheet RX5 cX5_sheet 4 (some .int) 3 := ⟨⟨wd3_65, wd3_63, wd3_64, wd1_1⟩, by decide +kernel⟩
theorem kw_X5_drop : kwV yX5_drop RX5 cX5_drop 2 (some .int) 1 := ⟨⟨wd3_76, wd3_74, wd3_75, wd1_1⟩, by decide +kernel⟩
theorem kw_X5_item : kwV yX5_item RX5 cX5_item 7 (some .int) 4 := ⟨⟨wd3_84, wd3_82, wd3_83, wd1_1⟩, by decide +kernel⟩
theorem kw_X5_copy : kwV yX5_copy RX5 cX5_copy 8 (some .int) 5 := ⟨⟨wd3_88, wd3_86, wd3_87, wd1_1⟩, by decide +kernel⟩
theorem kw_X5_isWithin : kwS yX5_isWithin cX5_isWithin 3 (some .boolean) 3 := ⟨⟨wd1_192, wd1_191, wd1_1⟩, by decide +kernel⟩
theorem kw_X5_isAngle : kwS yX5_isAngle cX5_isAngle 1 (some .boolean) 1 := ⟨⟨wd2_4, wd2_3, wd1_1⟩, by decide +kernel⟩
theorem kw_X5_isKind : kwS yX5_isKind cX5_isKind 1 (some .boolean) 1 := ⟨⟨wd2_15, wd2_14, wd1_1⟩, by decide +kernel⟩
theorem kw_X5_isPlace : kwS yX5_isPlace cX5_isPlace 1 (some .boolean) 1 := ⟨⟨wd2_18, wd2_17, wd1_1⟩, by decide +kernel⟩
theorem kw_X5_isSheet : kwS yX5_isSheet cX5_isSheet 1 (some .boolean) 1 := ⟨⟨wd3_34, wd3_33, wd1_1⟩, by decide +kernel⟩
theorem kw_X5_isLane : kwS yX5_isLane cX5_isLane 1 (some .boolean) 1 := ⟨⟨wd3_37, wd3_36, wd1_1⟩, by decide +kernel⟩
theorem kw_X5_isCam : kwV yX5_isCam RX5 cX5_isCam 2 (some .boolean) 1 := ⟨⟨wd2_1, wd2_0, wdp_1, wd1_1⟩, by decide +kernel⟩
theorem kw_X5_isFigure : kwV yX5_isFigure RX5 cX5_isFigure 2 (some .boolean) 1 := ⟨⟨wd2_30, wd2_29, wdp_2, wd1_1⟩, by decide +kernel⟩
theorem kw_X5_areBytesOfTape : kwS yX5_areBytesOfTape cX5_areBytesOfTape 4 (some .boolean) 2 := ⟨⟨wd1_195, wd1_194, wd1_1⟩, by decide +kernel⟩
theorem kw_X5_refusalOf : kwV yX5_refusalOf RX5 cX5_refusalOf 5 (some .int) 4 := ⟨⟨wd3_31, wd3_30, wdp_4, wd1_1⟩, by decide +kernel⟩
theorem kw_X5_byteOf : kwS yX5_byteOf cX5_byteOf 3 (some .int) 2 := ⟨⟨wd1_198, wd1_197, wd1_1⟩, by decide +kernel⟩
theorem kw_X5_angleOf : kwS yX5_angleOf cX5_angleOf 1 (some .int) 1 := ⟨⟨wd2_86, wd2_85, wd1_1⟩, by decide +kernel⟩
theorem kw_X5_movedOn : kwS yX5_movedOn cX5_movedOn 3 (some .int) 2 := ⟨⟨wd2_141, wd2_140, wd1_1⟩, by decide +kernel⟩
theorem kw_X5_takeTape : kwV yX5_takeTape RX5 cX5_takeTape 3 (some .int) 1 := ⟨⟨wd1_211, wd1_210, wdp_0, wd1_1⟩, by decide +kernel⟩
theorem kw_X5_stepsIn : kwS yX5_stepsIn cX5_stepsIn 3 (some .int) 1 := ⟨⟨wd3_4, wd3_3, wd1_1⟩, by decide +kernel⟩
theorem kw_X5_lessenInto : kwS yX5_lessenInto cX5_lessenInto 4 none 3 := ⟨⟨wd3_53, wd3_52, wd1_1⟩, by decide +kernel⟩
theorem kw_X5_wornBy : kwS yX5_wornBy cX5_wornBy 4 (some .int) 2 := ⟨⟨wd2_163, wd2_162, wd1_1⟩, by decide +kernel⟩
theorem kw_X5_wornByOneTurn : kwS yX5_wornByOneTurn cX5_wornByOneTurn 3 (some .int) 1 := ⟨⟨wd2_166, wd2_165, wd1_1⟩, by decide +kernel⟩
theorem kw_X5_isSo : kwV yX5_isSo RX5 cX5_isSo 7 (some .boolean) 3 := ⟨⟨wd3_49, wd3_48, wdp_5, wd1_1⟩, by decide +kernel⟩
theorem kw_X5_shareCams : kwV yX5_shareCams RX5 cX5_shareCams 2 (some .int) 0 := ⟨⟨wd2_183, wd2_182, wdp_3, wd1_1⟩, by decide +kernel⟩
theorem kw_X5_isSeated : kwS yX5_isSeated cX5_isSeated 8 (some .boolean) 5 := ⟨⟨wd2_194, wd2_193, wd1_1⟩, by decide +kernel⟩
theorem kw_X6_in : kwS yX6_in cX6_in 6 (some .boolean) 3 := ⟨⟨wd3_149, wd3_148, wd1_8⟩, by decide +kernel⟩
theorem kw_X6_has : kwS yX6_has cX6_has 2 (some .boolean) 2 := ⟨⟨wd4_9, wd4_8, wd1_8⟩, by decide +kernel⟩
theorem kw_X6_ones : kwS yX6_ones cX6_ones 3 (some .int) 1 := ⟨⟨wd3_206, wd3_205, wd1_8⟩, by decide +kernel⟩
theorem kw_X6_isAngle : kwS yX6_isAngle cX6_isAngle 1 (some .boolean) 1 := ⟨⟨wd3_176, wd3_175, wd1_8⟩, by decide +kernel⟩
theorem kw_X6_isCam : kwV yX6_isCam RX6 cX6_isCam 2 (some .boolean) 1 := ⟨⟨wd3_173, wd3_172, wdp_7, wd1_8⟩, by decide +kernel⟩
theorem kw_X6_isFigure : kwV yX6_isFigure RX6 cX6_isFigure 2 (some .boolean) 1 := ⟨⟨wd3_199, wd3_198, wdp_9, wd1_8⟩, by decide +kernel⟩
theorem kw_X6_type : kwV yX6_type RX6 cX6_type 5 (some .int) 2 := ⟨⟨wd3_145, wd3_143, wd3_144, wd1_8⟩, by decide +kernel⟩
theorem kw_X6_isSign : kwS yX6_isSign cX6_isSign 2 (some .boolean) 2 := ⟨⟨wd3_163, wd3_162, wd1_8⟩, by decide +kernel⟩
theorem kw_X6_takeSigns : kwV yX6_takeSigns RX6 cX6_takeSigns 5 (some .int) 1 := ⟨⟨wd3_160, wd3_159, wdp_6, wd1_8⟩, by decide +kernel⟩
theorem kw_X6_cam : kwV yX6_cam RX6 cX6_cam 4 (some .int) 0 := ⟨⟨wd3_156, wd3_154, wd3_155, wd1_8⟩, by decide +kernel⟩
theorem kw_X6_cut : kwV yX6_cut RX6 cX6_cut 6 (some .int) 3 := ⟨⟨wd3_169, wd3_167, wd3_168, wd1_8⟩, by decide +kernel⟩
theorem kw_X6_told : kwV yX6_told RX6 cX6_told 3 (some .int) 2 := ⟨⟨wd3_182, wd3_180, wd3_181, wd1_8⟩, by decide +kernel⟩
theorem kw_X6_isGood : kwV yX6_isGood RX6 cX6_isGood 3 (some .boolean) 2 := ⟨⟨wd3_190, wd3_189, wdp_8, wd1_8⟩, by decide +kernel⟩
theorem kw_X6_figure : kwV yX6_figure RX6 cX6_figure 6 (some .int) 4 := ⟨⟨wd3_186, wd3_184, wd3_185, wd1_8⟩, by decide +kernel⟩
theorem kw_X6_set : kwV yX6_set RX6 cX6_set 6 (some .int) 3 := ⟨⟨wd3_195, wd3_193, wd3_194, wd1_8⟩, by decide +kernel⟩
theorem kw_X6_wish : kwV yX6_wish RX6 cX6_wish 6 (some .int) 1 := ⟨⟨wd3_203, wd3_201, wd3_202, wd1_8⟩, by decide +kernel⟩
theorem kw_X6_line : kwV yX6_line RX6 cX6_line 3 (some .int) 1 := ⟨⟨wd3_210, wd3_208, wd3_209, wd1_8⟩, by decide +kernel⟩
theorem kw_X6_way : kwV yX6_way RX6 cX6_way 3 (some .int) 1 := ⟨⟨wd3_214, wd3_212, wd3_213, wd1_8⟩, by decide +kernel⟩
theorem kw_X6_aheadOf : kwV yX6_aheadOf RX6 cX6_aheadOf 2 (some .int) 1 := ⟨⟨wd3_230, wd3_229, wdp_12, wd1_8⟩, by decide +kernel⟩
theorem kw_X6_behind : kwV yX6_behind RX6 cX6_behind 2 (some .int) 1 := ⟨⟨wd4_18, wd4_17, wdp_15, wd1_8⟩, by decide +kernel⟩
theorem kw_X6_hairOf : kwV yX6_hairOf RX6 cX6_hairOf 3 (some .int) 2 := ⟨⟨wd3_226, wd3_225, wdp_11, wd1_8⟩, by decide +kernel⟩
theorem kw_X6_heightOf : kwV yX6_heightOf RX6 cX6_heightOf 7 (some .int) 2 := ⟨⟨wd3_222, wd3_221, wdp_10, wd1_8⟩, by decide +kernel⟩
theorem kw_X6_upsOf : kwV yX6_upsOf RX6 cX6_upsOf 4 (some .int) 1 := ⟨⟨wd3_238, wd3_237, wdp_13, wd1_8⟩, by decide +kernel⟩
theorem kw_X6_height : kwV yX6_height RX6 cX6_height 3 (some .int) 2 := ⟨⟨wd3_218, wd3_216, wd3_217, wd1_8⟩, by decide +kernel⟩
theorem kw_X6_ups : kwV yX6_ups RX6 cX6_ups 2 (some .int) 1 := ⟨⟨wd3_234, wd3_232, wd3_233, wd1_8⟩, by decide +kernel⟩
theorem kw_X6_strikesOf : kwV yX6_strikesOf RX6 cX6_strikesOf 6 (some .int) 2 := ⟨⟨wd4_6, wd4_5, wdp_14, wd1_8⟩, by decide +kernel⟩
theorem kw_X6_strikes : kwV yX6_strikes RX6 cX6_strikes 3 (some .int) 2 := ⟨⟨wd4_2, wd4_0, wd4_1, wd1_8⟩, by decide +kernel⟩
theorem kw_X6_turn : kwV yX6_turn RX6 cX6_turn 8 (some .int) 1 := ⟨⟨wd4_13, wd4_11, wd4_12, wd1_8⟩, by decide +kernel⟩
theorem kw_X6_wear : kwV yX6_wear RX6 cX6_wear 6 (some .int) 1 := ⟨⟨wd4_23, wd4_21, wd4_22, wd1_8⟩, by decide +kernel⟩
theorem kw_X6_missed : kwV yX6_missed RX6 cX6_missed 5 (some .int) 1 := ⟨⟨wd4_27, wd4_25, wd4_26, wd1_8⟩, by decide +kernel⟩
theorem kw_X6_turned : kwS yX6_turned cX6_turned 2 (some .int) 2 := ⟨⟨wd4_46, wd4_45, wd1_8⟩, by decide +kernel⟩
theorem kw_X6_puts : kwV yX6_puts RX6 cX6_puts 3 (some .boolean) 1 := ⟨⟨wd4_43, wd4_42, wdp_18, wd1_8⟩, by decide +kernel⟩
theorem kw_X6_camsUsed : kwV yX6_camsUsed RX6 cX6_camsUsed 4 (some .int) 1 := ⟨⟨wd4_39, wd4_38, wdp_17, wd1_8⟩, by decide +kernel⟩
theorem kw_X6_sharesBy : kwV yX6_sharesBy RX6 cX6_sharesBy 5 (some .boolean) 1 := ⟨⟨wd4_35, wd4_34, wdp_16, wd1_8⟩, by decide +kernel⟩
theorem kw_X6_fewest : kwV yX6_fewest RX6 cX6_fewest 2 (some .int) 0 := ⟨⟨wd4_31, wd4_29, wd4_30, wd1_8⟩, by decide +kernel⟩
theorem kw_X6_share : kwV yX6_share RX6 cX6_share 4 (some .int) 2 := ⟨⟨wd4_50, wd4_48, wd4_49, wd1_8⟩, by decide +kernel⟩
theorem kw_X6_pegs : kwV yX6_pegs RX6 cX6_pegs 8 (some .int) 2 := ⟨⟨wd4_54, wd4_52, wd4_53, wd1_8⟩, by decide +kernel⟩
theorem kw_X6_beats : kwV yX6_beats RX6 cX6_beats 4 (some .int) 2 := ⟨⟨wd4_58, wd4_56, wd4_57, wd1_8⟩, by decide +kernel⟩
theorem kw_X6_when : kwV yX6_when RX6 cX6_when 4 (some .int) 1 := ⟨⟨wd4_63, wd4_61, wd4_62, wd1_8⟩, by decide +kernel⟩
theorem kw_X6_at : kwV yX6_at RX6 cX6_at 5 (some .int) 1 := ⟨⟨wd4_67, wd4_65, wd4_66, wd1_8⟩, by decide +kernel⟩
theorem kw_X6_hand : kwV yX6_hand RX6 cX6_hand 4 (some .int) 2 := ⟨⟨wd4_72, wd4_70, wd4_71, wd1_8⟩, by decide +kernel⟩
theorem kw_X6_whose : kwV yX6_whose RX6 cX6_whose 5 (some .int) 1 := ⟨⟨wd4_77, wd4_75, wd4_76, wd1_8⟩, by decide +kernel⟩
theorem kw_X6_image : kwV yX6_image RX6 cX6_image 2 (some .int) 0 := ⟨⟨wd4_81, wd4_79, wd4_80, wd1_8⟩, by decide +kernel⟩
theorem kw_X6_restore : kwV yX6_restore RX6 cX6_restore 2 (some .int) 0 := ⟨⟨wd4_85, wd4_83, wd4_84, wd1_8⟩, by decide +kernel⟩
theorem kw_X6_count : kwV yX6_count RX6 cX6_count 4 (some .int) 1 := ⟨⟨wd4_89, wd4_87, wd4_88, wd1_8⟩, by decide +kernel⟩
theorem kw_X6_isSheet : kwS yX6_isSheet cX6_isSheet 1 (some .boolean) 1 := ⟨⟨wd4_96, wd4_95, wd1_8⟩, by decide +kernel⟩
theorem kw_X6_bars : kwV yX6_bars RX6 cX6_bars 5 (some .int) 4 := ⟨⟨wd4_101, wd4_100, wdp_19, wd1_8⟩, by decide +kernel⟩
theorem kw_X6_cutTo : kwS yX6_cutTo cX6_cutTo 3 (some .long) 2 := ⟨⟨wd4_124, wd4_123, wd1_8⟩, by decide +kernel⟩
theorem kw_X6_isSo : kwV yX6_isSo RX6 cX6_isSo 4 (some .boolean) 1 := ⟨⟨wd4_105, wd4_104, wdp_20, wd1_8⟩, by decide +kernel⟩
theorem kw_X6_worn : kwV yX6_worn RX6 cX6_worn 10 (some .int) 4 := ⟨⟨wd4_93, wd4_91, wd4_92, wd1_8⟩, by decide +kernel⟩
theorem kw_X6_film : kwV yX6_film RX6 cX6_film 7 (some .int) 4 := ⟨⟨wd4_109, wd4_107, wd4_108, wd1_8⟩, by decide +kernel⟩
theorem kw_X6_sheet : kwV yX6_sheet RX6 cX6_sheet 5 (some .int) 3 := ⟨⟨wd4_113, wd4_111, wd4_112, wd1_8⟩, by decide +kernel⟩
theorem kw_X6_drop : kwV yX6_drop RX6 cX6_drop 2 (some .int) 1 := ⟨⟨wd4_117, wd4_115, wd4_116, wd1_8⟩, by decide +kernel⟩
theorem kw_X6_item : kwV yX6_item RX6 cX6_item 7 (some .int) 4 := ⟨⟨wd4_121, wd4_119, wd4_120, wd1_8⟩, by decide +kernel⟩
theorem kw_X6_copy : kwV yX6_copy RX6 cX6_copy 8 (some .int) 5 := ⟨⟨wd4_128, wd4_126, wd4_127, wd1_8⟩, by decide +kernel⟩
theorem kw_J6_bitCount_0f7a4 : kwS yJ6_bitCount_0f7a4 cJ6_bitCount_0f7a4 1 (some .int) 1 := ⟨⟨wd2_57, wd2_56, wd1_10⟩, by decide +kernel⟩
theorem kw_J9_floorMod_7cf53 : kwS yJ9_floorMod_7cf53 cJ9_floorMod_7cf53 3 (some .int) 2 := ⟨⟨wd2_89, wd2_88, wd1_11⟩, by decide +kernel⟩
theorem kw_J9_abs_0f7a4 : kwS yJ9_abs_0f7a4 cJ9_abs_0f7a4 1 (some .int) 1 := ⟨⟨wd3_7, wd3_6, wd1_11⟩, by decide +kernel⟩
theorem kw_J9_max_7cf53 : kwS yJ9_max_7cf53 cJ9_max_7cf53 2 (some .int) 2 := ⟨⟨wd2_100, wd2_99, wd1_11⟩, by decide +kernel⟩
theorem kw_J9_min_7cf53 : kwS yJ9_min_7cf53 cJ9_min_7cf53 2 (some .int) 2 := ⟨⟨wd2_151, wd2_150, wd1_11⟩, by decide +kernel⟩
theorem kw_J7_fill_d0a16 : kwS yJ7_fill_d0a16 cJ7_fill_d0a16 5 none 2 := ⟨⟨wd3_72, wd3_71, wd1_4⟩, by decide +kernel⟩
theorem kw_J7_fill_53178 : kwS yJ7_fill_53178 cJ7_fill_53178 4 none 2 := ⟨⟨wd1_66, wd1_65, wd1_4⟩, by decide +kernel⟩
end
section
/-! pure words: bits, sets, counts -/
theorem tz {n : Nat} (h : n < 2 ^ 31) : (nI n).toInt = (n : Int) := nI_toInt h
theorem w_in {v lo hi : Nat} (h1 : lo ≤ v) (h2 : v ≤ hi) (h3 : hi < 2 ^ 31) : (nI lo).toInt ≤ (nI v).toInt ∧ (nI v).toInt ≤ (nI hi).toInt := by
  rw [tz (by omega), tz (by omega), tz (by omega)]; omega
theorem w_out {v : Int32} {lo hi : Nat} (h : v.toInt < lo ∨ (hi : Int) < v.toInt) (h3 : hi < 2 ^ 31) (h4 : lo < 2 ^ 31) : v.toInt < (nI lo).toInt ∨ (nI hi).toInt < v.toInt := by
  rw [tz (by omega), tz (by omega)]; omega
def inR (x : Int32) (n : Nat) : Prop := 0 ≤ x.toInt ∧ x.toInt < n
theorem inR_n {a n : Nat} (h : a < n) (hn : n ≤ 2 ^ 31) : inR (nI a) n := by
  unfold inR; rw [tz (by omega)]; omega
theorem inR_o {x : Int32} {n : Nat} (h : x.toInt < 0 ∨ (n : Int) ≤ x.toInt) : ¬ inR x n := by
  unfold inR; omega
theorem n_rem {x y : Int32} (hy : 0 < y.toInt) : (x - x / y * y).toInt = x.toInt.tmod y.toInt := by
  have h1 := x.toInt_lt
  have h2 := x.le_toInt
  have h3 := y.toInt_lt
  rw [Int32.toInt_sub, Int32.toInt_mul, Int32.toInt_div]
  simp only [Int.bmod_mul_bmod, Int.sub_bmod_bmod]
  have e : x.toInt - x.toInt.tdiv y.toInt * y.toInt = x.toInt.tmod y.toInt := by
    have := Int.tmod_add_tdiv_mul x.toInt y.toInt
    omega
  rw [e]
  have b := tmod_bounds (a := x.toInt) hy
  rw [Int.bmod_eq_of_le (by omega) (by omega)]
theorem n_xneg (x : Int32) {n : Nat} (hn : n < 2 ^ 31) : (x ^^^ nI n).toInt < 0 ↔ x.toInt < 0 := by
  have key : ∀ v : Int32, v.toInt < 0 ↔ v.toBitVec.msb = true := fun v => by
    rw [BitVec.msb_eq_toInt]; simp
  have h0 : (nI n).toBitVec.msb = false := by
    rw [BitVec.msb_eq_toInt]
    have := tz hn
    simp only [decide_eq_false_iff_not, Int.not_lt]
    show 0 ≤ (nI n).toInt
    omega
  rw [key, key, Int32.toBitVec_xor, BitVec.msb_xor, h0]
  simp
/-- floorMod's answer, for a divisor above 0 -/
def fmd (z : Int) (n : Nat) : Nat := (z % n).toNat
theorem fmd_a {x : Int32} {n : Nat} (h0 : 0 < n) (hn : n < 2 ^ 30) (h : 0 ≤ x.toInt) : x - x / nI n * nI n = nI (fmd x.toInt n) := by
  apply Int32.toInt_inj.mp
  have h1 := tz (n := n) (by omega)
  rw [n_rem (by omega), h1]
  have h2 := Int.emod_nonneg x.toInt (b := (n : Int)) (by omega)
  have h3 := Int.emod_lt_of_pos x.toInt (b := (n : Int)) (by omega)
  unfold fmd
  rw [tz (by omega), Int.tmod_eq_emod_of_nonneg h]
  omega
theorem fmd_t {z : Int} {n : Nat} (hz : z < 0) (h0 : 0 < n) : z % n = if z.tmod n = 0 then 0 else z.tmod n + n := by
  have e0 : z.tmod n + z.tdiv n * n = z := Int.tmod_add_tdiv_mul z n
  have e : z % n = z.tmod n % n := by
    have h := Int.add_mul_emod_self_right (z.tmod n) (z.tdiv n) n
    rw [e0] at h
    exact h
  have hb := tmod_bounds (a := z) (M := (n : Int)) (by omega)
  have hs : z.tmod n ≤ 0 := by
    have e1 : z.tmod n = -((-z).tmod n) := by rw [Int.neg_tmod, Int.neg_neg]
    have := Int.tmod_nonneg (n : Int) (a := -z) (by omega)
    omega
  rw [e]
  split
  · rename_i h
    rw [h]; simp
  · rename_i h
    have h2 : (z.tmod n + n) % (n : Int) = z.tmod n % n := by
      have := Int.add_mul_emod_self_right (z.tmod n) 1 n
      rwa [Int.one_mul] at this
    rw [← h2, Int.emod_eq_of_lt (by omega) (by omega)]
theorem fmd_b {x : Int32} {n : Nat} (h0 : 0 < n) (hn : n < 2 ^ 30) (h : x.toInt < 0) (hz : (x - x / nI n * nI n).toInt = 0) : x - x / nI n * nI n = nI (fmd x.toInt n) := by
  apply Int32.toInt_inj.mp
  rw [hz]
  rw [n_rem (by rw [tz (by omega)]; omega), tz (by omega)] at hz
  unfold fmd
  rw [fmd_t h h0, if_pos hz]
  rfl
theorem fmd_c {x : Int32} {n : Nat} (h0 : 0 < n) (hn : n < 2 ^ 30) (h : x.toInt < 0) (hz : ¬ (x - x / nI n * nI n).toInt = 0) : x - x / nI n * nI n + nI n = nI (fmd x.toInt n) := by
  apply Int32.toInt_inj.mp
  have h1 := tz (n := n) (by omega)
  have hr := n_rem (x := x) (y := nI n) (by omega)
  rw [h1] at hr
  rw [hr] at hz
  have h2 := Int.emod_nonneg x.toInt (b := (n : Int)) (by omega)
  have h3 := Int.emod_lt_of_pos x.toInt (b := (n : Int)) (by omega)
  have h4 := fmd_t h h0
  rw [if_neg hz] at h4
  unfold fmd
  rw [tz (by omega), Int32.toInt_add, hr, h1, Int.bmod_eq_of_le (by omega) (by omega)]
  omega
theorem fmd_n {a n : Nat} (ha : a < 2 ^ 31) : fmd (nI a).toInt n = a % n := by
  unfold fmd; rw [tz ha]; omega
theorem fmd_s {a n : Nat} (ha : a < 2 ^ 24) (hn : n < 2 ^ 24) : fmd (nI a - nI n).toInt 12 = (a + 11 * n) % 12 := by
  unfold fmd
  rw [pk_sub_toInt (by omega) (by omega)]
  omega
end
section
/-! what the class and the reference both compute: words over rows of naturals -/
def setN (p : Nat → Bool) : Nat → Nat
  | 0 => 0
  | k + 1 => if p k then setN p k ||| 1 <<< k else setN p k
theorem setN_t {p : Nat → Bool} {k : Nat} (h : p k = true) : setN p (k + 1) = setN p k ||| 1 <<< k := by simp [setN, h]
theorem setN_f {p : Nat → Bool} {k : Nat} (h : p k = false) : setN p (k + 1) = setN p k := by simp [setN, h]
theorem one_shl_bit (k j : Nat) : (1 <<< k).testBit j = decide (k = j) := by
  rw [Nat.shiftLeft_eq, Nat.one_mul, Nat.testBit_two_pow]
theorem setN_bit (p : Nat → Bool) (k j : Nat) : (setN p k).testBit j = (decide (j < k) && p j) := by
  induction k with
  | zero => simp [setN]
  | succ k ih =>
    by_cases h : p k = true
    · rw [setN_t h, Nat.testBit_or, ih, one_shl_bit]
      by_cases e : k = j
      · subst e; simp [h]
      · have : (j < k + 1) = (j < k) := by apply propext; omega
        simp [e, this]
    · rw [setN_f (by simpa using h), ih]
      by_cases e : k = j
      · subst e; simp [h]
      · have : (j < k + 1) = (j < k) := by apply propext; omega
        simp [this]
theorem setN_lt (p : Nat → Bool) (k : Nat) : setN p k < 2 ^ k := by
  apply Nat.lt_pow_two_of_testBit
  intro i hi
  rw [setN_bit]
  simp [show ¬ i < k by omega]
theorem setN_congr {p q : Nat → Bool} {k : Nat} (h : ∀ j, j < k → p j = q j) : setN p k = setN q k := by
  induction k with
  | zero => rfl
  | succ k ih => simp only [setN]; rw [ih (fun j hj => h j (by omega)), h k (by omega)]
theorem setN_12 (p : Nat → Bool) : setN p 12 < 4096 := setN_lt p 12
theorem eq_setN {x k : Nat} (hx : x < 2 ^ k) {p : Nat → Bool} (h : ∀ j, j < k → x.testBit j = p j) : x = setN p k := by
  apply Nat.eq_of_testBit_eq
  intro i
  rw [setN_bit]
  by_cases hi : i < k
  · simp [hi, h i hi]
  · rw [Nat.testBit_lt_two_pow (Nat.lt_of_lt_of_le hx (Nat.pow_le_pow_right (by omega) (by omega)))]
    simp [hi]
def cntN (x : Nat) : Nat → Nat
  | 0 => 0
  | k + 1 => cntN x k + (x >>> k &&& 1)
def pop (x : Nat) : Nat := cntN x 12
theorem and1_lt (a : Nat) : a &&& 1 ≤ 1 := Nat.and_le_right
theorem cntN_le (x k : Nat) : cntN x k ≤ k := by
  induction k with
  | zero => simp [cntN]
  | succ k ih => have := and1_lt (x >>> k); simp only [cntN]; omega
/-- the hair of a figure at an angle, on a row of hairs -/
def hr (row : Nat → Nat) (lag a : Nat) : Nat := row ((a + lag) % 12)
def ahd (way a n : Nat) : Nat := if way = 0 then (a + 11 * n) % 12 else (a + n) % 12
def bhd (way a : Nat) : Nat := if way = 0 then (a + 1) % 12 else (a + 11 * 1) % 12
theorem ahd_lt (way a n : Nat) : ahd way a n < 12 := by unfold ahd; split <;> omega
theorem bhd_lt (way a : Nat) : bhd way a < 12 := by unfold bhd; split <;> omega
def slw (row : Nat → Nat) (lag way a : Nat) : Nat → Nat
  | 0 => 0
  | n + 1 => max (slw row lag way a n) (hr row lag (ahd way a n) - n)
def hgt (row : Nat → Nat) (lag way kind a : Nat) : Nat :=
  if kind = 1 then 2 * hr row lag a
  else if kind = 2 then slw row lag way a 12
  else if kind = 3 then (if hr row lag (ahd way a 1) < hr row lag a then 2 * hr row lag a + 1 else 2 * hr row lag a)
  else hr row lag a
def ups (row : Nat → Nat) (lag way kind line : Nat) : Nat := setN (fun a => decide (line ≤ hgt row lag way kind a)) 12
theorem hr_congr {r q : Nat → Nat} (h : ∀ a, a < 12 → r a = q a) (lag a : Nat) : hr r lag a = hr q lag a := h _ (by omega)
theorem slw_congr {r q : Nat → Nat} (h : ∀ a, a < 12 → r a = q a) (lag way a n : Nat) : slw r lag way a n = slw q lag way a n := by
  induction n with
  | zero => rfl
  | succ n ih => simp only [slw, ih, hr_congr h]
theorem hgt_congr {r q : Nat → Nat} (h : ∀ a, a < 12 → r a = q a) (lag way kind a : Nat) : hgt r lag way kind a = hgt q lag way kind a := by
  simp only [hgt, hr_congr h, slw_congr h]
theorem ups_congr {r q : Nat → Nat} (h : ∀ a, a < 12 → r a = q a) (lag way kind line : Nat) : ups r lag way kind line = ups q lag way kind line := by
  simp only [ups, hgt_congr h]
theorem hr_le {r : Nat → Nat} {B : Nat} (h : ∀ a, a < 12 → r a ≤ B) (lag a : Nat) : hr r lag a ≤ B := h _ (by omega)
theorem slw_le {r : Nat → Nat} {B : Nat} (h : ∀ a, a < 12 → r a ≤ B) (lag way a n : Nat) : slw r lag way a n ≤ B := by
  induction n with
  | zero => simp [slw]
  | succ n ih => have := hr_le h lag (ahd way a n); simp only [slw]; omega
theorem hgt_le {r : Nat → Nat} (h : ∀ a, a < 12 → r a ≤ 9) (lag way kind a : Nat) : hgt r lag way kind a ≤ 19 := by
  have h1 := hr_le h lag a
  have h2 := slw_le h lag way a 12
  unfold hgt
  split
  · omega
  · split
    · omega
    · split
      · split <;> omega
      · omega
theorem ups_lt (row : Nat → Nat) (lag way kind line : Nat) : ups row lag way kind line < 4096 := setN_12 _
theorem n_max {h a n : Nat} (h1 : h < 2 ^ 24) (h2 : a < 2 ^ 24) (h3 : n < 2 ^ 24) : (if (nI h).toInt < (nI a - nI n).toInt then nI a - nI n else nI h) = nI (max h (a - n)) := by
  rw [tz (by omega), pk_sub_toInt (by omega) (by omega)]
  split
  · rw [pk_sub (by omega)]; congr 1; omega
  · congr 1; omega
/-- a set of angles moved on -/
def rot (x b : Nat) : Nat := (x <<< b ||| x >>> (12 - b)) &&& 4095
theorem rot_lt (x b : Nat) : rot x b < 4096 := Nat.lt_of_le_of_lt Nat.and_le_right (by decide)
def bc1 (x : Nat) : Nat := x - (x >>> 1 &&& 1431655765)
def bc2 (x : Nat) : Nat := (bc1 x &&& 858993459) + (bc1 x >>> 2 &&& 858993459)
def bc3 (x : Nat) : Nat := bc2 x + bc2 x >>> 4 &&& 252645135
def bc4 (x : Nat) : Nat := bc3 x + bc3 x >>> 8
def bc5 (x : Nat) : Nat := bc4 x + bc4 x >>> 16
theorem by64 {P : Nat → Prop} (h : ∀ a, a < 64 → ∀ b, b < 64 → P (64 * a + b)) {x : Nat} (hx : x < 4096) : P x := by
  have := h (x / 64) (by omega) (x % 64) (by omega)
  rwa [show 64 * (x / 64) + x % 64 = x by omega] at this
theorem bc_ok0 : ∀ a, a < 64 → ∀ b, b < 64 → bc1 (64 * a + b) < 4096 ∧ bc2 (64 * a + b) < 4096 ∧ bc3 (64 * a + b) < 4096 ∧ bc4 (64 * a + b) < 4096 ∧ bc5 (64 * a + b) &&& 63 = pop (64 * a + b) := by decide +kernel
theorem bc_ok {x : Nat} (hx : x < 4096) : bc1 x < 4096 ∧ bc2 x < 4096 ∧ bc3 x < 4096 ∧ bc4 x < 4096 ∧ bc5 x &&& 63 = pop x := by64 (P := fun x => bc1 x < 4096 ∧ bc2 x < 4096 ∧ bc3 x < 4096 ∧ bc4 x < 4096 ∧ bc5 x &&& 63 = pop x) bc_ok0 hx
def andn (a u : Nat) : Nat := a &&& (u ^^^ 4294967295)
/-! the play's rows are as told -/
def wfX (M : gMem) : Prop := (M 23 1 ≤ 6 ∧ M 23 3 ≤ 5) ∧ (∀ c, c < 6 → ∀ a, a < 12 → M (25 + c) a ≤ 9) ∧ (∀ k, k < 5 → M (32 + k) 0 ≤ 3 ∧ M (32 + k) 1 ≤ 5 ∧ M (32 + k) 2 ≤ 11 ∧ M (32 + k) 3 ≤ 3 ∧ M (32 + k) 4 < 4096 ∧ M (32 + k) 5 < 4096) ∧ (1 ≤ M 23 4 ∧ M 23 4 ≤ 9) ∧ M 23 5 ≤ 1 ∧ M 23 6 ≤ 11 ∧ M 23 7 ≤ 1000000000 ∧ (∀ a, a < 12 → 1 ≤ M 37 a ∧ M 37 a ≤ 99) ∧ (∀ k, k < 4 → M 38 k ≤ 1023)
theorem wfX.nc {M : gMem} (h : wfX M) : M 23 1 ≤ 6 := h.1.1
theorem wfX.nf {M : gMem} (h : wfX M) : M 23 3 ≤ 5 := h.1.2
theorem wfX.hair {M : gMem} (h : wfX M) {c a : Nat} (hc : c < 6) (ha : a < 12) : M (25 + c) a ≤ 9 := h.2.1 c hc a ha
theorem wfX.fig {M : gMem} (h : wfX M) {k : Nat} (hk : k < 5) : M (32 + k) 0 ≤ 3 ∧ M (32 + k) 1 ≤ 5 ∧ M (32 + k) 2 ≤ 11 ∧ M (32 + k) 3 ≤ 3 ∧ M (32 + k) 4 < 4096 ∧ M (32 + k) 5 < 4096 := h.2.2.1 k hk
theorem wfX.line {M : gMem} (h : wfX M) : 1 ≤ M 23 4 ∧ M 23 4 ≤ 9 := h.2.2.2.1
theorem wfX.way {M : gMem} (h : wfX M) : M 23 5 ≤ 1 := h.2.2.2.2.1
theorem wfX.at {M : gMem} (h : wfX M) : M 23 6 ≤ 11 := h.2.2.2.2.2.1
theorem wfX.passed {M : gMem} (h : wfX M) : M 23 7 ≤ 1000000000 := h.2.2.2.2.2.2.1
theorem wfX.beat {M : gMem} (h : wfX M) {a : Nat} (ha : a < 12) : 1 ≤ M 37 a ∧ M 37 a ≤ 99 := h.2.2.2.2.2.2.2.1 a ha
theorem wfX.hand {M : gMem} (h : wfX M) {k : Nat} (hk : k < 4) : M 38 k ≤ 1023 := h.2.2.2.2.2.2.2.2 k hk
end
section
/-! words of the play, over the memory of the class -/
def sumN (f : Nat → Nat) : Nat → Nat
  | 0 => 0
  | k + 1 => sumN f k + f k
theorem sumN_congr {f q : Nat → Nat} {n : Nat} (h : ∀ k, k < n → f k = q k) : sumN f n = sumN q n := by
  induction n with
  | zero => rfl
  | succ n ih => simp only [sumN]; rw [ih (fun k hk => h k (by omega)), h n (by omega)]
theorem sumN_ge {f : Nat → Nat} {n : Nat} (h : ∀ k, k < n → 1 ≤ f k) : n ≤ sumN f n := by
  induction n with
  | zero => simp
  | succ n ih => have := ih (fun k hk => h k (by omega)); have := h n (by omega); simp only [sumN]; omega
theorem sumN_le {f : Nat → Nat} {n B : Nat} (h : ∀ k, k < n → f k ≤ B) : sumN f n ≤ n * B := by
  induction n with
  | zero => simp [sumN]
  | succ n ih => have := ih (fun k hk => h k (by omega)); have := h n (by omega); simp only [sumN, Nat.succ_mul]; omega
def itb (way a : Nat) : Nat → Nat
  | 0 => a
  | k + 1 => bhd way (itb way a k)
theorem itb_lt {way a : Nat} (h : a < 12) (k : Nat) : itb way a k < 12 := by
  cases k with
  | zero => exact h
  | succ k => exact bhd_lt _ _
def acs (way a : Nat) : Nat → Nat
  | 0 => 0
  | k + 1 => acs way a k ||| 1 <<< itb way a (k + 1)
theorem or_lt {a b : Nat} (h1 : a < 4096) (h2 : b < 4096) : a ||| b < 4096 := Nat.or_lt_two_pow (n := 12) h1 h2
theorem and_lt {a : Nat} (b : Nat) (h1 : a < 4096) : a &&& b < 4096 := Nat.lt_of_le_of_lt Nat.and_le_left h1
theorem shl_lt {a : Nat} (h1 : a < 12) : 1 <<< a < 4096 := by
  rw [Nat.shiftLeft_eq, Nat.one_mul]
  exact Nat.pow_lt_pow_right (by omega) h1
theorem acs_lt {way a : Nat} (k : Nat) : acs way a k < 4096 := by
  induction k with
  | zero => simp [acs]
  | succ k ih => exact or_lt ih (shl_lt (bhd_lt _ _))
def misd (u d x : Nat) : Nat := (u &&& (x ^^^ 4294967295)) ||| (d &&& x)
theorem misd_lt {u d : Nat} (x : Nat) (hu : u < 4096) (hd : d < 4096) : misd u d x < 4096 := or_lt (and_lt _ hu) (and_lt _ hd)
def bts (row : Nat → Nat) (way t : Nat) : Nat → Nat → Nat
  | _, 0 => 0
  | a, k + 1 => if a = t then 0 else row a + bts row way t (bhd way a) k
def aft (row : Nat → Nat) (way : Nat) : Nat → Nat → Nat → Nat
  | _, a, 0 => a
  | left, a, k + 1 => if left < row a then a else aft row way (left - row a) (bhd way a) k
def upsX (M : gMem) (k : Nat) : Nat := ups (M (25 + M (32 + k) 1)) (M (32 + k) 2) (M 23 5) (M (32 + k) 0) (M 23 4)
def hgtX (M : gMem) (k a : Nat) : Nat := hgt (M (25 + M (32 + k) 1)) (M (32 + k) 2) (M 23 5) (M (32 + k) 0) a
theorem upsX_lt (M : gMem) (k : Nat) : upsX M k < 4096 := ups_lt _ _ _ _ _
def strX (M : gMem) (a b : Nat) : Nat := if M (32 + a) 3 = M (32 + b) 3 then andn (upsX M a &&& upsX M b) (rot (upsX M a &&& upsX M b) (if M 23 5 = 0 then 1 else 11)) else 0
theorem strX_lt (M : gMem) (a b : Nat) : strX M a b < 4096 := by
  unfold strX
  split
  · exact and_lt _ (and_lt _ (upsX_lt _ _))
  · omega
def sitT (M : gMem) (n a b : Nat) : Nat := n / 12 * pop (strX M a b) + pop (strX M a b &&& acs (M 23 5) (M 23 6) (n % 12))
def sitX (M : gMem) (n : Nat) : Nat := sumN (fun a => sumN (fun j => sitT M n a (a + 1 + j)) (M 23 3 - (a + 1))) (M 23 3)
def adv (way a n : Nat) : Nat := if way = 0 then (a + n) % 12 else (a + 11 * n) % 12
def goX (M : gMem) (n : Nat) : gMem := u2 (u2 M 23 6 (adv (M 23 5) (M 23 6) n)) 23 7 (min (M 23 7 + n) 1000000000)
def pegX (M : gMem) (k lag : Nat) : Nat := pop (misd (M (32 + k) 4) (M (32 + k) 5) (setN (fun a => decide (M 23 4 ≤ M (25 + M (32 + k) 1) ((a + lag) % 12))) 12))
def aftX (M : gMem) (b : Nat) : Nat := aft (M 37) (M 23 5) (b % sumN (M 37) 12) (M 23 6) 12
end
section
set_option maxHeartbeats 4000000 in
set_option maxRecDepth 100000 in
theorem c_isWithin_t {l : Launch} {g : gE} (v lo hi : Int32) (h : lo.toInt ≤ v.toInt ∧ v.toInt ≤ hi.toInt) : CP l g yX5_isWithin cX5_isWithin 3 (some .boolean) 0 [.int v, .int lo, .int hi] (nI 1) := by
  refine CP.of (plainFor_of_name (by decide)) (Nat.le_of_ble_eq_true rfl) (fun p9 e9 s9 m9 args9 below9 meth9 c9 CF hK hr9 hlk9 hS ls hl => ?_)
  have hx := CF.1
  have hb := CF.2.1
  have hl : lv_has ls 3 [(0, .int v), (1, .int lo), (2, .int hi)] := hl
  refine lv_iload_n hx hb dX5_isWithin_0 rfl (lv_at hl 0 rfl) ?_
  refine lv_iload_n hx hb dX5_isWithin_1 rfl (lv_at hl 1 rfl) ?_
  refine x_zlt (u := _) (v := _) (tgt := 14) hx hb (rfl) (rfl) dX5_isWithin_2 (by decide) (fun h_1 => (by omega : False).elim) (fun h_1 => ?_)
  refine lv_iload_n hx hb dX5_isWithin_5 rfl (lv_at hl 0 rfl) ?_
  refine lv_iload_n hx hb dX5_isWithin_6 rfl (lv_at hl 2 rfl) ?_
  refine x_zgt (u := _) (v := _) (tgt := 14) hx hb (rfl) (rfl) dX5_isWithin_7 (by decide) (fun h_2 => (by omega : False).elim) (fun h_2 => ?_)
  refine lv_iconst (v := nI 1) hx hb dX5_isWithin_10 (by decide) ?_
  refine lv_goto (tgt := 15) hx hb dX5_isWithin_11 (by decide) ?_
  exact x_retpz hx hb hr9 hlk9 hS (by first | rfl | (show nI 1 = nI 1; first | rfl | omega)) (rfl) dX5_isWithin_15
set_option maxHeartbeats 4000000 in
set_option maxRecDepth 100000 in
theorem c_isWithin_f {l : Launch} {g : gE} (v lo hi : Int32) (h : v.toInt < lo.toInt ∨ hi.toInt < v.toInt) : CP l g yX5_isWithin cX5_isWithin 3 (some .boolean) 0 [.int v, .int lo, .int hi] (nI 0) := by
  refine CP.of (plainFor_of_name (by decide)) (Nat.le_of_ble_eq_true rfl) (fun p9 e9 s9 m9 args9 below9 meth9 c9 CF hK hr9 hlk9 hS ls hl => ?_)
  have hx := CF.1
  have hb := CF.2.1
  have hl : lv_has ls 3 [(0, .int v), (1, .int lo), (2, .int hi)] := hl
  refine lv_iload_n hx hb dX5_isWithin_0 rfl (lv_at hl 0 rfl) ?_
  refine lv_iload_n hx hb dX5_isWithin_1 rfl (lv_at hl 1 rfl) ?_
  refine x_zlt (u := _) (v := _) (tgt := 14) hx hb (rfl) (rfl) dX5_isWithin_2 (by decide) (fun h_1 => ?_) (fun h_1 => ?_)
  · refine lv_iconst (v := nI 0) hx hb dX5_isWithin_14 (by decide) ?_
    exact x_retpz hx hb hr9 hlk9 hS (by first | rfl | (show nI 0 = nI 0; first | rfl | omega)) (rfl) dX5_isWithin_15
  · refine lv_iload_n hx hb dX5_isWithin_5 rfl (lv_at hl 0 rfl) ?_
    refine lv_iload_n hx hb dX5_isWithin_6 rfl (lv_at hl 2 rfl) ?_
    refine x_zgt (u := _) (v := _) (tgt := 14) hx hb (rfl) (rfl) dX5_isWithin_7 (by decide) (fun h_2 => ?_) (fun h_2 => ?_)
    · refine lv_iconst (v := nI 0) hx hb dX5_isWithin_14 (by decide) ?_
      exact x_retpz hx hb hr9 hlk9 hS (by first | rfl | (show nI 0 = nI 0; first | rfl | omega)) (rfl) dX5_isWithin_15
    · exact (by omega : False).elim
set_option maxHeartbeats 4000000 in
set_option maxRecDepth 100000 in
theorem c_floorMod {l : Launch} {g : gE} (x : Int32) (n : Nat) (h0 : 0 < n) (hn : n < 2 ^ 30) : CP l g yJ9_floorMod_7cf53 cJ9_floorMod_7cf53 3 (some .int) 0 [.int x, .int (nI n)] (nI (fmd x.toInt n)) := by
  refine CP.of (by decide +kernel) (Nat.le_of_ble_eq_true rfl) (fun p9 e9 s9 m9 args9 below9 meth9 c9 CF hK hr9 hlk9 hS ls hl => ?_)
  have hx := CF.1
  have hb := CF.2.1
  have hl : lv_has ls 3 [(0, .int x), (1, .int (nI n))] := hl
  refine lv_iload_n hx hb dJ9_floorMod_7cf53_0 rfl (lv_at hl 0 rfl) ?_
  refine lv_iload_n hx hb dJ9_floorMod_7cf53_1 rfl (lv_at hl 1 rfl) ?_
  refine lv_irem hx hb dJ9_floorMod_7cf53_2 (nI_ne0 h0 (by omega)) ?_
  refine lv_istore_n (lv' := [(2, .int (x - x / nI n * nI n)), (0, .int x), (1, .int (nI n))]) hx hb dJ9_floorMod_7cf53_3 rfl hl (by decide) rfl (fun ls hl => ?_)
  refine lv_iload_n hx hb dJ9_floorMod_7cf53_4 rfl (lv_at hl 1 rfl) ?_
  refine lv_iload_n hx hb dJ9_floorMod_7cf53_5 rfl (lv_at hl 2 rfl) ?_
  refine lv_ixor hx hb dJ9_floorMod_7cf53_6 ?_
  refine x_yge (u := _) (tgt := 18) hx hb (rfl) dJ9_floorMod_7cf53_7 (by decide) (fun h_1 => ?_) (fun h_1 => ?_)
  · refine lv_iload_n hx hb dJ9_floorMod_7cf53_18 rfl (lv_at hl 0 rfl) ?_
    exact x_retp hx hb hr9 hlk9 hS (fmd_a h0 hn (by have := n_xneg x (show n < 2 ^ 31 by omega); omega)) dJ9_floorMod_7cf53_19
  · refine lv_iload_n hx hb dJ9_floorMod_7cf53_10 rfl (lv_at hl 0 rfl) ?_
    refine x_yeq (u := _) (tgt := 18) hx hb (rfl) dJ9_floorMod_7cf53_11 (by decide) (fun h_2 => ?_) (fun h_2 => ?_)
    · refine lv_iload_n hx hb dJ9_floorMod_7cf53_18 rfl (lv_at hl 0 rfl) ?_
      exact x_retp hx hb hr9 hlk9 hS (fmd_b h0 hn ((n_xneg x (by omega)).mp h_1) h_2) dJ9_floorMod_7cf53_19
    · refine lv_iload_n hx hb dJ9_floorMod_7cf53_14 rfl (lv_at hl 0 rfl) ?_
      refine lv_iload_n hx hb dJ9_floorMod_7cf53_15 rfl (lv_at hl 2 rfl) ?_
      refine lv_iadd hx hb dJ9_floorMod_7cf53_16 ?_
      exact x_retp hx hb hr9 hlk9 hS (fmd_c h0 hn ((n_xneg x (by omega)).mp h_1) h_2) dJ9_floorMod_7cf53_17
set_option maxHeartbeats 4000000 in
set_option maxRecDepth 100000 in
theorem c_angleOf_n {l : Launch} {g : gE} (a : Nat) (ha : a < 2 ^ 31) : CP l g yX5_angleOf cX5_angleOf 1 (some .int) 1 [.int (nI a)] (nI (a % 12)) := by
  refine CP.of (plainFor_of_name (by decide)) (Nat.le_of_ble_eq_true rfl) (fun p9 e9 s9 m9 args9 below9 meth9 c9 CF hK hr9 hlk9 hS ls hl => ?_)
  have hx := CF.1
  have hb := CF.2.1
  have hl : lv_has ls 1 [(0, .int (nI a))] := hl
  refine lv_iload_n hx hb dX5_angleOf_0 rfl (lv_at hl 0 rfl) ?_
  refine lv_bipush (v := nI 12) hx hb dX5_angleOf_1 (by decide) ?_
  refine x_callPP CF hK hS hl (As := [.int (nI a), .int (nI 12)]) (rest := []) (c_floorMod (nI a) 12 (by omega) (by omega)) kw_J9_floorMod_7cf53 wd2_87 rfl ⟨Nat.le_of_ble_eq_true rfl, Nat.le_of_ble_eq_true rfl⟩ ⟨Nat.le_refl _, Nat.le_refl _⟩ (Nat.le_of_ble_eq_true rfl) dX5_angleOf_3 (fun H locs hS => ?_)
  exact x_retp hx hb hr9 hlk9 hS (by rw [fmd_n ha]) dX5_angleOf_6
set_option maxHeartbeats 4000000 in
set_option maxRecDepth 100000 in
theorem c_angleOf_s {l : Launch} {g : gE} (a n : Nat) (ha : a < 2 ^ 24) (hn : n < 2 ^ 24) : CP l g yX5_angleOf cX5_angleOf 1 (some .int) 1 [.int (nI a - nI n)] (nI ((a + 11 * n) % 12)) := by
  refine CP.of (plainFor_of_name (by decide)) (Nat.le_of_ble_eq_true rfl) (fun p9 e9 s9 m9 args9 below9 meth9 c9 CF hK hr9 hlk9 hS ls hl => ?_)
  have hx := CF.1
  have hb := CF.2.1
  have hl : lv_has ls 1 [(0, .int (nI a - nI n))] := hl
  refine lv_iload_n hx hb dX5_angleOf_0 rfl (lv_at hl 0 rfl) ?_
  refine lv_bipush (v := nI 12) hx hb dX5_angleOf_1 (by decide) ?_
  refine x_callPP CF hK hS hl (As := [.int (nI a - nI n), .int (nI 12)]) (rest := []) (c_floorMod (nI a - nI n) 12 (by omega) (by omega)) kw_J9_floorMod_7cf53 wd2_87 rfl ⟨Nat.le_of_ble_eq_true rfl, Nat.le_of_ble_eq_true rfl⟩ ⟨Nat.le_refl _, Nat.le_refl _⟩ (Nat.le_of_ble_eq_true rfl) dX5_angleOf_3 (fun H locs hS => ?_)
  exact x_retp hx hb hr9 hlk9 hS (by rw [fmd_s ha hn]) dX5_angleOf_6
end
section
set_option maxHeartbeats 4000000 in
set_option maxRecDepth 100000 in
theorem c_bitCount {l : Launch} {g : gE} (x : Nat) (h : x < 4096) : CP l g yJ6_bitCount_0f7a4 cJ6_bitCount_0f7a4 1 (some .int) 0 [.int (nI x)] (nI (pop x)) := by
  refine CP.of (by decide +kernel) (Nat.le_of_ble_eq_true rfl) (fun p9 e9 s9 m9 args9 below9 meth9 c9 CF hK hr9 hlk9 hS ls hl => ?_)
  have hx := CF.1
  have hb := CF.2.1
  have hl : lv_has ls 1 [(0, .int (nI x))] := hl
  have h9 := bc_ok h
  refine lv_iload_n hx hb dJ6_bitCount_0f7a4_0 rfl (lv_at hl 0 rfl) ?_
  refine lv_iload_n hx hb dJ6_bitCount_0f7a4_1 rfl (lv_at hl 0 rfl) ?_
  refine lv_iconst (v := nI 1) hx hb dJ6_bitCount_0f7a4_2 (by decide) ?_
  refine x_iushr hx hb (by omega) (by omega) dJ6_bitCount_0f7a4_3 ?_
  refine lv_ldcw (v := nI 1431655765) hx hb CF.2.2.2.1 (CF.2.2.2.2 _ (List.mem_cons_of_mem _ wd2_58)) dJ6_bitCount_0f7a4_4 ?_
  refine x_iand hx hb dJ6_bitCount_0f7a4_7 ?_
  refine x_isub hx hb (Nat.le_trans Nat.and_le_left (by rw [Nat.shiftRight_eq_div_pow]; omega)) dJ6_bitCount_0f7a4_8 ?_
  refine x_ri (show (nI (x - ((x >>> 1) &&& 1431655765))) = nI (bc1 x) from rfl) ?_
  refine lv_istore_n (lv' := [(0, .int (nI (bc1 x)))]) hx hb dJ6_bitCount_0f7a4_9 rfl hl (by decide) rfl (fun ls hl => ?_)
  refine lv_iload_n hx hb dJ6_bitCount_0f7a4_10 rfl (lv_at hl 0 rfl) ?_
  refine lv_ldcw (v := nI 858993459) hx hb CF.2.2.2.1 (CF.2.2.2.2 _ (List.mem_cons_of_mem _ wd2_59)) dJ6_bitCount_0f7a4_11 ?_
  refine x_iand hx hb dJ6_bitCount_0f7a4_14 ?_
  refine lv_iload_n hx hb dJ6_bitCount_0f7a4_15 rfl (lv_at hl 0 rfl) ?_
  refine lv_iconst (v := nI 2) hx hb dJ6_bitCount_0f7a4_16 (by decide) ?_
  refine x_iushr hx hb (by omega) (by omega) dJ6_bitCount_0f7a4_17 ?_
  refine lv_ldcw (v := nI 858993459) hx hb CF.2.2.2.1 (CF.2.2.2.2 _ (List.mem_cons_of_mem _ wd2_59)) dJ6_bitCount_0f7a4_18 ?_
  refine x_iand hx hb dJ6_bitCount_0f7a4_21 ?_
  refine x_iadd hx hb dJ6_bitCount_0f7a4_22 ?_
  refine x_ri (show (nI (((bc1 x) &&& 858993459) + (((bc1 x) >>> 2) &&& 858993459))) = nI (bc2 x) from rfl) ?_
  refine lv_istore_n (lv' := [(0, .int (nI (bc2 x)))]) hx hb dJ6_bitCount_0f7a4_23 rfl hl (by decide) rfl (fun ls hl => ?_)
  refine lv_iload_n hx hb dJ6_bitCount_0f7a4_24 rfl (lv_at hl 0 rfl) ?_
  refine lv_iload_n hx hb dJ6_bitCount_0f7a4_25 rfl (lv_at hl 0 rfl) ?_
  refine lv_iconst (v := nI 4) hx hb dJ6_bitCount_0f7a4_26 (by decide) ?_
  refine x_iushr hx hb (by omega) (by omega) dJ6_bitCount_0f7a4_27 ?_
  refine x_iadd hx hb dJ6_bitCount_0f7a4_28 ?_
  refine lv_ldcw (v := nI 252645135) hx hb CF.2.2.2.1 (CF.2.2.2.2 _ (List.mem_cons_of_mem _ wd2_60)) dJ6_bitCount_0f7a4_29 ?_
  refine x_iand hx hb dJ6_bitCount_0f7a4_32 ?_
  refine x_ri (show (nI (((bc2 x) + ((bc2 x) >>> 4)) &&& 252645135)) = nI (bc3 x) from rfl) ?_
  refine lv_istore_n (lv' := [(0, .int (nI (bc3 x)))]) hx hb dJ6_bitCount_0f7a4_33 rfl hl (by decide) rfl (fun ls hl => ?_)
  refine lv_iload_n hx hb dJ6_bitCount_0f7a4_34 rfl (lv_at hl 0 rfl) ?_
  refine lv_iload_n hx hb dJ6_bitCount_0f7a4_35 rfl (lv_at hl 0 rfl) ?_
  refine lv_bipush (v := nI 8) hx hb dJ6_bitCount_0f7a4_36 (by decide) ?_
  refine x_iushr hx hb (by omega) (by omega) dJ6_bitCount_0f7a4_38 ?_
  refine x_iadd hx hb dJ6_bitCount_0f7a4_39 ?_
  refine x_ri (show (nI ((bc3 x) + ((bc3 x) >>> 8))) = nI (bc4 x) from rfl) ?_
  refine lv_istore_n (lv' := [(0, .int (nI (bc4 x)))]) hx hb dJ6_bitCount_0f7a4_40 rfl hl (by decide) rfl (fun ls hl => ?_)
  refine lv_iload_n hx hb dJ6_bitCount_0f7a4_41 rfl (lv_at hl 0 rfl) ?_
  refine lv_iload_n hx hb dJ6_bitCount_0f7a4_42 rfl (lv_at hl 0 rfl) ?_
  refine lv_bipush (v := nI 16) hx hb dJ6_bitCount_0f7a4_43 (by decide) ?_
  refine x_iushr hx hb (by omega) (by omega) dJ6_bitCount_0f7a4_45 ?_
  refine x_iadd hx hb dJ6_bitCount_0f7a4_46 ?_
  refine x_ri (show (nI ((bc4 x) + ((bc4 x) >>> 16))) = nI (bc5 x) from rfl) ?_
  refine lv_istore_n (lv' := [(0, .int (nI (bc5 x)))]) hx hb dJ6_bitCount_0f7a4_47 rfl hl (by decide) rfl (fun ls hl => ?_)
  refine lv_iload_n hx hb dJ6_bitCount_0f7a4_48 rfl (lv_at hl 0 rfl) ?_
  refine lv_bipush (v := nI 63) hx hb dJ6_bitCount_0f7a4_49 (by decide) ?_
  refine x_iand hx hb dJ6_bitCount_0f7a4_51 ?_
  exact x_retp hx hb hr9 hlk9 hS (congrArg nI h9.2.2.2.2) dJ6_bitCount_0f7a4_52
set_option maxHeartbeats 4000000 in
set_option maxRecDepth 100000 in
theorem c_max {l : Launch} {g : gE} (x y : Int32) : CP l g yJ9_max_7cf53 cJ9_max_7cf53 2 (some .int) 0 [.int x, .int y] (if x.toInt < y.toInt then y else x) := by
  refine CP.of (by decide +kernel) (Nat.le_of_ble_eq_true rfl) (fun p9 e9 s9 m9 args9 below9 meth9 c9 CF hK hr9 hlk9 hS ls hl => ?_)
  have hx := CF.1
  have hb := CF.2.1
  have hl : lv_has ls 2 [(0, .int x), (1, .int y)] := hl
  refine lv_iload_n hx hb dJ9_max_7cf53_0 rfl (lv_at hl 0 rfl) ?_
  refine lv_iload_n hx hb dJ9_max_7cf53_1 rfl (lv_at hl 1 rfl) ?_
  refine x_zlt (u := _) (v := _) (tgt := 9) hx hb (rfl) (rfl) dJ9_max_7cf53_2 (by decide) (fun h_1 => ?_) (fun h_1 => ?_)
  · refine lv_iload_n hx hb dJ9_max_7cf53_9 rfl (lv_at hl 1 rfl) ?_
    exact x_retp hx hb hr9 hlk9 hS ((if_pos h_1).symm) dJ9_max_7cf53_10
  · refine lv_iload_n hx hb dJ9_max_7cf53_5 rfl (lv_at hl 0 rfl) ?_
    refine lv_goto (tgt := 10) hx hb dJ9_max_7cf53_6 (by decide) ?_
    exact x_retp hx hb hr9 hlk9 hS ((if_neg (Int.not_lt.mpr h_1)).symm) dJ9_max_7cf53_10
set_option maxHeartbeats 4000000 in
set_option maxRecDepth 100000 in
theorem c_min {l : Launch} {g : gE} (x y : Nat) (hx9 : x < 2 ^ 31) (hy9 : y < 2 ^ 31) : CP l g yJ9_min_7cf53 cJ9_min_7cf53 2 (some .int) 0 [.int (nI x), .int (nI y)] (nI (min x y)) := by
  refine CP.of (by decide +kernel) (Nat.le_of_ble_eq_true rfl) (fun p9 e9 s9 m9 args9 below9 meth9 c9 CF hK hr9 hlk9 hS ls hl => ?_)
  have hx := CF.1
  have hb := CF.2.1
  have hl : lv_has ls 2 [(0, .int (nI x)), (1, .int (nI y))] := hl
  refine lv_iload_n hx hb dJ9_min_7cf53_0 rfl (lv_at hl 0 rfl) ?_
  refine lv_iload_n hx hb dJ9_min_7cf53_1 rfl (lv_at hl 1 rfl) ?_
  refine x_zgt (u := (x : Nat)) (v := (y : Nat)) (tgt := 9) hx hb (nI_toInt (by omega)) (nI_toInt (by omega)) dJ9_min_7cf53_2 (by decide) (fun h_1 => ?_) (fun h_1 => ?_)
  · refine lv_iload_n hx hb dJ9_min_7cf53_9 rfl (lv_at hl 1 rfl) ?_
    exact x_retp hx hb hr9 hlk9 hS (by congr 1; omega) dJ9_min_7cf53_10
  · refine lv_iload_n hx hb dJ9_min_7cf53_5 rfl (lv_at hl 0 rfl) ?_
    refine lv_goto (tgt := 10) hx hb dJ9_min_7cf53_6 (by decide) ?_
    exact x_retp hx hb hr9 hlk9 hS (by congr 1; omega) dJ9_min_7cf53_10
theorem n_abs {x y : Nat} (hx : x < 2 ^ 30) (hy : y < 2 ^ 30) (h : ¬ 0 ≤ (nI x - nI y).toInt) : -(nI x - nI y) = nI (x - y + (y - x)) := by
  rw [pk_sub_toInt hx hy] at h
  rw [Int32.neg_sub, pk_sub (by omega)]
  congr 1; omega
theorem n_abs2 {x y : Nat} (hx : x < 2 ^ 30) (hy : y < 2 ^ 30) (h : 0 ≤ (nI x - nI y).toInt) : nI x - nI y = nI (x - y + (y - x)) := by
  rw [pk_sub_toInt hx hy] at h
  rw [pk_sub (by omega)]
  congr 1; omega
set_option maxHeartbeats 4000000 in
set_option maxRecDepth 100000 in
theorem c_abs {l : Launch} {g : gE} (x y : Nat) (hx9 : x < 2 ^ 30) (hy9 : y < 2 ^ 30) : CP l g yJ9_abs_0f7a4 cJ9_abs_0f7a4 1 (some .int) 0 [.int (nI x - nI y)] (nI (x - y + (y - x))) := by
  refine CP.of (by decide +kernel) (Nat.le_of_ble_eq_true rfl) (fun p9 e9 s9 m9 args9 below9 meth9 c9 CF hK hr9 hlk9 hS ls hl => ?_)
  have hx := CF.1
  have hb := CF.2.1
  have hl : lv_has ls 1 [(0, .int (nI x - nI y))] := hl
  refine lv_iload_n hx hb dJ9_abs_0f7a4_0 rfl (lv_at hl 0 rfl) ?_
  refine x_yge (u := _) (tgt := 9) hx hb (rfl) dJ9_abs_0f7a4_1 (by decide) (fun h_1 => ?_) (fun h_1 => ?_)
  · refine lv_iload_n hx hb dJ9_abs_0f7a4_9 rfl (lv_at hl 0 rfl) ?_
    exact x_retp hx hb hr9 hlk9 hS (n_abs2 hx9 hy9 h_1) dJ9_abs_0f7a4_10
  · refine lv_iload_n hx hb dJ9_abs_0f7a4_4 rfl (lv_at hl 0 rfl) ?_
    refine lv_ineg hx hb dJ9_abs_0f7a4_5 ?_
    refine lv_goto (tgt := 10) hx hb dJ9_abs_0f7a4_6 (by decide) ?_
    exact x_retp hx hb hr9 hlk9 hS (n_abs hx9 hy9 (by omega)) dJ9_abs_0f7a4_10
set_option maxHeartbeats 4000000 in
set_option maxRecDepth 100000 in
theorem c_isAngle_t {l : Launch} {g : gE} (a : Nat) (h : a < 12) : CP l g yX5_isAngle cX5_isAngle 1 (some .boolean) 1 [.int (nI a)] (nI 1) := by
  refine CP.of (plainFor_of_name (by decide)) (Nat.le_of_ble_eq_true rfl) (fun p9 e9 s9 m9 args9 below9 meth9 c9 CF hK hr9 hlk9 hS ls hl => ?_)
  have hx := CF.1
  have hb := CF.2.1
  have hl : lv_has ls 1 [(0, .int (nI a))] := hl
  refine lv_iload_n hx hb dX5_isAngle_0 rfl (lv_at hl 0 rfl) ?_
  refine lv_iconst (v := nI 0) hx hb dX5_isAngle_1 (by decide) ?_
  refine lv_bipush (v := nI 11) hx hb dX5_isAngle_2 (by decide) ?_
  refine x_callPP CF hK hS hl (As := [.int (nI a), .int (nI 0), .int (nI 11)]) (rest := []) (c_isWithin_t _ _ _ (w_in (by omega) (by omega) (by omega))) kw_X5_isWithin wd1_190 rfl ⟨Nat.le_of_ble_eq_true rfl, Nat.le_of_ble_eq_true rfl⟩ ⟨Nat.le_refl _, Nat.le_refl _⟩ (Nat.le_of_ble_eq_true rfl) dX5_isAngle_4 (fun H locs hS => ?_)
  exact x_retpz hx hb hr9 hlk9 hS (by first | rfl | (show nI 1 = nI 1; first | rfl | omega)) (rfl) dX5_isAngle_7
set_option maxHeartbeats 4000000 in
set_option maxRecDepth 100000 in
theorem c_isAngle_f {l : Launch} {g : gE} (v : Int32) (h : v.toInt < 0 ∨ ((12 : Nat) : Int) ≤ v.toInt) : CP l g yX5_isAngle cX5_isAngle 1 (some .boolean) 1 [.int v] (nI 0) := by
  refine CP.of (plainFor_of_name (by decide)) (Nat.le_of_ble_eq_true rfl) (fun p9 e9 s9 m9 args9 below9 meth9 c9 CF hK hr9 hlk9 hS ls hl => ?_)
  have hx := CF.1
  have hb := CF.2.1
  have hl : lv_has ls 1 [(0, .int v)] := hl
  refine lv_iload_n hx hb dX5_isAngle_0 rfl (lv_at hl 0 rfl) ?_
  refine lv_iconst (v := nI 0) hx hb dX5_isAngle_1 (by decide) ?_
  refine lv_bipush (v := nI 11) hx hb dX5_isAngle_2 (by decide) ?_
  refine x_callPP CF hK hS hl (As := [.int v, .int (nI 0), .int (nI 11)]) (rest := []) (c_isWithin_f _ _ _ (w_out (by omega) (by omega) (by omega))) kw_X5_isWithin wd1_190 rfl ⟨Nat.le_of_ble_eq_true rfl, Nat.le_of_ble_eq_true rfl⟩ ⟨Nat.le_refl _, Nat.le_refl _⟩ (Nat.le_of_ble_eq_true rfl) dX5_isAngle_4 (fun H locs hS => ?_)
  exact x_retpz hx hb hr9 hlk9 hS (by first | rfl | (show nI 0 = nI 0; first | rfl | omega)) (rfl) dX5_isAngle_7
set_option maxHeartbeats 4000000 in
set_option maxRecDepth 100000 in
theorem c_isKind_t {l : Launch} {g : gE} (a : Nat) (h : a < 4) : CP l g yX5_isKind cX5_isKind 1 (some .boolean) 1 [.int (nI a)] (nI 1) := by
  refine CP.of (plainFor_of_name (by decide)) (Nat.le_of_ble_eq_true rfl) (fun p9 e9 s9 m9 args9 below9 meth9 c9 CF hK hr9 hlk9 hS ls hl => ?_)
  have hx := CF.1
  have hb := CF.2.1
  have hl : lv_has ls 1 [(0, .int (nI a))] := hl
  refine lv_iload_n hx hb dX5_isKind_0 rfl (lv_at hl 0 rfl) ?_
  refine lv_iconst (v := nI 0) hx hb dX5_isKind_1 (by decide) ?_
  refine lv_iconst (v := nI 3) hx hb dX5_isKind_2 (by decide) ?_
  refine x_callPP CF hK hS hl (As := [.int (nI a), .int (nI 0), .int (nI 3)]) (rest := []) (c_isWithin_t _ _ _ (w_in (by omega) (by omega) (by omega))) kw_X5_isWithin wd1_190 rfl ⟨Nat.le_of_ble_eq_true rfl, Nat.le_of_ble_eq_true rfl⟩ ⟨Nat.le_refl _, Nat.le_refl _⟩ (Nat.le_of_ble_eq_true rfl) dX5_isKind_3 (fun H locs hS => ?_)
  exact x_retpz hx hb hr9 hlk9 hS (by first | rfl | (show nI 1 = nI 1; first | rfl | omega)) (rfl) dX5_isKind_6
set_option maxHeartbeats 4000000 in
set_option maxRecDepth 100000 in
theorem c_isKind_f {l : Launch} {g : gE} (v : Int32) (h : v.toInt < 0 ∨ ((4 : Nat) : Int) ≤ v.toInt) : CP l g yX5_isKind cX5_isKind 1 (some .boolean) 1 [.int v] (nI 0) := by
  refine CP.of (plainFor_of_name (by decide)) (Nat.le_of_ble_eq_true rfl) (fun p9 e9 s9 m9 args9 below9 meth9 c9 CF hK hr9 hlk9 hS ls hl => ?_)
  have hx := CF.1
  have hb := CF.2.1
  have hl : lv_has ls 1 [(0, .int v)] := hl
  refine lv_iload_n hx hb dX5_isKind_0 rfl (lv_at hl 0 rfl) ?_
  refine lv_iconst (v := nI 0) hx hb dX5_isKind_1 (by decide) ?_
  refine lv_iconst (v := nI 3) hx hb dX5_isKind_2 (by decide) ?_
  refine x_callPP CF hK hS hl (As := [.int v, .int (nI 0), .int (nI 3)]) (rest := []) (c_isWithin_f _ _ _ (w_out (by omega) (by omega) (by omega))) kw_X5_isWithin wd1_190 rfl ⟨Nat.le_of_ble_eq_true rfl, Nat.le_of_ble_eq_true rfl⟩ ⟨Nat.le_refl _, Nat.le_refl _⟩ (Nat.le_of_ble_eq_true rfl) dX5_isKind_3 (fun H locs hS => ?_)
  exact x_retpz hx hb hr9 hlk9 hS (by first | rfl | (show nI 0 = nI 0; first | rfl | omega)) (rfl) dX5_isKind_6
set_option maxHeartbeats 4000000 in
set_option maxRecDepth 100000 in
theorem c_isPlace_t {l : Launch} {g : gE} (a : Nat) (h : a < 4) : CP l g yX5_isPlace cX5_isPlace 1 (some .boolean) 1 [.int (nI a)] (nI 1) := by
  refine CP.of (plainFor_of_name (by decide)) (Nat.le_of_ble_eq_true rfl) (fun p9 e9 s9 m9 args9 below9 meth9 c9 CF hK hr9 hlk9 hS ls hl => ?_)
  have hx := CF.1
  have hb := CF.2.1
  have hl : lv_has ls 1 [(0, .int (nI a))] := hl
  refine lv_iload_n hx hb dX5_isPlace_0 rfl (lv_at hl 0 rfl) ?_
  refine lv_iconst (v := nI 0) hx hb dX5_isPlace_1 (by decide) ?_
  refine lv_iconst (v := nI 3) hx hb dX5_isPlace_2 (by decide) ?_
  refine x_callPP CF hK hS hl (As := [.int (nI a), .int (nI 0), .int (nI 3)]) (rest := []) (c_isWithin_t _ _ _ (w_in (by omega) (by omega) (by omega))) kw_X5_isWithin wd1_190 rfl ⟨Nat.le_of_ble_eq_true rfl, Nat.le_of_ble_eq_true rfl⟩ ⟨Nat.le_refl _, Nat.le_refl _⟩ (Nat.le_of_ble_eq_true rfl) dX5_isPlace_3 (fun H locs hS => ?_)
  exact x_retpz hx hb hr9 hlk9 hS (by first | rfl | (show nI 1 = nI 1; first | rfl | omega)) (rfl) dX5_isPlace_6
set_option maxHeartbeats 4000000 in
set_option maxRecDepth 100000 in
theorem c_isPlace_f {l : Launch} {g : gE} (v : Int32) (h : v.toInt < 0 ∨ ((4 : Nat) : Int) ≤ v.toInt) : CP l g yX5_isPlace cX5_isPlace 1 (some .boolean) 1 [.int v] (nI 0) := by
  refine CP.of (plainFor_of_name (by decide)) (Nat.le_of_ble_eq_true rfl) (fun p9 e9 s9 m9 args9 below9 meth9 c9 CF hK hr9 hlk9 hS ls hl => ?_)
  have hx := CF.1
  have hb := CF.2.1
  have hl : lv_has ls 1 [(0, .int v)] := hl
  refine lv_iload_n hx hb dX5_isPlace_0 rfl (lv_at hl 0 rfl) ?_
  refine lv_iconst (v := nI 0) hx hb dX5_isPlace_1 (by decide) ?_
  refine lv_iconst (v := nI 3) hx hb dX5_isPlace_2 (by decide) ?_
  refine x_callPP CF hK hS hl (As := [.int v, .int (nI 0), .int (nI 3)]) (rest := []) (c_isWithin_f _ _ _ (w_out (by omega) (by omega) (by omega))) kw_X5_isWithin wd1_190 rfl ⟨Nat.le_of_ble_eq_true rfl, Nat.le_of_ble_eq_true rfl⟩ ⟨Nat.le_refl _, Nat.le_refl _⟩ (Nat.le_of_ble_eq_true rfl) dX5_isPlace_3 (fun H locs hS => ?_)
  exact x_retpz hx hb hr9 hlk9 hS (by first | rfl | (show nI 0 = nI 0; first | rfl | omega)) (rfl) dX5_isPlace_6
set_option maxHeartbeats 4000000 in
set_option maxRecDepth 100000 in
theorem c_isSheet_t {l : Launch} {g : gE} (a : Nat) (h : a < 4) : CP l g yX5_isSheet cX5_isSheet 1 (some .boolean) 1 [.int (nI a)] (nI 1) := by
  refine CP.of (plainFor_of_name (by decide)) (Nat.le_of_ble_eq_true rfl) (fun p9 e9 s9 m9 args9 below9 meth9 c9 CF hK hr9 hlk9 hS ls hl => ?_)
  have hx := CF.1
  have hb := CF.2.1
  have hl : lv_has ls 1 [(0, .int (nI a))] := hl
  refine lv_iload_n hx hb dX5_isSheet_0 rfl (lv_at hl 0 rfl) ?_
  refine lv_iconst (v := nI 0) hx hb dX5_isSheet_1 (by decide) ?_
  refine lv_iconst (v := nI 3) hx hb dX5_isSheet_2 (by decide) ?_
  refine x_callPP CF hK hS hl (As := [.int (nI a), .int (nI 0), .int (nI 3)]) (rest := []) (c_isWithin_t _ _ _ (w_in (by omega) (by omega) (by omega))) kw_X5_isWithin wd1_190 rfl ⟨Nat.le_of_ble_eq_true rfl, Nat.le_of_ble_eq_true rfl⟩ ⟨Nat.le_refl _, Nat.le_refl _⟩ (Nat.le_of_ble_eq_true rfl) dX5_isSheet_3 (fun H locs hS => ?_)
  exact x_retpz hx hb hr9 hlk9 hS (by first | rfl | (show nI 1 = nI 1; first | rfl | omega)) (rfl) dX5_isSheet_6
set_option maxHeartbeats 4000000 in
set_option maxRecDepth 100000 in
theorem c_isSheet_f {l : Launch} {g : gE} (v : Int32) (h : v.toInt < 0 ∨ ((4 : Nat) : Int) ≤ v.toInt) : CP l g yX5_isSheet cX5_isSheet 1 (some .boolean) 1 [.int v] (nI 0) := by
  refine CP.of (plainFor_of_name (by decide)) (Nat.le_of_ble_eq_true rfl) (fun p9 e9 s9 m9 args9 below9 meth9 c9 CF hK hr9 hlk9 hS ls hl => ?_)
  have hx := CF.1
  have hb := CF.2.1
  have hl : lv_has ls 1 [(0, .int v)] := hl
  refine lv_iload_n hx hb dX5_isSheet_0 rfl (lv_at hl 0 rfl) ?_
  refine lv_iconst (v := nI 0) hx hb dX5_isSheet_1 (by decide) ?_
  refine lv_iconst (v := nI 3) hx hb dX5_isSheet_2 (by decide) ?_
  refine x_callPP CF hK hS hl (As := [.int v, .int (nI 0), .int (nI 3)]) (rest := []) (c_isWithin_f _ _ _ (w_out (by omega) (by omega) (by omega))) kw_X5_isWithin wd1_190 rfl ⟨Nat.le_of_ble_eq_true rfl, Nat.le_of_ble_eq_true rfl⟩ ⟨Nat.le_refl _, Nat.le_refl _⟩ (Nat.le_of_ble_eq_true rfl) dX5_isSheet_3 (fun H locs hS => ?_)
  exact x_retpz hx hb hr9 hlk9 hS (by first | rfl | (show nI 0 = nI 0; first | rfl | omega)) (rfl) dX5_isSheet_6
set_option maxHeartbeats 4000000 in
set_option maxRecDepth 100000 in
theorem c_isLane_t {l : Launch} {g : gE} (a : Nat) (h : a < 3) : CP l g yX5_isLane cX5_isLane 1 (some .boolean) 1 [.int (nI a)] (nI 1) := by
  refine CP.of (plainFor_of_name (by decide)) (Nat.le_of_ble_eq_true rfl) (fun p9 e9 s9 m9 args9 below9 meth9 c9 CF hK hr9 hlk9 hS ls hl => ?_)
  have hx := CF.1
  have hb := CF.2.1
  have hl : lv_has ls 1 [(0, .int (nI a))] := hl
  refine lv_iload_n hx hb dX5_isLane_0 rfl (lv_at hl 0 rfl) ?_
  refine lv_iconst (v := nI 0) hx hb dX5_isLane_1 (by decide) ?_
  refine lv_iconst (v := nI 2) hx hb dX5_isLane_2 (by decide) ?_
  refine x_callPP CF hK hS hl (As := [.int (nI a), .int (nI 0), .int (nI 2)]) (rest := []) (c_isWithin_t _ _ _ (w_in (by omega) (by omega) (by omega))) kw_X5_isWithin wd1_190 rfl ⟨Nat.le_of_ble_eq_true rfl, Nat.le_of_ble_eq_true rfl⟩ ⟨Nat.le_refl _, Nat.le_refl _⟩ (Nat.le_of_ble_eq_true rfl) dX5_isLane_3 (fun H locs hS => ?_)
  exact x_retpz hx hb hr9 hlk9 hS (by first | rfl | (show nI 1 = nI 1; first | rfl | omega)) (rfl) dX5_isLane_6
set_option maxHeartbeats 4000000 in
set_option maxRecDepth 100000 in
theorem c_isLane_f {l : Launch} {g : gE} (v : Int32) (h : v.toInt < 0 ∨ ((3 : Nat) : Int) ≤ v.toInt) : CP l g yX5_isLane cX5_isLane 1 (some .boolean) 1 [.int v] (nI 0) := by
  refine CP.of (plainFor_of_name (by decide)) (Nat.le_of_ble_eq_true rfl) (fun p9 e9 s9 m9 args9 below9 meth9 c9 CF hK hr9 hlk9 hS ls hl => ?_)
  have hx := CF.1
  have hb := CF.2.1
  have hl : lv_has ls 1 [(0, .int v)] := hl
  refine lv_iload_n hx hb dX5_isLane_0 rfl (lv_at hl 0 rfl) ?_
  refine lv_iconst (v := nI 0) hx hb dX5_isLane_1 (by decide) ?_
  refine lv_iconst (v := nI 2) hx hb dX5_isLane_2 (by decide) ?_
  refine x_callPP CF hK hS hl (As := [.int v, .int (nI 0), .int (nI 2)]) (rest := []) (c_isWithin_f _ _ _ (w_out (by omega) (by omega) (by omega))) kw_X5_isWithin wd1_190 rfl ⟨Nat.le_of_ble_eq_true rfl, Nat.le_of_ble_eq_true rfl⟩ ⟨Nat.le_refl _, Nat.le_refl _⟩ (Nat.le_of_ble_eq_true rfl) dX5_isLane_3 (fun H locs hS => ?_)
  exact x_retpz hx hb hr9 hlk9 hS (by first | rfl | (show nI 0 = nI 0; first | rfl | omega)) (rfl) dX5_isLane_6
set_option maxHeartbeats 4000000 in
set_option maxRecDepth 100000 in
theorem c_movedOn_n {l : Launch} {g : gE} (x b : Nat) (h : x < 4096) (h2 : b < 12) : CP l g yX5_movedOn cX5_movedOn 3 (some .int) 2 [.int (nI x), .int (nI b)] (nI (rot x b)) := by
  refine CP.of (plainFor_of_name (by decide)) (Nat.le_of_ble_eq_true rfl) (fun p9 e9 s9 m9 args9 below9 meth9 c9 CF hK hr9 hlk9 hS ls hl => ?_)
  have hx := CF.1
  have hb := CF.2.1
  have hl : lv_has ls 3 [(0, .int (nI x)), (1, .int (nI b))] := hl
  refine lv_iload_n hx hb dX5_movedOn_0 rfl (lv_at hl 1 rfl) ?_
  refine x_callPP CF hK hS hl (As := [.int (nI b)]) (rest := []) (c_angleOf_n b (by omega)) kw_X5_angleOf wd2_142 rfl ⟨Nat.le_of_ble_eq_true rfl, Nat.le_of_ble_eq_true rfl⟩ ⟨Nat.le_refl _, Nat.le_refl _⟩ (Nat.le_of_ble_eq_true rfl) dX5_movedOn_1 (fun H locs hS => ?_)
  refine x_ri (show (nI (b % 12)) = nI b from congrArg nI (Nat.mod_eq_of_lt (by omega))) ?_
  refine lv_istore_n (lv' := [(2, .int (nI b)), (0, .int (nI x)), (1, .int (nI b))]) hx hb dX5_movedOn_4 rfl hl (by decide) rfl (fun ls hl => ?_)
  refine lv_iload_n hx hb dX5_movedOn_5 rfl (lv_at hl 1 rfl) ?_
  refine lv_iload_n hx hb dX5_movedOn_6 rfl (lv_at hl 0 rfl) ?_
  refine x_ishl hx hb (by omega) dX5_movedOn_7 ?_
  refine lv_iload_n hx hb dX5_movedOn_8 rfl (lv_at hl 1 rfl) ?_
  refine lv_bipush (v := nI 12) hx hb dX5_movedOn_9 (by decide) ?_
  refine lv_iload_n hx hb dX5_movedOn_11 rfl (lv_at hl 0 rfl) ?_
  refine x_isub hx hb (by omega) dX5_movedOn_12 ?_
  refine x_iushr hx hb (by omega) (by omega) dX5_movedOn_13 ?_
  refine x_ior hx hb dX5_movedOn_14 ?_
  refine lv_sipush (v := nI 4095) hx hb dX5_movedOn_15 (by decide) ?_
  refine x_iand hx hb dX5_movedOn_18 ?_
  exact x_retp hx hb hr9 hlk9 hS (by first | rfl | (show nI (((x <<< b) ||| (x >>> (12 - b))) &&& 4095) = nI (rot x b); first | rfl | omega)) dX5_movedOn_19
set_option maxHeartbeats 4000000 in
set_option maxRecDepth 100000 in
theorem c_movedOn_m {l : Launch} {g : gE} (x : Nat) (h : x < 4096) : CP l g yX5_movedOn cX5_movedOn 3 (some .int) 2 [.int (nI x), .int (nI 4294967295)] (nI (rot x 11)) := by
  refine CP.of (plainFor_of_name (by decide)) (Nat.le_of_ble_eq_true rfl) (fun p9 e9 s9 m9 args9 below9 meth9 c9 CF hK hr9 hlk9 hS ls hl => ?_)
  have hx := CF.1
  have hb := CF.2.1
  have hl : lv_has ls 3 [(0, .int (nI x)), (1, .int (nI 4294967295))] := hl
  refine lv_iload_n (x := nI 0 - nI 1) hx hb dX5_movedOn_0 rfl (lv_at hl 1 rfl) ?_
  refine x_callPP CF hK hS hl (As := [.int (nI 0 - nI 1)]) (rest := []) (c_angleOf_s 0 1 (by omega) (by omega)) kw_X5_angleOf wd2_142 rfl ⟨Nat.le_of_ble_eq_true rfl, Nat.le_of_ble_eq_true rfl⟩ ⟨Nat.le_refl _, Nat.le_refl _⟩ (Nat.le_of_ble_eq_true rfl) dX5_movedOn_1 (fun H locs hS => ?_)
  refine x_ri (show (nI ((0 + 11 * 1) % 12)) = nI 11 from by decide) ?_
  refine lv_istore_n (lv' := [(2, .int (nI 11)), (0, .int (nI x)), (1, .int (nI 4294967295))]) hx hb dX5_movedOn_4 rfl hl (by decide) rfl (fun ls hl => ?_)
  refine lv_iload_n hx hb dX5_movedOn_5 rfl (lv_at hl 1 rfl) ?_
  refine lv_iload_n hx hb dX5_movedOn_6 rfl (lv_at hl 0 rfl) ?_
  refine x_ishl hx hb (by omega) dX5_movedOn_7 ?_
  refine lv_iload_n hx hb dX5_movedOn_8 rfl (lv_at hl 1 rfl) ?_
  refine lv_bipush (v := nI 12) hx hb dX5_movedOn_9 (by decide) ?_
  refine lv_iload_n hx hb dX5_movedOn_11 rfl (lv_at hl 0 rfl) ?_
  refine x_isub hx hb (by omega) dX5_movedOn_12 ?_
  refine x_iushr hx hb (by omega) (by omega) dX5_movedOn_13 ?_
  refine x_ior hx hb dX5_movedOn_14 ?_
  refine lv_sipush (v := nI 4095) hx hb dX5_movedOn_15 (by decide) ?_
  refine x_iand hx hb dX5_movedOn_18 ?_
  exact x_retp hx hb hr9 hlk9 hS (by first | rfl | (show nI (((x <<< 11) ||| (x >>> (12 - 11))) &&& 4095) = nI (rot x 11); first | rfl | omega)) dX5_movedOn_19
end
section
set_option maxHeartbeats 4000000 in
set_option maxRecDepth 100000 in
theorem c_oneBehind {l : Launch} {g : gE} {ad : Nat → Nat} (hI : g_inj ad 55) (M : gMem) (J : gMeL) (hw : wfX M) (a : Nat) (ha : a < 12) : CI l g ad dsX 55 yX1_oneBehind cX1_oneBehind 2 (some .int) 2 [.ref (ad 23), .int (nI a)] M J (nI (bhd (M 23 5) a)) M J := by
  refine CI.of (plainFor_of_name (by decide)) (Nat.le_of_ble_eq_true rfl) (fun p9 e9 s9 m9 args9 below9 meth9 c9 CF hK hr9 hlk9 hP hS ls hl => ?_)
  have hx := CF.1
  have hb := CF.2.1
  have hA : ∀ q, g_A ad 55 q → g_A ad 55 q := fun _ h => h
  have hl : lv_has ls 2 [(0, .ref (ad 23)), (1, .int (nI a))] := hl
  have h5 := hw.way
  refine lv_aload_n hx hb dX1_oneBehind_0 rfl (lv_at hl 0 rfl) ?_
  refine x_geti CF hK hP 23 (by decide) dX_23 rfl uX1 5 (by decide) rfl wd1_77 rfl dX1_oneBehind_1 ?_
  refine x_yne (u := (M 23 5 : Nat)) (tgt := 13) hx hb (nI_toInt (by omega)) dX1_oneBehind_4 (by decide) (fun h_1 => ?_) (fun h_1 => ?_)
  · refine lv_iload_n hx hb dX1_oneBehind_13 rfl (lv_at hl 1 rfl) ?_
    refine lv_iconst (v := nI 1) hx hb dX1_oneBehind_14 (by decide) ?_
    refine lv_isub hx hb dX1_oneBehind_15 ?_
    refine x_callNP CF hK hP hS hl (As := [.int (nI a - nI 1)]) (rest := []) (c_angleOf_s a 1 (by omega) (by omega)) kw_X5_angleOf hK.2.1 rfl ⟨Nat.le_of_ble_eq_true rfl, Nat.le_of_ble_eq_true rfl⟩ ⟨Nat.le_refl _, Nat.le_refl _⟩ (Nat.le_of_ble_eq_true rfl) dX1_oneBehind_16 (fun H locs hP hS => ?_)
    exact x_reti hx hb hr9 hlk9 hS hP (by rw [bhd, if_neg (by omega)]) dX1_oneBehind_19
  · refine lv_iload_n hx hb dX1_oneBehind_7 rfl (lv_at hl 1 rfl) ?_
    refine lv_iconst (v := nI 1) hx hb dX1_oneBehind_8 (by decide) ?_
    refine x_iadd hx hb dX1_oneBehind_9 ?_
    refine lv_goto (tgt := 16) hx hb dX1_oneBehind_10 (by decide) ?_
    refine x_callNP CF hK hP hS hl (As := [.int (nI (a + 1))]) (rest := []) (c_angleOf_n (a + 1) (by omega)) kw_X5_angleOf hK.2.1 rfl ⟨Nat.le_of_ble_eq_true rfl, Nat.le_of_ble_eq_true rfl⟩ ⟨Nat.le_refl _, Nat.le_refl _⟩ (Nat.le_of_ble_eq_true rfl) dX1_oneBehind_16 (fun H locs hP hS => ?_)
    exact x_reti hx hb hr9 hlk9 hS hP (by rw [bhd, if_pos (by omega)]) dX1_oneBehind_19
set_option maxHeartbeats 4000000 in
set_option maxRecDepth 100000 in
theorem c_someAhead {l : Launch} {g : gE} {ad : Nat → Nat} (hI : g_inj ad 55) (M : gMem) (J : gMeL) (hw : wfX M) (a n : Nat) (ha : a < 12) (hn : n ≤ 12) : CI l g ad dsX 55 yX1_someAhead cX1_someAhead 3 (some .int) 2 [.ref (ad 23), .int (nI a), .int (nI n)] M J (nI (ahd (M 23 5) a n)) M J := by
  refine CI.of (plainFor_of_name (by decide)) (Nat.le_of_ble_eq_true rfl) (fun p9 e9 s9 m9 args9 below9 meth9 c9 CF hK hr9 hlk9 hP hS ls hl => ?_)
  have hx := CF.1
  have hb := CF.2.1
  have hA : ∀ q, g_A ad 55 q → g_A ad 55 q := fun _ h => h
  have hl : lv_has ls 3 [(0, .ref (ad 23)), (1, .int (nI a)), (2, .int (nI n))] := hl
  have h5 := hw.way
  refine lv_aload_n hx hb dX1_someAhead_0 rfl (lv_at hl 0 rfl) ?_
  refine x_geti CF hK hP 23 (by decide) dX_23 rfl uX1 5 (by decide) rfl wd1_77 rfl dX1_someAhead_1 ?_
  refine x_yne (u := (M 23 5 : Nat)) (tgt := 13) hx hb (nI_toInt (by omega)) dX1_someAhead_4 (by decide) (fun h_1 => ?_) (fun h_1 => ?_)
  · refine lv_iload_n hx hb dX1_someAhead_13 rfl (lv_at hl 1 rfl) ?_
    refine lv_iload_n hx hb dX1_someAhead_14 rfl (lv_at hl 2 rfl) ?_
    refine x_iadd hx hb dX1_someAhead_15 ?_
    refine x_callNP CF hK hP hS hl (As := [.int (nI (a + n))]) (rest := []) (c_angleOf_n (a + n) (by omega)) kw_X5_angleOf hK.2.1 rfl ⟨Nat.le_of_ble_eq_true rfl, Nat.le_of_ble_eq_true rfl⟩ ⟨Nat.le_refl _, Nat.le_refl _⟩ (Nat.le_of_ble_eq_true rfl) dX1_someAhead_16 (fun H locs hP hS => ?_)
    exact x_reti hx hb hr9 hlk9 hS hP (by rw [ahd, if_neg (by omega)]) dX1_someAhead_19
  · refine lv_iload_n hx hb dX1_someAhead_7 rfl (lv_at hl 1 rfl) ?_
    refine lv_iload_n hx hb dX1_someAhead_8 rfl (lv_at hl 2 rfl) ?_
    refine lv_isub hx hb dX1_someAhead_9 ?_
    refine lv_goto (tgt := 16) hx hb dX1_someAhead_10 (by decide) ?_
    refine x_callNP CF hK hP hS hl (As := [.int (nI a - nI n)]) (rest := []) (c_angleOf_s a n (by omega) (by omega)) kw_X5_angleOf hK.2.1 rfl ⟨Nat.le_of_ble_eq_true rfl, Nat.le_of_ble_eq_true rfl⟩ ⟨Nat.le_refl _, Nat.le_refl _⟩ (Nat.le_of_ble_eq_true rfl) dX1_someAhead_16 (fun H locs hP hS => ?_)
    exact x_reti hx hb hr9 hlk9 hS hP (by rw [ahd, if_pos (by omega)]) dX1_someAhead_19
set_option maxHeartbeats 4000000 in
set_option maxRecDepth 100000 in
theorem c_hairOf_h {l : Launch} {g : gE} {ad : Nat → Nat} (hI : g_inj ad 55) (M : gMem) (J : gMeL) (hw : wfX M) (c : Nat) (hc : c < 6) (k : Nat) (hk : k < 5) (a : Nat) (ha : a < 12) : CI l g ad dsX 55 yX1_hairOf cX1_hairOf 3 (some .int) 3 [.ref (ad (25 + c)), .ref (ad (32 + k)), .int (nI a)] M J (nI (hr (M (25 + c)) (M (32 + k) 2) a)) M J := by
  refine CI.of (plainFor_of_name (by decide)) (Nat.le_of_ble_eq_true rfl) (fun p9 e9 s9 m9 args9 below9 meth9 c9 CF hK hr9 hlk9 hP hS ls hl => ?_)
  have hx := CF.1
  have hb := CF.2.1
  have hA : ∀ q, g_A ad 55 q → g_A ad 55 q := fun _ h => h
  have hl : lv_has ls 3 [(0, .ref (ad (25 + c))), (1, .ref (ad (32 + k))), (2, .int (nI a))] := hl
  have hf := hw.fig hk
  have hB : ∀ a, a < 12 → (M (25 + c)) a ≤ 9 := fun a ha => hw.hair hc ha
  refine lv_aload_n hx hb dX1_hairOf_0 rfl (lv_at hl 0 rfl) ?_
  refine lv_iload_n hx hb dX1_hairOf_1 rfl (lv_at hl 2 rfl) ?_
  refine lv_aload_n hx hb dX1_hairOf_2 rfl (lv_at hl 1 rfl) ?_
  refine x_geti CF hK hP (32 + k) (by omega) (dX_fig k (by omega)) rfl uX0 2 (by decide) rfl wd1_41 rfl dX1_hairOf_3 ?_
  refine x_iadd hx hb dX1_hairOf_6 ?_
  refine x_callNP CF hK hP hS hl (As := [.int (nI (a + (M (32 + k) 2)))]) (rest := [.ref (ad (25 + c))]) (c_angleOf_n (a + (M (32 + k) 2)) (by omega)) kw_X5_angleOf hK.2.1 rfl ⟨Nat.le_of_ble_eq_true rfl, Nat.le_of_ble_eq_true rfl⟩ ⟨Nat.le_refl _, Nat.le_refl _⟩ (Nat.le_of_ble_eq_true rfl) dX1_hairOf_7 (fun H locs hP hS => ?_)
  refine x_iald CF hK hP (25 + c) (by omega) (dX_hair c (by omega)) ((a + (M (32 + k) 2)) % 12) (by omega) (by decide) dX1_hairOf_10 ?_
  exact x_reti hx hb hr9 hlk9 hS hP (by first | rfl | (show nI (M (25 + c) ((a + (M (32 + k) 2)) % 12)) = nI (hr (M (25 + c)) (M (32 + k) 2) a); first | rfl | omega)) dX1_hairOf_11
set_option maxHeartbeats 4000000 in
set_option maxRecDepth 100000 in
theorem c_slow_h {l : Launch} {g : gE} {ad : Nat → Nat} (hI : g_inj ad 55) (M : gMem) (J : gMeL) (hw : wfX M) (c : Nat) (hc : c < 6) (k : Nat) (hk : k < 5) (a : Nat) (ha : a < 12) : CI l g ad dsX 55 yX1_slowHeight cX1_slowHeight 6 (some .int) 4 [.ref (ad 23), .ref (ad (25 + c)), .ref (ad (32 + k)), .int (nI a)] M J (nI (slw (M (25 + c)) (M (32 + k) 2) (M 23 5) a 12)) M J := by
  refine CI.of (plainFor_of_name (by decide)) (Nat.le_of_ble_eq_true rfl) (fun p9 e9 s9 m9 args9 below9 meth9 c9 CF hK hr9 hlk9 hP hS ls hl => ?_)
  have hx := CF.1
  have hb := CF.2.1
  have hA : ∀ q, g_A ad 55 q → g_A ad 55 q := fun _ h => h
  have hl : lv_has ls 6 [(0, .ref (ad 23)), (1, .ref (ad (25 + c))), (2, .ref (ad (32 + k))), (3, .int (nI a))] := hl
  have hf := hw.fig hk
  have hB : ∀ a, a < 12 → (M (25 + c)) a ≤ 9 := fun a ha => hw.hair hc ha
  refine lv_iconst (v := nI 0) hx hb dX1_slowHeight_0 (by decide) ?_
  refine lv_istore (lv' := [(4, .int (nI 0)), (0, .ref (ad 23)), (1, .ref (ad (25 + c))), (2, .ref (ad (32 + k))), (3, .int (nI a))]) hx hb dX1_slowHeight_1 hl (by decide) rfl (fun ls hl => ?_)
  refine lv_iconst (v := nI 0) hx hb dX1_slowHeight_3 (by decide) ?_
  refine lv_istore (lv' := [(5, .int (nI 0)), (4, .int (nI 0)), (0, .ref (ad 23)), (1, .ref (ad (25 + c))), (2, .ref (ad (32 + k))), (3, .int (nI a))]) hx hb dX1_slowHeight_4 hl (by decide) rfl (fun ls hl => ?_)
  have L6 : ∀ (d6 : Nat) (n : Nat), (n + d6 = 12) → (∀ (H : Heap) (locs : List Loc) (ls : Array Slot), g_P g ad dsX 55 M J H → va_S (g_A ad 55) s9.heap H locs → lv_has ls 6 [(5, .int (nI n)), (4, .int (nI (slw (M (25 + c)) (M (32 + k) 2) (M 23 5) a n))), (0, .ref (ad 23)), (1, .ref (ad (25 + c))), (2, .ref (ad (32 + k))), (3, .int (nI a))] → W p9 l e9 (g_rm 4) s9 m9 args9 below9 meth9 c9 H locs 0 0 (MQ below9 (va_Qi (fun r' (_ : Unit) => r' = (nI (slw (M (25 + c)) (M (32 + k) 2) (M 23 5) a 12))) (fun _ t => g_P g ad dsX 55 M J t.heap) (g_A ad 55)) args9 s9 0 0 (g_A ad 55)) (F0 m9 6 ls [])) := by
    intro d6
    induction d6 with
    | zero =>
      intro n hn H locs ls hP hS hl
      refine lv_iload hx hb dX1_slowHeight_6 (lv_at hl 0 rfl) ?_
      refine lv_bipush (v := nI 12) hx hb dX1_slowHeight_8 (by decide) ?_
      refine x_zge (u := (n : Nat)) (v := (12 : Int)) (tgt := 41) hx hb (nI_toInt (by omega)) (rfl) dX1_slowHeight_10 (by decide) (fun h_1 => ?_) (fun h_1 => (by omega : False).elim)
      refine lv_iload hx hb dX1_slowHeight_41 (lv_at hl 1 rfl) ?_
      exact x_reti hx hb hr9 hlk9 hS hP (by rw [show n = 12 by omega]) dX1_slowHeight_43
    | succ d6 ih6 =>
      intro n hn H locs ls hP hS hl
      have b1 := ahd_lt (M 23 5) a n
      refine lv_iload hx hb dX1_slowHeight_6 (lv_at hl 0 rfl) ?_
      refine lv_bipush (v := nI 12) hx hb dX1_slowHeight_8 (by decide) ?_
      refine x_zge (u := (n : Nat)) (v := (12 : Int)) (tgt := 41) hx hb (nI_toInt (by omega)) (rfl) dX1_slowHeight_10 (by decide) (fun h_2 => (by omega : False).elim) (fun h_2 => ?_)
      refine lv_iload hx hb dX1_slowHeight_13 (lv_at hl 1 rfl) ?_
      refine lv_aload_n hx hb dX1_slowHeight_15 rfl (lv_at hl 3 rfl) ?_
      refine lv_aload_n hx hb dX1_slowHeight_16 rfl (lv_at hl 4 rfl) ?_
      refine lv_aload_n hx hb dX1_slowHeight_17 rfl (lv_at hl 2 rfl) ?_
      refine lv_iload_n hx hb dX1_slowHeight_18 rfl (lv_at hl 5 rfl) ?_
      refine lv_iload hx hb dX1_slowHeight_19 (lv_at hl 0 rfl) ?_
      refine x_callVI CF hK hP hS hA hl (As := [.int (nI a), .int (nI n)]) (rest := [.ref (ad (32 + k)), .ref (ad (25 + c)), .int (nI (slw (M (25 + c)) (M (32 + k) 2) (M 23 5) a n))]) (c_someAhead hI M J hw a n (by omega) (by omega)) kw_X1_someAhead wd2_94 (by decide) dX_23 rfl rfl ⟨Nat.le_of_ble_eq_true rfl, Nat.le_of_ble_eq_true rfl⟩ ⟨Nat.le_refl _, Nat.le_refl _⟩ (Nat.le_of_ble_eq_true rfl) dX1_slowHeight_21 (fun H locs hP hS => ?_)
      refine x_callSI CF hK hP hS hA hl (As := [.ref (ad (25 + c)), .ref (ad (32 + k)), .int (nI (ahd (M 23 5) a n))]) (rest := [.int (nI (slw (M (25 + c)) (M (32 + k) 2) (M 23 5) a n))]) (c_hairOf_h hI M J hw c (by omega) k (by omega) (ahd (M 23 5) a n) (by omega)) kw_X1_hairOf wd2_81 rfl ⟨Nat.le_of_ble_eq_true rfl, Nat.le_of_ble_eq_true rfl⟩ ⟨Nat.le_refl _, Nat.le_refl _⟩ (Nat.le_of_ble_eq_true rfl) dX1_slowHeight_24 (fun H locs hP hS => ?_)
      refine lv_iload hx hb dX1_slowHeight_27 (lv_at hl 0 rfl) ?_
      refine lv_isub hx hb dX1_slowHeight_29 ?_
      refine x_callSP CF hK hP hS hl (As := [.int (nI (slw (M (25 + c)) (M (32 + k) 2) (M 23 5) a n)), .int (nI (hr (M (25 + c)) (M (32 + k) 2) (ahd (M 23 5) a n)) - nI n)]) (rest := []) (c_max (nI (slw (M (25 + c)) (M (32 + k) 2) (M 23 5) a n)) (nI (hr (M (25 + c)) (M (32 + k) 2) (ahd (M 23 5) a n)) - nI n)) kw_J9_max_7cf53 wd2_98 rfl ⟨Nat.le_of_ble_eq_true rfl, Nat.le_of_ble_eq_true rfl⟩ ⟨Nat.le_refl _, Nat.le_refl _⟩ (Nat.le_of_ble_eq_true rfl) dX1_slowHeight_30 (fun H locs hP hS => ?_)
      refine x_ri (show (if (nI (slw (M (25 + c)) (M (32 + k) 2) (M 23 5) a n)).toInt < (nI (hr (M (25 + c)) (M (32 + k) 2) (ahd (M 23 5) a n)) - nI n).toInt then nI (hr (M (25 + c)) (M (32 + k) 2) (ahd (M 23 5) a n)) - nI n else nI (slw (M (25 + c)) (M (32 + k) 2) (M 23 5) a n)) = nI (max (slw (M (25 + c)) (M (32 + k) 2) (M 23 5) a n) (hr (M (25 + c)) (M (32 + k) 2) (ahd (M 23 5) a n) - n)) from n_max (by have := slw_le hB (M (32 + k) 2) (M 23 5) a n; omega) (by have := hr_le hB (M (32 + k) 2) (ahd (M 23 5) a n); omega) (by omega)) ?_
      refine lv_istore (lv' := [(4, .int (nI (max (slw (M (25 + c)) (M (32 + k) 2) (M 23 5) a n) (hr (M (25 + c)) (M (32 + k) 2) (ahd (M 23 5) a n) - n)))), (5, .int (nI n)), (0, .ref (ad 23)), (1, .ref (ad (25 + c))), (2, .ref (ad (32 + k))), (3, .int (nI a))]) hx hb dX1_slowHeight_33 hl (by decide) rfl (fun ls hl => ?_)
      refine lv_iinc (v := nI (n + 1)) (lv' := [(5, .int (nI (n + 1))), (4, .int (nI (max (slw (M (25 + c)) (M (32 + k) 2) (M 23 5) a n) (hr (M (25 + c)) (M (32 + k) 2) (ahd (M 23 5) a n) - n)))), (0, .ref (ad 23)), (1, .ref (ad (25 + c))), (2, .ref (ad (32 + k))), (3, .int (nI a))]) hx hb dX1_slowHeight_35 hl (k := 1) rfl (n_inc n 1) (by decide) rfl (fun ls hl => ?_)
      refine lv_goto (tgt := 6) hx hb dX1_slowHeight_38 (by decide) ?_
      have hl0 : lv_has ls 6 [(5, .int (nI (n + 1))), (4, .int (nI (slw (M (25 + c)) (M (32 + k) 2) (M 23 5) a (n + 1)))), (0, .ref (ad 23)), (1, .ref (ad (25 + c))), (2, .ref (ad (32 + k))), (3, .int (nI a))] := by rw [(show nI (slw (M (25 + c)) (M (32 + k) 2) (M 23 5) a (n + 1)) = nI (max (slw (M (25 + c)) (M (32 + k) 2) (M 23 5) a n) (hr (M (25 + c)) (M (32 + k) 2) (ahd (M 23 5) a n) - n)) from rfl)]; exact lv_sub hl [0, 1, 2, 3, 4, 5] rfl
      exact ih6 (n + 1) (by omega) _ _ _ (hP) hS hl0
  have hl0 : lv_has ls 6 [(5, .int (nI 0)), (4, .int (nI (slw (M (25 + c)) (M (32 + k) 2) (M 23 5) a 0))), (0, .ref (ad 23)), (1, .ref (ad (25 + c))), (2, .ref (ad (32 + k))), (3, .int (nI a))] := by rw [(show nI (slw (M (25 + c)) (M (32 + k) 2) (M 23 5) a 0) = nI 0 from rfl)]; exact lv_sub hl [0, 1, 2, 3, 4, 5] rfl
  exact L6 12 0 (by omega) _ _ _ (hP) hS hl0
set_option maxHeartbeats 4000000 in
set_option maxRecDepth 100000 in
theorem c_heightOn_h {l : Launch} {g : gE} {ad : Nat → Nat} (hI : g_inj ad 55) (M : gMem) (J : gMeL) (hw : wfX M) (c : Nat) (hc : c < 6) (k : Nat) (hk : k < 5) (a : Nat) (ha : a < 12) : CI l g ad dsX 55 yX1_heightOn cX1_heightOn 5 (some .int) 5 [.ref (ad 23), .ref (ad (25 + c)), .ref (ad (32 + k)), .int (nI a)] M J (nI (hgt (M (25 + c)) (M (32 + k) 2) (M 23 5) (M (32 + k) 0) a)) M J := by
  refine CI.of (plainFor_of_name (by decide)) (Nat.le_of_ble_eq_true rfl) (fun p9 e9 s9 m9 args9 below9 meth9 c9 CF hK hr9 hlk9 hP hS ls hl => ?_)
  have hx := CF.1
  have hb := CF.2.1
  have hA : ∀ q, g_A ad 55 q → g_A ad 55 q := fun _ h => h
  have hl : lv_has ls 5 [(0, .ref (ad 23)), (1, .ref (ad (25 + c))), (2, .ref (ad (32 + k))), (3, .int (nI a))] := hl
  have hf := hw.fig hk
  have hB : ∀ a, a < 12 → (M (25 + c)) a ≤ 9 := fun a ha => hw.hair hc ha
  have b1 := hr_le hB (M (32 + k) 2) a
  have b2 := hr_le hB (M (32 + k) 2) (ahd (M 23 5) a 1)
  have b3 := ahd_lt (M 23 5) a 1
  refine lv_aload_n hx hb dX1_heightOn_0 rfl (lv_at hl 1 rfl) ?_
  refine lv_aload_n hx hb dX1_heightOn_1 rfl (lv_at hl 2 rfl) ?_
  refine lv_iload_n hx hb dX1_heightOn_2 rfl (lv_at hl 3 rfl) ?_
  refine x_callSI CF hK hP hS hA hl (As := [.ref (ad (25 + c)), .ref (ad (32 + k)), .int (nI a)]) (rest := []) (c_hairOf_h hI M J hw c (by omega) k (by omega) a (by omega)) kw_X1_hairOf wd2_81 rfl ⟨Nat.le_of_ble_eq_true rfl, Nat.le_of_ble_eq_true rfl⟩ ⟨Nat.le_refl _, Nat.le_refl _⟩ (Nat.le_of_ble_eq_true rfl) dX1_heightOn_3 (fun H locs hP hS => ?_)
  refine lv_istore (lv' := [(4, .int (nI (hr (M (25 + c)) (M (32 + k) 2) a))), (0, .ref (ad 23)), (1, .ref (ad (25 + c))), (2, .ref (ad (32 + k))), (3, .int (nI a))]) hx hb dX1_heightOn_6 hl (by decide) rfl (fun ls hl => ?_)
  refine lv_aload_n hx hb dX1_heightOn_8 rfl (lv_at hl 3 rfl) ?_
  refine x_geti CF hK hP (32 + k) (by omega) (dX_fig k (by omega)) rfl uX0 0 (by decide) rfl wd1_36 rfl dX1_heightOn_9 ?_
  rcases (show M (32 + k) 0 = 1 ∨ M (32 + k) 0 = 2 ∨ M (32 + k) 0 = 3 ∨ (M (32 + k) 0 < 1 ∨ 3 < M (32 + k) 0) by omega) with sw_1 | sw_1 | sw_1 | sw_1
  · refine lv_tableIn (tgt := 40) hx hb dX1_heightOn_12 (by rw [sw_1]; decide) (by rw [sw_1]; decide) (off := 28) (by rw [sw_1]; rfl) (by decide) ?_
    refine lv_iconst (v := nI 2) hx hb dX1_heightOn_40 (by decide) ?_
    refine lv_iload hx hb dX1_heightOn_41 (lv_at hl 0 rfl) ?_
    refine x_imul hx hb dX1_heightOn_43 ?_
    exact x_reti hx hb hr9 hlk9 hS hP (by rw [hgt, if_pos sw_1]) dX1_heightOn_44
  · refine lv_tableIn (tgt := 45) hx hb dX1_heightOn_12 (by rw [sw_1]; decide) (by rw [sw_1]; decide) (off := 33) (by rw [sw_1]; rfl) (by decide) ?_
    refine lv_aload_n hx hb dX1_heightOn_45 rfl (lv_at hl 1 rfl) ?_
    refine lv_aload_n hx hb dX1_heightOn_46 rfl (lv_at hl 2 rfl) ?_
    refine lv_aload_n hx hb dX1_heightOn_47 rfl (lv_at hl 3 rfl) ?_
    refine lv_iload_n hx hb dX1_heightOn_48 rfl (lv_at hl 4 rfl) ?_
    refine x_callVI CF hK hP hS hA hl (As := [.ref (ad (25 + c)), .ref (ad (32 + k)), .int (nI a)]) (rest := []) (c_slow_h hI M J hw c (by omega) k (by omega) a (by omega)) kw_X1_slowHeight wd2_90 (by decide) dX_23 rfl rfl ⟨Nat.le_of_ble_eq_true rfl, Nat.le_of_ble_eq_true rfl⟩ ⟨Nat.le_refl _, Nat.le_refl _⟩ (Nat.le_of_ble_eq_true rfl) dX1_heightOn_49 (fun H locs hP hS => ?_)
    exact x_reti hx hb hr9 hlk9 hS hP (by rw [hgt, if_neg (by omega), if_pos sw_1]) dX1_heightOn_52
  · refine lv_tableIn (tgt := 53) hx hb dX1_heightOn_12 (by rw [sw_1]; decide) (by rw [sw_1]; decide) (off := 41) (by rw [sw_1]; rfl) (by decide) ?_
    refine lv_iload hx hb dX1_heightOn_53 (lv_at hl 0 rfl) ?_
    refine lv_aload_n hx hb dX1_heightOn_55 rfl (lv_at hl 2 rfl) ?_
    refine lv_aload_n hx hb dX1_heightOn_56 rfl (lv_at hl 3 rfl) ?_
    refine lv_aload_n hx hb dX1_heightOn_57 rfl (lv_at hl 1 rfl) ?_
    refine lv_iload_n hx hb dX1_heightOn_58 rfl (lv_at hl 4 rfl) ?_
    refine lv_iconst (v := nI 1) hx hb dX1_heightOn_59 (by decide) ?_
    refine x_callVI CF hK hP hS hA hl (As := [.int (nI a), .int (nI 1)]) (rest := [.ref (ad (32 + k)), .ref (ad (25 + c)), .int (nI (hr (M (25 + c)) (M (32 + k) 2) a))]) (c_someAhead hI M J hw a 1 (by omega) (by omega)) kw_X1_someAhead wd2_94 (by decide) dX_23 rfl rfl ⟨Nat.le_of_ble_eq_true rfl, Nat.le_of_ble_eq_true rfl⟩ ⟨Nat.le_refl _, Nat.le_refl _⟩ (Nat.le_of_ble_eq_true rfl) dX1_heightOn_60 (fun H locs hP hS => ?_)
    refine x_callSI CF hK hP hS hA hl (As := [.ref (ad (25 + c)), .ref (ad (32 + k)), .int (nI (ahd (M 23 5) a 1))]) (rest := [.int (nI (hr (M (25 + c)) (M (32 + k) 2) a))]) (c_hairOf_h hI M J hw c (by omega) k (by omega) (ahd (M 23 5) a 1) (by omega)) kw_X1_hairOf wd2_81 rfl ⟨Nat.le_of_ble_eq_true rfl, Nat.le_of_ble_eq_true rfl⟩ ⟨Nat.le_refl _, Nat.le_refl _⟩ (Nat.le_of_ble_eq_true rfl) dX1_heightOn_63 (fun H locs hP hS => ?_)
    refine x_zle (u := (hr (M (25 + c)) (M (32 + k) 2) a : Nat)) (v := (hr (M (25 + c)) (M (32 + k) 2) (ahd (M 23 5) a 1) : Nat)) (tgt := 78) hx hb (nI_toInt (by omega)) (nI_toInt (by omega)) dX1_heightOn_66 (by decide) (fun h_2 => ?_) (fun h_2 => ?_)
    · refine lv_iconst (v := nI 2) hx hb dX1_heightOn_78 (by decide) ?_
      refine lv_iload hx hb dX1_heightOn_79 (lv_at hl 0 rfl) ?_
      refine x_imul hx hb dX1_heightOn_81 ?_
      exact x_reti hx hb hr9 hlk9 hS hP (by rw [hgt, if_neg (by omega), if_neg (by omega), if_pos sw_1, if_neg (by omega)]) dX1_heightOn_82
    · refine lv_iconst (v := nI 2) hx hb dX1_heightOn_69 (by decide) ?_
      refine lv_iload hx hb dX1_heightOn_70 (lv_at hl 0 rfl) ?_
      refine x_imul hx hb dX1_heightOn_72 ?_
      refine lv_iconst (v := nI 1) hx hb dX1_heightOn_73 (by decide) ?_
      refine x_iadd hx hb dX1_heightOn_74 ?_
      refine lv_goto (tgt := 82) hx hb dX1_heightOn_75 (by decide) ?_
      exact x_reti hx hb hr9 hlk9 hS hP (by rw [hgt, if_neg (by omega), if_neg (by omega), if_pos sw_1, if_pos (by omega)]) dX1_heightOn_82
  · refine lv_tableOut (tgt := 83) hx hb dX1_heightOn_12 (by rw [tz (by omega)]; omega) (by decide) ?_
    refine lv_iload hx hb dX1_heightOn_83 (lv_at hl 0 rfl) ?_
    exact x_reti hx hb hr9 hlk9 hS hP (by rw [hgt, if_neg (by omega), if_neg (by omega), if_neg (by omega)]) dX1_heightOn_85
set_option maxHeartbeats 4000000 in
set_option maxRecDepth 100000 in
theorem c_upsOn_h {l : Launch} {g : gE} {ad : Nat → Nat} (hI : g_inj ad 55) (M : gMem) (J : gMeL) (hw : wfX M) (c : Nat) (hc : c < 6) (k : Nat) (hk : k < 5)  : CI l g ad dsX 55 yX1_upsOn cX1_upsOn 5 (some .int) 6 [.ref (ad 23), .ref (ad (25 + c)), .ref (ad (32 + k))] M J (nI (ups (M (25 + c)) (M (32 + k) 2) (M 23 5) (M (32 + k) 0) (M 23 4))) M J := by
  refine CI.of (plainFor_of_name (by decide)) (Nat.le_of_ble_eq_true rfl) (fun p9 e9 s9 m9 args9 below9 meth9 c9 CF hK hr9 hlk9 hP hS ls hl => ?_)
  have hx := CF.1
  have hb := CF.2.1
  have hA : ∀ q, g_A ad 55 q → g_A ad 55 q := fun _ h => h
  have hl : lv_has ls 5 [(0, .ref (ad 23)), (1, .ref (ad (25 + c))), (2, .ref (ad (32 + k)))] := hl
  have hf := hw.fig hk
  have hB : ∀ a, a < 12 → (M (25 + c)) a ≤ 9 := fun a ha => hw.hair hc ha
  have hln := hw.line
  refine lv_iconst (v := nI 0) hx hb dX1_upsOn_0 (by decide) ?_
  refine lv_istore_n (lv' := [(3, .int (nI 0)), (0, .ref (ad 23)), (1, .ref (ad (25 + c))), (2, .ref (ad (32 + k)))]) hx hb dX1_upsOn_1 rfl hl (by decide) rfl (fun ls hl => ?_)
  refine lv_iconst (v := nI 0) hx hb dX1_upsOn_2 (by decide) ?_
  refine lv_istore (lv' := [(4, .int (nI 0)), (3, .int (nI 0)), (0, .ref (ad 23)), (1, .ref (ad (25 + c))), (2, .ref (ad (32 + k)))]) hx hb dX1_upsOn_3 hl (by decide) rfl (fun ls hl => ?_)
  have L5 : ∀ (d5 : Nat) (a : Nat), (a + d5 = 12) → (∀ (H : Heap) (locs : List Loc) (ls : Array Slot), g_P g ad dsX 55 M J H → va_S (g_A ad 55) s9.heap H locs → lv_has ls 5 [(4, .int (nI a)), (3, .int (nI (setN (fun q => decide (M 23 4 ≤ hgt (M (25 + c)) (M (32 + k) 2) (M 23 5) (M (32 + k) 0) q)) a))), (0, .ref (ad 23)), (1, .ref (ad (25 + c))), (2, .ref (ad (32 + k)))] → W p9 l e9 (g_rm 6) s9 m9 args9 below9 meth9 c9 H locs 0 0 (MQ below9 (va_Qi (fun r' (_ : Unit) => r' = (nI (ups (M (25 + c)) (M (32 + k) 2) (M 23 5) (M (32 + k) 0) (M 23 4)))) (fun _ t => g_P g ad dsX 55 M J t.heap) (g_A ad 55)) args9 s9 0 0 (g_A ad 55)) (F0 m9 5 ls [])) := by
    intro d5
    induction d5 with
    | zero =>
      intro a ha H locs ls hP hS hl
      refine lv_iload hx hb dX1_upsOn_5 (lv_at hl 0 rfl) ?_
      refine lv_bipush (v := nI 12) hx hb dX1_upsOn_7 (by decide) ?_
      refine x_zge (u := (a : Nat)) (v := (12 : Int)) (tgt := 40) hx hb (nI_toInt (by omega)) (rfl) dX1_upsOn_9 (by decide) (fun h_1 => ?_) (fun h_1 => (by omega : False).elim)
      refine lv_iload_n hx hb dX1_upsOn_40 rfl (lv_at hl 1 rfl) ?_
      exact x_reti hx hb hr9 hlk9 hS hP (by rw [show a = 12 by omega]; rfl) dX1_upsOn_41
    | succ d5 ih5 =>
      intro a ha H locs ls hP hS hl
      have b1 := hgt_le hB (M (32 + k) 2) (M 23 5) (M (32 + k) 0) a
      refine lv_iload hx hb dX1_upsOn_5 (lv_at hl 0 rfl) ?_
      refine lv_bipush (v := nI 12) hx hb dX1_upsOn_7 (by decide) ?_
      refine x_zge (u := (a : Nat)) (v := (12 : Int)) (tgt := 40) hx hb (nI_toInt (by omega)) (rfl) dX1_upsOn_9 (by decide) (fun h_2 => (by omega : False).elim) (fun h_2 => ?_)
      refine lv_aload_n hx hb dX1_upsOn_12 rfl (lv_at hl 2 rfl) ?_
      refine lv_aload_n hx hb dX1_upsOn_13 rfl (lv_at hl 3 rfl) ?_
      refine lv_aload_n hx hb dX1_upsOn_14 rfl (lv_at hl 4 rfl) ?_
      refine lv_iload hx hb dX1_upsOn_15 (lv_at hl 0 rfl) ?_
      refine x_callVI CF hK hP hS hA hl (As := [.ref (ad (25 + c)), .ref (ad (32 + k)), .int (nI a)]) (rest := []) (c_heightOn_h hI M J hw c (by omega) k (by omega) a (by omega)) kw_X1_heightOn wd2_77 (by decide) dX_23 rfl rfl ⟨Nat.le_of_ble_eq_true rfl, Nat.le_of_ble_eq_true rfl⟩ ⟨Nat.le_refl _, Nat.le_refl _⟩ (Nat.le_of_ble_eq_true rfl) dX1_upsOn_17 (fun H locs hP hS => ?_)
      refine lv_aload_n hx hb dX1_upsOn_20 rfl (lv_at hl 2 rfl) ?_
      refine x_geti CF hK hP 23 (by decide) dX_23 rfl uX1 4 (by decide) rfl wd1_75 rfl dX1_upsOn_21 ?_
      refine x_zlt (u := (hgt (M (25 + c)) (M (32 + k) 2) (M 23 5) (M (32 + k) 0) a : Nat)) (v := (M 23 4 : Nat)) (tgt := 34) hx hb (nI_toInt (by omega)) (nI_toInt (by omega)) dX1_upsOn_24 (by decide) (fun h_3 => ?_) (fun h_3 => ?_)
      · refine lv_iinc (v := nI (a + 1)) (lv' := [(4, .int (nI (a + 1))), (3, .int (nI (setN (fun q => decide (M 23 4 ≤ hgt (M (25 + c)) (M (32 + k) 2) (M 23 5) (M (32 + k) 0) q)) a))), (0, .ref (ad 23)), (1, .ref (ad (25 + c))), (2, .ref (ad (32 + k)))]) hx hb dX1_upsOn_34 hl (k := 0) rfl (n_inc a 1) (by decide) rfl (fun ls hl => ?_)
        refine lv_goto (tgt := 5) hx hb dX1_upsOn_37 (by decide) ?_
        have hl0 : lv_has ls 5 [(4, .int (nI (a + 1))), (3, .int (nI (setN (fun q => decide (M 23 4 ≤ hgt (M (25 + c)) (M (32 + k) 2) (M 23 5) (M (32 + k) 0) q)) (a + 1)))), (0, .ref (ad 23)), (1, .ref (ad (25 + c))), (2, .ref (ad (32 + k)))] := by rw [(show nI (setN (fun q => decide (M 23 4 ≤ hgt (M (25 + c)) (M (32 + k) 2) (M 23 5) (M (32 + k) 0) q)) (a + 1)) = nI (setN (fun q => decide (M 23 4 ≤ hgt (M (25 + c)) (M (32 + k) 2) (M 23 5) (M (32 + k) 0) q)) a) from by first | rfl | (congr 1; omega) | (refine congrArg nI ?_; first | rfl | (exact (setN_t (decide_eq_true (by omega)))) | (exact (setN_f (decide_eq_false (by omega))))))]; exact lv_sub hl [0, 1, 2, 3, 4] rfl
        exact ih5 (a + 1) (by omega) _ _ _ (hP) hS hl0
      · refine lv_iload_n hx hb dX1_upsOn_27 rfl (lv_at hl 1 rfl) ?_
        refine lv_iconst (v := nI 1) hx hb dX1_upsOn_28 (by decide) ?_
        refine lv_iload hx hb dX1_upsOn_29 (lv_at hl 0 rfl) ?_
        refine x_ishl hx hb (by omega) dX1_upsOn_31 ?_
        refine x_ior hx hb dX1_upsOn_32 ?_
        refine lv_istore_n (lv' := [(3, .int (nI ((setN (fun q => decide (M 23 4 ≤ hgt (M (25 + c)) (M (32 + k) 2) (M 23 5) (M (32 + k) 0) q)) a) ||| (1 <<< a)))), (4, .int (nI a)), (0, .ref (ad 23)), (1, .ref (ad (25 + c))), (2, .ref (ad (32 + k)))]) hx hb dX1_upsOn_33 rfl hl (by decide) rfl (fun ls hl => ?_)
        refine lv_iinc (v := nI (a + 1)) (lv' := [(4, .int (nI (a + 1))), (3, .int (nI ((setN (fun q => decide (M 23 4 ≤ hgt (M (25 + c)) (M (32 + k) 2) (M 23 5) (M (32 + k) 0) q)) a) ||| (1 <<< a)))), (0, .ref (ad 23)), (1, .ref (ad (25 + c))), (2, .ref (ad (32 + k)))]) hx hb dX1_upsOn_34 hl (k := 1) rfl (n_inc a 1) (by decide) rfl (fun ls hl => ?_)
        refine lv_goto (tgt := 5) hx hb dX1_upsOn_37 (by decide) ?_
        have hl0 : lv_has ls 5 [(4, .int (nI (a + 1))), (3, .int (nI (setN (fun q => decide (M 23 4 ≤ hgt (M (25 + c)) (M (32 + k) 2) (M 23 5) (M (32 + k) 0) q)) (a + 1)))), (0, .ref (ad 23)), (1, .ref (ad (25 + c))), (2, .ref (ad (32 + k)))] := by rw [(show nI (setN (fun q => decide (M 23 4 ≤ hgt (M (25 + c)) (M (32 + k) 2) (M 23 5) (M (32 + k) 0) q)) (a + 1)) = nI ((setN (fun q => decide (M 23 4 ≤ hgt (M (25 + c)) (M (32 + k) 2) (M 23 5) (M (32 + k) 0) q)) a) ||| (1 <<< a)) from by first | rfl | (congr 1; omega) | (refine congrArg nI ?_; first | rfl | (exact (setN_t (decide_eq_true (by omega)))) | (exact (setN_f (decide_eq_false (by omega))))))]; exact lv_sub hl [0, 1, 2, 3, 4] rfl
        exact ih5 (a + 1) (by omega) _ _ _ (hP) hS hl0
  have hl0 : lv_has ls 5 [(4, .int (nI 0)), (3, .int (nI (setN (fun q => decide (M 23 4 ≤ hgt (M (25 + c)) (M (32 + k) 2) (M 23 5) (M (32 + k) 0) q)) 0))), (0, .ref (ad 23)), (1, .ref (ad (25 + c))), (2, .ref (ad (32 + k)))] := by rw [(show nI (setN (fun q => decide (M 23 4 ≤ hgt (M (25 + c)) (M (32 + k) 2) (M 23 5) (M (32 + k) 0) q)) 0) = nI 0 from rfl)]; exact lv_sub hl [0, 1, 2, 3, 4] rfl
  exact L5 12 0 (by omega) _ _ _ (hP) hS hl0
set_option maxHeartbeats 4000000 in
set_option maxRecDepth 100000 in
theorem c_hairOf_w {l : Launch} {g : gE} {ad : Nat → Nat} (hI : g_inj ad 55) (M : gMem) (J : gMeL) (hw : wfX M) (hq : ∀ a, a < 12 → M 22 a ≤ 9) (k : Nat) (hk : k < 5) (a : Nat) (ha : a < 12) : CI l g ad dsX 55 yX1_hairOf cX1_hairOf 3 (some .int) 3 [.ref (ad 22), .ref (ad (32 + k)), .int (nI a)] M J (nI (hr (M 22) (M (32 + k) 2) a)) M J := by
  refine CI.of (plainFor_of_name (by decide)) (Nat.le_of_ble_eq_true rfl) (fun p9 e9 s9 m9 args9 below9 meth9 c9 CF hK hr9 hlk9 hP hS ls hl => ?_)
  have hx := CF.1
  have hb := CF.2.1
  have hA : ∀ q, g_A ad 55 q → g_A ad 55 q := fun _ h => h
  have hl : lv_has ls 3 [(0, .ref (ad 22)), (1, .ref (ad (32 + k))), (2, .int (nI a))] := hl
  have hf := hw.fig hk
  have hB : ∀ a, a < 12 → (M 22) a ≤ 9 := hq
  refine lv_aload_n hx hb dX1_hairOf_0 rfl (lv_at hl 0 rfl) ?_
  refine lv_iload_n hx hb dX1_hairOf_1 rfl (lv_at hl 2 rfl) ?_
  refine lv_aload_n hx hb dX1_hairOf_2 rfl (lv_at hl 1 rfl) ?_
  refine x_geti CF hK hP (32 + k) (by omega) (dX_fig k (by omega)) rfl uX0 2 (by decide) rfl wd1_41 rfl dX1_hairOf_3 ?_
  refine x_iadd hx hb dX1_hairOf_6 ?_
  refine x_callNP CF hK hP hS hl (As := [.int (nI (a + (M (32 + k) 2)))]) (rest := [.ref (ad 22)]) (c_angleOf_n (a + (M (32 + k) 2)) (by omega)) kw_X5_angleOf hK.2.1 rfl ⟨Nat.le_of_ble_eq_true rfl, Nat.le_of_ble_eq_true rfl⟩ ⟨Nat.le_refl _, Nat.le_refl _⟩ (Nat.le_of_ble_eq_true rfl) dX1_hairOf_7 (fun H locs hP hS => ?_)
  refine x_iald CF hK hP 22 (by decide) dX_22 ((a + (M (32 + k) 2)) % 12) (by omega) (by decide) dX1_hairOf_10 ?_
  exact x_reti hx hb hr9 hlk9 hS hP (by first | rfl | (show nI (M 22 ((a + (M (32 + k) 2)) % 12)) = nI (hr (M 22) (M (32 + k) 2) a); first | rfl | omega)) dX1_hairOf_11
set_option maxHeartbeats 4000000 in
set_option maxRecDepth 100000 in
theorem c_slow_w {l : Launch} {g : gE} {ad : Nat → Nat} (hI : g_inj ad 55) (M : gMem) (J : gMeL) (hw : wfX M) (hq : ∀ a, a < 12 → M 22 a ≤ 9) (k : Nat) (hk : k < 5) (a : Nat) (ha : a < 12) : CI l g ad dsX 55 yX1_slowHeight cX1_slowHeight 6 (some .int) 4 [.ref (ad 23), .ref (ad 22), .ref (ad (32 + k)), .int (nI a)] M J (nI (slw (M 22) (M (32 + k) 2) (M 23 5) a 12)) M J := by
  refine CI.of (plainFor_of_name (by decide)) (Nat.le_of_ble_eq_true rfl) (fun p9 e9 s9 m9 args9 below9 meth9 c9 CF hK hr9 hlk9 hP hS ls hl => ?_)
  have hx := CF.1
  have hb := CF.2.1
  have hA : ∀ q, g_A ad 55 q → g_A ad 55 q := fun _ h => h
  have hl : lv_has ls 6 [(0, .ref (ad 23)), (1, .ref (ad 22)), (2, .ref (ad (32 + k))), (3, .int (nI a))] := hl
  have hf := hw.fig hk
  have hB : ∀ a, a < 12 → (M 22) a ≤ 9 := hq
  refine lv_iconst (v := nI 0) hx hb dX1_slowHeight_0 (by decide) ?_
  refine lv_istore (lv' := [(4, .int (nI 0)), (0, .ref (ad 23)), (1, .ref (ad 22)), (2, .ref (ad (32 + k))), (3, .int (nI a))]) hx hb dX1_slowHeight_1 hl (by decide) rfl (fun ls hl => ?_)
  refine lv_iconst (v := nI 0) hx hb dX1_slowHeight_3 (by decide) ?_
  refine lv_istore (lv' := [(5, .int (nI 0)), (4, .int (nI 0)), (0, .ref (ad 23)), (1, .ref (ad 22)), (2, .ref (ad (32 + k))), (3, .int (nI a))]) hx hb dX1_slowHeight_4 hl (by decide) rfl (fun ls hl => ?_)
  have L6 : ∀ (d6 : Nat) (n : Nat), (n + d6 = 12) → (∀ (H : Heap) (locs : List Loc) (ls : Array Slot), g_P g ad dsX 55 M J H → va_S (g_A ad 55) s9.heap H locs → lv_has ls 6 [(5, .int (nI n)), (4, .int (nI (slw (M 22) (M (32 + k) 2) (M 23 5) a n))), (0, .ref (ad 23)), (1, .ref (ad 22)), (2, .ref (ad (32 + k))), (3, .int (nI a))] → W p9 l e9 (g_rm 4) s9 m9 args9 below9 meth9 c9 H locs 0 0 (MQ below9 (va_Qi (fun r' (_ : Unit) => r' = (nI (slw (M 22) (M (32 + k) 2) (M 23 5) a 12))) (fun _ t => g_P g ad dsX 55 M J t.heap) (g_A ad 55)) args9 s9 0 0 (g_A ad 55)) (F0 m9 6 ls [])) := by
    intro d6
    induction d6 with
    | zero =>
      intro n hn H locs ls hP hS hl
      refine lv_iload hx hb dX1_slowHeight_6 (lv_at hl 0 rfl) ?_
      refine lv_bipush (v := nI 12) hx hb dX1_slowHeight_8 (by decide) ?_
      refine x_zge (u := (n : Nat)) (v := (12 : Int)) (tgt := 41) hx hb (nI_toInt (by omega)) (rfl) dX1_slowHeight_10 (by decide) (fun h_1 => ?_) (fun h_1 => (by omega : False).elim)
      refine lv_iload hx hb dX1_slowHeight_41 (lv_at hl 1 rfl) ?_
      exact x_reti hx hb hr9 hlk9 hS hP (by rw [show n = 12 by omega]) dX1_slowHeight_43
    | succ d6 ih6 =>
      intro n hn H locs ls hP hS hl
      have b1 := ahd_lt (M 23 5) a n
      refine lv_iload hx hb dX1_slowHeight_6 (lv_at hl 0 rfl) ?_
      refine lv_bipush (v := nI 12) hx hb dX1_slowHeight_8 (by decide) ?_
      refine x_zge (u := (n : Nat)) (v := (12 : Int)) (tgt := 41) hx hb (nI_toInt (by omega)) (rfl) dX1_slowHeight_10 (by decide) (fun h_2 => (by omega : False).elim) (fun h_2 => ?_)
      refine lv_iload hx hb dX1_slowHeight_13 (lv_at hl 1 rfl) ?_
      refine lv_aload_n hx hb dX1_slowHeight_15 rfl (lv_at hl 3 rfl) ?_
      refine lv_aload_n hx hb dX1_slowHeight_16 rfl (lv_at hl 4 rfl) ?_
      refine lv_aload_n hx hb dX1_slowHeight_17 rfl (lv_at hl 2 rfl) ?_
      refine lv_iload_n hx hb dX1_slowHeight_18 rfl (lv_at hl 5 rfl) ?_
      refine lv_iload hx hb dX1_slowHeight_19 (lv_at hl 0 rfl) ?_
      refine x_callVI CF hK hP hS hA hl (As := [.int (nI a), .int (nI n)]) (rest := [.ref (ad (32 + k)), .ref (ad 22), .int (nI (slw (M 22) (M (32 + k) 2) (M 23 5) a n))]) (c_someAhead hI M J hw a n (by omega) (by omega)) kw_X1_someAhead wd2_94 (by decide) dX_23 rfl rfl ⟨Nat.le_of_ble_eq_true rfl, Nat.le_of_ble_eq_true rfl⟩ ⟨Nat.le_refl _, Nat.le_refl _⟩ (Nat.le_of_ble_eq_true rfl) dX1_slowHeight_21 (fun H locs hP hS => ?_)
      refine x_callSI CF hK hP hS hA hl (As := [.ref (ad 22), .ref (ad (32 + k)), .int (nI (ahd (M 23 5) a n))]) (rest := [.int (nI (slw (M 22) (M (32 + k) 2) (M 23 5) a n))]) (c_hairOf_w hI M J hw hq k (by omega) (ahd (M 23 5) a n) (by omega)) kw_X1_hairOf wd2_81 rfl ⟨Nat.le_of_ble_eq_true rfl, Nat.le_of_ble_eq_true rfl⟩ ⟨Nat.le_refl _, Nat.le_refl _⟩ (Nat.le_of_ble_eq_true rfl) dX1_slowHeight_24 (fun H locs hP hS => ?_)
      refine lv_iload hx hb dX1_slowHeight_27 (lv_at hl 0 rfl) ?_
      refine lv_isub hx hb dX1_slowHeight_29 ?_
      refine x_callSP CF hK hP hS hl (As := [.int (nI (slw (M 22) (M (32 + k) 2) (M 23 5) a n)), .int (nI (hr (M 22) (M (32 + k) 2) (ahd (M 23 5) a n)) - nI n)]) (rest := []) (c_max (nI (slw (M 22) (M (32 + k) 2) (M 23 5) a n)) (nI (hr (M 22) (M (32 + k) 2) (ahd (M 23 5) a n)) - nI n)) kw_J9_max_7cf53 wd2_98 rfl ⟨Nat.le_of_ble_eq_true rfl, Nat.le_of_ble_eq_true rfl⟩ ⟨Nat.le_refl _, Nat.le_refl _⟩ (Nat.le_of_ble_eq_true rfl) dX1_slowHeight_30 (fun H locs hP hS => ?_)
      refine x_ri (show (if (nI (slw (M 22) (M (32 + k) 2) (M 23 5) a n)).toInt < (nI (hr (M 22) (M (32 + k) 2) (ahd (M 23 5) a n)) - nI n).toInt then nI (hr (M 22) (M (32 + k) 2) (ahd (M 23 5) a n)) - nI n else nI (slw (M 22) (M (32 + k) 2) (M 23 5) a n)) = nI (max (slw (M 22) (M (32 + k) 2) (M 23 5) a n) (hr (M 22) (M (32 + k) 2) (ahd (M 23 5) a n) - n)) from n_max (by have := slw_le hB (M (32 + k) 2) (M 23 5) a n; omega) (by have := hr_le hB (M (32 + k) 2) (ahd (M 23 5) a n); omega) (by omega)) ?_
      refine lv_istore (lv' := [(4, .int (nI (max (slw (M 22) (M (32 + k) 2) (M 23 5) a n) (hr (M 22) (M (32 + k) 2) (ahd (M 23 5) a n) - n)))), (5, .int (nI n)), (0, .ref (ad 23)), (1, .ref (ad 22)), (2, .ref (ad (32 + k))), (3, .int (nI a))]) hx hb dX1_slowHeight_33 hl (by decide) rfl (fun ls hl => ?_)
      refine lv_iinc (v := nI (n + 1)) (lv' := [(5, .int (nI (n + 1))), (4, .int (nI (max (slw (M 22) (M (32 + k) 2) (M 23 5) a n) (hr (M 22) (M (32 + k) 2) (ahd (M 23 5) a n) - n)))), (0, .ref (ad 23)), (1, .ref (ad 22)), (2, .ref (ad (32 + k))), (3, .int (nI a))]) hx hb dX1_slowHeight_35 hl (k := 1) rfl (n_inc n 1) (by decide) rfl (fun ls hl => ?_)
      refine lv_goto (tgt := 6) hx hb dX1_slowHeight_38 (by decide) ?_
      have hl0 : lv_has ls 6 [(5, .int (nI (n + 1))), (4, .int (nI (slw (M 22) (M (32 + k) 2) (M 23 5) a (n + 1)))), (0, .ref (ad 23)), (1, .ref (ad 22)), (2, .ref (ad (32 + k))), (3, .int (nI a))] := by rw [(show nI (slw (M 22) (M (32 + k) 2) (M 23 5) a (n + 1)) = nI (max (slw (M 22) (M (32 + k) 2) (M 23 5) a n) (hr (M 22) (M (32 + k) 2) (ahd (M 23 5) a n) - n)) from rfl)]; exact lv_sub hl [0, 1, 2, 3, 4, 5] rfl
      exact ih6 (n + 1) (by omega) _ _ _ (hP) hS hl0
  have hl0 : lv_has ls 6 [(5, .int (nI 0)), (4, .int (nI (slw (M 22) (M (32 + k) 2) (M 23 5) a 0))), (0, .ref (ad 23)), (1, .ref (ad 22)), (2, .ref (ad (32 + k))), (3, .int (nI a))] := by rw [(show nI (slw (M 22) (M (32 + k) 2) (M 23 5) a 0) = nI 0 from rfl)]; exact lv_sub hl [0, 1, 2, 3, 4, 5] rfl
  exact L6 12 0 (by omega) _ _ _ (hP) hS hl0
set_option maxHeartbeats 4000000 in
set_option maxRecDepth 100000 in
theorem c_heightOn_w {l : Launch} {g : gE} {ad : Nat → Nat} (hI : g_inj ad 55) (M : gMem) (J : gMeL) (hw : wfX M) (hq : ∀ a, a < 12 → M 22 a ≤ 9) (k : Nat) (hk : k < 5) (a : Nat) (ha : a < 12) : CI l g ad dsX 55 yX1_heightOn cX1_heightOn 5 (some .int) 5 [.ref (ad 23), .ref (ad 22), .ref (ad (32 + k)), .int (nI a)] M J (nI (hgt (M 22) (M (32 + k) 2) (M 23 5) (M (32 + k) 0) a)) M J := by
  refine CI.of (plainFor_of_name (by decide)) (Nat.le_of_ble_eq_true rfl) (fun p9 e9 s9 m9 args9 below9 meth9 c9 CF hK hr9 hlk9 hP hS ls hl => ?_)
  have hx := CF.1
  have hb := CF.2.1
  have hA : ∀ q, g_A ad 55 q → g_A ad 55 q := fun _ h => h
  have hl : lv_has ls 5 [(0, .ref (ad 23)), (1, .ref (ad 22)), (2, .ref (ad (32 + k))), (3, .int (nI a))] := hl
  have hf := hw.fig hk
  have hB : ∀ a, a < 12 → (M 22) a ≤ 9 := hq
  have b1 := hr_le hB (M (32 + k) 2) a
  have b2 := hr_le hB (M (32 + k) 2) (ahd (M 23 5) a 1)
  have b3 := ahd_lt (M 23 5) a 1
  refine lv_aload_n hx hb dX1_heightOn_0 rfl (lv_at hl 1 rfl) ?_
  refine lv_aload_n hx hb dX1_heightOn_1 rfl (lv_at hl 2 rfl) ?_
  refine lv_iload_n hx hb dX1_heightOn_2 rfl (lv_at hl 3 rfl) ?_
  refine x_callSI CF hK hP hS hA hl (As := [.ref (ad 22), .ref (ad (32 + k)), .int (nI a)]) (rest := []) (c_hairOf_w hI M J hw hq k (by omega) a (by omega)) kw_X1_hairOf wd2_81 rfl ⟨Nat.le_of_ble_eq_true rfl, Nat.le_of_ble_eq_true rfl⟩ ⟨Nat.le_refl _, Nat.le_refl _⟩ (Nat.le_of_ble_eq_true rfl) dX1_heightOn_3 (fun H locs hP hS => ?_)
  refine lv_istore (lv' := [(4, .int (nI (hr (M 22) (M (32 + k) 2) a))), (0, .ref (ad 23)), (1, .ref (ad 22)), (2, .ref (ad (32 + k))), (3, .int (nI a))]) hx hb dX1_heightOn_6 hl (by decide) rfl (fun ls hl => ?_)
  refine lv_aload_n hx hb dX1_heightOn_8 rfl (lv_at hl 3 rfl) ?_
  refine x_geti CF hK hP (32 + k) (by omega) (dX_fig k (by omega)) rfl uX0 0 (by decide) rfl wd1_36 rfl dX1_heightOn_9 ?_
  rcases (show M (32 + k) 0 = 1 ∨ M (32 + k) 0 = 2 ∨ M (32 + k) 0 = 3 ∨ (M (32 + k) 0 < 1 ∨ 3 < M (32 + k) 0) by omega) with sw_1 | sw_1 | sw_1 | sw_1
  · refine lv_tableIn (tgt := 40) hx hb dX1_heightOn_12 (by rw [sw_1]; decide) (by rw [sw_1]; decide) (off := 28) (by rw [sw_1]; rfl) (by decide) ?_
    refine lv_iconst (v := nI 2) hx hb dX1_heightOn_40 (by decide) ?_
    refine lv_iload hx hb dX1_heightOn_41 (lv_at hl 0 rfl) ?_
    refine x_imul hx hb dX1_heightOn_43 ?_
    exact x_reti hx hb hr9 hlk9 hS hP (by rw [hgt, if_pos sw_1]) dX1_heightOn_44
  · refine lv_tableIn (tgt := 45) hx hb dX1_heightOn_12 (by rw [sw_1]; decide) (by rw [sw_1]; decide) (off := 33) (by rw [sw_1]; rfl) (by decide) ?_
    refine lv_aload_n hx hb dX1_heightOn_45 rfl (lv_at hl 1 rfl) ?_
    refine lv_aload_n hx hb dX1_heightOn_46 rfl (lv_at hl 2 rfl) ?_
    refine lv_aload_n hx hb dX1_heightOn_47 rfl (lv_at hl 3 rfl) ?_
    refine lv_iload_n hx hb dX1_heightOn_48 rfl (lv_at hl 4 rfl) ?_
    refine x_callVI CF hK hP hS hA hl (As := [.ref (ad 22), .ref (ad (32 + k)), .int (nI a)]) (rest := []) (c_slow_w hI M J hw hq k (by omega) a (by omega)) kw_X1_slowHeight wd2_90 (by decide) dX_23 rfl rfl ⟨Nat.le_of_ble_eq_true rfl, Nat.le_of_ble_eq_true rfl⟩ ⟨Nat.le_refl _, Nat.le_refl _⟩ (Nat.le_of_ble_eq_true rfl) dX1_heightOn_49 (fun H locs hP hS => ?_)
    exact x_reti hx hb hr9 hlk9 hS hP (by rw [hgt, if_neg (by omega), if_pos sw_1]) dX1_heightOn_52
  · refine lv_tableIn (tgt := 53) hx hb dX1_heightOn_12 (by rw [sw_1]; decide) (by rw [sw_1]; decide) (off := 41) (by rw [sw_1]; rfl) (by decide) ?_
    refine lv_iload hx hb dX1_heightOn_53 (lv_at hl 0 rfl) ?_
    refine lv_aload_n hx hb dX1_heightOn_55 rfl (lv_at hl 2 rfl) ?_
    refine lv_aload_n hx hb dX1_heightOn_56 rfl (lv_at hl 3 rfl) ?_
    refine lv_aload_n hx hb dX1_heightOn_57 rfl (lv_at hl 1 rfl) ?_
    refine lv_iload_n hx hb dX1_heightOn_58 rfl (lv_at hl 4 rfl) ?_
    refine lv_iconst (v := nI 1) hx hb dX1_heightOn_59 (by decide) ?_
    refine x_callVI CF hK hP hS hA hl (As := [.int (nI a), .int (nI 1)]) (rest := [.ref (ad (32 + k)), .ref (ad 22), .int (nI (hr (M 22) (M (32 + k) 2) a))]) (c_someAhead hI M J hw a 1 (by omega) (by omega)) kw_X1_someAhead wd2_94 (by decide) dX_23 rfl rfl ⟨Nat.le_of_ble_eq_true rfl, Nat.le_of_ble_eq_true rfl⟩ ⟨Nat.le_refl _, Nat.le_refl _⟩ (Nat.le_of_ble_eq_true rfl) dX1_heightOn_60 (fun H locs hP hS => ?_)
    refine x_callSI CF hK hP hS hA hl (As := [.ref (ad 22), .ref (ad (32 + k)), .int (nI (ahd (M 23 5) a 1))]) (rest := [.int (nI (hr (M 22) (M (32 + k) 2) a))]) (c_hairOf_w hI M J hw hq k (by omega) (ahd (M 23 5) a 1) (by omega)) kw_X1_hairOf wd2_81 rfl ⟨Nat.le_of_ble_eq_true rfl, Nat.le_of_ble_eq_true rfl⟩ ⟨Nat.le_refl _, Nat.le_refl _⟩ (Nat.le_of_ble_eq_true rfl) dX1_heightOn_63 (fun H locs hP hS => ?_)
    refine x_zle (u := (hr (M 22) (M (32 + k) 2) a : Nat)) (v := (hr (M 22) (M (32 + k) 2) (ahd (M 23 5) a 1) : Nat)) (tgt := 78) hx hb (nI_toInt (by omega)) (nI_toInt (by omega)) dX1_heightOn_66 (by decide) (fun h_2 => ?_) (fun h_2 => ?_)
    · refine lv_iconst (v := nI 2) hx hb dX1_heightOn_78 (by decide) ?_
      refine lv_iload hx hb dX1_heightOn_79 (lv_at hl 0 rfl) ?_
      refine x_imul hx hb dX1_heightOn_81 ?_
      exact x_reti hx hb hr9 hlk9 hS hP (by rw [hgt, if_neg (by omega), if_neg (by omega), if_pos sw_1, if_neg (by omega)]) dX1_heightOn_82
    · refine lv_iconst (v := nI 2) hx hb dX1_heightOn_69 (by decide) ?_
      refine lv_iload hx hb dX1_heightOn_70 (lv_at hl 0 rfl) ?_
      refine x_imul hx hb dX1_heightOn_72 ?_
      refine lv_iconst (v := nI 1) hx hb dX1_heightOn_73 (by decide) ?_
      refine x_iadd hx hb dX1_heightOn_74 ?_
      refine lv_goto (tgt := 82) hx hb dX1_heightOn_75 (by decide) ?_
      exact x_reti hx hb hr9 hlk9 hS hP (by rw [hgt, if_neg (by omega), if_neg (by omega), if_pos sw_1, if_pos (by omega)]) dX1_heightOn_82
  · refine lv_tableOut (tgt := 83) hx hb dX1_heightOn_12 (by rw [tz (by omega)]; omega) (by decide) ?_
    refine lv_iload hx hb dX1_heightOn_83 (lv_at hl 0 rfl) ?_
    exact x_reti hx hb hr9 hlk9 hS hP (by rw [hgt, if_neg (by omega), if_neg (by omega), if_neg (by omega)]) dX1_heightOn_85
set_option maxHeartbeats 4000000 in
set_option maxRecDepth 100000 in
theorem c_upsOn_w {l : Launch} {g : gE} {ad : Nat → Nat} (hI : g_inj ad 55) (M : gMem) (J : gMeL) (hw : wfX M) (hq : ∀ a, a < 12 → M 22 a ≤ 9) (k : Nat) (hk : k < 5)  : CI l g ad dsX 55 yX1_upsOn cX1_upsOn 5 (some .int) 6 [.ref (ad 23), .ref (ad 22), .ref (ad (32 + k))] M J (nI (ups (M 22) (M (32 + k) 2) (M 23 5) (M (32 + k) 0) (M 23 4))) M J := by
  refine CI.of (plainFor_of_name (by decide)) (Nat.le_of_ble_eq_true rfl) (fun p9 e9 s9 m9 args9 below9 meth9 c9 CF hK hr9 hlk9 hP hS ls hl => ?_)
  have hx := CF.1
  have hb := CF.2.1
  have hA : ∀ q, g_A ad 55 q → g_A ad 55 q := fun _ h => h
  have hl : lv_has ls 5 [(0, .ref (ad 23)), (1, .ref (ad 22)), (2, .ref (ad (32 + k)))] := hl
  have hf := hw.fig hk
  have hB : ∀ a, a < 12 → (M 22) a ≤ 9 := hq
  have hln := hw.line
  refine lv_iconst (v := nI 0) hx hb dX1_upsOn_0 (by decide) ?_
  refine lv_istore_n (lv' := [(3, .int (nI 0)), (0, .ref (ad 23)), (1, .ref (ad 22)), (2, .ref (ad (32 + k)))]) hx hb dX1_upsOn_1 rfl hl (by decide) rfl (fun ls hl => ?_)
  refine lv_iconst (v := nI 0) hx hb dX1_upsOn_2 (by decide) ?_
  refine lv_istore (lv' := [(4, .int (nI 0)), (3, .int (nI 0)), (0, .ref (ad 23)), (1, .ref (ad 22)), (2, .ref (ad (32 + k)))]) hx hb dX1_upsOn_3 hl (by decide) rfl (fun ls hl => ?_)
  have L5 : ∀ (d5 : Nat) (a : Nat), (a + d5 = 12) → (∀ (H : Heap) (locs : List Loc) (ls : Array Slot), g_P g ad dsX 55 M J H → va_S (g_A ad 55) s9.heap H locs → lv_has ls 5 [(4, .int (nI a)), (3, .int (nI (setN (fun q => decide (M 23 4 ≤ hgt (M 22) (M (32 + k) 2) (M 23 5) (M (32 + k) 0) q)) a))), (0, .ref (ad 23)), (1, .ref (ad 22)), (2, .ref (ad (32 + k)))] → W p9 l e9 (g_rm 6) s9 m9 args9 below9 meth9 c9 H locs 0 0 (MQ below9 (va_Qi (fun r' (_ : Unit) => r' = (nI (ups (M 22) (M (32 + k) 2) (M 23 5) (M (32 + k) 0) (M 23 4)))) (fun _ t => g_P g ad dsX 55 M J t.heap) (g_A ad 55)) args9 s9 0 0 (g_A ad 55)) (F0 m9 5 ls [])) := by
    intro d5
    induction d5 with
    | zero =>
      intro a ha H locs ls hP hS hl
      refine lv_iload hx hb dX1_upsOn_5 (lv_at hl 0 rfl) ?_
      refine lv_bipush (v := nI 12) hx hb dX1_upsOn_7 (by decide) ?_
      refine x_zge (u := (a : Nat)) (v := (12 : Int)) (tgt := 40) hx hb (nI_toInt (by omega)) (rfl) dX1_upsOn_9 (by decide) (fun h_1 => ?_) (fun h_1 => (by omega : False).elim)
      refine lv_iload_n hx hb dX1_upsOn_40 rfl (lv_at hl 1 rfl) ?_
      exact x_reti hx hb hr9 hlk9 hS hP (by rw [show a = 12 by omega]; rfl) dX1_upsOn_41
    | succ d5 ih5 =>
      intro a ha H locs ls hP hS hl
      have b1 := hgt_le hB (M (32 + k) 2) (M 23 5) (M (32 + k) 0) a
      refine lv_iload hx hb dX1_upsOn_5 (lv_at hl 0 rfl) ?_
      refine lv_bipush (v := nI 12) hx hb dX1_upsOn_7 (by decide) ?_
      refine x_zge (u := (a : Nat)) (v := (12 : Int)) (tgt := 40) hx hb (nI_toInt (by omega)) (rfl) dX1_upsOn_9 (by decide) (fun h_2 => (by omega : False).elim) (fun h_2 => ?_)
      refine lv_aload_n hx hb dX1_upsOn_12 rfl (lv_at hl 2 rfl) ?_
      refine lv_aload_n hx hb dX1_upsOn_13 rfl (lv_at hl 3 rfl) ?_
      refine lv_aload_n hx hb dX1_upsOn_14 rfl (lv_at hl 4 rfl) ?_
      refine lv_iload hx hb dX1_upsOn_15 (lv_at hl 0 rfl) ?_
      refine x_callVI CF hK hP hS hA hl (As := [.ref (ad 22), .ref (ad (32 + k)), .int (nI a)]) (rest := []) (c_heightOn_w hI M J hw hq k (by omega) a (by omega)) kw_X1_heightOn wd2_77 (by decide) dX_23 rfl rfl ⟨Nat.le_of_ble_eq_true rfl, Nat.le_of_ble_eq_true rfl⟩ ⟨Nat.le_refl _, Nat.le_refl _⟩ (Nat.le_of_ble_eq_true rfl) dX1_upsOn_17 (fun H locs hP hS => ?_)
      refine lv_aload_n hx hb dX1_upsOn_20 rfl (lv_at hl 2 rfl) ?_
      refine x_geti CF hK hP 23 (by decide) dX_23 rfl uX1 4 (by decide) rfl wd1_75 rfl dX1_upsOn_21 ?_
      refine x_zlt (u := (hgt (M 22) (M (32 + k) 2) (M 23 5) (M (32 + k) 0) a : Nat)) (v := (M 23 4 : Nat)) (tgt := 34) hx hb (nI_toInt (by omega)) (nI_toInt (by omega)) dX1_upsOn_24 (by decide) (fun h_3 => ?_) (fun h_3 => ?_)
      · refine lv_iinc (v := nI (a + 1)) (lv' := [(4, .int (nI (a + 1))), (3, .int (nI (setN (fun q => decide (M 23 4 ≤ hgt (M 22) (M (32 + k) 2) (M 23 5) (M (32 + k) 0) q)) a))), (0, .ref (ad 23)), (1, .ref (ad 22)), (2, .ref (ad (32 + k)))]) hx hb dX1_upsOn_34 hl (k := 0) rfl (n_inc a 1) (by decide) rfl (fun ls hl => ?_)
        refine lv_goto (tgt := 5) hx hb dX1_upsOn_37 (by decide) ?_
        have hl0 : lv_has ls 5 [(4, .int (nI (a + 1))), (3, .int (nI (setN (fun q => decide (M 23 4 ≤ hgt (M 22) (M (32 + k) 2) (M 23 5) (M (32 + k) 0) q)) (a + 1)))), (0, .ref (ad 23)), (1, .ref (ad 22)), (2, .ref (ad (32 + k)))] := by rw [(show nI (setN (fun q => decide (M 23 4 ≤ hgt (M 22) (M (32 + k) 2) (M 23 5) (M (32 + k) 0) q)) (a + 1)) = nI (setN (fun q => decide (M 23 4 ≤ hgt (M 22) (M (32 + k) 2) (M 23 5) (M (32 + k) 0) q)) a) from by first | rfl | (congr 1; omega) | (refine congrArg nI ?_; first | rfl | (exact (setN_t (decide_eq_true (by omega)))) | (exact (setN_f (decide_eq_false (by omega))))))]; exact lv_sub hl [0, 1, 2, 3, 4] rfl
        exact ih5 (a + 1) (by omega) _ _ _ (hP) hS hl0
      · refine lv_iload_n hx hb dX1_upsOn_27 rfl (lv_at hl 1 rfl) ?_
        refine lv_iconst (v := nI 1) hx hb dX1_upsOn_28 (by decide) ?_
        refine lv_iload hx hb dX1_upsOn_29 (lv_at hl 0 rfl) ?_
        refine x_ishl hx hb (by omega) dX1_upsOn_31 ?_
        refine x_ior hx hb dX1_upsOn_32 ?_
        refine lv_istore_n (lv' := [(3, .int (nI ((setN (fun q => decide (M 23 4 ≤ hgt (M 22) (M (32 + k) 2) (M 23 5) (M (32 + k) 0) q)) a) ||| (1 <<< a)))), (4, .int (nI a)), (0, .ref (ad 23)), (1, .ref (ad 22)), (2, .ref (ad (32 + k)))]) hx hb dX1_upsOn_33 rfl hl (by decide) rfl (fun ls hl => ?_)
        refine lv_iinc (v := nI (a + 1)) (lv' := [(4, .int (nI (a + 1))), (3, .int (nI ((setN (fun q => decide (M 23 4 ≤ hgt (M 22) (M (32 + k) 2) (M 23 5) (M (32 + k) 0) q)) a) ||| (1 <<< a)))), (0, .ref (ad 23)), (1, .ref (ad 22)), (2, .ref (ad (32 + k)))]) hx hb dX1_upsOn_34 hl (k := 1) rfl (n_inc a 1) (by decide) rfl (fun ls hl => ?_)
        refine lv_goto (tgt := 5) hx hb dX1_upsOn_37 (by decide) ?_
        have hl0 : lv_has ls 5 [(4, .int (nI (a + 1))), (3, .int (nI (setN (fun q => decide (M 23 4 ≤ hgt (M 22) (M (32 + k) 2) (M 23 5) (M (32 + k) 0) q)) (a + 1)))), (0, .ref (ad 23)), (1, .ref (ad 22)), (2, .ref (ad (32 + k)))] := by rw [(show nI (setN (fun q => decide (M 23 4 ≤ hgt (M 22) (M (32 + k) 2) (M 23 5) (M (32 + k) 0) q)) (a + 1)) = nI ((setN (fun q => decide (M 23 4 ≤ hgt (M 22) (M (32 + k) 2) (M 23 5) (M (32 + k) 0) q)) a) ||| (1 <<< a)) from by first | rfl | (congr 1; omega) | (refine congrArg nI ?_; first | rfl | (exact (setN_t (decide_eq_true (by omega)))) | (exact (setN_f (decide_eq_false (by omega))))))]; exact lv_sub hl [0, 1, 2, 3, 4] rfl
        exact ih5 (a + 1) (by omega) _ _ _ (hP) hS hl0
  have hl0 : lv_has ls 5 [(4, .int (nI 0)), (3, .int (nI (setN (fun q => decide (M 23 4 ≤ hgt (M 22) (M (32 + k) 2) (M 23 5) (M (32 + k) 0) q)) 0))), (0, .ref (ad 23)), (1, .ref (ad 22)), (2, .ref (ad (32 + k)))] := by rw [(show nI (setN (fun q => decide (M 23 4 ≤ hgt (M 22) (M (32 + k) 2) (M 23 5) (M (32 + k) 0) q)) 0) = nI 0 from rfl)]; exact lv_sub hl [0, 1, 2, 3, 4] rfl
  exact L5 12 0 (by omega) _ _ _ (hP) hS hl0
end
section
set_option maxHeartbeats 4000000 in
set_option maxRecDepth 100000 in
theorem c_upsOf {l : Launch} {g : gE} {ad : Nat → Nat} (hI : g_inj ad 55) (M : gMem) (J : gMeL) (hw : wfX M) (k : Nat) (hk : k < 5) : CI l g ad dsX 55 yX1_upsOf cX1_upsOf 2 (some .int) 7 [.ref (ad 23), .ref (ad (32 + k))] M J (nI (upsX M k)) M J := by
  refine CI.of (plainFor_of_name (by decide)) (Nat.le_of_ble_eq_true rfl) (fun p9 e9 s9 m9 args9 below9 meth9 c9 CF hK hr9 hlk9 hP hS ls hl => ?_)
  have hx := CF.1
  have hb := CF.2.1
  have hA : ∀ q, g_A ad 55 q → g_A ad 55 q := fun _ h => h
  have hl : lv_has ls 2 [(0, .ref (ad 23)), (1, .ref (ad (32 + k)))] := hl
  have hf := hw.fig hk
  refine lv_aload_n hx hb dX1_upsOf_0 rfl (lv_at hl 0 rfl) ?_
  refine lv_aload_n hx hb dX1_upsOf_1 rfl (lv_at hl 0 rfl) ?_
  refine x_getr CF hK hP 23 (by decide) dX_23 rfl uX1 0 (by decide) (j := 24) rfl wd1_67 rfl dX1_upsOf_2 ?_
  refine lv_aload_n hx hb dX1_upsOf_5 rfl (lv_at hl 1 rfl) ?_
  refine x_geti CF hK hP (32 + k) (by omega) (dX_fig k (by omega)) rfl uX0 1 (by decide) rfl wd1_38 rfl dX1_upsOf_6 ?_
  refine x_aald CF hK hP 24 (by decide) (t := 2) dX_24 (by decide) (M (32 + k) 1) (by omega) (by decide) (j := (25 + (M (32 + k) 1))) (oX_hair (M (32 + k) 1) (by omega)) dX1_upsOf_9 ?_
  refine lv_aload_n hx hb dX1_upsOf_10 rfl (lv_at hl 1 rfl) ?_
  refine x_callVI CF hK hP hS hA hl (As := [.ref (ad (25 + (M (32 + k) 1))), .ref (ad (32 + k))]) (rest := []) (c_upsOn_h hI M J hw (M (32 + k) 1) (by omega) k (by omega)) kw_X1_upsOn wd2_114 (by decide) dX_23 rfl rfl ⟨Nat.le_of_ble_eq_true rfl, Nat.le_of_ble_eq_true rfl⟩ ⟨Nat.le_refl _, Nat.le_refl _⟩ (Nat.le_of_ble_eq_true rfl) dX1_upsOf_11 (fun H locs hP hS => ?_)
  exact x_reti hx hb hr9 hlk9 hS hP (by first | rfl | (show nI (ups (M (25 + (M (32 + k) 1))) (M (32 + k) 2) (M 23 5) (M (32 + k) 0) (M 23 4)) = nI (upsX M k); first | rfl | omega)) dX1_upsOf_14
set_option maxHeartbeats 4000000 in
set_option maxRecDepth 100000 in
theorem c_upNow {l : Launch} {g : gE} {ad : Nat → Nat} (hI : g_inj ad 55) (M : gMem) (J : gMeL) (hw : wfX M) : CI l g ad dsX 55 yX1_figuresUpNow cX1_figuresUpNow 4 (some .int) 7 [.ref (ad 23)] M J (nI (setN (fun q => decide (M 23 4 ≤ hgtX M q (M 23 6))) (M 23 3))) M J := by
  refine CI.of (plainFor_of_name (by decide)) (Nat.le_of_ble_eq_true rfl) (fun p9 e9 s9 m9 args9 below9 meth9 c9 CF hK hr9 hlk9 hP hS ls hl => ?_)
  have hx := CF.1
  have hb := CF.2.1
  have hA : ∀ q, g_A ad 55 q → g_A ad 55 q := fun _ h => h
  have hl : lv_has ls 4 [(0, .ref (ad 23))] := hl
  have hnf := hw.nf
  have hat := hw.at
  have hln := hw.line
  refine lv_iconst (v := nI 0) hx hb dX1_figuresUpNow_0 (by decide) ?_
  refine lv_istore_n (lv' := [(1, .int (nI 0)), (0, .ref (ad 23))]) hx hb dX1_figuresUpNow_1 rfl hl (by decide) rfl (fun ls hl => ?_)
  refine lv_iconst (v := nI 0) hx hb dX1_figuresUpNow_2 (by decide) ?_
  refine lv_istore_n (lv' := [(2, .int (nI 0)), (1, .int (nI 0)), (0, .ref (ad 23))]) hx hb dX1_figuresUpNow_3 rfl hl (by decide) rfl (fun ls hl => ?_)
  have L4 : ∀ (d4 : Nat) (k : Nat), (k + d4 = (M 23 3)) → (∀ (H : Heap) (locs : List Loc) (ls : Array Slot), g_P g ad dsX 55 M J H → va_S (g_A ad 55) s9.heap H locs → lv_has ls 4 [(2, .int (nI k)), (1, .int (nI (setN (fun q => decide (M 23 4 ≤ hgtX M q (M 23 6))) k))), (0, .ref (ad 23))] → W p9 l e9 (g_rm 7) s9 m9 args9 below9 meth9 c9 H locs 0 0 (MQ below9 (va_Qi (fun r' (_ : Unit) => r' = (nI (setN (fun q => decide (M 23 4 ≤ hgtX M q (M 23 6))) (M 23 3)))) (fun _ t => g_P g ad dsX 55 M J t.heap) (g_A ad 55)) args9 s9 0 0 (g_A ad 55)) (F0 m9 4 ls [])) := by
    intro d4
    induction d4 with
    | zero =>
      intro k hk H locs ls hP hS hl
      refine lv_iload_n hx hb dX1_figuresUpNow_4 rfl (lv_at hl 0 rfl) ?_
      refine lv_aload_n hx hb dX1_figuresUpNow_5 rfl (lv_at hl 2 rfl) ?_
      refine x_geti CF hK hP 23 (by decide) dX_23 rfl uX1 3 (by decide) rfl wd1_73 rfl dX1_figuresUpNow_6 ?_
      refine x_zge (u := (k : Nat)) (v := (M 23 3 : Nat)) (tgt := 56) hx hb (nI_toInt (by omega)) (nI_toInt (by omega)) dX1_figuresUpNow_9 (by decide) (fun h_1 => ?_) (fun h_1 => (by omega : False).elim)
      refine lv_iload_n hx hb dX1_figuresUpNow_56 rfl (lv_at hl 1 rfl) ?_
      exact x_reti hx hb hr9 hlk9 hS hP (by rw [show k = M 23 3 by omega]) dX1_figuresUpNow_57
    | succ d4 ih4 =>
      intro k hk H locs ls hP hS hl
      have hf := hw.fig (show k < 5 by omega)
      have b1 : hgtX M k (M 23 6) ≤ 19 := hgt_le (fun a ha => hw.hair (by omega) ha) _ _ _ _
      refine lv_iload_n hx hb dX1_figuresUpNow_4 rfl (lv_at hl 0 rfl) ?_
      refine lv_aload_n hx hb dX1_figuresUpNow_5 rfl (lv_at hl 2 rfl) ?_
      refine x_geti CF hK hP 23 (by decide) dX_23 rfl uX1 3 (by decide) rfl wd1_73 rfl dX1_figuresUpNow_6 ?_
      refine x_zge (u := (k : Nat)) (v := (M 23 3 : Nat)) (tgt := 56) hx hb (nI_toInt (by omega)) (nI_toInt (by omega)) dX1_figuresUpNow_9 (by decide) (fun h_2 => (by omega : False).elim) (fun h_2 => ?_)
      refine lv_aload_n hx hb dX1_figuresUpNow_12 rfl (lv_at hl 2 rfl) ?_
      refine x_getr CF hK hP 23 (by decide) dX_23 rfl uX1 2 (by decide) (j := 31) rfl wd1_71 rfl dX1_figuresUpNow_13 ?_
      refine lv_iload_n hx hb dX1_figuresUpNow_16 rfl (lv_at hl 0 rfl) ?_
      refine x_aald CF hK hP 31 (by decide) (t := 0) dX_31 (by decide) k (by omega) (by decide) (j := (32 + k)) (oX_fig k (by omega)) dX1_figuresUpNow_17 ?_
      refine lv_astore_n (lv' := [(3, .ref (ad (32 + k))), (2, .int (nI k)), (1, .int (nI (setN (fun q => decide (M 23 4 ≤ hgtX M q (M 23 6))) k))), (0, .ref (ad 23))]) hx hb dX1_figuresUpNow_18 rfl hl (by decide) rfl (fun ls hl => ?_)
      refine lv_aload_n hx hb dX1_figuresUpNow_19 rfl (lv_at hl 3 rfl) ?_
      refine lv_aload_n hx hb dX1_figuresUpNow_20 rfl (lv_at hl 3 rfl) ?_
      refine x_getr CF hK hP 23 (by decide) dX_23 rfl uX1 0 (by decide) (j := 24) rfl wd1_67 rfl dX1_figuresUpNow_21 ?_
      refine lv_aload_n hx hb dX1_figuresUpNow_24 rfl (lv_at hl 0 rfl) ?_
      refine x_geti CF hK hP (32 + k) (by omega) (dX_fig k (by omega)) rfl uX0 1 (by decide) rfl wd1_38 rfl dX1_figuresUpNow_25 ?_
      refine x_aald CF hK hP 24 (by decide) (t := 2) dX_24 (by decide) (M (32 + k) 1) (by omega) (by decide) (j := (25 + (M (32 + k) 1))) (oX_hair (M (32 + k) 1) (by omega)) dX1_figuresUpNow_28 ?_
      refine lv_aload_n hx hb dX1_figuresUpNow_29 rfl (lv_at hl 0 rfl) ?_
      refine lv_aload_n hx hb dX1_figuresUpNow_30 rfl (lv_at hl 3 rfl) ?_
      refine x_geti CF hK hP 23 (by decide) dX_23 rfl uX1 6 (by decide) rfl wd1_79 rfl dX1_figuresUpNow_31 ?_
      refine x_callVI CF hK hP hS hA hl (As := [.ref (ad (25 + (M (32 + k) 1))), .ref (ad (32 + k)), .int (nI (M 23 6))]) (rest := []) (c_heightOn_h hI M J hw (M (32 + k) 1) (by omega) k (by omega) (M 23 6) (by omega)) kw_X1_heightOn wd2_77 (by decide) dX_23 rfl rfl ⟨Nat.le_of_ble_eq_true rfl, Nat.le_of_ble_eq_true rfl⟩ ⟨Nat.le_refl _, Nat.le_refl _⟩ (Nat.le_of_ble_eq_true rfl) dX1_figuresUpNow_34 (fun H locs hP hS => ?_)
      refine x_ri (show (nI (hgt (M (25 + (M (32 + k) 1))) (M (32 + k) 2) (M 23 5) (M (32 + k) 0) (M 23 6))) = nI (hgtX M k (M 23 6)) from rfl) ?_
      refine lv_aload_n hx hb dX1_figuresUpNow_37 rfl (lv_at hl 3 rfl) ?_
      refine x_geti CF hK hP 23 (by decide) dX_23 rfl uX1 4 (by decide) rfl wd1_75 rfl dX1_figuresUpNow_38 ?_
      refine x_zlt (u := (hgtX M k (M 23 6) : Nat)) (v := (M 23 4 : Nat)) (tgt := 50) hx hb (nI_toInt (by omega)) (nI_toInt (by omega)) dX1_figuresUpNow_41 (by decide) (fun h_3 => ?_) (fun h_3 => ?_)
      · refine lv_iinc (v := nI (k + 1)) (lv' := [(2, .int (nI (k + 1))), (3, .ref (ad (32 + k))), (1, .int (nI (setN (fun q => decide (M 23 4 ≤ hgtX M q (M 23 6))) k))), (0, .ref (ad 23))]) hx hb dX1_figuresUpNow_50 hl (k := 1) rfl (n_inc k 1) (by decide) rfl (fun ls hl => ?_)
        refine lv_goto (tgt := 4) hx hb dX1_figuresUpNow_53 (by decide) ?_
        have hl0 : lv_has ls 4 [(2, .int (nI (k + 1))), (1, .int (nI (setN (fun q => decide (M 23 4 ≤ hgtX M q (M 23 6))) (k + 1)))), (0, .ref (ad 23))] := by rw [(show nI (setN (fun q => decide (M 23 4 ≤ hgtX M q (M 23 6))) (k + 1)) = nI (setN (fun q => decide (M 23 4 ≤ hgtX M q (M 23 6))) k) from by first | rfl | (congr 1; omega) | (refine congrArg nI ?_; first | rfl | (exact (setN_t (decide_eq_true (by omega)))) | (exact (setN_f (decide_eq_false (by omega))))))]; exact lv_sub hl [0, 2, 3] rfl
        exact ih4 (k + 1) (by omega) _ _ _ (hP) hS hl0
      · refine lv_iload_n hx hb dX1_figuresUpNow_44 rfl (lv_at hl 2 rfl) ?_
        refine lv_iconst (v := nI 1) hx hb dX1_figuresUpNow_45 (by decide) ?_
        refine lv_iload_n hx hb dX1_figuresUpNow_46 rfl (lv_at hl 1 rfl) ?_
        refine x_ishl hx hb (by omega) dX1_figuresUpNow_47 ?_
        refine x_ior hx hb dX1_figuresUpNow_48 ?_
        refine lv_istore_n (lv' := [(1, .int (nI ((setN (fun q => decide (M 23 4 ≤ hgtX M q (M 23 6))) k) ||| (1 <<< k)))), (3, .ref (ad (32 + k))), (2, .int (nI k)), (0, .ref (ad 23))]) hx hb dX1_figuresUpNow_49 rfl hl (by decide) rfl (fun ls hl => ?_)
        refine lv_iinc (v := nI (k + 1)) (lv' := [(2, .int (nI (k + 1))), (1, .int (nI ((setN (fun q => decide (M 23 4 ≤ hgtX M q (M 23 6))) k) ||| (1 <<< k)))), (3, .ref (ad (32 + k))), (0, .ref (ad 23))]) hx hb dX1_figuresUpNow_50 hl (k := 2) rfl (n_inc k 1) (by decide) rfl (fun ls hl => ?_)
        refine lv_goto (tgt := 4) hx hb dX1_figuresUpNow_53 (by decide) ?_
        have hl0 : lv_has ls 4 [(2, .int (nI (k + 1))), (1, .int (nI (setN (fun q => decide (M 23 4 ≤ hgtX M q (M 23 6))) (k + 1)))), (0, .ref (ad 23))] := by rw [(show nI (setN (fun q => decide (M 23 4 ≤ hgtX M q (M 23 6))) (k + 1)) = nI ((setN (fun q => decide (M 23 4 ≤ hgtX M q (M 23 6))) k) ||| (1 <<< k)) from by first | rfl | (congr 1; omega) | (refine congrArg nI ?_; first | rfl | (exact (setN_t (decide_eq_true (by omega)))) | (exact (setN_f (decide_eq_false (by omega))))))]; exact lv_sub hl [0, 1, 3] rfl
        exact ih4 (k + 1) (by omega) _ _ _ (hP) hS hl0
  have hl0 : lv_has ls 4 [(2, .int (nI 0)), (1, .int (nI (setN (fun q => decide (M 23 4 ≤ hgtX M q (M 23 6))) 0))), (0, .ref (ad 23))] := by rw [(show nI (setN (fun q => decide (M 23 4 ≤ hgtX M q (M 23 6))) 0) = nI 0 from rfl)]; exact lv_sub hl [0, 1, 2] rfl
  exact L4 (M 23 3) 0 (by omega) _ _ _ (hP) hS hl0
set_option maxHeartbeats 4000000 in
set_option maxRecDepth 100000 in
theorem c_strikesOf {l : Launch} {g : gE} {ad : Nat → Nat} (hI : g_inj ad 55) (M : gMem) (J : gMeL) (hw : wfX M) (a b : Nat) (ha : a < 5) (hb5 : b < 5) : CI l g ad dsX 55 yX1_strikesOf cX1_strikesOf 5 (some .int) 8 [.ref (ad 23), .ref (ad (32 + a)), .ref (ad (32 + b))] M J (nI (strX M a b)) M J := by
  refine CI.of (plainFor_of_name (by decide)) (Nat.le_of_ble_eq_true rfl) (fun p9 e9 s9 m9 args9 below9 meth9 c9 CF hK hr9 hlk9 hP hS ls hl => ?_)
  have hx := CF.1
  have hb := CF.2.1
  have hA : ∀ q, g_A ad 55 q → g_A ad 55 q := fun _ h => h
  have hl : lv_has ls 5 [(0, .ref (ad 23)), (1, .ref (ad (32 + a))), (2, .ref (ad (32 + b)))] := hl
  have hf := hw.fig ha
  have hf2 := hw.fig hb5
  have hwy := hw.way
  have b1 : (upsX M a &&& upsX M b) < 4096 := and_lt _ (upsX_lt M a)
  refine lv_aload_n hx hb dX1_strikesOf_0 rfl (lv_at hl 1 rfl) ?_
  refine x_geti CF hK hP (32 + a) (by omega) (dX_fig a (by omega)) rfl uX0 3 (by decide) rfl wd1_42 rfl dX1_strikesOf_1 ?_
  refine lv_aload_n hx hb dX1_strikesOf_4 rfl (lv_at hl 2 rfl) ?_
  refine x_geti CF hK hP (32 + b) (by omega) (dX_fig b (by omega)) rfl uX0 3 (by decide) rfl wd1_42 rfl dX1_strikesOf_5 ?_
  refine x_zeq (u := (M (32 + a) 3 : Nat)) (v := (M (32 + b) 3 : Nat)) (tgt := 13) hx hb (nI_toInt (by omega)) (nI_toInt (by omega)) dX1_strikesOf_8 (by decide) (fun h_1 => ?_) (fun h_1 => ?_)
  · refine lv_aload_n hx hb dX1_strikesOf_13 rfl (lv_at hl 0 rfl) ?_
    refine lv_aload_n hx hb dX1_strikesOf_14 rfl (lv_at hl 1 rfl) ?_
    refine x_callVI CF hK hP hS hA hl (As := [.ref (ad (32 + a))]) (rest := []) (c_upsOf hI M J hw a (by omega)) kw_X1_upsOf wd2_138 (by decide) dX_23 rfl rfl ⟨Nat.le_of_ble_eq_true rfl, Nat.le_of_ble_eq_true rfl⟩ ⟨Nat.le_refl _, Nat.le_refl _⟩ (Nat.le_of_ble_eq_true rfl) dX1_strikesOf_15 (fun H locs hP hS => ?_)
    refine lv_aload_n hx hb dX1_strikesOf_18 rfl (lv_at hl 0 rfl) ?_
    refine lv_aload_n hx hb dX1_strikesOf_19 rfl (lv_at hl 2 rfl) ?_
    refine x_callVI CF hK hP hS hA hl (As := [.ref (ad (32 + b))]) (rest := [.int (nI (upsX M a))]) (c_upsOf hI M J hw b (by omega)) kw_X1_upsOf wd2_138 (by decide) dX_23 rfl rfl ⟨Nat.le_of_ble_eq_true rfl, Nat.le_of_ble_eq_true rfl⟩ ⟨Nat.le_refl _, Nat.le_refl _⟩ (Nat.le_of_ble_eq_true rfl) dX1_strikesOf_20 (fun H locs hP hS => ?_)
    refine x_iand hx hb dX1_strikesOf_23 ?_
    refine lv_istore_n (lv' := [(3, .int (nI ((upsX M a) &&& (upsX M b)))), (0, .ref (ad 23)), (1, .ref (ad (32 + a))), (2, .ref (ad (32 + b)))]) hx hb dX1_strikesOf_24 rfl hl (by decide) rfl (fun ls hl => ?_)
    refine lv_iload_n hx hb dX1_strikesOf_25 rfl (lv_at hl 0 rfl) ?_
    refine lv_aload_n hx hb dX1_strikesOf_26 rfl (lv_at hl 1 rfl) ?_
    refine x_geti CF hK hP 23 (by decide) dX_23 rfl uX1 5 (by decide) rfl wd1_77 rfl dX1_strikesOf_27 ?_
    refine x_yne (u := (M 23 5 : Nat)) (tgt := 37) hx hb (nI_toInt (by omega)) dX1_strikesOf_30 (by decide) (fun h_2 => ?_) (fun h_2 => ?_)
    · refine lv_iconst (v := nI 4294967295) hx hb dX1_strikesOf_37 (by decide) ?_
      refine x_callNP CF hK hP hS hl (As := [.int (nI ((upsX M a) &&& (upsX M b))), .int (nI 4294967295)]) (rest := []) (c_movedOn_m ((upsX M a) &&& (upsX M b)) (by omega)) kw_X5_movedOn hK.2.2.1 rfl ⟨Nat.le_of_ble_eq_true rfl, Nat.le_of_ble_eq_true rfl⟩ ⟨Nat.le_refl _, Nat.le_refl _⟩ (Nat.le_of_ble_eq_true rfl) dX1_strikesOf_38 (fun H locs hP hS => ?_)
      refine lv_istore (lv' := [(4, .int (nI (rot ((upsX M a) &&& (upsX M b)) 11))), (3, .int (nI ((upsX M a) &&& (upsX M b)))), (0, .ref (ad 23)), (1, .ref (ad (32 + a))), (2, .ref (ad (32 + b)))]) hx hb dX1_strikesOf_41 hl (by decide) rfl (fun ls hl => ?_)
      refine lv_iload_n hx hb dX1_strikesOf_43 rfl (lv_at hl 1 rfl) ?_
      refine lv_iload hx hb dX1_strikesOf_44 (lv_at hl 0 rfl) ?_
      refine lv_iconst (v := nI 4294967295) hx hb dX1_strikesOf_46 (by decide) ?_
      refine x_ixor hx hb dX1_strikesOf_47 ?_
      refine x_iand hx hb dX1_strikesOf_48 ?_
      exact x_reti hx hb hr9 hlk9 hS hP (by rw [strX, if_pos (by omega), if_neg (by omega)]; rfl) dX1_strikesOf_49
    · refine lv_iconst (v := nI 1) hx hb dX1_strikesOf_33 (by decide) ?_
      refine lv_goto (tgt := 38) hx hb dX1_strikesOf_34 (by decide) ?_
      refine x_callNP CF hK hP hS hl (As := [.int (nI ((upsX M a) &&& (upsX M b))), .int (nI 1)]) (rest := []) (c_movedOn_n ((upsX M a) &&& (upsX M b)) 1 (by omega) (by omega)) kw_X5_movedOn hK.2.2.1 rfl ⟨Nat.le_of_ble_eq_true rfl, Nat.le_of_ble_eq_true rfl⟩ ⟨Nat.le_refl _, Nat.le_refl _⟩ (Nat.le_of_ble_eq_true rfl) dX1_strikesOf_38 (fun H locs hP hS => ?_)
      refine lv_istore (lv' := [(4, .int (nI (rot ((upsX M a) &&& (upsX M b)) 1))), (3, .int (nI ((upsX M a) &&& (upsX M b)))), (0, .ref (ad 23)), (1, .ref (ad (32 + a))), (2, .ref (ad (32 + b)))]) hx hb dX1_strikesOf_41 hl (by decide) rfl (fun ls hl => ?_)
      refine lv_iload_n hx hb dX1_strikesOf_43 rfl (lv_at hl 1 rfl) ?_
      refine lv_iload hx hb dX1_strikesOf_44 (lv_at hl 0 rfl) ?_
      refine lv_iconst (v := nI 4294967295) hx hb dX1_strikesOf_46 (by decide) ?_
      refine x_ixor hx hb dX1_strikesOf_47 ?_
      refine x_iand hx hb dX1_strikesOf_48 ?_
      exact x_reti hx hb hr9 hlk9 hS hP (by rw [strX, if_pos (by omega), if_pos (by omega)]; rfl) dX1_strikesOf_49
  · refine lv_iconst (v := nI 0) hx hb dX1_strikesOf_11 (by decide) ?_
    exact x_reti hx hb hr9 hlk9 hS hP (by rw [strX, if_neg (by omega)]) dX1_strikesOf_12
set_option maxHeartbeats 4000000 in
set_option maxRecDepth 100000 in
theorem c_toCome {l : Launch} {g : gE} {ad : Nat → Nat} (hI : g_inj ad 55) (M : gMem) (J : gMeL) (hw : wfX M) (n : Nat) (hn : n ≤ 600) : CI l g ad dsX 55 yX1_anglesToCome cX1_anglesToCome 5 (some .int) 3 [.ref (ad 23), .int (nI n)] M J (nI (acs (M 23 5) (M 23 6) n)) M J := by
  refine CI.of (plainFor_of_name (by decide)) (Nat.le_of_ble_eq_true rfl) (fun p9 e9 s9 m9 args9 below9 meth9 c9 CF hK hr9 hlk9 hP hS ls hl => ?_)
  have hx := CF.1
  have hb := CF.2.1
  have hA : ∀ q, g_A ad 55 q → g_A ad 55 q := fun _ h => h
  have hl : lv_has ls 5 [(0, .ref (ad 23)), (1, .int (nI n))] := hl
  have hat := hw.at
  refine lv_iconst (v := nI 0) hx hb dX1_anglesToCome_0 (by decide) ?_
  refine lv_istore_n (lv' := [(2, .int (nI 0)), (0, .ref (ad 23)), (1, .int (nI n))]) hx hb dX1_anglesToCome_1 rfl hl (by decide) rfl (fun ls hl => ?_)
  refine lv_aload_n hx hb dX1_anglesToCome_2 rfl (lv_at hl 1 rfl) ?_
  refine x_geti CF hK hP 23 (by decide) dX_23 rfl uX1 6 (by decide) rfl wd1_79 rfl dX1_anglesToCome_3 ?_
  refine lv_istore_n (lv' := [(3, .int (nI (M 23 6))), (2, .int (nI 0)), (0, .ref (ad 23)), (1, .int (nI n))]) hx hb dX1_anglesToCome_6 rfl hl (by decide) rfl (fun ls hl => ?_)
  refine lv_iconst (v := nI 0) hx hb dX1_anglesToCome_7 (by decide) ?_
  refine lv_istore (lv' := [(4, .int (nI 0)), (3, .int (nI (M 23 6))), (2, .int (nI 0)), (0, .ref (ad 23)), (1, .int (nI n))]) hx hb dX1_anglesToCome_8 hl (by decide) rfl (fun ls hl => ?_)
  have L10 : ∀ (d10 : Nat) (k : Nat), (k + d10 = n) → (∀ (H : Heap) (locs : List Loc) (ls : Array Slot), g_P g ad dsX 55 M J H → va_S (g_A ad 55) s9.heap H locs → lv_has ls 5 [(4, .int (nI k)), (3, .int (nI (itb (M 23 5) (M 23 6) k))), (2, .int (nI (acs (M 23 5) (M 23 6) k))), (0, .ref (ad 23)), (1, .int (nI n))] → W p9 l e9 (g_rm 3) s9 m9 args9 below9 meth9 c9 H locs 0 0 (MQ below9 (va_Qi (fun r' (_ : Unit) => r' = (nI (acs (M 23 5) (M 23 6) n))) (fun _ t => g_P g ad dsX 55 M J t.heap) (g_A ad 55)) args9 s9 0 0 (g_A ad 55)) (F0 m9 10 ls [])) := by
    intro d10
    induction d10 with
    | zero =>
      intro k hk H locs ls hP hS hl
      refine lv_iload hx hb dX1_anglesToCome_10 (lv_at hl 0 rfl) ?_
      refine lv_iload_n hx hb dX1_anglesToCome_12 rfl (lv_at hl 4 rfl) ?_
      refine x_zge (u := (k : Nat)) (v := (n : Nat)) (tgt := 34) hx hb (nI_toInt (by omega)) (nI_toInt (by omega)) dX1_anglesToCome_13 (by decide) (fun h_1 => ?_) (fun h_1 => (by omega : False).elim)
      refine lv_iload_n hx hb dX1_anglesToCome_34 rfl (lv_at hl 2 rfl) ?_
      exact x_reti hx hb hr9 hlk9 hS hP (by rw [show k = n by omega]) dX1_anglesToCome_35
    | succ d10 ih10 =>
      intro k hk H locs ls hP hS hl
      have b2 : (itb (M 23 5) (M 23 6) k) < 12 := itb_lt (by omega) k
      have b1 := bhd_lt (M 23 5) (itb (M 23 5) (M 23 6) k)
      refine lv_iload hx hb dX1_anglesToCome_10 (lv_at hl 0 rfl) ?_
      refine lv_iload_n hx hb dX1_anglesToCome_12 rfl (lv_at hl 4 rfl) ?_
      refine x_zge (u := (k : Nat)) (v := (n : Nat)) (tgt := 34) hx hb (nI_toInt (by omega)) (nI_toInt (by omega)) dX1_anglesToCome_13 (by decide) (fun h_2 => (by omega : False).elim) (fun h_2 => ?_)
      refine lv_aload_n hx hb dX1_anglesToCome_16 rfl (lv_at hl 3 rfl) ?_
      refine lv_iload_n hx hb dX1_anglesToCome_17 rfl (lv_at hl 1 rfl) ?_
      refine x_callVI CF hK hP hS hA hl (As := [.int (nI (itb (M 23 5) (M 23 6) k))]) (rest := []) (c_oneBehind hI M J hw (itb (M 23 5) (M 23 6) k) (by omega)) kw_X1_oneBehind wd2_130 (by decide) dX_23 rfl rfl ⟨Nat.le_of_ble_eq_true rfl, Nat.le_of_ble_eq_true rfl⟩ ⟨Nat.le_refl _, Nat.le_refl _⟩ (Nat.le_of_ble_eq_true rfl) dX1_anglesToCome_18 (fun H locs hP hS => ?_)
      refine lv_istore_n (lv' := [(3, .int (nI (bhd (M 23 5) (itb (M 23 5) (M 23 6) k)))), (4, .int (nI k)), (2, .int (nI (acs (M 23 5) (M 23 6) k))), (0, .ref (ad 23)), (1, .int (nI n))]) hx hb dX1_anglesToCome_21 rfl hl (by decide) rfl (fun ls hl => ?_)
      refine lv_iload_n hx hb dX1_anglesToCome_22 rfl (lv_at hl 2 rfl) ?_
      refine lv_iconst (v := nI 1) hx hb dX1_anglesToCome_23 (by decide) ?_
      refine lv_iload_n hx hb dX1_anglesToCome_24 rfl (lv_at hl 0 rfl) ?_
      refine x_ishl hx hb (by omega) dX1_anglesToCome_25 ?_
      refine x_ior hx hb dX1_anglesToCome_26 ?_
      refine lv_istore_n (lv' := [(2, .int (nI ((acs (M 23 5) (M 23 6) k) ||| (1 <<< (bhd (M 23 5) (itb (M 23 5) (M 23 6) k)))))), (3, .int (nI (bhd (M 23 5) (itb (M 23 5) (M 23 6) k)))), (4, .int (nI k)), (0, .ref (ad 23)), (1, .int (nI n))]) hx hb dX1_anglesToCome_27 rfl hl (by decide) rfl (fun ls hl => ?_)
      refine lv_iinc (v := nI (k + 1)) (lv' := [(4, .int (nI (k + 1))), (2, .int (nI ((acs (M 23 5) (M 23 6) k) ||| (1 <<< (bhd (M 23 5) (itb (M 23 5) (M 23 6) k)))))), (3, .int (nI (bhd (M 23 5) (itb (M 23 5) (M 23 6) k)))), (0, .ref (ad 23)), (1, .int (nI n))]) hx hb dX1_anglesToCome_28 hl (k := 2) rfl (n_inc k 1) (by decide) rfl (fun ls hl => ?_)
      refine lv_goto (tgt := 10) hx hb dX1_anglesToCome_31 (by decide) ?_
      have hl0 : lv_has ls 5 [(4, .int (nI (k + 1))), (3, .int (nI (itb (M 23 5) (M 23 6) (k + 1)))), (2, .int (nI (acs (M 23 5) (M 23 6) (k + 1)))), (0, .ref (ad 23)), (1, .int (nI n))] := by rw [(show nI (itb (M 23 5) (M 23 6) (k + 1)) = nI (bhd (M 23 5) (itb (M 23 5) (M 23 6) k)) from rfl), (show nI (acs (M 23 5) (M 23 6) (k + 1)) = nI ((acs (M 23 5) (M 23 6) k) ||| (1 <<< (bhd (M 23 5) (itb (M 23 5) (M 23 6) k)))) from rfl)]; exact lv_sub hl [0, 2, 1, 3, 4] rfl
      exact ih10 (k + 1) (by omega) _ _ _ (hP) hS hl0
  have hl0 : lv_has ls 5 [(4, .int (nI 0)), (3, .int (nI (itb (M 23 5) (M 23 6) 0))), (2, .int (nI (acs (M 23 5) (M 23 6) 0))), (0, .ref (ad 23)), (1, .int (nI n))] := by rw [(show nI (itb (M 23 5) (M 23 6) 0) = nI (M 23 6) from rfl), (show nI (acs (M 23 5) (M 23 6) 0) = nI 0 from rfl)]; exact lv_sub hl [0, 1, 2, 3, 4] rfl
  exact L10 n 0 (by omega) _ _ _ (hP) hS hl0
set_option maxHeartbeats 4000000 in
set_option maxRecDepth 100000 in
theorem c_turning {l : Launch} {g : gE} {ad : Nat → Nat} (hI : g_inj ad 55) (M : gMem) (J : gMeL) (hw : wfX M) (n : Nat) (hn : n ≤ 600) : CI l g ad dsX 55 yX1_strikesInTurning cX1_strikesInTurning 8 (some .int) 9 [.ref (ad 23), .int (nI n)] M J (nI (sitX M n)) M J := by
  refine CI.of (plainFor_of_name (by decide)) (Nat.le_of_ble_eq_true rfl) (fun p9 e9 s9 m9 args9 below9 meth9 c9 CF hK hr9 hlk9 hP hS ls hl => ?_)
  have hx := CF.1
  have hb := CF.2.1
  have hA : ∀ q, g_A ad 55 q → g_A ad 55 q := fun _ h => h
  have hl : lv_has ls 8 [(0, .ref (ad 23)), (1, .int (nI n))] := hl
  have hnf := hw.nf
  refine lv_iload_n hx hb dX1_strikesInTurning_0 rfl (lv_at hl 1 rfl) ?_
  refine lv_bipush (v := nI 12) hx hb dX1_strikesInTurning_1 (by decide) ?_
  refine x_idiv hx hb (by omega) (by omega) (by omega) dX1_strikesInTurning_3 ?_
  refine lv_istore_n (lv' := [(2, .int (nI (n / 12))), (0, .ref (ad 23)), (1, .int (nI n))]) hx hb dX1_strikesInTurning_4 rfl hl (by decide) rfl (fun ls hl => ?_)
  refine lv_aload_n hx hb dX1_strikesInTurning_5 rfl (lv_at hl 1 rfl) ?_
  refine lv_iload_n hx hb dX1_strikesInTurning_6 rfl (lv_at hl 2 rfl) ?_
  refine lv_bipush (v := nI 12) hx hb dX1_strikesInTurning_7 (by decide) ?_
  refine x_irem hx hb (by omega) (by omega) (by omega) dX1_strikesInTurning_9 ?_
  refine x_callVI CF hK hP hS hA hl (As := [.int (nI (n % 12))]) (rest := []) (c_toCome hI M J hw (n % 12) (by omega)) kw_X1_anglesToCome wd2_126 (by decide) dX_23 rfl rfl ⟨Nat.le_of_ble_eq_true rfl, Nat.le_of_ble_eq_true rfl⟩ ⟨Nat.le_refl _, Nat.le_refl _⟩ (Nat.le_of_ble_eq_true rfl) dX1_strikesInTurning_10 (fun H locs hP hS => ?_)
  refine lv_istore_n (lv' := [(3, .int (nI (acs (M 23 5) (M 23 6) (n % 12)))), (2, .int (nI (n / 12))), (0, .ref (ad 23)), (1, .int (nI n))]) hx hb dX1_strikesInTurning_13 rfl hl (by decide) rfl (fun ls hl => ?_)
  refine lv_iconst (v := nI 0) hx hb dX1_strikesInTurning_14 (by decide) ?_
  refine lv_istore (lv' := [(4, .int (nI 0)), (3, .int (nI (acs (M 23 5) (M 23 6) (n % 12)))), (2, .int (nI (n / 12))), (0, .ref (ad 23)), (1, .int (nI n))]) hx hb dX1_strikesInTurning_15 hl (by decide) rfl (fun ls hl => ?_)
  refine lv_iconst (v := nI 0) hx hb dX1_strikesInTurning_17 (by decide) ?_
  refine lv_istore (lv' := [(5, .int (nI 0)), (4, .int (nI 0)), (3, .int (nI (acs (M 23 5) (M 23 6) (n % 12)))), (2, .int (nI (n / 12))), (0, .ref (ad 23)), (1, .int (nI n))]) hx hb dX1_strikesInTurning_18 hl (by decide) rfl (fun ls hl => ?_)
  have L20 : ∀ (d20 : Nat) (a : Nat), (a + d20 = (M 23 3)) → (∀ (H : Heap) (locs : List Loc) (ls : Array Slot), g_P g ad dsX 55 M J H → va_S (g_A ad 55) s9.heap H locs → lv_has ls 8 [(5, .int (nI a)), (4, .int (nI (sumN (fun q => sumN (fun i => sitT M n q (q + 1 + i)) (M 23 3 - (q + 1))) a))), (3, .int (nI (acs (M 23 5) (M 23 6) (n % 12)))), (2, .int (nI (n / 12))), (0, .ref (ad 23)), (1, .int (nI n))] → W p9 l e9 (g_rm 9) s9 m9 args9 below9 meth9 c9 H locs 0 0 (MQ below9 (va_Qi (fun r' (_ : Unit) => r' = (nI (sitX M n))) (fun _ t => g_P g ad dsX 55 M J t.heap) (g_A ad 55)) args9 s9 0 0 (g_A ad 55)) (F0 m9 20 ls [])) := by
    intro d20
    induction d20 with
    | zero =>
      intro a ha H locs ls hP hS hl
      refine lv_iload hx hb dX1_strikesInTurning_20 (lv_at hl 0 rfl) ?_
      refine lv_aload_n hx hb dX1_strikesInTurning_22 rfl (lv_at hl 4 rfl) ?_
      refine x_geti CF hK hP 23 (by decide) dX_23 rfl uX1 3 (by decide) rfl wd1_73 rfl dX1_strikesInTurning_23 ?_
      refine x_zge (u := (a : Nat)) (v := (M 23 3 : Nat)) (tgt := 96) hx hb (nI_toInt (by omega)) (nI_toInt (by omega)) dX1_strikesInTurning_26 (by decide) (fun h_1 => ?_) (fun h_1 => (by omega : False).elim)
      refine lv_iload hx hb dX1_strikesInTurning_96 (lv_at hl 1 rfl) ?_
      exact x_reti hx hb hr9 hlk9 hS hP (by rw [show a = M 23 3 by omega]; rfl) dX1_strikesInTurning_98
    | succ d20 ih20 =>
      intro a ha H locs ls hP hS hl
      refine lv_iload hx hb dX1_strikesInTurning_20 (lv_at hl 0 rfl) ?_
      refine lv_aload_n hx hb dX1_strikesInTurning_22 rfl (lv_at hl 4 rfl) ?_
      refine x_geti CF hK hP 23 (by decide) dX_23 rfl uX1 3 (by decide) rfl wd1_73 rfl dX1_strikesInTurning_23 ?_
      refine x_zge (u := (a : Nat)) (v := (M 23 3 : Nat)) (tgt := 96) hx hb (nI_toInt (by omega)) (nI_toInt (by omega)) dX1_strikesInTurning_26 (by decide) (fun h_2 => (by omega : False).elim) (fun h_2 => ?_)
      refine lv_iload hx hb dX1_strikesInTurning_29 (lv_at hl 0 rfl) ?_
      refine lv_iconst (v := nI 1) hx hb dX1_strikesInTurning_31 (by decide) ?_
      refine x_iadd hx hb dX1_strikesInTurning_32 ?_
      refine lv_istore (lv' := [(6, .int (nI (a + 1))), (5, .int (nI a)), (4, .int (nI (sumN (fun q => sumN (fun i => sitT M n q (q + 1 + i)) (M 23 3 - (q + 1))) a))), (3, .int (nI (acs (M 23 5) (M 23 6) (n % 12)))), (2, .int (nI (n / 12))), (0, .ref (ad 23)), (1, .int (nI n))]) hx hb dX1_strikesInTurning_33 hl (by decide) rfl (fun ls hl => ?_)
      have L35 : ∀ (d35 : Nat) (j : Nat), (j + d35 = (M 23 3 - (a + 1))) → (∀ (H : Heap) (locs : List Loc) (ls : Array Slot), g_P g ad dsX 55 M J H → va_S (g_A ad 55) s9.heap H locs → lv_has ls 8 [(6, .int (nI (a + 1 + j))), (5, .int (nI a)), (4, .int (nI (sumN (fun q => sumN (fun i => sitT M n q (q + 1 + i)) (M 23 3 - (q + 1))) a + sumN (fun i => sitT M n a (a + 1 + i)) j))), (3, .int (nI (acs (M 23 5) (M 23 6) (n % 12)))), (2, .int (nI (n / 12))), (0, .ref (ad 23)), (1, .int (nI n))] → W p9 l e9 (g_rm 9) s9 m9 args9 below9 meth9 c9 H locs 0 0 (MQ below9 (va_Qi (fun r' (_ : Unit) => r' = (nI (sitX M n))) (fun _ t => g_P g ad dsX 55 M J t.heap) (g_A ad 55)) args9 s9 0 0 (g_A ad 55)) (F0 m9 35 ls [])) := by
        intro d35
        induction d35 with
        | zero =>
          intro j hj H locs ls hP hS hl
          refine lv_iload hx hb dX1_strikesInTurning_35 (lv_at hl 0 rfl) ?_
          refine lv_aload_n hx hb dX1_strikesInTurning_37 rfl (lv_at hl 5 rfl) ?_
          refine x_geti CF hK hP 23 (by decide) dX_23 rfl uX1 3 (by decide) rfl wd1_73 rfl dX1_strikesInTurning_38 ?_
          refine x_zge (u := (a + 1 + j : Nat)) (v := (M 23 3 : Nat)) (tgt := 90) hx hb (nI_toInt (by omega)) (nI_toInt (by omega)) dX1_strikesInTurning_41 (by decide) (fun h_3 => ?_) (fun h_3 => (by omega : False).elim)
          refine lv_iinc (v := nI (a + 1)) (lv' := [(5, .int (nI (a + 1))), (6, .int (nI (a + 1 + j))), (4, .int (nI (sumN (fun q => sumN (fun i => sitT M n q (q + 1 + i)) (M 23 3 - (q + 1))) a + sumN (fun i => sitT M n a (a + 1 + i)) j))), (3, .int (nI (acs (M 23 5) (M 23 6) (n % 12)))), (2, .int (nI (n / 12))), (0, .ref (ad 23)), (1, .int (nI n))]) hx hb dX1_strikesInTurning_90 hl (k := 1) rfl (n_inc a 1) (by decide) rfl (fun ls hl => ?_)
          refine lv_goto (tgt := 20) hx hb dX1_strikesInTurning_93 (by decide) ?_
          have hl0 : lv_has ls 8 [(5, .int (nI (a + 1))), (4, .int (nI (sumN (fun q => sumN (fun i => sitT M n q (q + 1 + i)) (M 23 3 - (q + 1))) (a + 1)))), (3, .int (nI (acs (M 23 5) (M 23 6) (n % 12)))), (2, .int (nI (n / 12))), (0, .ref (ad 23)), (1, .int (nI n))] := by rw [(show nI (sumN (fun q => sumN (fun i => sitT M n q (q + 1 + i)) (M 23 3 - (q + 1))) (a + 1)) = nI (sumN (fun q => sumN (fun i => sitT M n q (q + 1 + i)) (M 23 3 - (q + 1))) a + sumN (fun i => sitT M n a (a + 1 + i)) j) from by refine congrArg nI ?_; simp only [sumN]; rw [show j = M 23 3 - (a + 1) by omega])]; exact lv_sub hl [0, 2, 3, 4, 5, 6] rfl
          exact ih20 (a + 1) (by omega) _ _ _ (hP) hS hl0
        | succ d35 ih35 =>
          intro j hj H locs ls hP hS hl
          have b1 := strX_lt M a (a + 1 + j)
          have b2 : strX M a (a + 1 + j) &&& acs (M 23 5) (M 23 6) (n % 12) < 4096 := and_lt _ b1
          refine lv_iload hx hb dX1_strikesInTurning_35 (lv_at hl 0 rfl) ?_
          refine lv_aload_n hx hb dX1_strikesInTurning_37 rfl (lv_at hl 5 rfl) ?_
          refine x_geti CF hK hP 23 (by decide) dX_23 rfl uX1 3 (by decide) rfl wd1_73 rfl dX1_strikesInTurning_38 ?_
          refine x_zge (u := (a + 1 + j : Nat)) (v := (M 23 3 : Nat)) (tgt := 90) hx hb (nI_toInt (by omega)) (nI_toInt (by omega)) dX1_strikesInTurning_41 (by decide) (fun h_4 => (by omega : False).elim) (fun h_4 => ?_)
          refine lv_aload_n hx hb dX1_strikesInTurning_44 rfl (lv_at hl 5 rfl) ?_
          refine lv_aload_n hx hb dX1_strikesInTurning_45 rfl (lv_at hl 5 rfl) ?_
          refine x_getr CF hK hP 23 (by decide) dX_23 rfl uX1 2 (by decide) (j := 31) rfl wd1_71 rfl dX1_strikesInTurning_46 ?_
          refine lv_iload hx hb dX1_strikesInTurning_49 (lv_at hl 1 rfl) ?_
          refine x_aald CF hK hP 31 (by decide) (t := 0) dX_31 (by decide) a (by omega) (by decide) (j := (32 + a)) (oX_fig a (by omega)) dX1_strikesInTurning_51 ?_
          refine lv_aload_n hx hb dX1_strikesInTurning_52 rfl (lv_at hl 5 rfl) ?_
          refine x_getr CF hK hP 23 (by decide) dX_23 rfl uX1 2 (by decide) (j := 31) rfl wd1_71 rfl dX1_strikesInTurning_53 ?_
          refine lv_iload hx hb dX1_strikesInTurning_56 (lv_at hl 0 rfl) ?_
          refine x_aald CF hK hP 31 (by decide) (t := 0) dX_31 (by decide) (a + 1 + j) (by omega) (by decide) (j := (32 + (a + 1 + j))) (oX_fig (a + 1 + j) (by omega)) dX1_strikesInTurning_58 ?_
          refine x_callVI CF hK hP hS hA hl (As := [.ref (ad (32 + a)), .ref (ad (32 + (a + 1 + j)))]) (rest := []) (c_strikesOf hI M J hw a (a + 1 + j) (by omega) (by omega)) kw_X1_strikesOf wd2_134 (by decide) dX_23 rfl rfl ⟨Nat.le_of_ble_eq_true rfl, Nat.le_of_ble_eq_true rfl⟩ ⟨Nat.le_refl _, Nat.le_refl _⟩ (Nat.le_of_ble_eq_true rfl) dX1_strikesInTurning_59 (fun H locs hP hS => ?_)
          refine lv_istore (lv' := [(7, .int (nI (strX M a (a + 1 + j)))), (6, .int (nI (a + 1 + j))), (5, .int (nI a)), (4, .int (nI (sumN (fun q => sumN (fun i => sitT M n q (q + 1 + i)) (M 23 3 - (q + 1))) a + sumN (fun i => sitT M n a (a + 1 + i)) j))), (3, .int (nI (acs (M 23 5) (M 23 6) (n % 12)))), (2, .int (nI (n / 12))), (0, .ref (ad 23)), (1, .int (nI n))]) hx hb dX1_strikesInTurning_62 hl (by decide) rfl (fun ls hl => ?_)
          refine lv_iload hx hb dX1_strikesInTurning_64 (lv_at hl 3 rfl) ?_
          refine lv_iload_n hx hb dX1_strikesInTurning_66 rfl (lv_at hl 5 rfl) ?_
          refine lv_iload hx hb dX1_strikesInTurning_67 (lv_at hl 0 rfl) ?_
          refine x_callSP CF hK hP hS hl (As := [.int (nI (strX M a (a + 1 + j)))]) (rest := [.int (nI (n / 12)), .int (nI (sumN (fun q => sumN (fun i => sitT M n q (q + 1 + i)) (M 23 3 - (q + 1))) a + sumN (fun i => sitT M n a (a + 1 + i)) j))]) (c_bitCount (strX M a (a + 1 + j)) (by omega)) kw_J6_bitCount_0f7a4 wd2_143 rfl ⟨Nat.le_of_ble_eq_true rfl, Nat.le_of_ble_eq_true rfl⟩ ⟨Nat.le_refl _, Nat.le_refl _⟩ (Nat.le_of_ble_eq_true rfl) dX1_strikesInTurning_69 (fun H locs hP hS => ?_)
          refine x_imul hx hb dX1_strikesInTurning_72 ?_
          refine lv_iload hx hb dX1_strikesInTurning_73 (lv_at hl 0 rfl) ?_
          refine lv_iload_n hx hb dX1_strikesInTurning_75 rfl (lv_at hl 4 rfl) ?_
          refine x_iand hx hb dX1_strikesInTurning_76 ?_
          refine x_callSP CF hK hP hS hl (As := [.int (nI ((strX M a (a + 1 + j)) &&& (acs (M 23 5) (M 23 6) (n % 12))))]) (rest := [.int (nI ((n / 12) * (pop (strX M a (a + 1 + j))))), .int (nI (sumN (fun q => sumN (fun i => sitT M n q (q + 1 + i)) (M 23 3 - (q + 1))) a + sumN (fun i => sitT M n a (a + 1 + i)) j))]) (c_bitCount ((strX M a (a + 1 + j)) &&& (acs (M 23 5) (M 23 6) (n % 12))) (by omega)) kw_J6_bitCount_0f7a4 wd2_143 rfl ⟨Nat.le_of_ble_eq_true rfl, Nat.le_of_ble_eq_true rfl⟩ ⟨Nat.le_refl _, Nat.le_refl _⟩ (Nat.le_of_ble_eq_true rfl) dX1_strikesInTurning_77 (fun H locs hP hS => ?_)
          refine x_iadd hx hb dX1_strikesInTurning_80 ?_
          refine x_iadd hx hb dX1_strikesInTurning_81 ?_
          refine lv_istore (lv' := [(4, .int (nI ((sumN (fun q => sumN (fun i => sitT M n q (q + 1 + i)) (M 23 3 - (q + 1))) a + sumN (fun i => sitT M n a (a + 1 + i)) j) + (((n / 12) * (pop (strX M a (a + 1 + j)))) + (pop ((strX M a (a + 1 + j)) &&& (acs (M 23 5) (M 23 6) (n % 12)))))))), (7, .int (nI (strX M a (a + 1 + j)))), (6, .int (nI (a + 1 + j))), (5, .int (nI a)), (3, .int (nI (acs (M 23 5) (M 23 6) (n % 12)))), (2, .int (nI (n / 12))), (0, .ref (ad 23)), (1, .int (nI n))]) hx hb dX1_strikesInTurning_82 hl (by decide) rfl (fun ls hl => ?_)
          refine lv_iinc (v := nI (a + 1 + j + 1)) (lv' := [(6, .int (nI (a + 1 + j + 1))), (4, .int (nI ((sumN (fun q => sumN (fun i => sitT M n q (q + 1 + i)) (M 23 3 - (q + 1))) a + sumN (fun i => sitT M n a (a + 1 + i)) j) + (((n / 12) * (pop (strX M a (a + 1 + j)))) + (pop ((strX M a (a + 1 + j)) &&& (acs (M 23 5) (M 23 6) (n % 12)))))))), (7, .int (nI (strX M a (a + 1 + j)))), (5, .int (nI a)), (3, .int (nI (acs (M 23 5) (M 23 6) (n % 12)))), (2, .int (nI (n / 12))), (0, .ref (ad 23)), (1, .int (nI n))]) hx hb dX1_strikesInTurning_84 hl (k := 2) rfl (n_inc (a + 1 + j) 1) (by decide) rfl (fun ls hl => ?_)
          refine lv_goto (tgt := 35) hx hb dX1_strikesInTurning_87 (by decide) ?_
          have hl0 : lv_has ls 8 [(6, .int (nI (a + 1 + (j + 1)))), (5, .int (nI a)), (4, .int (nI (sumN (fun q => sumN (fun i => sitT M n q (q + 1 + i)) (M 23 3 - (q + 1))) a + sumN (fun i => sitT M n a (a + 1 + i)) (j + 1)))), (3, .int (nI (acs (M 23 5) (M 23 6) (n % 12)))), (2, .int (nI (n / 12))), (0, .ref (ad 23)), (1, .int (nI n))] := by rw [(show nI (a + 1 + (j + 1)) = nI (a + 1 + j + 1) from rfl), (show nI (sumN (fun q => sumN (fun i => sitT M n q (q + 1 + i)) (M 23 3 - (q + 1))) a + sumN (fun i => sitT M n a (a + 1 + i)) (j + 1)) = nI ((sumN (fun q => sumN (fun i => sitT M n q (q + 1 + i)) (M 23 3 - (q + 1))) a + sumN (fun i => sitT M n a (a + 1 + i)) j) + (((n / 12) * (pop (strX M a (a + 1 + j)))) + (pop ((strX M a (a + 1 + j)) &&& (acs (M 23 5) (M 23 6) (n % 12)))))) from by refine congrArg nI ?_; simp only [sumN, Nat.add_assoc]; rfl)]; exact lv_sub hl [0, 3, 1, 4, 5, 6, 7] rfl
          exact ih35 (j + 1) (by omega) _ _ _ (hP) hS hl0
      have hl0 : lv_has ls 8 [(6, .int (nI (a + 1 + 0))), (5, .int (nI a)), (4, .int (nI (sumN (fun q => sumN (fun i => sitT M n q (q + 1 + i)) (M 23 3 - (q + 1))) a + sumN (fun i => sitT M n a (a + 1 + i)) 0))), (3, .int (nI (acs (M 23 5) (M 23 6) (n % 12)))), (2, .int (nI (n / 12))), (0, .ref (ad 23)), (1, .int (nI n))] := by rw [(show nI (a + 1 + 0) = nI (a + 1) from rfl), (show nI (sumN (fun q => sumN (fun i => sitT M n q (q + 1 + i)) (M 23 3 - (q + 1))) a + sumN (fun i => sitT M n a (a + 1 + i)) 0) = nI (sumN (fun q => sumN (fun i => sitT M n q (q + 1 + i)) (M 23 3 - (q + 1))) a) from rfl)]; exact lv_sub hl [0, 1, 2, 3, 4, 5, 6] rfl
      exact L35 (M 23 3 - (a + 1)) 0 (by omega) _ _ _ (hP) hS hl0
  have hl0 : lv_has ls 8 [(5, .int (nI 0)), (4, .int (nI (sumN (fun q => sumN (fun i => sitT M n q (q + 1 + i)) (M 23 3 - (q + 1))) 0))), (3, .int (nI (acs (M 23 5) (M 23 6) (n % 12)))), (2, .int (nI (n / 12))), (0, .ref (ad 23)), (1, .int (nI n))] := by rw [(show nI (sumN (fun q => sumN (fun i => sitT M n q (q + 1 + i)) (M 23 3 - (q + 1))) 0) = nI 0 from rfl)]; exact lv_sub hl [0, 1, 2, 3, 4, 5] rfl
  exact L20 (M 23 3) 0 (by omega) _ _ _ (hP) hS hl0
set_option maxHeartbeats 4000000 in
set_option maxRecDepth 100000 in
theorem c_goOn {l : Launch} {g : gE} {ad : Nat → Nat} (hI : g_inj ad 55) (M : gMem) (J : gMeL) (hw : wfX M) (n : Nat) (hn : n ≤ 600) : CV l g ad dsX 55 yX1_goOn cX1_goOn 2 2 [.ref (ad 23), .int (nI n)] M J (goX M n) J := by
  refine CV.of (plainFor_of_name (by decide)) (Nat.le_of_ble_eq_true rfl) (fun p9 e9 s9 m9 args9 below9 meth9 c9 CF hK hr9 hlk9 hP hS ls hl => ?_)
  have hx := CF.1
  have hb := CF.2.1
  have hA : ∀ q, g_A ad 55 q → g_A ad 55 q := fun _ h => h
  have hl : lv_has ls 2 [(0, .ref (ad 23)), (1, .int (nI n))] := hl
  have hat := hw.at
  have hps := hw.passed
  have hwy := hw.way
  refine lv_aload_n hx hb dX1_goOn_0 rfl (lv_at hl 0 rfl) ?_
  refine lv_aload_n hx hb dX1_goOn_1 rfl (lv_at hl 0 rfl) ?_
  refine x_geti CF hK hP 23 (by decide) dX_23 rfl uX1 5 (by decide) rfl wd1_77 rfl dX1_goOn_2 ?_
  refine x_yne (u := (M 23 5 : Nat)) (tgt := 17) hx hb (nI_toInt (by omega)) dX1_goOn_5 (by decide) (fun h_1 => ?_) (fun h_1 => ?_)
  · refine lv_aload_n hx hb dX1_goOn_17 rfl (lv_at hl 0 rfl) ?_
    refine x_geti CF hK hP 23 (by decide) dX_23 rfl uX1 6 (by decide) rfl wd1_79 rfl dX1_goOn_18 ?_
    refine lv_iload_n hx hb dX1_goOn_21 rfl (lv_at hl 1 rfl) ?_
    refine lv_isub hx hb dX1_goOn_22 ?_
    refine x_callNP CF hK hP hS hl (As := [.int (nI (M 23 6) - nI n)]) (rest := [.ref (ad 23)]) (c_angleOf_s (M 23 6) n (by omega) (by omega)) kw_X5_angleOf hK.2.1 rfl ⟨Nat.le_of_ble_eq_true rfl, Nat.le_of_ble_eq_true rfl⟩ ⟨Nat.le_refl _, Nat.le_refl _⟩ (Nat.le_of_ble_eq_true rfl) dX1_goOn_23 (fun H locs hP hS => ?_)
    refine x_puti CF hK hI hA hP hS 23 (by decide) dX_23 rfl uX1 tyX1 tyX1_ok nmX1 6 (by decide) rfl wd1_79 rfl rfl (((M 23 6) + 11 * n) % 12) (ty := .int) rfl rfl rfl dX1_goOn_26 (fun H locs hP hS => ?_)
    have hP : g_P g ad dsX 55 (u2 M 23 6 (adv (M 23 5) (M 23 6) n)) J H := (by rw [adv, if_neg (by omega)]; exact hP)
    refine lv_aload_n hx hb dX1_goOn_29 rfl (lv_at hl 0 rfl) ?_
    refine lv_aload_n hx hb dX1_goOn_30 rfl (lv_at hl 0 rfl) ?_
    refine x_geti CF hK hP 23 (by decide) dX_23 rfl uX1 7 (by decide) rfl wd1_81 rfl dX1_goOn_31 ?_
    refine x_ri (show (nI ((u2 M 23 6 (adv (M 23 5) (M 23 6) n)) 23 7)) = nI (M 23 7) from by simp [u2]) ?_
    refine lv_iload_n hx hb dX1_goOn_34 rfl (lv_at hl 1 rfl) ?_
    refine x_iadd hx hb dX1_goOn_35 ?_
    refine lv_ldc (v := nI 1000000000) hx hb CF.2.2.2.1 (CF.2.2.2.2 _ (List.mem_cons_of_mem _ wd2_148)) dX1_goOn_36 ?_
    refine x_callSP CF hK hP hS hl (As := [.int (nI ((M 23 7) + n)), .int (nI 1000000000)]) (rest := [.ref (ad 23)]) (c_min ((M 23 7) + n) 1000000000 (by omega) (by omega)) kw_J9_min_7cf53 wd2_149 rfl ⟨Nat.le_of_ble_eq_true rfl, Nat.le_of_ble_eq_true rfl⟩ ⟨Nat.le_refl _, Nat.le_refl _⟩ (Nat.le_of_ble_eq_true rfl) dX1_goOn_38 (fun H locs hP hS => ?_)
    refine x_puti CF hK hI hA hP hS 23 (by decide) dX_23 rfl uX1 tyX1 tyX1_ok nmX1 7 (by decide) rfl wd1_81 rfl rfl (min ((M 23 7) + n) 1000000000) (ty := .int) rfl rfl rfl dX1_goOn_41 (fun H locs hP hS => ?_)
    exact x_retv hx hb hr9 hlk9 hS (by exact hP) dX1_goOn_44
  · refine lv_aload_n hx hb dX1_goOn_8 rfl (lv_at hl 0 rfl) ?_
    refine x_geti CF hK hP 23 (by decide) dX_23 rfl uX1 6 (by decide) rfl wd1_79 rfl dX1_goOn_9 ?_
    refine lv_iload_n hx hb dX1_goOn_12 rfl (lv_at hl 1 rfl) ?_
    refine x_iadd hx hb dX1_goOn_13 ?_
    refine lv_goto (tgt := 23) hx hb dX1_goOn_14 (by decide) ?_
    refine x_callNP CF hK hP hS hl (As := [.int (nI ((M 23 6) + n))]) (rest := [.ref (ad 23)]) (c_angleOf_n ((M 23 6) + n) (by omega)) kw_X5_angleOf hK.2.1 rfl ⟨Nat.le_of_ble_eq_true rfl, Nat.le_of_ble_eq_true rfl⟩ ⟨Nat.le_refl _, Nat.le_refl _⟩ (Nat.le_of_ble_eq_true rfl) dX1_goOn_23 (fun H locs hP hS => ?_)
    refine x_puti CF hK hI hA hP hS 23 (by decide) dX_23 rfl uX1 tyX1 tyX1_ok nmX1 6 (by decide) rfl wd1_79 rfl rfl (((M 23 6) + n) % 12) (ty := .int) rfl rfl rfl dX1_goOn_26 (fun H locs hP hS => ?_)
    have hP : g_P g ad dsX 55 (u2 M 23 6 (adv (M 23 5) (M 23 6) n)) J H := (by rw [adv, if_pos (by omega)]; exact hP)
    refine lv_aload_n hx hb dX1_goOn_29 rfl (lv_at hl 0 rfl) ?_
    refine lv_aload_n hx hb dX1_goOn_30 rfl (lv_at hl 0 rfl) ?_
    refine x_geti CF hK hP 23 (by decide) dX_23 rfl uX1 7 (by decide) rfl wd1_81 rfl dX1_goOn_31 ?_
    refine x_ri (show (nI ((u2 M 23 6 (adv (M 23 5) (M 23 6) n)) 23 7)) = nI (M 23 7) from by simp [u2]) ?_
    refine lv_iload_n hx hb dX1_goOn_34 rfl (lv_at hl 1 rfl) ?_
    refine x_iadd hx hb dX1_goOn_35 ?_
    refine lv_ldc (v := nI 1000000000) hx hb CF.2.2.2.1 (CF.2.2.2.2 _ (List.mem_cons_of_mem _ wd2_148)) dX1_goOn_36 ?_
    refine x_callSP CF hK hP hS hl (As := [.int (nI ((M 23 7) + n)), .int (nI 1000000000)]) (rest := [.ref (ad 23)]) (c_min ((M 23 7) + n) 1000000000 (by omega) (by omega)) kw_J9_min_7cf53 wd2_149 rfl ⟨Nat.le_of_ble_eq_true rfl, Nat.le_of_ble_eq_true rfl⟩ ⟨Nat.le_refl _, Nat.le_refl _⟩ (Nat.le_of_ble_eq_true rfl) dX1_goOn_38 (fun H locs hP hS => ?_)
    refine x_puti CF hK hI hA hP hS 23 (by decide) dX_23 rfl uX1 tyX1 tyX1_ok nmX1 7 (by decide) rfl wd1_81 rfl rfl (min ((M 23 7) + n) 1000000000) (ty := .int) rfl rfl rfl dX1_goOn_41 (fun H locs hP hS => ?_)
    exact x_retv hx hb hr9 hlk9 hS (by exact hP) dX1_goOn_44
set_option maxHeartbeats 4000000 in
set_option maxRecDepth 100000 in
theorem c_missedWith {l : Launch} {g : gE} {ad : Nat → Nat} (hI : g_inj ad 55) (M : gMem) (J : gMeL) (k : Nat) (hk : k < 5) (x : Nat) : CI l g ad dsX 55 yX0_missedWith cX0_missedWith 2 (some .int) 0 [.ref (ad (32 + k)), .int (nI x)] M J (nI (misd (M (32 + k) 4) (M (32 + k) 5) x)) M J := by
  refine CI.of (plainFor_of_name (by decide)) (Nat.le_of_ble_eq_true rfl) (fun p9 e9 s9 m9 args9 below9 meth9 c9 CF hK hr9 hlk9 hP hS ls hl => ?_)
  have hx := CF.1
  have hb := CF.2.1
  have hA : ∀ q, g_A ad 55 q → g_A ad 55 q := fun _ h => h
  have hl : lv_has ls 2 [(0, .ref (ad (32 + k))), (1, .int (nI x))] := hl
  refine lv_aload_n hx hb dX0_missedWith_0 rfl (lv_at hl 0 rfl) ?_
  refine x_geti CF hK hP (32 + k) (by omega) (dX_fig k (by omega)) rfl uX0 4 (by decide) rfl wd1_46 rfl dX0_missedWith_1 ?_
  refine lv_iload_n hx hb dX0_missedWith_4 rfl (lv_at hl 1 rfl) ?_
  refine lv_iconst (v := nI 4294967295) hx hb dX0_missedWith_5 (by decide) ?_
  refine x_ixor hx hb dX0_missedWith_6 ?_
  refine x_iand hx hb dX0_missedWith_7 ?_
  refine lv_aload_n hx hb dX0_missedWith_8 rfl (lv_at hl 0 rfl) ?_
  refine x_geti CF hK hP (32 + k) (by omega) (dX_fig k (by omega)) rfl uX0 5 (by decide) rfl wd1_49 rfl dX0_missedWith_9 ?_
  refine lv_iload_n hx hb dX0_missedWith_12 rfl (lv_at hl 1 rfl) ?_
  refine x_iand hx hb dX0_missedWith_13 ?_
  refine x_ior hx hb dX0_missedWith_14 ?_
  exact x_reti hx hb hr9 hlk9 hS hP (by first | rfl | (show nI (((M (32 + k) 4) &&& (x ^^^ 4294967295)) ||| ((M (32 + k) 5) &&& x)) = nI (misd (M (32 + k) 4) (M (32 + k) 5) x); first | rfl | omega)) dX0_missedWith_15
set_option maxHeartbeats 4000000 in
set_option maxRecDepth 100000 in
theorem c_pegsBy {l : Launch} {g : gE} {ad : Nat → Nat} (hI : g_inj ad 55) (M : gMem) (J : gMeL) (hw : wfX M) (k : Nat) (hk : k < 5) (lag : Nat) (hl9 : lag < 12) : CI l g ad dsX 55 yX1_pegsBy cX1_pegsBy 5 (some .int) 2 [.ref (ad 23), .ref (ad (32 + k)), .int (nI lag)] M J (nI (pegX M k lag)) M J := by
  refine CI.of (plainFor_of_name (by decide)) (Nat.le_of_ble_eq_true rfl) (fun p9 e9 s9 m9 args9 below9 meth9 c9 CF hK hr9 hlk9 hP hS ls hl => ?_)
  have hx := CF.1
  have hb := CF.2.1
  have hA : ∀ q, g_A ad 55 q → g_A ad 55 q := fun _ h => h
  have hl : lv_has ls 5 [(0, .ref (ad 23)), (1, .ref (ad (32 + k))), (2, .int (nI lag))] := hl
  have hf := hw.fig hk
  have hln := hw.line
  refine lv_iconst (v := nI 0) hx hb dX1_pegsBy_0 (by decide) ?_
  refine lv_istore_n (lv' := [(3, .int (nI 0)), (0, .ref (ad 23)), (1, .ref (ad (32 + k))), (2, .int (nI lag))]) hx hb dX1_pegsBy_1 rfl hl (by decide) rfl (fun ls hl => ?_)
  refine lv_iconst (v := nI 0) hx hb dX1_pegsBy_2 (by decide) ?_
  refine lv_istore (lv' := [(4, .int (nI 0)), (3, .int (nI 0)), (0, .ref (ad 23)), (1, .ref (ad (32 + k))), (2, .int (nI lag))]) hx hb dX1_pegsBy_3 hl (by decide) rfl (fun ls hl => ?_)
  have L5 : ∀ (d5 : Nat) (a : Nat), (a + d5 = 12) → (∀ (H : Heap) (locs : List Loc) (ls : Array Slot), g_P g ad dsX 55 M J H → va_S (g_A ad 55) s9.heap H locs → lv_has ls 5 [(4, .int (nI a)), (3, .int (nI (setN (fun q => decide (M 23 4 ≤ M (25 + M (32 + k) 1) ((q + lag) % 12))) a))), (0, .ref (ad 23)), (1, .ref (ad (32 + k))), (2, .int (nI lag))] → W p9 l e9 (g_rm 2) s9 m9 args9 below9 meth9 c9 H locs 0 0 (MQ below9 (va_Qi (fun r' (_ : Unit) => r' = (nI (pegX M k lag))) (fun _ t => g_P g ad dsX 55 M J t.heap) (g_A ad 55)) args9 s9 0 0 (g_A ad 55)) (F0 m9 5 ls [])) := by
    intro d5
    induction d5 with
    | zero =>
      intro a ha H locs ls hP hS hl
      have b2 : misd (M (32 + k) 4) (M (32 + k) 5) (setN (fun q => decide (M 23 4 ≤ M (25 + M (32 + k) 1) ((q + lag) % 12))) a) < 4096 := misd_lt _ (by omega) (by omega)
      refine lv_iload hx hb dX1_pegsBy_5 (lv_at hl 0 rfl) ?_
      refine lv_bipush (v := nI 12) hx hb dX1_pegsBy_7 (by decide) ?_
      refine x_zge (u := (a : Nat)) (v := (12 : Int)) (tgt := 49) hx hb (nI_toInt (by omega)) (rfl) dX1_pegsBy_9 (by decide) (fun h_1 => ?_) (fun h_1 => (by omega : False).elim)
      refine lv_aload_n hx hb dX1_pegsBy_49 rfl (lv_at hl 3 rfl) ?_
      refine lv_iload_n hx hb dX1_pegsBy_50 rfl (lv_at hl 1 rfl) ?_
      refine x_callVI CF hK hP hS hA hl (As := [.int (nI (setN (fun q => decide (M 23 4 ≤ M (25 + M (32 + k) 1) ((q + lag) % 12))) a))]) (rest := []) (c_missedWith hI M J k (by omega) (setN (fun q => decide (M 23 4 ≤ M (25 + M (32 + k) 1) ((q + lag) % 12))) a)) kw_X0_missedWith wd2_212 (by omega) (dX_fig k (by omega)) rfl rfl ⟨Nat.le_of_ble_eq_true rfl, Nat.le_of_ble_eq_true rfl⟩ ⟨Nat.le_refl _, Nat.le_refl _⟩ (Nat.le_of_ble_eq_true rfl) dX1_pegsBy_51 (fun H locs hP hS => ?_)
      refine x_callSP CF hK hP hS hl (As := [.int (nI (misd (M (32 + k) 4) (M (32 + k) 5) (setN (fun q => decide (M 23 4 ≤ M (25 + M (32 + k) 1) ((q + lag) % 12))) a)))]) (rest := []) (c_bitCount (misd (M (32 + k) 4) (M (32 + k) 5) (setN (fun q => decide (M 23 4 ≤ M (25 + M (32 + k) 1) ((q + lag) % 12))) a)) (by omega)) kw_J6_bitCount_0f7a4 wd2_143 rfl ⟨Nat.le_of_ble_eq_true rfl, Nat.le_of_ble_eq_true rfl⟩ ⟨Nat.le_refl _, Nat.le_refl _⟩ (Nat.le_of_ble_eq_true rfl) dX1_pegsBy_54 (fun H locs hP hS => ?_)
      exact x_reti hx hb hr9 hlk9 hS hP (by rw [show a = 12 by omega]; rfl) dX1_pegsBy_57
    | succ d5 ih5 =>
      intro a ha H locs ls hP hS hl
      have b1 : M (25 + M (32 + k) 1) ((a + lag) % 12) ≤ 9 := hw.hair (by omega) (by omega)
      refine lv_iload hx hb dX1_pegsBy_5 (lv_at hl 0 rfl) ?_
      refine lv_bipush (v := nI 12) hx hb dX1_pegsBy_7 (by decide) ?_
      refine x_zge (u := (a : Nat)) (v := (12 : Int)) (tgt := 49) hx hb (nI_toInt (by omega)) (rfl) dX1_pegsBy_9 (by decide) (fun h_2 => (by omega : False).elim) (fun h_2 => ?_)
      refine lv_aload_n hx hb dX1_pegsBy_12 rfl (lv_at hl 2 rfl) ?_
      refine x_getr CF hK hP 23 (by decide) dX_23 rfl uX1 0 (by decide) (j := 24) rfl wd1_67 rfl dX1_pegsBy_13 ?_
      refine lv_aload_n hx hb dX1_pegsBy_16 rfl (lv_at hl 3 rfl) ?_
      refine x_geti CF hK hP (32 + k) (by omega) (dX_fig k (by omega)) rfl uX0 1 (by decide) rfl wd1_38 rfl dX1_pegsBy_17 ?_
      refine x_aald CF hK hP 24 (by decide) (t := 2) dX_24 (by decide) (M (32 + k) 1) (by omega) (by decide) (j := (25 + (M (32 + k) 1))) (oX_hair (M (32 + k) 1) (by omega)) dX1_pegsBy_20 ?_
      refine lv_iload hx hb dX1_pegsBy_21 (lv_at hl 0 rfl) ?_
      refine lv_iload_n hx hb dX1_pegsBy_23 rfl (lv_at hl 4 rfl) ?_
      refine x_iadd hx hb dX1_pegsBy_24 ?_
      refine x_callNP CF hK hP hS hl (As := [.int (nI (a + lag))]) (rest := [.ref (ad (25 + (M (32 + k) 1)))]) (c_angleOf_n (a + lag) (by omega)) kw_X5_angleOf hK.2.1 rfl ⟨Nat.le_of_ble_eq_true rfl, Nat.le_of_ble_eq_true rfl⟩ ⟨Nat.le_refl _, Nat.le_refl _⟩ (Nat.le_of_ble_eq_true rfl) dX1_pegsBy_25 (fun H locs hP hS => ?_)
      refine x_iald CF hK hP (25 + (M (32 + k) 1)) (by omega) (dX_hair (M (32 + k) 1) (by omega)) ((a + lag) % 12) (by omega) (by decide) dX1_pegsBy_28 ?_
      refine lv_aload_n hx hb dX1_pegsBy_29 rfl (lv_at hl 2 rfl) ?_
      refine x_geti CF hK hP 23 (by decide) dX_23 rfl uX1 4 (by decide) rfl wd1_75 rfl dX1_pegsBy_30 ?_
      refine x_zlt (u := (M (25 + (M (32 + k) 1)) ((a + lag) % 12) : Nat)) (v := (M 23 4 : Nat)) (tgt := 43) hx hb (nI_toInt (by omega)) (nI_toInt (by omega)) dX1_pegsBy_33 (by decide) (fun h_3 => ?_) (fun h_3 => ?_)
      · refine lv_iinc (v := nI (a + 1)) (lv' := [(4, .int (nI (a + 1))), (3, .int (nI (setN (fun q => decide (M 23 4 ≤ M (25 + M (32 + k) 1) ((q + lag) % 12))) a))), (0, .ref (ad 23)), (1, .ref (ad (32 + k))), (2, .int (nI lag))]) hx hb dX1_pegsBy_43 hl (k := 0) rfl (n_inc a 1) (by decide) rfl (fun ls hl => ?_)
        refine lv_goto (tgt := 5) hx hb dX1_pegsBy_46 (by decide) ?_
        have hl0 : lv_has ls 5 [(4, .int (nI (a + 1))), (3, .int (nI (setN (fun q => decide (M 23 4 ≤ M (25 + M (32 + k) 1) ((q + lag) % 12))) (a + 1)))), (0, .ref (ad 23)), (1, .ref (ad (32 + k))), (2, .int (nI lag))] := by rw [(show nI (setN (fun q => decide (M 23 4 ≤ M (25 + M (32 + k) 1) ((q + lag) % 12))) (a + 1)) = nI (setN (fun q => decide (M 23 4 ≤ M (25 + M (32 + k) 1) ((q + lag) % 12))) a) from by first | rfl | (congr 1; omega) | (refine congrArg nI ?_; first | rfl | (exact (setN_t (decide_eq_true (by omega)))) | (exact (setN_f (decide_eq_false (by omega))))))]; exact lv_sub hl [0, 1, 2, 3, 4] rfl
        exact ih5 (a + 1) (by omega) _ _ _ (hP) hS hl0
      · refine lv_iload_n hx hb dX1_pegsBy_36 rfl (lv_at hl 1 rfl) ?_
        refine lv_iconst (v := nI 1) hx hb dX1_pegsBy_37 (by decide) ?_
        refine lv_iload hx hb dX1_pegsBy_38 (lv_at hl 0 rfl) ?_
        refine x_ishl hx hb (by omega) dX1_pegsBy_40 ?_
        refine x_ior hx hb dX1_pegsBy_41 ?_
        refine lv_istore_n (lv' := [(3, .int (nI ((setN (fun q => decide (M 23 4 ≤ M (25 + M (32 + k) 1) ((q + lag) % 12))) a) ||| (1 <<< a)))), (4, .int (nI a)), (0, .ref (ad 23)), (1, .ref (ad (32 + k))), (2, .int (nI lag))]) hx hb dX1_pegsBy_42 rfl hl (by decide) rfl (fun ls hl => ?_)
        refine lv_iinc (v := nI (a + 1)) (lv' := [(4, .int (nI (a + 1))), (3, .int (nI ((setN (fun q => decide (M 23 4 ≤ M (25 + M (32 + k) 1) ((q + lag) % 12))) a) ||| (1 <<< a)))), (0, .ref (ad 23)), (1, .ref (ad (32 + k))), (2, .int (nI lag))]) hx hb dX1_pegsBy_43 hl (k := 1) rfl (n_inc a 1) (by decide) rfl (fun ls hl => ?_)
        refine lv_goto (tgt := 5) hx hb dX1_pegsBy_46 (by decide) ?_
        have hl0 : lv_has ls 5 [(4, .int (nI (a + 1))), (3, .int (nI (setN (fun q => decide (M 23 4 ≤ M (25 + M (32 + k) 1) ((q + lag) % 12))) (a + 1)))), (0, .ref (ad 23)), (1, .ref (ad (32 + k))), (2, .int (nI lag))] := by rw [(show nI (setN (fun q => decide (M 23 4 ≤ M (25 + M (32 + k) 1) ((q + lag) % 12))) (a + 1)) = nI ((setN (fun q => decide (M 23 4 ≤ M (25 + M (32 + k) 1) ((q + lag) % 12))) a) ||| (1 <<< a)) from by first | rfl | (congr 1; omega) | (refine congrArg nI ?_; first | rfl | (exact (setN_t (decide_eq_true (by omega)))) | (exact (setN_f (decide_eq_false (by omega))))))]; exact lv_sub hl [0, 1, 2, 3, 4] rfl
        exact ih5 (a + 1) (by omega) _ _ _ (hP) hS hl0
  have hl0 : lv_has ls 5 [(4, .int (nI 0)), (3, .int (nI (setN (fun q => decide (M 23 4 ≤ M (25 + M (32 + k) 1) ((q + lag) % 12))) 0))), (0, .ref (ad 23)), (1, .ref (ad (32 + k))), (2, .int (nI lag))] := by rw [(show nI (setN (fun q => decide (M 23 4 ≤ M (25 + M (32 + k) 1) ((q + lag) % 12))) 0) = nI 0 from rfl)]; exact lv_sub hl [0, 1, 2, 3, 4] rfl
  exact L5 12 0 (by omega) _ _ _ (hP) hS hl0
set_option maxHeartbeats 4000000 in
set_option maxRecDepth 100000 in
theorem c_beatsTill {l : Launch} {g : gE} {ad : Nat → Nat} (hI : g_inj ad 55) (M : gMem) (J : gMeL) (hw : wfX M) (t : Nat) (ht : t < 12) : CI l g ad dsX 55 yX1_beatsTill cX1_beatsTill 5 (some .int) 3 [.ref (ad 23), .int (nI t)] M J (nI (bts (M 37) (M 23 5) t (M 23 6) 12)) M J := by
  refine CI.of (plainFor_of_name (by decide)) (Nat.le_of_ble_eq_true rfl) (fun p9 e9 s9 m9 args9 below9 meth9 c9 CF hK hr9 hlk9 hP hS ls hl => ?_)
  have hx := CF.1
  have hb := CF.2.1
  have hA : ∀ q, g_A ad 55 q → g_A ad 55 q := fun _ h => h
  have hl : lv_has ls 5 [(0, .ref (ad 23)), (1, .int (nI t))] := hl
  have hat := hw.at
  refine lv_iconst (v := nI 0) hx hb dX1_beatsTill_0 (by decide) ?_
  refine lv_istore_n (lv' := [(2, .int (nI 0)), (0, .ref (ad 23)), (1, .int (nI t))]) hx hb dX1_beatsTill_1 rfl hl (by decide) rfl (fun ls hl => ?_)
  refine lv_aload_n hx hb dX1_beatsTill_2 rfl (lv_at hl 1 rfl) ?_
  refine x_geti CF hK hP 23 (by decide) dX_23 rfl uX1 6 (by decide) rfl wd1_79 rfl dX1_beatsTill_3 ?_
  refine lv_istore_n (lv' := [(3, .int (nI (M 23 6))), (2, .int (nI 0)), (0, .ref (ad 23)), (1, .int (nI t))]) hx hb dX1_beatsTill_6 rfl hl (by decide) rfl (fun ls hl => ?_)
  refine lv_iconst (v := nI 0) hx hb dX1_beatsTill_7 (by decide) ?_
  refine lv_istore (lv' := [(4, .int (nI 0)), (3, .int (nI (M 23 6))), (2, .int (nI 0)), (0, .ref (ad 23)), (1, .int (nI t))]) hx hb dX1_beatsTill_8 hl (by decide) rfl (fun ls hl => ?_)
  have L10 : ∀ (d10 : Nat) (k : Nat) (a : Nat) (w : Nat), (k + d10 = 12) → (a < 12) → (w + bts (M 37) (M 23 5) t a d10 = bts (M 37) (M 23 5) t (M 23 6) 12) → (∀ (H : Heap) (locs : List Loc) (ls : Array Slot), g_P g ad dsX 55 M J H → va_S (g_A ad 55) s9.heap H locs → lv_has ls 5 [(4, .int (nI k)), (3, .int (nI a)), (2, .int (nI w)), (0, .ref (ad 23)), (1, .int (nI t))] → W p9 l e9 (g_rm 3) s9 m9 args9 below9 meth9 c9 H locs 0 0 (MQ below9 (va_Qi (fun r' (_ : Unit) => r' = (nI (bts (M 37) (M 23 5) t (M 23 6) 12))) (fun _ t => g_P g ad dsX 55 M J t.heap) (g_A ad 55)) args9 s9 0 0 (g_A ad 55)) (F0 m9 10 ls [])) := by
    intro d10
    induction d10 with
    | zero =>
      intro k a w hk ha hR H locs ls hP hS hl
      refine lv_iload hx hb dX1_beatsTill_10 (lv_at hl 0 rfl) ?_
      refine lv_bipush (v := nI 12) hx hb dX1_beatsTill_12 (by decide) ?_
      refine x_zge (u := (k : Nat)) (v := (12 : Int)) (tgt := 43) hx hb (nI_toInt (by omega)) (rfl) dX1_beatsTill_14 (by decide) (fun h_1 => ?_) (fun h_1 => (by omega : False).elim)
      refine lv_iload_n hx hb dX1_beatsTill_43 rfl (lv_at hl 2 rfl) ?_
      exact x_reti hx hb hr9 hlk9 hS hP (congrArg nI (by simpa [bts] using hR)) dX1_beatsTill_44
    | succ d10 ih10 =>
      intro k a w hk ha hR H locs ls hP hS hl
      have b1 := bhd_lt (M 23 5) a
      have b2 := hw.beat ha
      rw [show bts (M 37) (M 23 5) t a (d10 + 1) = if a = t then 0 else M 37 a + bts (M 37) (M 23 5) t (bhd (M 23 5) a) d10 from rfl] at hR
      refine lv_iload hx hb dX1_beatsTill_10 (lv_at hl 0 rfl) ?_
      refine lv_bipush (v := nI 12) hx hb dX1_beatsTill_12 (by decide) ?_
      refine x_zge (u := (k : Nat)) (v := (12 : Int)) (tgt := 43) hx hb (nI_toInt (by omega)) (rfl) dX1_beatsTill_14 (by decide) (fun h_2 => (by omega : False).elim) (fun h_2 => ?_)
      refine lv_iload_n hx hb dX1_beatsTill_17 rfl (lv_at hl 1 rfl) ?_
      refine lv_iload_n hx hb dX1_beatsTill_18 rfl (lv_at hl 4 rfl) ?_
      refine x_zeq (u := (a : Nat)) (v := (t : Nat)) (tgt := 43) hx hb (nI_toInt (by omega)) (nI_toInt (by omega)) dX1_beatsTill_19 (by decide) (fun h_3 => ?_) (fun h_3 => ?_)
      · refine lv_iload_n hx hb dX1_beatsTill_43 rfl (lv_at hl 2 rfl) ?_
        exact x_reti hx hb hr9 hlk9 hS hP (congrArg nI (by rw [if_pos (by omega)] at hR; omega)) dX1_beatsTill_44
      · refine lv_iload_n hx hb dX1_beatsTill_22 rfl (lv_at hl 2 rfl) ?_
        refine lv_aload_n hx hb dX1_beatsTill_23 rfl (lv_at hl 3 rfl) ?_
        refine x_getr CF hK hP 23 (by decide) dX_23 rfl uX1 8 (by decide) (j := 37) rfl wd1_83 rfl dX1_beatsTill_24 ?_
        refine lv_iload_n hx hb dX1_beatsTill_27 rfl (lv_at hl 1 rfl) ?_
        refine x_iald CF hK hP 37 (by decide) dX_37 a (by omega) (by decide) dX1_beatsTill_28 ?_
        refine x_iadd hx hb dX1_beatsTill_29 ?_
        refine lv_istore_n (lv' := [(2, .int (nI (w + (M 37 a)))), (4, .int (nI k)), (3, .int (nI a)), (0, .ref (ad 23)), (1, .int (nI t))]) hx hb dX1_beatsTill_30 rfl hl (by decide) rfl (fun ls hl => ?_)
        refine lv_aload_n hx hb dX1_beatsTill_31 rfl (lv_at hl 3 rfl) ?_
        refine lv_iload_n hx hb dX1_beatsTill_32 rfl (lv_at hl 2 rfl) ?_
        refine x_callVI CF hK hP hS hA hl (As := [.int (nI a)]) (rest := []) (c_oneBehind hI M J hw a (by omega)) kw_X1_oneBehind wd2_130 (by decide) dX_23 rfl rfl ⟨Nat.le_of_ble_eq_true rfl, Nat.le_of_ble_eq_true rfl⟩ ⟨Nat.le_refl _, Nat.le_refl _⟩ (Nat.le_of_ble_eq_true rfl) dX1_beatsTill_33 (fun H locs hP hS => ?_)
        refine lv_istore_n (lv' := [(3, .int (nI (bhd (M 23 5) a))), (2, .int (nI (w + (M 37 a)))), (4, .int (nI k)), (0, .ref (ad 23)), (1, .int (nI t))]) hx hb dX1_beatsTill_36 rfl hl (by decide) rfl (fun ls hl => ?_)
        refine lv_iinc (v := nI (k + 1)) (lv' := [(4, .int (nI (k + 1))), (3, .int (nI (bhd (M 23 5) a))), (2, .int (nI (w + (M 37 a)))), (0, .ref (ad 23)), (1, .int (nI t))]) hx hb dX1_beatsTill_37 hl (k := 2) rfl (n_inc k 1) (by decide) rfl (fun ls hl => ?_)
        refine lv_goto (tgt := 10) hx hb dX1_beatsTill_40 (by decide) ?_
        have hl0 : lv_has ls 5 [(4, .int (nI (k + 1))), (3, .int (nI (bhd (M 23 5) a))), (2, .int (nI (w + M 37 a))), (0, .ref (ad 23)), (1, .int (nI t))] := by rw [(show nI (w + M 37 a) = nI (w + (M 37 a)) from by first | rfl | (congr 1; omega) | (refine congrArg nI ?_; first | rfl | (exact (setN_t (decide_eq_true (by omega)))) | (exact (setN_f (decide_eq_false (by omega))))))]; exact lv_sub hl [0, 1, 2, 3, 4] rfl
        exact ih10 (k + 1) (bhd (M 23 5) a) (w + M 37 a) (by omega) (b1) (by rw [if_neg (by omega)] at hR; omega) _ _ _ (hP) hS hl0
  have hl0 : lv_has ls 5 [(4, .int (nI 0)), (3, .int (nI (M 23 6))), (2, .int (nI 0)), (0, .ref (ad 23)), (1, .int (nI t))] := lv_sub hl [0, 1, 2, 3, 4] rfl
  exact L10 12 0 (M 23 6) 0 (by omega) (by omega) (by omega) _ _ _ (hP) hS hl0
set_option maxHeartbeats 4000000 in
set_option maxRecDepth 100000 in
theorem c_angleAfter {l : Launch} {g : gE} {ad : Nat → Nat} (hI : g_inj ad 55) (M : gMem) (J : gMeL) (hw : wfX M) (b : Nat) (hb9 : b ≤ 99999) : CI l g ad dsX 55 yX1_angleAfter cX1_angleAfter 6 (some .int) 3 [.ref (ad 23), .int (nI b)] M J (nI (aftX M b)) M J := by
  refine CI.of (plainFor_of_name (by decide)) (Nat.le_of_ble_eq_true rfl) (fun p9 e9 s9 m9 args9 below9 meth9 c9 CF hK hr9 hlk9 hP hS ls hl => ?_)
  have hx := CF.1
  have hb := CF.2.1
  have hA : ∀ q, g_A ad 55 q → g_A ad 55 q := fun _ h => h
  have hl : lv_has ls 6 [(0, .ref (ad 23)), (1, .int (nI b))] := hl
  have hat := hw.at
  refine lv_iconst (v := nI 0) hx hb dX1_angleAfter_0 (by decide) ?_
  refine lv_istore_n (lv' := [(2, .int (nI 0)), (0, .ref (ad 23)), (1, .int (nI b))]) hx hb dX1_angleAfter_1 rfl hl (by decide) rfl (fun ls hl => ?_)
  refine lv_iconst (v := nI 0) hx hb dX1_angleAfter_2 (by decide) ?_
  refine lv_istore_n (lv' := [(3, .int (nI 0)), (2, .int (nI 0)), (0, .ref (ad 23)), (1, .int (nI b))]) hx hb dX1_angleAfter_3 rfl hl (by decide) rfl (fun ls hl => ?_)
  have L4 : ∀ (d4 : Nat) (i : Nat), (i + d4 = 12) → (∀ (H : Heap) (locs : List Loc) (ls : Array Slot), g_P g ad dsX 55 M J H → va_S (g_A ad 55) s9.heap H locs → lv_has ls 6 [(3, .int (nI i)), (2, .int (nI (sumN (M 37) i))), (0, .ref (ad 23)), (1, .int (nI b))] → W p9 l e9 (g_rm 3) s9 m9 args9 below9 meth9 c9 H locs 0 0 (MQ below9 (va_Qi (fun r' (_ : Unit) => r' = (nI (aftX M b))) (fun _ t => g_P g ad dsX 55 M J t.heap) (g_A ad 55)) args9 s9 0 0 (g_A ad 55)) (F0 m9 4 ls [])) := by
    intro d4
    induction d4 with
    | zero =>
      intro i hi H locs ls hP hS hl
      have e12 : i = 12 := by omega
      have s1 := sumN_ge (f := M 37) (n := i) (fun k hk => (hw.beat (show k < 12 by omega)).1)
      have s2 := sumN_le (f := M 37) (n := i) (B := 99) (fun k hk => (hw.beat (show k < 12 by omega)).2)
      refine lv_iload_n hx hb dX1_angleAfter_4 rfl (lv_at hl 0 rfl) ?_
      refine lv_bipush (v := nI 12) hx hb dX1_angleAfter_5 (by decide) ?_
      refine x_zge (u := (i : Nat)) (v := (12 : Int)) (tgt := 25) hx hb (nI_toInt (by omega)) (rfl) dX1_angleAfter_7 (by decide) (fun h_1 => ?_) (fun h_1 => (by omega : False).elim)
      refine lv_iload_n hx hb dX1_angleAfter_25 rfl (lv_at hl 1 rfl) ?_
      refine x_yle (u := (sumN (M 37) i : Nat)) (tgt := 35) hx hb (nI_toInt (by omega)) dX1_angleAfter_26 (by decide) (fun h_2 => (by omega : False).elim) (fun h_2 => ?_)
      refine lv_iload_n hx hb dX1_angleAfter_29 rfl (lv_at hl 3 rfl) ?_
      refine lv_iload_n hx hb dX1_angleAfter_30 rfl (lv_at hl 1 rfl) ?_
      refine x_irem hx hb (by omega) (by omega) (by omega) dX1_angleAfter_31 ?_
      refine lv_goto (tgt := 36) hx hb dX1_angleAfter_32 (by decide) ?_
      refine lv_istore_n (lv' := [(3, .int (nI (b % (sumN (M 37) i)))), (2, .int (nI (sumN (M 37) i))), (0, .ref (ad 23)), (1, .int (nI b))]) hx hb dX1_angleAfter_36 rfl hl (by decide) rfl (fun ls hl => ?_)
      refine lv_aload_n hx hb dX1_angleAfter_37 rfl (lv_at hl 2 rfl) ?_
      refine x_geti CF hK hP 23 (by decide) dX_23 rfl uX1 6 (by decide) rfl wd1_79 rfl dX1_angleAfter_38 ?_
      refine lv_istore (lv' := [(4, .int (nI (M 23 6))), (3, .int (nI (b % (sumN (M 37) i)))), (2, .int (nI (sumN (M 37) i))), (0, .ref (ad 23)), (1, .int (nI b))]) hx hb dX1_angleAfter_41 hl (by decide) rfl (fun ls hl => ?_)
      refine lv_iconst (v := nI 0) hx hb dX1_angleAfter_43 (by decide) ?_
      refine lv_istore (lv' := [(5, .int (nI 0)), (4, .int (nI (M 23 6))), (3, .int (nI (b % (sumN (M 37) i)))), (2, .int (nI (sumN (M 37) i))), (0, .ref (ad 23)), (1, .int (nI b))]) hx hb dX1_angleAfter_44 hl (by decide) rfl (fun ls hl => ?_)
      have L46 : ∀ (d46 : Nat) (k : Nat) (a : Nat) (w : Nat), (k + d46 = 12) → (a < 12) → (w < 100000) → (aft (M 37) (M 23 5) w a d46 = aft (M 37) (M 23 5) (b % sumN (M 37) 12) (M 23 6) 12) → (∀ (H : Heap) (locs : List Loc) (ls : Array Slot), g_P g ad dsX 55 M J H → va_S (g_A ad 55) s9.heap H locs → lv_has ls 6 [(5, .int (nI k)), (4, .int (nI a)), (3, .int (nI w)), (0, .ref (ad 23)), (1, .int (nI b))] → W p9 l e9 (g_rm 3) s9 m9 args9 below9 meth9 c9 H locs 0 0 (MQ below9 (va_Qi (fun r' (_ : Unit) => r' = (nI (aftX M b))) (fun _ t => g_P g ad dsX 55 M J t.heap) (g_A ad 55)) args9 s9 0 0 (g_A ad 55)) (F0 m9 46 ls [])) := by
        intro d46
        induction d46 with
        | zero =>
          intro k a w hk ha hw2 hR H locs ls hP hS hl
          refine lv_iload hx hb dX1_angleAfter_46 (lv_at hl 0 rfl) ?_
          refine lv_bipush (v := nI 12) hx hb dX1_angleAfter_48 (by decide) ?_
          refine x_zge (u := (k : Nat)) (v := (12 : Int)) (tgt := 88) hx hb (nI_toInt (by omega)) (rfl) dX1_angleAfter_50 (by decide) (fun h_3 => ?_) (fun h_3 => (by omega : False).elim)
          refine lv_iload hx hb dX1_angleAfter_88 (lv_at hl 1 rfl) ?_
          exact x_reti hx hb hr9 hlk9 hS hP (congrArg nI hR) dX1_angleAfter_90
        | succ d46 ih46 =>
          intro k a w hk ha hw2 hR H locs ls hP hS hl
          have b1 := bhd_lt (M 23 5) a
          have b2 := hw.beat ha
          simp only [aft] at hR
          refine lv_iload hx hb dX1_angleAfter_46 (lv_at hl 0 rfl) ?_
          refine lv_bipush (v := nI 12) hx hb dX1_angleAfter_48 (by decide) ?_
          refine x_zge (u := (k : Nat)) (v := (12 : Int)) (tgt := 88) hx hb (nI_toInt (by omega)) (rfl) dX1_angleAfter_50 (by decide) (fun h_4 => (by omega : False).elim) (fun h_4 => ?_)
          refine lv_iload_n hx hb dX1_angleAfter_53 rfl (lv_at hl 2 rfl) ?_
          refine lv_aload_n hx hb dX1_angleAfter_54 rfl (lv_at hl 3 rfl) ?_
          refine x_getr CF hK hP 23 (by decide) dX_23 rfl uX1 8 (by decide) (j := 37) rfl wd1_83 rfl dX1_angleAfter_55 ?_
          refine lv_iload hx hb dX1_angleAfter_58 (lv_at hl 1 rfl) ?_
          refine x_iald CF hK hP 37 (by decide) dX_37 a (by omega) (by decide) dX1_angleAfter_60 ?_
          refine x_zlt (u := (w : Nat)) (v := (M 37 a : Nat)) (tgt := 88) hx hb (nI_toInt (by omega)) (nI_toInt (by omega)) dX1_angleAfter_61 (by decide) (fun h_5 => ?_) (fun h_5 => ?_)
          · refine lv_iload hx hb dX1_angleAfter_88 (lv_at hl 1 rfl) ?_
            exact x_reti hx hb hr9 hlk9 hS hP (congrArg nI (by rw [if_pos (by omega)] at hR; exact hR)) dX1_angleAfter_90
          · refine lv_iload_n hx hb dX1_angleAfter_64 rfl (lv_at hl 2 rfl) ?_
            refine lv_aload_n hx hb dX1_angleAfter_65 rfl (lv_at hl 3 rfl) ?_
            refine x_getr CF hK hP 23 (by decide) dX_23 rfl uX1 8 (by decide) (j := 37) rfl wd1_83 rfl dX1_angleAfter_66 ?_
            refine lv_iload hx hb dX1_angleAfter_69 (lv_at hl 1 rfl) ?_
            refine x_iald CF hK hP 37 (by decide) dX_37 a (by omega) (by decide) dX1_angleAfter_71 ?_
            refine x_isub hx hb (by omega) dX1_angleAfter_72 ?_
            refine lv_istore_n (lv' := [(3, .int (nI (w - (M 37 a)))), (5, .int (nI k)), (4, .int (nI a)), (0, .ref (ad 23)), (1, .int (nI b))]) hx hb dX1_angleAfter_73 rfl hl (by decide) rfl (fun ls hl => ?_)
            refine lv_aload_n hx hb dX1_angleAfter_74 rfl (lv_at hl 3 rfl) ?_
            refine lv_iload hx hb dX1_angleAfter_75 (lv_at hl 2 rfl) ?_
            refine x_callVI CF hK hP hS hA hl (As := [.int (nI a)]) (rest := []) (c_oneBehind hI M J hw a (by omega)) kw_X1_oneBehind wd2_130 (by decide) dX_23 rfl rfl ⟨Nat.le_of_ble_eq_true rfl, Nat.le_of_ble_eq_true rfl⟩ ⟨Nat.le_refl _, Nat.le_refl _⟩ (Nat.le_of_ble_eq_true rfl) dX1_angleAfter_77 (fun H locs hP hS => ?_)
            refine lv_istore (lv' := [(4, .int (nI (bhd (M 23 5) a))), (3, .int (nI (w - (M 37 a)))), (5, .int (nI k)), (0, .ref (ad 23)), (1, .int (nI b))]) hx hb dX1_angleAfter_80 hl (by decide) rfl (fun ls hl => ?_)
            refine lv_iinc (v := nI (k + 1)) (lv' := [(5, .int (nI (k + 1))), (4, .int (nI (bhd (M 23 5) a))), (3, .int (nI (w - (M 37 a)))), (0, .ref (ad 23)), (1, .int (nI b))]) hx hb dX1_angleAfter_82 hl (k := 2) rfl (n_inc k 1) (by decide) rfl (fun ls hl => ?_)
            refine lv_goto (tgt := 46) hx hb dX1_angleAfter_85 (by decide) ?_
            have hl0 : lv_has ls 6 [(5, .int (nI (k + 1))), (4, .int (nI (bhd (M 23 5) a))), (3, .int (nI (w - M 37 a))), (0, .ref (ad 23)), (1, .int (nI b))] := by rw [(show nI (w - M 37 a) = nI (w - (M 37 a)) from by first | rfl | (congr 1; omega) | (refine congrArg nI ?_; first | rfl | (exact (setN_t (decide_eq_true (by omega)))) | (exact (setN_f (decide_eq_false (by omega))))))]; exact lv_sub hl [0, 1, 2, 3, 4] rfl
            exact ih46 (k + 1) (bhd (M 23 5) a) (w - M 37 a) (by omega) (b1) (by omega) (by rw [if_neg (by omega)] at hR; exact hR) _ _ _ (hP) hS hl0
      have hl0 : lv_has ls 6 [(5, .int (nI 0)), (4, .int (nI (M 23 6))), (3, .int (nI (b % sumN (M 37) i))), (0, .ref (ad 23)), (1, .int (nI b))] := by rw [(show nI (b % sumN (M 37) i) = nI (b % (sumN (M 37) i)) from by first | rfl | (congr 1; omega) | (refine congrArg nI ?_; first | rfl | (exact (setN_t (decide_eq_true (by omega)))) | (exact (setN_f (decide_eq_false (by omega))))))]; exact lv_sub hl [0, 1, 2, 4, 5] rfl
      exact L46 12 0 (M 23 6) (b % sumN (M 37) i) (by omega) (by omega) (Nat.lt_of_le_of_lt (Nat.mod_le _ _) (by omega)) (by rw [e12]) _ _ _ (hP) hS hl0
    | succ d4 ih4 =>
      intro i hi H locs ls hP hS hl
      refine lv_iload_n hx hb dX1_angleAfter_4 rfl (lv_at hl 0 rfl) ?_
      refine lv_bipush (v := nI 12) hx hb dX1_angleAfter_5 (by decide) ?_
      refine x_zge (u := (i : Nat)) (v := (12 : Int)) (tgt := 25) hx hb (nI_toInt (by omega)) (rfl) dX1_angleAfter_7 (by decide) (fun h_6 => (by omega : False).elim) (fun h_6 => ?_)
      refine lv_iload_n hx hb dX1_angleAfter_10 rfl (lv_at hl 1 rfl) ?_
      refine lv_aload_n hx hb dX1_angleAfter_11 rfl (lv_at hl 2 rfl) ?_
      refine x_getr CF hK hP 23 (by decide) dX_23 rfl uX1 8 (by decide) (j := 37) rfl wd1_83 rfl dX1_angleAfter_12 ?_
      refine lv_iload_n hx hb dX1_angleAfter_15 rfl (lv_at hl 0 rfl) ?_
      refine x_iald CF hK hP 37 (by decide) dX_37 i (by omega) (by decide) dX1_angleAfter_16 ?_
      refine x_iadd hx hb dX1_angleAfter_17 ?_
      refine lv_istore_n (lv' := [(2, .int (nI ((sumN (M 37) i) + (M 37 i)))), (3, .int (nI i)), (0, .ref (ad 23)), (1, .int (nI b))]) hx hb dX1_angleAfter_18 rfl hl (by decide) rfl (fun ls hl => ?_)
      refine lv_iinc (v := nI (i + 1)) (lv' := [(3, .int (nI (i + 1))), (2, .int (nI ((sumN (M 37) i) + (M 37 i)))), (0, .ref (ad 23)), (1, .int (nI b))]) hx hb dX1_angleAfter_19 hl (k := 1) rfl (n_inc i 1) (by decide) rfl (fun ls hl => ?_)
      refine lv_goto (tgt := 4) hx hb dX1_angleAfter_22 (by decide) ?_
      have hl0 : lv_has ls 6 [(3, .int (nI (i + 1))), (2, .int (nI (sumN (M 37) (i + 1)))), (0, .ref (ad 23)), (1, .int (nI b))] := by rw [(show nI (sumN (M 37) (i + 1)) = nI ((sumN (M 37) i) + (M 37 i)) from rfl)]; exact lv_sub hl [0, 1, 2, 3] rfl
      exact ih4 (i + 1) (by omega) _ _ _ (hP) hS hl0
  have hl0 : lv_has ls 6 [(3, .int (nI 0)), (2, .int (nI (sumN (M 37) 0))), (0, .ref (ad 23)), (1, .int (nI b))] := by rw [(show nI (sumN (M 37) 0) = nI 0 from rfl)]; exact lv_sub hl [0, 1, 2, 3] rfl
  exact L4 12 0 (by omega) _ _ _ (hP) hS hl0
end
section
/-! array copies, lengths, and the algebra of memory -/
def gcpy (M : gMem) (i sp j dp n : Nat) : gMem := fun a b => if a = j ∧ dp ≤ b ∧ b < dp + n then M i (sp + (b - dp)) else M a b
def gcpL (J : gMeL) (i sp j dp n : Nat) : gMeL := fun a b => if a = j ∧ dp ≤ b ∧ b < dp + n then J i (sp + (b - dp)) else J a b
section XM
variable {p : Program} {l : Launch} {e : Env} {R : Room} {s : State} {m : MethodId} {args : Array Value} {below : List Frame} {meth : Method} {c : Code} {H : Heap} {locs : List Loc} {cells slots : Nat} {Q : State → Prop}
variable {cc : ByteArray} {pc nL : Nat} {ls : Array Slot} {rest : List Value} {g : gE} {ad : Nat → Nat} {ds : gDs} {n : Nat} {M M' : gMem} {J J' : gMeL} {A : Nat → Prop} {H0 : Heap}
variable {y0 : MethodName} {b0 : ByteArray} {mL0 : Nat} {r0 : Option FieldType} {own : String} {index : Nat} {lv : List (Nat × Value)}
theorem x_acpyi (CF : CallFix p m c cc nL s args (g_ws y0 b0 mL0 r0) own) (hK : g_K g s) (hI : g_inj ad n) (hA : ∀ q, g_A ad n q → A q) (hP : g_P g ad ds n M J H) (hS : va_S A H0 H locs) (hl : lv_has ls nL lv) (i : Nat) (hi : i < n) {N : Nat} {fl : List (Option Nat)} (hd : ds i = (1, N, fl)) (j : Nat) (hj : j < n) {N' : Nat} {fl' : List (Option Nat)} (hd' : ds j = (1, N', fl')) (sp dp k : Nat) (hlink : Cond.methodLink own index arraycopyName ∈ Al) (h4 : sp + k ≤ N) (h5 : dp + k ≤ N') (hN : N < 2 ^ 31) (hN' : N' < 2 ^ 31) (hfr : 1 ≤ R.frames) (hlo : (rest.map fun v => v.category).sum + (nativeFrameWords "java/lang/System" "arraycopy" 5 + 11) ≤ R.locals) (hdg : decode cc pc = .ok (.invokestatic index, 3))
    (kk : ∀ (H1 : Heap) (locs1 : List Loc), g_P g ad ds n (gcpy M i sp j dp k) J H1 → va_S A H0 H1 locs1 → W p l e R s m args below meth c H1 locs1 cells slots Q (F0 m (pc + 3) ls rest)) : W p l e R s m args below meth c H locs cells slots Q (F0 m pc ls (.int (nI k) :: .int (nI dp) :: .ref (ad j) :: .int (nI sp) :: .ref (ad i) :: rest)) := by
  obtain ⟨hx, hb, hml, hown, hts⟩ := CF
  have ok : ∀ w ∈ Al, w.before args s = true := fun w h => hts w (List.mem_cons_of_mem _ h)
  have hE : g_E g ad ds M J i = .inl (g.2 0, N, .inl (fun k => nI (M i k))) := by simp [g_E, g_cell, hd]
  have hE' : g_E g ad ds M J j = .inl (g.2 0, N', .inl (fun k => nI (M j k))) := by simp [g_E, g_cell, hd']
  refine va_copyi hx hb (hml.trans hl.1.symm) hown (ok _ hlink) (ok _ wd1_233) (ok _ wd1_232) (ok _ wd1_9) hK.1 hP ((g_wl_D _ hI).weaken (fun _ q _ h => hA q.1 h)) hS i j 0 0 (g_wl_at hi hE) (g_wl_at hj hE') rfl rfl rfl (nI_pos (by omega)) (nI_pos (by omega)) (nI_pos (by omega)) (by rw [nI_clamp (by omega), nI_clamp (by omega)]; exact h4) (by rw [nI_clamp (by omega), nI_clamp (by omega)]; exact h5) (fun _ _ => rfl) hfr hlo hdg (fun H1 locs1 hP1 _ hS1 => kk H1 locs1 ?_ hS1)
  rw [nI_clamp (by omega), nI_clamp (by omega), nI_clamp (by omega)] at hP1
  rw [g_wl_set (E' := g_E g ad ds (gcpy M i sp j dp k) J) (i := j)] at hP1
  · exact hP1
  · simp only [g_E, g_cell, hd']
    congr 4
    funext q
    simp only [va_cpy, gcpy]
    by_cases hq : dp ≤ q ∧ q < dp + k <;> simp [hq]
  · intro x hne
    simp only [g_E]
    congr 1
    funext b
    simp [gcpy, hne]
theorem x_acpyl (CF : CallFix p m c cc nL s args (g_ws y0 b0 mL0 r0) own) (hK : g_K g s) (hI : g_inj ad n) (hA : ∀ q, g_A ad n q → A q) (hP : g_P g ad ds n M J H) (hS : va_S A H0 H locs) (hl : lv_has ls nL lv) (i : Nat) (hi : i < n) {N : Nat} {fl : List (Option Nat)} (hd : ds i = (2, N, fl)) (j : Nat) (hj : j < n) {N' : Nat} {fl' : List (Option Nat)} (hd' : ds j = (2, N', fl')) (sp dp k : Nat) (hlink : Cond.methodLink own index arraycopyName ∈ Al) (h4 : sp + k ≤ N) (h5 : dp + k ≤ N') (hN : N < 2 ^ 31) (hN' : N' < 2 ^ 31) (hfr : 1 ≤ R.frames) (hlo : (rest.map fun v => v.category).sum + (nativeFrameWords "java/lang/System" "arraycopy" 5 + 11) ≤ R.locals) (hdg : decode cc pc = .ok (.invokestatic index, 3))
    (kk : ∀ (H1 : Heap) (locs1 : List Loc), g_P g ad ds n M (gcpL J i sp j dp k) H1 → va_S A H0 H1 locs1 → W p l e R s m args below meth c H1 locs1 cells slots Q (F0 m (pc + 3) ls rest)) : W p l e R s m args below meth c H locs cells slots Q (F0 m pc ls (.int (nI k) :: .int (nI dp) :: .ref (ad j) :: .int (nI sp) :: .ref (ad i) :: rest)) := by
  obtain ⟨hx, hb, hml, hown, hts⟩ := CF
  have ok : ∀ w ∈ Al, w.before args s = true := fun w h => hts w (List.mem_cons_of_mem _ h)
  have hE : g_E g ad ds M J i = .inl (g.2 1, N, .inr (.inl (J i))) := by simp [g_E, g_cell, hd]
  have hE' : g_E g ad ds M J j = .inl (g.2 1, N', .inr (.inl (J j))) := by simp [g_E, g_cell, hd']
  refine va_copyl hx hb (hml.trans hl.1.symm) hown (ok _ hlink) (ok _ wd1_233) (ok _ wd1_232) (ok _ wd1_9) hK.1 hP ((g_wl_D _ hI).weaken (fun _ q _ h => hA q.1 h)) hS i j 1 1 (g_wl_at hi hE) (g_wl_at hj hE') rfl rfl rfl (nI_pos (by omega)) (nI_pos (by omega)) (nI_pos (by omega)) (by rw [nI_clamp (by omega), nI_clamp (by omega)]; exact h4) (by rw [nI_clamp (by omega), nI_clamp (by omega)]; exact h5) (fun _ _ => rfl) hfr hlo hdg (fun H1 locs1 hP1 _ hS1 => kk H1 locs1 ?_ hS1)
  rw [nI_clamp (by omega), nI_clamp (by omega), nI_clamp (by omega)] at hP1
  rw [g_wl_set (E' := g_E g ad ds M (gcpL J i sp j dp k)) (i := j)] at hP1
  · exact hP1
  · simp only [g_E, g_cell, hd']
    congr 5
    funext q
    simp only [va_cpy, gcpL]
    by_cases hq : dp ≤ q ∧ q < dp + k <;> simp [hq]
  · intro x hne
    simp only [g_E]
    congr 1
    funext b
    simp [gcpL, hne]
theorem x_aleni (CF : CallFix p m c cc nL s args (g_ws y0 b0 mL0 r0) own) (hK : g_K g s) (hP : g_P g ad ds n M J H) (i : Nat) (hi : i < n) {N : Nat} {fl : List (Option Nat)} (hd : ds i = (1, N, fl)) (hdg : decode cc pc = .ok (.arraylength, 1))
    (kk : W p l e R s m args below meth c H locs cells slots Q (F0 m (pc + 1) ls (.int (nI N) :: rest))) : W p l e R s m args below meth c H locs cells slots Q (F0 m pc ls (.ref (ad i) :: rest)) := by
  have hE : g_E g ad ds M J i = .inl (g.2 0, N, .inl (fun k => nI (M i k))) := by simp [g_E, g_cell, hd]
  exact va_alen CF.1 CF.2.1 hK.1 hP i 0 (g_wl_at hi hE) rfl rfl hdg kk
theorem x_alenl (CF : CallFix p m c cc nL s args (g_ws y0 b0 mL0 r0) own) (hK : g_K g s) (hP : g_P g ad ds n M J H) (i : Nat) (hi : i < n) {N : Nat} {fl : List (Option Nat)} (hd : ds i = (2, N, fl)) (hdg : decode cc pc = .ok (.arraylength, 1))
    (kk : W p l e R s m args below meth c H locs cells slots Q (F0 m (pc + 1) ls (.int (nI N) :: rest))) : W p l e R s m args below meth c H locs cells slots Q (F0 m pc ls (.ref (ad i) :: rest)) := by
  have hE : g_E g ad ds M J i = .inl (g.2 1, N, .inr (.inl (J i))) := by simp [g_E, g_cell, hd]
  exact va_alen CF.1 CF.2.1 hK.1 hP i 1 (g_wl_at hi hE) rfl rfl hdg kk
end XM
theorem u2_eq (M : gMem) (i k v a b : Nat) : u2 M i k v a b = if a = i ∧ b = k then v else M a b := rfl
theorem u2_tw (M : gMem) (i k x y : Nat) : u2 (u2 M i k x) i k y = u2 M i k y := by funext a b; simp only [u2]; split <;> simp_all
theorem u2_sw (M : gMem) {i k j q : Nat} (h : ¬ (i = j ∧ k = q)) (x y : Nat) : u2 (u2 M i k x) j q y = u2 (u2 M j q y) i k x := by
  funext a b
  simp only [u2]
  by_cases h1 : a = i ∧ b = k <;> by_cases h2 : a = j ∧ b = q
  · exact absurd ⟨h1.1.symm.trans h2.1, h1.2.symm.trans h2.2⟩ h
  · rw [if_neg h2, if_pos h1, if_pos h1]
  · rw [if_pos h2, if_neg h1, if_pos h2]
  · rw [if_neg h2, if_neg h1, if_neg h1, if_neg h2]
theorem u2_id {M : gMem} {i k x : Nat} (h : M i k = x) : u2 M i k x = M := by
  funext a b; simp only [u2]; split
  · rename_i e; rw [e.1, e.2, h]
  · rfl
/-- the row i, set by a function on its first n places -/
def rowN (M : gMem) (i n : Nat) (f : Nat → Nat) : gMem := fun a b => if a = i ∧ b < n then f b else M a b
theorem rowN_0 (M : gMem) (i : Nat) (f : Nat → Nat) : rowN M i 0 f = M := by funext a b; simp [rowN]
theorem rowN_s {M : gMem} {i n : Nat} {f : Nat → Nat} {x : Nat} (h : f n = x) : u2 (rowN M i n f) i n x = rowN M i (n + 1) f := by
  funext a b
  simp only [u2, rowN]
  by_cases h1 : a = i
  · by_cases h2 : b = n
    · simp [h1, h2, h]
    · simp only [h1, h2, true_and, and_false, if_false]
      by_cases h3 : b < n
      · simp [h3, Nat.lt_succ_of_lt h3]
      · simp [h3, show ¬ b < n + 1 by omega]
  · simp [h1]
theorem rowN_out {M : gMem} {i n : Nat} {f : Nat → Nat} {j : Nat} (h : j ≠ i) : rowN M i n f j = M j := by funext b; simp [rowN, h]
theorem rowN_in {M : gMem} {i n : Nat} {f : Nat → Nat} {k : Nat} (h : k < n) : rowN M i n f i k = f k := by simp [rowN, h]
theorem rowN_hi {M : gMem} {i n : Nat} {f : Nat → Nat} {k : Nat} (h : n ≤ k) : rowN M i n f i k = M i k := by simp [rowN, show ¬ k < n by omega]
def rowL (J : gMeL) (i n : Nat) (f : Nat → Int64) : gMeL := fun a b => if a = i ∧ b < n then f b else J a b
theorem rowL_0 (J : gMeL) (i : Nat) (f : Nat → Int64) : rowL J i 0 f = J := by funext a b; simp [rowL]
theorem rowL_s {J : gMeL} {i n : Nat} {f : Nat → Int64} {x : Int64} (h : f n = x) : u2L (rowL J i n f) i n x = rowL J i (n + 1) f := by
  funext a b
  simp only [u2L, rowL]
  by_cases h1 : a = i
  · by_cases h2 : b = n
    · simp [h1, h2, h]
    · simp only [h1, h2, true_and, and_false, if_false]
      by_cases h3 : b < n
      · simp [h3, Nat.lt_succ_of_lt h3]
      · simp [h3, show ¬ b < n + 1 by omega]
  · simp [h1]
def w45 (M : gMem) (i x y : Nat) : gMem := u2 (u2 M i 4 x) i 5 y
theorem w45_4 (M : gMem) (i x y z : Nat) : u2 (w45 M i x y) i 4 z = w45 M i z y := by
  unfold w45; rw [u2_sw _ (by omega), u2_tw]
theorem w45_5 (M : gMem) (i x y z : Nat) : u2 (w45 M i x y) i 5 z = w45 M i x z := by
  unfold w45; rw [u2_tw]
theorem w45_r4 (M : gMem) (i x y : Nat) : w45 M i x y i 4 = x := by simp [w45, u2]
theorem w45_r5 (M : gMem) (i x y : Nat) : w45 M i x y i 5 = y := by simp [w45, u2]
theorem w45_row {M : gMem} {i x y j : Nat} (h : j ≠ i) : w45 M i x y j = M j := by unfold w45; rw [u2_row h, u2_row h]
/-- six fields of one figure become another's -/
def cpf (M : gMem) (i j : Nat) : gMem := fun a b => if a = i ∧ b < 6 then M j b else M a b
theorem cpf_ok {M : gMem} {i j : Nat} (h : j ≠ i) : u2 (u2 (u2 (u2 (u2 (u2 M i 0 (M j 0)) i 1 (M j 1)) i 2 (M j 2)) i 3 (M j 3)) i 4 (M j 4)) i 5 (M j 5) = cpf M i j := by
  funext a b
  simp only [u2, cpf]
  by_cases h1 : a = i
  · subst h1
    rcases (show b = 0 ∨ b = 1 ∨ b = 2 ∨ b = 3 ∨ b = 4 ∨ b = 5 ∨ 6 ≤ b by omega) with rfl | rfl | rfl | rfl | rfl | rfl | hb <;> first | (simp; done) | (repeat rw [if_neg (by omega)])
  · simp [h1]
end
section
/-! bytes of a long, the tape, reading signs -/
def byt (w : Int64) (k : Nat) : Nat := (w.toBitVec.toNat >>> (8 * k)) % 256
theorem byt_lt (w : Int64) (k : Nat) : byt w k < 256 := Nat.mod_lt _ (by decide)
theorem n_c8 : ∀ k, k < 8 → ((nI (8 * k)).toInt64.toUInt64 &&& Int64.toUInt64 63) = UInt64.ofNat (8 * k) := by decide +kernel
theorem n_c8b : ∀ k, k < 8 → (((nI (8 * k)).toInt64 &&& 63).toBitVec.smod 64) = BitVec.ofNat 64 (8 * k) := by decide +kernel
theorem n_byt (w : Int64) {k : Nat} (hk : k < 8) : (w.toUInt64 >>> ((nI (8 * k)).toInt64.toUInt64 &&& Int64.toUInt64 63)).toInt64.toInt32 &&& nI 255 = nI (byt w k) := by
  rw [n_c8 k hk]
  apply n_eqv
  rw [Int32.toBitVec_and, BitVec.toNat_and]
  have e1 : ((w.toUInt64 >>> UInt64.ofNat (8 * k)).toInt64.toInt32).toBitVec.toNat = (w.toBitVec.toNat >>> (8 * k)) % 2 ^ 32 := by
    have h8 : (UInt64.ofNat (8 * k)).toNat = 8 * k := by rw [UInt64.toNat_ofNat']; omega
    rw [Int64.toBitVec_toInt32, BitVec.signExtend_eq_setWidth_of_le _ (by decide), BitVec.toNat_setWidth]
    congr 1
    show (w.toUInt64 >>> UInt64.ofNat (8 * k)).toBitVec.toNat = _
    have : (w.toUInt64 >>> UInt64.ofNat (8 * k)).toNat = w.toUInt64.toNat >>> ((UInt64.ofNat (8 * k)).toNat % 64) := UInt64.toNat_shiftRight ..
    rw [h8, Nat.mod_eq_of_lt (by omega : 8 * k < 64)] at this
    exact this
  rw [e1, n_tn]
  unfold byt
  rw [show 255 % 2 ^ 32 = 2 ^ 8 - 1 by decide, Nat.and_two_pow_sub_one_eq_mod]
  omega
theorem n_dec (n k : Nat) : nI n - nI k + Int32.ofInt (-1) = nI n - nI (k + 1) := by
  have e : Int32.ofInt (-1) = -(nI 1) := by decide
  rw [e, ← n_add]
  rw [Int32.sub_eq_add_neg, Int32.sub_eq_add_neg, Int32.neg_add, Int32.sub_eq_add_neg, Int32.add_assoc]
theorem z_sub {a n : Nat} (ha : a < 2 ^ 30) (hn : n < 2 ^ 30) : (nI a - nI n).toInt = (a : Int) - n := pk_sub_toInt ha hn
/-- j bytes of n typed, the highest first, behind those that are there -/
def apM (M : gMem) (w : Int64) (n j : Nat) : gMem := fun a b => if a = 1 ∧ b = 2 then M 1 2 + j else if a = 2 ∧ M 1 2 ≤ b ∧ b < M 1 2 + j then byt w (n - (b - M 1 2 + 1)) else M a b
theorem apM_0 (M : gMem) (w : Int64) (n : Nat) : apM M w n 0 = M := by
  funext a b
  simp only [apM, Nat.add_zero]
  split
  · rename_i h; rw [h.1, h.2]
  · rw [if_neg (by omega)]
theorem apM_s {M : gMem} {w : Int64} {n j : Nat} : u2 (u2 (apM M w n j) 2 (M 1 2 + j) (byt w (n - (j + 1)))) 1 2 (M 1 2 + j + 1) = apM M w n (j + 1) := by
  funext a b
  simp only [u2, apM]
  by_cases h1 : a = 1 ∧ b = 2
  · rw [if_pos h1, if_pos h1, Nat.add_assoc]
  · rw [if_neg h1, if_neg h1, if_neg h1]
    by_cases h2 : a = 2 ∧ b = M 1 2 + j
    · rw [if_pos h2, if_pos (by omega)]; congr 2; omega
    · rw [if_neg h2]
      by_cases h3 : a = 2 ∧ M 1 2 ≤ b ∧ b < M 1 2 + j
      · rw [if_pos h3, if_pos (by omega)]
      · rw [if_neg h3, if_neg (by omega)]
def okd (b : Nat) : Bool := decide (48 ≤ b ∧ b ≤ 57)
def okw (b : Nat) : Bool := decide (b = 46 ∨ b = 100 ∨ b = 117)
/-- reading: the place of the fault, if there is one -/
def rdF (b : Nat → Nat) (ok : Nat → Bool) (len : Nat) : Nat → Nat → Nat → Option Nat
  | _, found, 0 => if found < 12 then some len else none
  | place, found, d + 1 => if b place = 32 then rdF b ok len (place + 1) found d else if ok (b place) = true ∧ found < 12 then rdF b ok len (place + 1) (found + 1) d else some place
def rdS (b : Nat → Nat) (ok : Nat → Bool) (sg : Nat → Nat) : Nat → Nat → Nat → (Nat → Nat) → (Nat → Nat)
  | _, _, 0, f => f
  | place, found, d + 1, f => if b place = 32 then rdS b ok sg (place + 1) found d f else if ok (b place) = true ∧ found < 12 then rdS b ok sg (place + 1) (found + 1) d (fun q => if q = found then sg (b place) else f q) else f
theorem rowN_self (M : gMem) (i n : Nat) : rowN M i n (M i) = M := by funext a b; simp only [rowN]; split; (· rename_i h; rw [h.1]); rfl
theorem rowN_u {M : gMem} {i n k x : Nat} {f : Nat → Nat} (hk : k < n) : u2 (rowN M i n f) i k x = rowN M i n (fun q => if q = k then x else f q) := by
  funext a b
  simp only [u2, rowN]
  by_cases h1 : a = i
  · by_cases h2 : b = k
    · simp [h1, h2, hk]
    · simp [h1, h2]
  · simp [h1]
def flt : Option Nat → Nat
  | none => 0
  | some p => 4294967276 - p
def cutv (lane : Nat) (v : Int64) : Int64 := if lane = 0 then v.toInt32.toInt16.toInt32.toInt64 else if lane = 1 then v.toInt32.toInt64 else v
/-- the lags by which two wishes may stand on one cam -/
def lgO (eu ed lu ld q : Nat) : Nat := (eu &&& rot ld q) ||| (ed &&& rot lu q)
def lgs (eu ed lu ld : Nat) : Nat := setN (fun q => decide (lgO eu ed lu ld q = 0)) 12
theorem lgs_lt (eu ed lu ld : Nat) : lgs eu ed lu ld < 4096 := setN_12 _
def lgX (M : gMem) (i j : Nat) : Nat := lgs (M (32 + i) 4) (M (32 + i) 5) (M (32 + j) 4) (M (32 + j) 5)
/-- lagsOn's answer, of the first n figures -/
def lon (M : gMem) (cam fig : Nat) : Nat → Nat
  | 0 => 4095
  | n + 1 => if M 14 n = cam then lon M cam fig n &&& rot (M (17 + n) fig) (M 15 n) else lon M cam fig n
theorem lon_lt (M : gMem) (cam fig n : Nat) : lon M cam fig n < 4096 := by
  induction n with
  | zero => simp [lon]
  | succ n ih =>
    simp only [lon]
    split
    · exact and_lt _ ih
    · exact ih
end
section
set_option maxHeartbeats 4000000 in
set_option maxRecDepth 100000 in
theorem c_changeKind {l : Launch} {g : gE} {ad : Nat → Nat} (hI : g_inj ad 55) (M : gMem) (J : gMeL) (k : Nat) (hk : k < 5) (v : Nat) : CI l g ad dsX 55 yX0_changeKind cX0_changeKind 3 (some .int) 0 [.ref (ad (32 + k)), .int (nI v)] M J (nI (M (32 + k) 0)) (u2 M (32 + k) 0 v) J := by
  refine CI.of (plainFor_of_name (by decide)) (Nat.le_of_ble_eq_true rfl) (fun p9 e9 s9 m9 args9 below9 meth9 c9 CF hK hr9 hlk9 hP hS ls hl => ?_)
  have hx := CF.1
  have hb := CF.2.1
  have hA : ∀ q, g_A ad 55 q → g_A ad 55 q := fun _ h => h
  have hl : lv_has ls 3 [(0, .ref (ad (32 + k))), (1, .int (nI v))] := hl
  refine lv_aload_n hx hb dX0_changeKind_0 rfl (lv_at hl 0 rfl) ?_
  refine x_geti CF hK hP (32 + k) (by omega) (dX_fig k (by omega)) rfl uX0 0 (by decide) rfl wd1_35 rfl dX0_changeKind_1 ?_
  refine lv_istore_n (lv' := [(2, .int (nI (M (32 + k) 0))), (0, .ref (ad (32 + k))), (1, .int (nI v))]) hx hb dX0_changeKind_4 rfl hl (by decide) rfl (fun ls hl => ?_)
  refine lv_aload_n hx hb dX0_changeKind_5 rfl (lv_at hl 1 rfl) ?_
  refine lv_iload_n hx hb dX0_changeKind_6 rfl (lv_at hl 2 rfl) ?_
  refine x_puti CF hK hI hA hP hS (32 + k) (by omega) (dX_fig k (by omega)) rfl uX0 tyX0 tyX0_ok nmX0 0 (by decide) rfl wd1_35 rfl rfl v (ty := .int) rfl rfl rfl dX0_changeKind_7 (fun H locs hP hS => ?_)
  refine lv_iload_n hx hb dX0_changeKind_10 rfl (lv_at hl 0 rfl) ?_
  exact x_reti hx hb hr9 hlk9 hS hP (by first | rfl | (show nI (M (32 + k) 0) = nI (M (32 + k) 0); first | rfl | omega)) dX0_changeKind_11
set_option maxHeartbeats 4000000 in
set_option maxRecDepth 100000 in
theorem c_changeCam {l : Launch} {g : gE} {ad : Nat → Nat} (hI : g_inj ad 55) (M : gMem) (J : gMeL) (k : Nat) (hk : k < 5) (v : Nat) : CI l g ad dsX 55 yX0_changeCam cX0_changeCam 3 (some .int) 0 [.ref (ad (32 + k)), .int (nI v)] M J (nI (M (32 + k) 1)) (u2 M (32 + k) 1 v) J := by
  refine CI.of (plainFor_of_name (by decide)) (Nat.le_of_ble_eq_true rfl) (fun p9 e9 s9 m9 args9 below9 meth9 c9 CF hK hr9 hlk9 hP hS ls hl => ?_)
  have hx := CF.1
  have hb := CF.2.1
  have hA : ∀ q, g_A ad 55 q → g_A ad 55 q := fun _ h => h
  have hl : lv_has ls 3 [(0, .ref (ad (32 + k))), (1, .int (nI v))] := hl
  refine lv_aload_n hx hb dX0_changeCam_0 rfl (lv_at hl 0 rfl) ?_
  refine x_geti CF hK hP (32 + k) (by omega) (dX_fig k (by omega)) rfl uX0 1 (by decide) rfl wd1_37 rfl dX0_changeCam_1 ?_
  refine lv_istore_n (lv' := [(2, .int (nI (M (32 + k) 1))), (0, .ref (ad (32 + k))), (1, .int (nI v))]) hx hb dX0_changeCam_4 rfl hl (by decide) rfl (fun ls hl => ?_)
  refine lv_aload_n hx hb dX0_changeCam_5 rfl (lv_at hl 1 rfl) ?_
  refine lv_iload_n hx hb dX0_changeCam_6 rfl (lv_at hl 2 rfl) ?_
  refine x_puti CF hK hI hA hP hS (32 + k) (by omega) (dX_fig k (by omega)) rfl uX0 tyX0 tyX0_ok nmX0 1 (by decide) rfl wd1_37 rfl rfl v (ty := .int) rfl rfl rfl dX0_changeCam_7 (fun H locs hP hS => ?_)
  refine lv_iload_n hx hb dX0_changeCam_10 rfl (lv_at hl 0 rfl) ?_
  exact x_reti hx hb hr9 hlk9 hS hP (by first | rfl | (show nI (M (32 + k) 1) = nI (M (32 + k) 1); first | rfl | omega)) dX0_changeCam_11
set_option maxHeartbeats 4000000 in
set_option maxRecDepth 100000 in
theorem c_changeLag {l : Launch} {g : gE} {ad : Nat → Nat} (hI : g_inj ad 55) (M : gMem) (J : gMeL) (k : Nat) (hk : k < 5) (v : Nat) : CI l g ad dsX 55 yX0_changeLag cX0_changeLag 3 (some .int) 0 [.ref (ad (32 + k)), .int (nI v)] M J (nI (M (32 + k) 2)) (u2 M (32 + k) 2 v) J := by
  refine CI.of (plainFor_of_name (by decide)) (Nat.le_of_ble_eq_true rfl) (fun p9 e9 s9 m9 args9 below9 meth9 c9 CF hK hr9 hlk9 hP hS ls hl => ?_)
  have hx := CF.1
  have hb := CF.2.1
  have hA : ∀ q, g_A ad 55 q → g_A ad 55 q := fun _ h => h
  have hl : lv_has ls 3 [(0, .ref (ad (32 + k))), (1, .int (nI v))] := hl
  refine lv_aload_n hx hb dX0_changeLag_0 rfl (lv_at hl 0 rfl) ?_
  refine x_geti CF hK hP (32 + k) (by omega) (dX_fig k (by omega)) rfl uX0 2 (by decide) rfl wd1_40 rfl dX0_changeLag_1 ?_
  refine lv_istore_n (lv' := [(2, .int (nI (M (32 + k) 2))), (0, .ref (ad (32 + k))), (1, .int (nI v))]) hx hb dX0_changeLag_4 rfl hl (by decide) rfl (fun ls hl => ?_)
  refine lv_aload_n hx hb dX0_changeLag_5 rfl (lv_at hl 1 rfl) ?_
  refine lv_iload_n hx hb dX0_changeLag_6 rfl (lv_at hl 2 rfl) ?_
  refine x_puti CF hK hI hA hP hS (32 + k) (by omega) (dX_fig k (by omega)) rfl uX0 tyX0 tyX0_ok nmX0 2 (by decide) rfl wd1_40 rfl rfl v (ty := .int) rfl rfl rfl dX0_changeLag_7 (fun H locs hP hS => ?_)
  refine lv_iload_n hx hb dX0_changeLag_10 rfl (lv_at hl 0 rfl) ?_
  exact x_reti hx hb hr9 hlk9 hS hP (by first | rfl | (show nI (M (32 + k) 2) = nI (M (32 + k) 2); first | rfl | omega)) dX0_changeLag_11
set_option maxHeartbeats 4000000 in
set_option maxRecDepth 100000 in
theorem c_changePlace {l : Launch} {g : gE} {ad : Nat → Nat} (hI : g_inj ad 55) (M : gMem) (J : gMeL) (k : Nat) (hk : k < 5) (v : Nat) : CI l g ad dsX 55 yX0_changePlace cX0_changePlace 3 (some .int) 0 [.ref (ad (32 + k)), .int (nI v)] M J (nI (M (32 + k) 3)) (u2 M (32 + k) 3 v) J := by
  refine CI.of (plainFor_of_name (by decide)) (Nat.le_of_ble_eq_true rfl) (fun p9 e9 s9 m9 args9 below9 meth9 c9 CF hK hr9 hlk9 hP hS ls hl => ?_)
  have hx := CF.1
  have hb := CF.2.1
  have hA : ∀ q, g_A ad 55 q → g_A ad 55 q := fun _ h => h
  have hl : lv_has ls 3 [(0, .ref (ad (32 + k))), (1, .int (nI v))] := hl
  refine lv_aload_n hx hb dX0_changePlace_0 rfl (lv_at hl 0 rfl) ?_
  refine x_geti CF hK hP (32 + k) (by omega) (dX_fig k (by omega)) rfl uX0 3 (by decide) rfl wd1_43 rfl dX0_changePlace_1 ?_
  refine lv_istore_n (lv' := [(2, .int (nI (M (32 + k) 3))), (0, .ref (ad (32 + k))), (1, .int (nI v))]) hx hb dX0_changePlace_4 rfl hl (by decide) rfl (fun ls hl => ?_)
  refine lv_aload_n hx hb dX0_changePlace_5 rfl (lv_at hl 1 rfl) ?_
  refine lv_iload_n hx hb dX0_changePlace_6 rfl (lv_at hl 2 rfl) ?_
  refine x_puti CF hK hI hA hP hS (32 + k) (by omega) (dX_fig k (by omega)) rfl uX0 tyX0 tyX0_ok nmX0 3 (by decide) rfl wd1_43 rfl rfl v (ty := .int) rfl rfl rfl dX0_changePlace_7 (fun H locs hP hS => ?_)
  refine lv_iload_n hx hb dX0_changePlace_10 rfl (lv_at hl 0 rfl) ?_
  exact x_reti hx hb hr9 hlk9 hS hP (by first | rfl | (show nI (M (32 + k) 3) = nI (M (32 + k) 3); first | rfl | omega)) dX0_changePlace_11
set_option maxHeartbeats 4000000 in
set_option maxRecDepth 100000 in
theorem c_wishFor {l : Launch} {g : gE} {ad : Nat → Nat} (hI : g_inj ad 55) (M : gMem) (J : gMeL) (k : Nat) (hk : k < 5) (hs3 : ∀ a, a < 12 → M 3 a < 256) : CI l g ad dsX 55 yX0_wishFor cX0_wishFor 3 (some .int) 1 [.ref (ad (32 + k)), .ref (ad 3)] M J (nI (pop (setN (fun q => decide (M 3 q = 117)) 12 ||| setN (fun q => decide (¬ M 3 q = 117 ∧ M 3 q = 100)) 12))) (w45 M (32 + k) (setN (fun q => decide (M 3 q = 117)) 12) (setN (fun q => decide (¬ M 3 q = 117 ∧ M 3 q = 100)) 12)) J := by
  refine CI.of (plainFor_of_name (by decide)) (Nat.le_of_ble_eq_true rfl) (fun p9 e9 s9 m9 args9 below9 meth9 c9 CF hK hr9 hlk9 hP hS ls hl => ?_)
  have hx := CF.1
  have hb := CF.2.1
  have hA : ∀ q, g_A ad 55 q → g_A ad 55 q := fun _ h => h
  have hl : lv_has ls 3 [(0, .ref (ad (32 + k))), (1, .ref (ad 3))] := hl
  refine lv_aload_n hx hb dX0_wishFor_0 rfl (lv_at hl 0 rfl) ?_
  refine lv_iconst (v := nI 0) hx hb dX0_wishFor_1 (by decide) ?_
  refine x_puti CF hK hI hA hP hS (32 + k) (by omega) (dX_fig k (by omega)) rfl uX0 tyX0 tyX0_ok nmX0 4 (by decide) rfl wd1_46 rfl rfl 0 (ty := .int) rfl rfl rfl dX0_wishFor_2 (fun H locs hP hS => ?_)
  refine lv_aload_n hx hb dX0_wishFor_5 rfl (lv_at hl 0 rfl) ?_
  refine lv_iconst (v := nI 0) hx hb dX0_wishFor_6 (by decide) ?_
  refine x_puti CF hK hI hA hP hS (32 + k) (by omega) (dX_fig k (by omega)) rfl uX0 tyX0 tyX0_ok nmX0 5 (by decide) rfl wd1_49 rfl rfl 0 (ty := .int) rfl rfl rfl dX0_wishFor_7 (fun H locs hP hS => ?_)
  have hP : g_P g ad dsX 55 (w45 M (32 + k) (setN (fun q => decide (M 3 q = 117)) 0) (setN (fun q => decide (¬ M 3 q = 117 ∧ M 3 q = 100)) 0)) J H := hP
  refine lv_iconst (v := nI 0) hx hb dX0_wishFor_10 (by decide) ?_
  refine lv_istore_n (lv' := [(2, .int (nI 0)), (0, .ref (ad (32 + k))), (1, .ref (ad 3))]) hx hb dX0_wishFor_11 rfl hl (by decide) rfl (fun ls hl => ?_)
  have L12 : ∀ (d12 : Nat) (a : Nat), (a + d12 = 12) → (∀ (H : Heap) (locs : List Loc) (ls : Array Slot), g_P g ad dsX 55 (w45 M (32 + k) (setN (fun q => decide (M 3 q = 117)) a) (setN (fun q => decide (¬ M 3 q = 117 ∧ M 3 q = 100)) a)) J H → va_S (g_A ad 55) s9.heap H locs → lv_has ls 3 [(2, .int (nI a)), (0, .ref (ad (32 + k))), (1, .ref (ad 3))] → W p9 l e9 (g_rm 1) s9 m9 args9 below9 meth9 c9 H locs 0 0 (MQ below9 (va_Qi (fun r' (_ : Unit) => r' = (nI (pop (setN (fun q => decide (M 3 q = 117)) 12 ||| setN (fun q => decide (¬ M 3 q = 117 ∧ M 3 q = 100)) 12)))) (fun _ t => g_P g ad dsX 55 (w45 M (32 + k) (setN (fun q => decide (M 3 q = 117)) 12) (setN (fun q => decide (¬ M 3 q = 117 ∧ M 3 q = 100)) 12)) J t.heap) (g_A ad 55)) args9 s9 0 0 (g_A ad 55)) (F0 m9 12 ls [])) := by
    intro d12
    induction d12 with
    | zero =>
      intro a ha H locs ls hP hS hl
      have b2 : setN (fun q => decide (M 3 q = 117)) a ||| setN (fun q => decide (¬ M 3 q = 117 ∧ M 3 q = 100)) a < 4096 := by rw [show a = 12 by omega]; exact or_lt (setN_12 _) (setN_12 _)
      refine lv_iload_n hx hb dX0_wishFor_12 rfl (lv_at hl 0 rfl) ?_
      refine lv_bipush (v := nI 12) hx hb dX0_wishFor_13 (by decide) ?_
      refine x_zge (u := (a : Nat)) (v := (12 : Int)) (tgt := 67) hx hb (nI_toInt (by omega)) (rfl) dX0_wishFor_15 (by decide) (fun h_1 => ?_) (fun h_1 => (by omega : False).elim)
      refine lv_aload_n hx hb dX0_wishFor_67 rfl (lv_at hl 1 rfl) ?_
      refine x_geti CF hK hP (32 + k) (by omega) (dX_fig k (by omega)) rfl uX0 4 (by decide) rfl wd1_46 rfl dX0_wishFor_68 ?_
      refine x_ri (show (nI ((w45 M (32 + k) (setN (fun q => decide (M 3 q = 117)) a) (setN (fun q => decide (¬ M 3 q = 117 ∧ M 3 q = 100)) a)) (32 + k) 4)) = nI (setN (fun q => decide (M 3 q = 117)) a) from by rw [w45_r4]) ?_
      refine lv_aload_n hx hb dX0_wishFor_71 rfl (lv_at hl 1 rfl) ?_
      refine x_geti CF hK hP (32 + k) (by omega) (dX_fig k (by omega)) rfl uX0 5 (by decide) rfl wd1_49 rfl dX0_wishFor_72 ?_
      refine x_ri (show (nI ((w45 M (32 + k) (setN (fun q => decide (M 3 q = 117)) a) (setN (fun q => decide (¬ M 3 q = 117 ∧ M 3 q = 100)) a)) (32 + k) 5)) = nI (setN (fun q => decide (¬ M 3 q = 117 ∧ M 3 q = 100)) a) from by rw [w45_r5]) ?_
      refine x_ior hx hb dX0_wishFor_75 ?_
      refine x_callSP CF hK hP hS hl (As := [.int (nI ((setN (fun q => decide (M 3 q = 117)) a) ||| (setN (fun q => decide (¬ M 3 q = 117 ∧ M 3 q = 100)) a)))]) (rest := []) (c_bitCount ((setN (fun q => decide (M 3 q = 117)) a) ||| (setN (fun q => decide (¬ M 3 q = 117 ∧ M 3 q = 100)) a)) (by omega)) kw_J6_bitCount_0f7a4 wd2_55 rfl ⟨Nat.le_of_ble_eq_true rfl, Nat.le_of_ble_eq_true rfl⟩ ⟨Nat.le_refl _, Nat.le_refl _⟩ (Nat.le_of_ble_eq_true rfl) dX0_wishFor_76 (fun H locs hP hS => ?_)
      exact x_reti hx hb hr9 hlk9 hS (by rw [show 12 = a by omega]; exact hP) (by rw [show a = 12 by omega]) dX0_wishFor_79
    | succ d12 ih12 =>
      intro a ha H locs ls hP hS hl
      have b1 := hs3 a (by omega)
      refine lv_iload_n hx hb dX0_wishFor_12 rfl (lv_at hl 0 rfl) ?_
      refine lv_bipush (v := nI 12) hx hb dX0_wishFor_13 (by decide) ?_
      refine x_zge (u := (a : Nat)) (v := (12 : Int)) (tgt := 67) hx hb (nI_toInt (by omega)) (rfl) dX0_wishFor_15 (by decide) (fun h_2 => (by omega : False).elim) (fun h_2 => ?_)
      refine lv_aload_n hx hb dX0_wishFor_18 rfl (lv_at hl 2 rfl) ?_
      refine lv_iload_n hx hb dX0_wishFor_19 rfl (lv_at hl 0 rfl) ?_
      refine x_iald CF hK hP 3 (by decide) dX_3 a (by omega) (by decide) dX0_wishFor_20 ?_
      refine x_ri (show (nI ((w45 M (32 + k) (setN (fun q => decide (M 3 q = 117)) a) (setN (fun q => decide (¬ M 3 q = 117 ∧ M 3 q = 100)) a)) 3 a)) = nI (M 3 a) from by rw [w45_row (show 3 ≠ 32 + k by omega)]) ?_
      refine lv_bipush (v := nI 117) hx hb dX0_wishFor_21 (by decide) ?_
      refine x_zne (u := (M 3 a : Nat)) (v := (117 : Int)) (tgt := 41) hx hb (nI_toInt (by omega)) (rfl) dX0_wishFor_23 (by decide) (fun h_3 => ?_) (fun h_3 => ?_)
      · refine lv_aload_n hx hb dX0_wishFor_41 rfl (lv_at hl 2 rfl) ?_
        refine lv_iload_n hx hb dX0_wishFor_42 rfl (lv_at hl 0 rfl) ?_
        refine x_iald CF hK hP 3 (by decide) dX_3 a (by omega) (by decide) dX0_wishFor_43 ?_
        refine x_ri (show (nI ((w45 M (32 + k) (setN (fun q => decide (M 3 q = 117)) a) (setN (fun q => decide (¬ M 3 q = 117 ∧ M 3 q = 100)) a)) 3 a)) = nI (M 3 a) from by rw [w45_row (show 3 ≠ 32 + k by omega)]) ?_
        refine lv_bipush (v := nI 100) hx hb dX0_wishFor_44 (by decide) ?_
        refine x_zne (u := (M 3 a : Nat)) (v := (100 : Int)) (tgt := 61) hx hb (nI_toInt (by omega)) (rfl) dX0_wishFor_46 (by decide) (fun h_4 => ?_) (fun h_4 => ?_)
        · refine lv_iinc (v := nI (a + 1)) (lv' := [(2, .int (nI (a + 1))), (0, .ref (ad (32 + k))), (1, .ref (ad 3))]) hx hb dX0_wishFor_61 hl (k := 0) rfl (n_inc a 1) (by decide) rfl (fun ls hl => ?_)
          refine lv_goto (tgt := 12) hx hb dX0_wishFor_64 (by decide) ?_
          have hl0 : lv_has ls 3 [(2, .int (nI (a + 1))), (0, .ref (ad (32 + k))), (1, .ref (ad 3))] := lv_sub hl [0, 1, 2] rfl
          exact ih12 (a + 1) (by omega) _ _ _ (by rw [setN_f (p := (fun q => decide (M 3 q = 117))) (decide_eq_false (by omega)), setN_f (p := (fun q => decide (¬ M 3 q = 117 ∧ M 3 q = 100))) (decide_eq_false (by omega))]; exact hP) hS hl0
        · refine lv_aload_n hx hb dX0_wishFor_49 rfl (lv_at hl 1 rfl) ?_
          refine lv_dup hx hb dX0_wishFor_50 rfl ?_
          refine x_geti CF hK hP (32 + k) (by omega) (dX_fig k (by omega)) rfl uX0 5 (by decide) rfl wd1_49 rfl dX0_wishFor_51 ?_
          refine x_ri (show (nI ((w45 M (32 + k) (setN (fun q => decide (M 3 q = 117)) a) (setN (fun q => decide (¬ M 3 q = 117 ∧ M 3 q = 100)) a)) (32 + k) 5)) = nI (setN (fun q => decide (¬ M 3 q = 117 ∧ M 3 q = 100)) a) from by rw [w45_r5]) ?_
          refine lv_iconst (v := nI 1) hx hb dX0_wishFor_54 (by decide) ?_
          refine lv_iload_n hx hb dX0_wishFor_55 rfl (lv_at hl 0 rfl) ?_
          refine x_ishl hx hb (by omega) dX0_wishFor_56 ?_
          refine x_ior hx hb dX0_wishFor_57 ?_
          refine x_puti CF hK hI hA hP hS (32 + k) (by omega) (dX_fig k (by omega)) rfl uX0 tyX0 tyX0_ok nmX0 5 (by decide) rfl wd1_49 rfl rfl ((setN (fun q => decide (¬ M 3 q = 117 ∧ M 3 q = 100)) a) ||| (1 <<< a)) (ty := .int) rfl rfl rfl dX0_wishFor_58 (fun H locs hP hS => ?_)
          have hP : g_P g ad dsX 55 (w45 M (32 + k) (setN (fun q => decide (M 3 q = 117)) a) (setN (fun q => decide (¬ M 3 q = 117 ∧ M 3 q = 100)) a ||| 1 <<< a)) J H := (by rw [← w45_5]; exact hP)
          refine lv_iinc (v := nI (a + 1)) (lv' := [(2, .int (nI (a + 1))), (0, .ref (ad (32 + k))), (1, .ref (ad 3))]) hx hb dX0_wishFor_61 hl (k := 0) rfl (n_inc a 1) (by decide) rfl (fun ls hl => ?_)
          refine lv_goto (tgt := 12) hx hb dX0_wishFor_64 (by decide) ?_
          have hl0 : lv_has ls 3 [(2, .int (nI (a + 1))), (0, .ref (ad (32 + k))), (1, .ref (ad 3))] := lv_sub hl [0, 1, 2] rfl
          exact ih12 (a + 1) (by omega) _ _ _ (by rw [setN_f (p := (fun q => decide (M 3 q = 117))) (decide_eq_false (by omega)), setN_t (p := (fun q => decide (¬ M 3 q = 117 ∧ M 3 q = 100))) (decide_eq_true (by omega))]; exact hP) hS hl0
      · refine lv_aload_n hx hb dX0_wishFor_26 rfl (lv_at hl 1 rfl) ?_
        refine lv_dup hx hb dX0_wishFor_27 rfl ?_
        refine x_geti CF hK hP (32 + k) (by omega) (dX_fig k (by omega)) rfl uX0 4 (by decide) rfl wd1_46 rfl dX0_wishFor_28 ?_
        refine x_ri (show (nI ((w45 M (32 + k) (setN (fun q => decide (M 3 q = 117)) a) (setN (fun q => decide (¬ M 3 q = 117 ∧ M 3 q = 100)) a)) (32 + k) 4)) = nI (setN (fun q => decide (M 3 q = 117)) a) from by rw [w45_r4]) ?_
        refine lv_iconst (v := nI 1) hx hb dX0_wishFor_31 (by decide) ?_
        refine lv_iload_n hx hb dX0_wishFor_32 rfl (lv_at hl 0 rfl) ?_
        refine x_ishl hx hb (by omega) dX0_wishFor_33 ?_
        refine x_ior hx hb dX0_wishFor_34 ?_
        refine x_puti CF hK hI hA hP hS (32 + k) (by omega) (dX_fig k (by omega)) rfl uX0 tyX0 tyX0_ok nmX0 4 (by decide) rfl wd1_46 rfl rfl ((setN (fun q => decide (M 3 q = 117)) a) ||| (1 <<< a)) (ty := .int) rfl rfl rfl dX0_wishFor_35 (fun H locs hP hS => ?_)
        have hP : g_P g ad dsX 55 (w45 M (32 + k) (setN (fun q => decide (M 3 q = 117)) a ||| 1 <<< a) (setN (fun q => decide (¬ M 3 q = 117 ∧ M 3 q = 100)) a)) J H := (by rw [← w45_4]; exact hP)
        refine lv_goto (tgt := 61) hx hb dX0_wishFor_38 (by decide) ?_
        refine lv_iinc (v := nI (a + 1)) (lv' := [(2, .int (nI (a + 1))), (0, .ref (ad (32 + k))), (1, .ref (ad 3))]) hx hb dX0_wishFor_61 hl (k := 0) rfl (n_inc a 1) (by decide) rfl (fun ls hl => ?_)
        refine lv_goto (tgt := 12) hx hb dX0_wishFor_64 (by decide) ?_
        have hl0 : lv_has ls 3 [(2, .int (nI (a + 1))), (0, .ref (ad (32 + k))), (1, .ref (ad 3))] := lv_sub hl [0, 1, 2] rfl
        exact ih12 (a + 1) (by omega) _ _ _ (by rw [setN_t (p := (fun q => decide (M 3 q = 117))) (decide_eq_true (by omega)), setN_f (p := (fun q => decide (¬ M 3 q = 117 ∧ M 3 q = 100))) (decide_eq_false (by omega))]; exact hP) hS hl0
  have hl0 : lv_has ls 3 [(2, .int (nI 0)), (0, .ref (ad (32 + k))), (1, .ref (ad 3))] := lv_sub hl [0, 1, 2] rfl
  exact L12 12 0 (by omega) _ _ _ (hP) hS hl0
set_option maxHeartbeats 4000000 in
set_option maxRecDepth 100000 in
theorem c_figLike_ni {l : Launch} {g : gE} {ad : Nat → Nat} (hI : g_inj ad 55) (M : gMem) (J : gMeL) (k : Nat) (hk : k < 5) : CV l g ad dsX 55 yX0_becomeLike cX0_becomeLike 2 0 [.ref (ad (32 + k)), .ref (ad (48 + k))] M J (cpf M (32 + k) (48 + k)) J := by
  refine CV.of (plainFor_of_name (by decide)) (Nat.le_of_ble_eq_true rfl) (fun p9 e9 s9 m9 args9 below9 meth9 c9 CF hK hr9 hlk9 hP hS ls hl => ?_)
  have hx := CF.1
  have hb := CF.2.1
  have hA : ∀ q, g_A ad 55 q → g_A ad 55 q := fun _ h => h
  have hl : lv_has ls 2 [(0, .ref (ad (32 + k))), (1, .ref (ad (48 + k)))] := hl
  refine lv_aload_n hx hb dX0_becomeLike_0 rfl (lv_at hl 0 rfl) ?_
  refine lv_aload_n hx hb dX0_becomeLike_1 rfl (lv_at hl 1 rfl) ?_
  refine x_geti CF hK hP (48 + k) (by omega) (dX_fig2 k (by omega)) rfl uX0 0 (by decide) rfl wd1_35 rfl dX0_becomeLike_2 ?_
  refine x_ri (show (nI (M (48 + k) 0)) = nI (M (48 + k) 0) from by first | rfl | (congr 1; repeat rw [u2_row (show 48 + k ≠ 32 + k by omega)])) ?_
  refine x_puti CF hK hI hA hP hS (32 + k) (by omega) (dX_fig k (by omega)) rfl uX0 tyX0 tyX0_ok nmX0 0 (by decide) rfl wd1_35 rfl rfl (M (48 + k) 0) (ty := .int) rfl rfl rfl dX0_becomeLike_5 (fun H locs hP hS => ?_)
  refine lv_aload_n hx hb dX0_becomeLike_8 rfl (lv_at hl 0 rfl) ?_
  refine lv_aload_n hx hb dX0_becomeLike_9 rfl (lv_at hl 1 rfl) ?_
  refine x_geti CF hK hP (48 + k) (by omega) (dX_fig2 k (by omega)) rfl uX0 1 (by decide) rfl wd1_37 rfl dX0_becomeLike_10 ?_
  refine x_ri (show (nI ((u2 M (32 + k) 0 (M (48 + k) 0)) (48 + k) 1)) = nI (M (48 + k) 1) from by first | rfl | (congr 1; repeat rw [u2_row (show 48 + k ≠ 32 + k by omega)])) ?_
  refine x_puti CF hK hI hA hP hS (32 + k) (by omega) (dX_fig k (by omega)) rfl uX0 tyX0 tyX0_ok nmX0 1 (by decide) rfl wd1_37 rfl rfl (M (48 + k) 1) (ty := .int) rfl rfl rfl dX0_becomeLike_13 (fun H locs hP hS => ?_)
  refine lv_aload_n hx hb dX0_becomeLike_16 rfl (lv_at hl 0 rfl) ?_
  refine lv_aload_n hx hb dX0_becomeLike_17 rfl (lv_at hl 1 rfl) ?_
  refine x_geti CF hK hP (48 + k) (by omega) (dX_fig2 k (by omega)) rfl uX0 2 (by decide) rfl wd1_40 rfl dX0_becomeLike_18 ?_
  refine x_ri (show (nI ((u2 (u2 M (32 + k) 0 (M (48 + k) 0)) (32 + k) 1 (M (48 + k) 1)) (48 + k) 2)) = nI (M (48 + k) 2) from by first | rfl | (congr 1; repeat rw [u2_row (show 48 + k ≠ 32 + k by omega)])) ?_
  refine x_puti CF hK hI hA hP hS (32 + k) (by omega) (dX_fig k (by omega)) rfl uX0 tyX0 tyX0_ok nmX0 2 (by decide) rfl wd1_40 rfl rfl (M (48 + k) 2) (ty := .int) rfl rfl rfl dX0_becomeLike_21 (fun H locs hP hS => ?_)
  refine lv_aload_n hx hb dX0_becomeLike_24 rfl (lv_at hl 0 rfl) ?_
  refine lv_aload_n hx hb dX0_becomeLike_25 rfl (lv_at hl 1 rfl) ?_
  refine x_geti CF hK hP (48 + k) (by omega) (dX_fig2 k (by omega)) rfl uX0 3 (by decide) rfl wd1_43 rfl dX0_becomeLike_26 ?_
  refine x_ri (show (nI ((u2 (u2 (u2 M (32 + k) 0 (M (48 + k) 0)) (32 + k) 1 (M (48 + k) 1)) (32 + k) 2 (M (48 + k) 2)) (48 + k) 3)) = nI (M (48 + k) 3) from by first | rfl | (congr 1; repeat rw [u2_row (show 48 + k ≠ 32 + k by omega)])) ?_
  refine x_puti CF hK hI hA hP hS (32 + k) (by omega) (dX_fig k (by omega)) rfl uX0 tyX0 tyX0_ok nmX0 3 (by decide) rfl wd1_43 rfl rfl (M (48 + k) 3) (ty := .int) rfl rfl rfl dX0_becomeLike_29 (fun H locs hP hS => ?_)
  refine lv_aload_n hx hb dX0_becomeLike_32 rfl (lv_at hl 0 rfl) ?_
  refine lv_aload_n hx hb dX0_becomeLike_33 rfl (lv_at hl 1 rfl) ?_
  refine x_geti CF hK hP (48 + k) (by omega) (dX_fig2 k (by omega)) rfl uX0 4 (by decide) rfl wd1_46 rfl dX0_becomeLike_34 ?_
  refine x_ri (show (nI ((u2 (u2 (u2 (u2 M (32 + k) 0 (M (48 + k) 0)) (32 + k) 1 (M (48 + k) 1)) (32 + k) 2 (M (48 + k) 2)) (32 + k) 3 (M (48 + k) 3)) (48 + k) 4)) = nI (M (48 + k) 4) from by first | rfl | (congr 1; repeat rw [u2_row (show 48 + k ≠ 32 + k by omega)])) ?_
  refine x_puti CF hK hI hA hP hS (32 + k) (by omega) (dX_fig k (by omega)) rfl uX0 tyX0 tyX0_ok nmX0 4 (by decide) rfl wd1_46 rfl rfl (M (48 + k) 4) (ty := .int) rfl rfl rfl dX0_becomeLike_37 (fun H locs hP hS => ?_)
  refine lv_aload_n hx hb dX0_becomeLike_40 rfl (lv_at hl 0 rfl) ?_
  refine lv_aload_n hx hb dX0_becomeLike_41 rfl (lv_at hl 1 rfl) ?_
  refine x_geti CF hK hP (48 + k) (by omega) (dX_fig2 k (by omega)) rfl uX0 5 (by decide) rfl wd1_49 rfl dX0_becomeLike_42 ?_
  refine x_ri (show (nI ((u2 (u2 (u2 (u2 (u2 M (32 + k) 0 (M (48 + k) 0)) (32 + k) 1 (M (48 + k) 1)) (32 + k) 2 (M (48 + k) 2)) (32 + k) 3 (M (48 + k) 3)) (32 + k) 4 (M (48 + k) 4)) (48 + k) 5)) = nI (M (48 + k) 5) from by first | rfl | (congr 1; repeat rw [u2_row (show 48 + k ≠ 32 + k by omega)])) ?_
  refine x_puti CF hK hI hA hP hS (32 + k) (by omega) (dX_fig k (by omega)) rfl uX0 tyX0 tyX0_ok nmX0 5 (by decide) rfl wd1_49 rfl rfl (M (48 + k) 5) (ty := .int) rfl rfl rfl dX0_becomeLike_45 (fun H locs hP hS => ?_)
  have hP : g_P g ad dsX 55 (cpf M (32 + k) (48 + k)) J H := (by rw [← cpf_ok (show 48 + k ≠ 32 + k by omega)]; exact hP)
  exact x_retv hx hb hr9 hlk9 hS hP dX0_becomeLike_48
set_option maxHeartbeats 4000000 in
set_option maxRecDepth 100000 in
theorem c_figLike_in {l : Launch} {g : gE} {ad : Nat → Nat} (hI : g_inj ad 55) (M : gMem) (J : gMeL) (k : Nat) (hk : k < 5) : CV l g ad dsX 55 yX0_becomeLike cX0_becomeLike 2 0 [.ref (ad (48 + k)), .ref (ad (32 + k))] M J (cpf M (48 + k) (32 + k)) J := by
  refine CV.of (plainFor_of_name (by decide)) (Nat.le_of_ble_eq_true rfl) (fun p9 e9 s9 m9 args9 below9 meth9 c9 CF hK hr9 hlk9 hP hS ls hl => ?_)
  have hx := CF.1
  have hb := CF.2.1
  have hA : ∀ q, g_A ad 55 q → g_A ad 55 q := fun _ h => h
  have hl : lv_has ls 2 [(0, .ref (ad (48 + k))), (1, .ref (ad (32 + k)))] := hl
  refine lv_aload_n hx hb dX0_becomeLike_0 rfl (lv_at hl 0 rfl) ?_
  refine lv_aload_n hx hb dX0_becomeLike_1 rfl (lv_at hl 1 rfl) ?_
  refine x_geti CF hK hP (32 + k) (by omega) (dX_fig k (by omega)) rfl uX0 0 (by decide) rfl wd1_35 rfl dX0_becomeLike_2 ?_
  refine x_ri (show (nI (M (32 + k) 0)) = nI (M (32 + k) 0) from by first | rfl | (congr 1; repeat rw [u2_row (show 32 + k ≠ 48 + k by omega)])) ?_
  refine x_puti CF hK hI hA hP hS (48 + k) (by omega) (dX_fig2 k (by omega)) rfl uX0 tyX0 tyX0_ok nmX0 0 (by decide) rfl wd1_35 rfl rfl (M (32 + k) 0) (ty := .int) rfl rfl rfl dX0_becomeLike_5 (fun H locs hP hS => ?_)
  refine lv_aload_n hx hb dX0_becomeLike_8 rfl (lv_at hl 0 rfl) ?_
  refine lv_aload_n hx hb dX0_becomeLike_9 rfl (lv_at hl 1 rfl) ?_
  refine x_geti CF hK hP (32 + k) (by omega) (dX_fig k (by omega)) rfl uX0 1 (by decide) rfl wd1_37 rfl dX0_becomeLike_10 ?_
  refine x_ri (show (nI ((u2 M (48 + k) 0 (M (32 + k) 0)) (32 + k) 1)) = nI (M (32 + k) 1) from by first | rfl | (congr 1; repeat rw [u2_row (show 32 + k ≠ 48 + k by omega)])) ?_
  refine x_puti CF hK hI hA hP hS (48 + k) (by omega) (dX_fig2 k (by omega)) rfl uX0 tyX0 tyX0_ok nmX0 1 (by decide) rfl wd1_37 rfl rfl (M (32 + k) 1) (ty := .int) rfl rfl rfl dX0_becomeLike_13 (fun H locs hP hS => ?_)
  refine lv_aload_n hx hb dX0_becomeLike_16 rfl (lv_at hl 0 rfl) ?_
  refine lv_aload_n hx hb dX0_becomeLike_17 rfl (lv_at hl 1 rfl) ?_
  refine x_geti CF hK hP (32 + k) (by omega) (dX_fig k (by omega)) rfl uX0 2 (by decide) rfl wd1_40 rfl dX0_becomeLike_18 ?_
  refine x_ri (show (nI ((u2 (u2 M (48 + k) 0 (M (32 + k) 0)) (48 + k) 1 (M (32 + k) 1)) (32 + k) 2)) = nI (M (32 + k) 2) from by first | rfl | (congr 1; repeat rw [u2_row (show 32 + k ≠ 48 + k by omega)])) ?_
  refine x_puti CF hK hI hA hP hS (48 + k) (by omega) (dX_fig2 k (by omega)) rfl uX0 tyX0 tyX0_ok nmX0 2 (by decide) rfl wd1_40 rfl rfl (M (32 + k) 2) (ty := .int) rfl rfl rfl dX0_becomeLike_21 (fun H locs hP hS => ?_)
  refine lv_aload_n hx hb dX0_becomeLike_24 rfl (lv_at hl 0 rfl) ?_
  refine lv_aload_n hx hb dX0_becomeLike_25 rfl (lv_at hl 1 rfl) ?_
  refine x_geti CF hK hP (32 + k) (by omega) (dX_fig k (by omega)) rfl uX0 3 (by decide) rfl wd1_43 rfl dX0_becomeLike_26 ?_
  refine x_ri (show (nI ((u2 (u2 (u2 M (48 + k) 0 (M (32 + k) 0)) (48 + k) 1 (M (32 + k) 1)) (48 + k) 2 (M (32 + k) 2)) (32 + k) 3)) = nI (M (32 + k) 3) from by first | rfl | (congr 1; repeat rw [u2_row (show 32 + k ≠ 48 + k by omega)])) ?_
  refine x_puti CF hK hI hA hP hS (48 + k) (by omega) (dX_fig2 k (by omega)) rfl uX0 tyX0 tyX0_ok nmX0 3 (by decide) rfl wd1_43 rfl rfl (M (32 + k) 3) (ty := .int) rfl rfl rfl dX0_becomeLike_29 (fun H locs hP hS => ?_)
  refine lv_aload_n hx hb dX0_becomeLike_32 rfl (lv_at hl 0 rfl) ?_
  refine lv_aload_n hx hb dX0_becomeLike_33 rfl (lv_at hl 1 rfl) ?_
  refine x_geti CF hK hP (32 + k) (by omega) (dX_fig k (by omega)) rfl uX0 4 (by decide) rfl wd1_46 rfl dX0_becomeLike_34 ?_
  refine x_ri (show (nI ((u2 (u2 (u2 (u2 M (48 + k) 0 (M (32 + k) 0)) (48 + k) 1 (M (32 + k) 1)) (48 + k) 2 (M (32 + k) 2)) (48 + k) 3 (M (32 + k) 3)) (32 + k) 4)) = nI (M (32 + k) 4) from by first | rfl | (congr 1; repeat rw [u2_row (show 32 + k ≠ 48 + k by omega)])) ?_
  refine x_puti CF hK hI hA hP hS (48 + k) (by omega) (dX_fig2 k (by omega)) rfl uX0 tyX0 tyX0_ok nmX0 4 (by decide) rfl wd1_46 rfl rfl (M (32 + k) 4) (ty := .int) rfl rfl rfl dX0_becomeLike_37 (fun H locs hP hS => ?_)
  refine lv_aload_n hx hb dX0_becomeLike_40 rfl (lv_at hl 0 rfl) ?_
  refine lv_aload_n hx hb dX0_becomeLike_41 rfl (lv_at hl 1 rfl) ?_
  refine x_geti CF hK hP (32 + k) (by omega) (dX_fig k (by omega)) rfl uX0 5 (by decide) rfl wd1_49 rfl dX0_becomeLike_42 ?_
  refine x_ri (show (nI ((u2 (u2 (u2 (u2 (u2 M (48 + k) 0 (M (32 + k) 0)) (48 + k) 1 (M (32 + k) 1)) (48 + k) 2 (M (32 + k) 2)) (48 + k) 3 (M (32 + k) 3)) (48 + k) 4 (M (32 + k) 4)) (32 + k) 5)) = nI (M (32 + k) 5) from by first | rfl | (congr 1; repeat rw [u2_row (show 32 + k ≠ 48 + k by omega)])) ?_
  refine x_puti CF hK hI hA hP hS (48 + k) (by omega) (dX_fig2 k (by omega)) rfl uX0 tyX0 tyX0_ok nmX0 5 (by decide) rfl wd1_49 rfl rfl (M (32 + k) 5) (ty := .int) rfl rfl rfl dX0_becomeLike_45 (fun H locs hP hS => ?_)
  have hP : g_P g ad dsX 55 (cpf M (48 + k) (32 + k)) J H := (by rw [← cpf_ok (show 32 + k ≠ 48 + k by omega)]; exact hP)
  exact x_retv hx hb hr9 hlk9 hS hP dX0_becomeLike_48
set_option maxHeartbeats 4000000 in
set_option maxRecDepth 100000 in
theorem c_isNothing_t {l : Launch} {g : gE} {ad : Nat → Nat} (hI : g_inj ad 55) (M : gMem) (J : gMeL) (s : Nat) (hs : s < 4) (h : M (5 + s) 1 = 4294967295) : CI l g ad dsX 55 yX3_isNothing cX3_isNothing 1 (some .boolean) 0 [.ref (ad (5 + s))] M J (nI 1) M J := by
  refine CI.of (plainFor_of_name (by decide)) (Nat.le_of_ble_eq_true rfl) (fun p9 e9 s9 m9 args9 below9 meth9 c9 CF hK hr9 hlk9 hP hS ls hl => ?_)
  have hx := CF.1
  have hb := CF.2.1
  have hA : ∀ q, g_A ad 55 q → g_A ad 55 q := fun _ h => h
  have hl : lv_has ls 1 [(0, .ref (ad (5 + s)))] := hl
  refine lv_aload_n hx hb dX3_isNothing_0 rfl (lv_at hl 0 rfl) ?_
  refine x_geti CF hK hP (5 + s) (by omega) (dX_sheet s (by omega)) rfl uX3 1 (by decide) rfl wd1_134 rfl dX3_isNothing_1 ?_
  refine x_ri (show (nI (M (5 + s) 1)) = nI 4294967295 from congrArg nI h) ?_
  refine lv_iconst (v := nI 4294967295) hx hb dX3_isNothing_4 (by decide) ?_
  refine x_zne (u := (-1 : Int)) (v := (-1 : Int)) (tgt := 12) hx hb (rfl) (rfl) dX3_isNothing_5 (by decide) (fun h_1 => (by omega : False).elim) (fun h_1 => ?_)
  refine lv_iconst (v := nI 1) hx hb dX3_isNothing_8 (by decide) ?_
  refine lv_goto (tgt := 13) hx hb dX3_isNothing_9 (by decide) ?_
  exact x_retz hx hb hr9 hlk9 hS hP (by first | rfl | (show nI 1 = nI 1; first | rfl | omega)) (rfl) dX3_isNothing_13
set_option maxHeartbeats 4000000 in
set_option maxRecDepth 100000 in
theorem c_isNothing_f {l : Launch} {g : gE} {ad : Nat → Nat} (hI : g_inj ad 55) (M : gMem) (J : gMeL) (s : Nat) (hs : s < 4) (h : M (5 + s) 1 ≤ 2) : CI l g ad dsX 55 yX3_isNothing cX3_isNothing 1 (some .boolean) 0 [.ref (ad (5 + s))] M J (nI 0) M J := by
  refine CI.of (plainFor_of_name (by decide)) (Nat.le_of_ble_eq_true rfl) (fun p9 e9 s9 m9 args9 below9 meth9 c9 CF hK hr9 hlk9 hP hS ls hl => ?_)
  have hx := CF.1
  have hb := CF.2.1
  have hA : ∀ q, g_A ad 55 q → g_A ad 55 q := fun _ h => h
  have hl : lv_has ls 1 [(0, .ref (ad (5 + s)))] := hl
  refine lv_aload_n hx hb dX3_isNothing_0 rfl (lv_at hl 0 rfl) ?_
  refine x_geti CF hK hP (5 + s) (by omega) (dX_sheet s (by omega)) rfl uX3 1 (by decide) rfl wd1_134 rfl dX3_isNothing_1 ?_
  refine lv_iconst (v := nI 4294967295) hx hb dX3_isNothing_4 (by decide) ?_
  refine x_zne (u := (M (5 + s) 1 : Nat)) (v := (-1 : Int)) (tgt := 12) hx hb (nI_toInt (by omega)) (rfl) dX3_isNothing_5 (by decide) (fun h_1 => ?_) (fun h_1 => (by omega : False).elim)
  refine lv_iconst (v := nI 0) hx hb dX3_isNothing_12 (by decide) ?_
  exact x_retz hx hb hr9 hlk9 hS hP (by first | rfl | (show nI 0 = nI 0; first | rfl | omega)) (rfl) dX3_isNothing_13
set_option maxHeartbeats 4000000 in
set_option maxRecDepth 100000 in
theorem c_end {l : Launch} {g : gE} {ad : Nat → Nat} (hI : g_inj ad 55) (M : gMem) (J : gMeL) (s : Nat) (hs : s < 4)  : CI l g ad dsX 55 yX3_end cX3_end 1 (some .int) 0 [.ref (ad (5 + s))] M J (nI (M (5 + s) 2)) (u2 M (5 + s) 1 4294967295) J := by
  refine CI.of (plainFor_of_name (by decide)) (Nat.le_of_ble_eq_true rfl) (fun p9 e9 s9 m9 args9 below9 meth9 c9 CF hK hr9 hlk9 hP hS ls hl => ?_)
  have hx := CF.1
  have hb := CF.2.1
  have hA : ∀ q, g_A ad 55 q → g_A ad 55 q := fun _ h => h
  have hl : lv_has ls 1 [(0, .ref (ad (5 + s)))] := hl
  refine lv_aload_n hx hb dX3_end_0 rfl (lv_at hl 0 rfl) ?_
  refine lv_iconst (v := nI 4294967295) hx hb dX3_end_1 (by decide) ?_
  refine x_puti CF hK hI hA hP hS (5 + s) (by omega) (dX_sheet s (by omega)) rfl uX3 tyX3 tyX3_ok nmX3 1 (by decide) rfl wd1_134 rfl rfl 4294967295 (ty := .int) rfl rfl rfl dX3_end_2 (fun H locs hP hS => ?_)
  refine lv_aload_n hx hb dX3_end_5 rfl (lv_at hl 0 rfl) ?_
  refine x_geti CF hK hP (5 + s) (by omega) (dX_sheet s (by omega)) rfl uX3 2 (by decide) rfl wd1_136 rfl dX3_end_6 ?_
  exact x_reti hx hb hr9 hlk9 hS hP (by simp [u2]) dX3_end_9
set_option maxHeartbeats 4000000 in
set_option maxRecDepth 100000 in
theorem c_fillL {l : Launch} {g : gE} {ad : Nat → Nat} (hI : g_inj ad 55) (M : gMem) (J : gMeL) (s : Nat) (hs : s < 4) (v : Int64) : CV l g ad dsX 55 yJ7_fill_d0a16 cJ7_fill_d0a16 5 0 [.ref (ad (9 + s)), .long v] M J M (rowL J (9 + s) 24 (fun _ => v)) := by
  refine CV.of (by decide +kernel) (Nat.le_of_ble_eq_true rfl) (fun p9 e9 s9 m9 args9 below9 meth9 c9 CF hK hr9 hlk9 hP hS ls hl => ?_)
  have hx := CF.1
  have hb := CF.2.1
  have hA : ∀ q, g_A ad 55 q → g_A ad 55 q := fun _ h => h
  have hl : lv_has ls 5 [(0, .ref (ad (9 + s))), (1, .long v)] := hl
  refine lv_iconst (v := nI 0) hx hb dJ7_fill_d0a16_0 (by decide) ?_
  refine lv_istore_n (lv' := [(3, .int (nI 0)), (0, .ref (ad (9 + s))), (1, .long v)]) hx hb dJ7_fill_d0a16_1 rfl hl (by decide) rfl (fun ls hl => ?_)
  refine lv_aload_n hx hb dJ7_fill_d0a16_2 rfl (lv_at hl 1 rfl) ?_
  refine x_alenl CF hK hP (9 + s) (by omega) (dX_items s (by omega)) dJ7_fill_d0a16_3 ?_
  refine lv_istore (lv' := [(4, .int (nI 24)), (3, .int (nI 0)), (0, .ref (ad (9 + s))), (1, .long v)]) hx hb dJ7_fill_d0a16_4 hl (by decide) rfl (fun ls hl => ?_)
  have L6 : ∀ (d6 : Nat) (i : Nat), (i + d6 = 24) → (∀ (H : Heap) (locs : List Loc) (ls : Array Slot), g_P g ad dsX 55 M (rowL J (9 + s) i (fun _ => v)) H → va_S (g_A ad 55) s9.heap H locs → lv_has ls 5 [(4, .int (nI 24)), (3, .int (nI i)), (0, .ref (ad (9 + s))), (1, .long v)] → W p9 l e9 (g_rm 0) s9 m9 args9 below9 meth9 c9 H locs 0 0 (MQ below9 (va_Qv (fun (_ : Unit) => True) (fun _ t => g_P g ad dsX 55 M (rowL J (9 + s) 24 (fun _ => v)) t.heap) (g_A ad 55)) args9 s9 0 0 (g_A ad 55)) (F0 m9 6 ls [])) := by
    intro d6
    induction d6 with
    | zero =>
      intro i hi H locs ls hP hS hl
      refine lv_iload_n hx hb dJ7_fill_d0a16_6 rfl (lv_at hl 1 rfl) ?_
      refine lv_iload hx hb dJ7_fill_d0a16_7 (lv_at hl 0 rfl) ?_
      refine x_zge (u := (i : Nat)) (v := (24 : Int)) (tgt := 22) hx hb (nI_toInt (by omega)) (rfl) dJ7_fill_d0a16_9 (by decide) (fun h_1 => ?_) (fun h_1 => (by omega : False).elim)
      exact x_retv hx hb hr9 hlk9 hS (by rw [show 24 = i by omega]; exact hP) dJ7_fill_d0a16_22
    | succ d6 ih6 =>
      intro i hi H locs ls hP hS hl
      refine lv_iload_n hx hb dJ7_fill_d0a16_6 rfl (lv_at hl 1 rfl) ?_
      refine lv_iload hx hb dJ7_fill_d0a16_7 (lv_at hl 0 rfl) ?_
      refine x_zge (u := (i : Nat)) (v := (24 : Int)) (tgt := 22) hx hb (nI_toInt (by omega)) (rfl) dJ7_fill_d0a16_9 (by decide) (fun h_2 => (by omega : False).elim) (fun h_2 => ?_)
      refine lv_aload_n hx hb dJ7_fill_d0a16_12 rfl (lv_at hl 2 rfl) ?_
      refine lv_iload_n hx hb dJ7_fill_d0a16_13 rfl (lv_at hl 1 rfl) ?_
      refine lv_lload_n hx hb dJ7_fill_d0a16_14 rfl (lv_at hl 3 rfl) ?_
      refine x_last CF hK hI hA hP hS (9 + s) (by omega) (dX_items s (by omega)) i (by omega) (by decide) v dJ7_fill_d0a16_15 (fun H locs hP hS => ?_)
      refine lv_iinc (v := nI (i + 1)) (lv' := [(3, .int (nI (i + 1))), (4, .int (nI 24)), (0, .ref (ad (9 + s))), (1, .long v)]) hx hb dJ7_fill_d0a16_16 hl (k := 1) rfl (n_inc i 1) (by decide) rfl (fun ls hl => ?_)
      refine lv_goto (tgt := 6) hx hb dJ7_fill_d0a16_19 (by decide) ?_
      have hl0 : lv_has ls 5 [(4, .int (nI 24)), (3, .int (nI (i + 1))), (0, .ref (ad (9 + s))), (1, .long v)] := lv_sub hl [1, 0, 2, 3] rfl
      exact ih6 (i + 1) (by omega) _ _ _ (by rw [← rowL_s (f := fun _ => v) (x := v) rfl]; exact hP) hS hl0
  have hl0 : lv_has ls 5 [(4, .int (nI 24)), (3, .int (nI 0)), (0, .ref (ad (9 + s))), (1, .long v)] := lv_sub hl [0, 1, 2, 3] rfl
  exact L6 24 0 (by omega) _ _ _ (by rw [rowL_0]; exact hP) hS hl0
set_option maxHeartbeats 4000000 in
set_option maxRecDepth 100000 in
theorem c_begin {l : Launch} {g : gE} {ad : Nat → Nat} (hI : g_inj ad 55) (M : gMem) (J : gMeL) (s : Nat) (hs : s < 4) (ln n : Nat) : CV l g ad dsX 55 yX3_begin cX3_begin 3 1 [.ref (ad (5 + s)), .int (nI ln), .int (nI n)] M J (u2 (u2 M (5 + s) 1 ln) (5 + s) 2 n) (rowL J (9 + s) 24 (fun _ => (0 : Int64))) := by
  refine CV.of (plainFor_of_name (by decide)) (Nat.le_of_ble_eq_true rfl) (fun p9 e9 s9 m9 args9 below9 meth9 c9 CF hK hr9 hlk9 hP hS ls hl => ?_)
  have hx := CF.1
  have hb := CF.2.1
  have hA : ∀ q, g_A ad 55 q → g_A ad 55 q := fun _ h => h
  have hl : lv_has ls 3 [(0, .ref (ad (5 + s))), (1, .int (nI ln)), (2, .int (nI n))] := hl
  refine lv_aload_n hx hb dX3_begin_0 rfl (lv_at hl 0 rfl) ?_
  refine lv_iload_n hx hb dX3_begin_1 rfl (lv_at hl 1 rfl) ?_
  refine x_puti CF hK hI hA hP hS (5 + s) (by omega) (dX_sheet s (by omega)) rfl uX3 tyX3 tyX3_ok nmX3 1 (by decide) rfl wd1_134 rfl rfl ln (ty := .int) rfl rfl rfl dX3_begin_2 (fun H locs hP hS => ?_)
  refine lv_aload_n hx hb dX3_begin_5 rfl (lv_at hl 0 rfl) ?_
  refine lv_iload_n hx hb dX3_begin_6 rfl (lv_at hl 2 rfl) ?_
  refine x_puti CF hK hI hA hP hS (5 + s) (by omega) (dX_sheet s (by omega)) rfl uX3 tyX3 tyX3_ok nmX3 2 (by decide) rfl wd1_136 rfl rfl n (ty := .int) rfl rfl rfl dX3_begin_7 (fun H locs hP hS => ?_)
  refine lv_aload_n hx hb dX3_begin_10 rfl (lv_at hl 0 rfl) ?_
  refine x_getr CF hK hP (5 + s) (by omega) (dX_sheet s (by omega)) rfl uX3 0 (by decide) (j := (9 + s)) rfl wd1_132 rfl dX3_begin_11 ?_
  refine lv_lconst (v := (0 : Int64)) hx hb dX3_begin_14 rfl ?_
  refine x_callSV CF hK hP hS hA hl (As := [.ref (ad (9 + s)), .long (0 : Int64)]) (rest := []) (c_fillL hI (u2 (u2 M (5 + s) 1 ln) (5 + s) 2 n) J s (by omega) (0 : Int64)) kw_J7_fill_d0a16 wd3_70 rfl ⟨Nat.le_of_ble_eq_true rfl, Nat.le_of_ble_eq_true rfl⟩ ⟨Nat.le_refl _, Nat.le_refl _⟩ (Nat.le_of_ble_eq_true rfl) dX3_begin_15 (fun H locs hP hS => ?_)
  exact x_retv hx hb hr9 hlk9 hS hP dX3_begin_18
set_option maxHeartbeats 4000000 in
set_option maxRecDepth 100000 in
theorem c_hasItems_t {l : Launch} {g : gE} {ad : Nat → Nat} (hI : g_inj ad 55) (M : gMem) (J : gMeL) (s : Nat) (hs : s < 4) (i n : Nat) (h : i + n ≤ M (5 + s) 2) (h2 : M (5 + s) 2 ≤ 24) : CI l g ad dsX 55 yX3_hasItems cX3_hasItems 3 (some .boolean) 0 [.ref (ad (5 + s)), .int (nI i), .int (nI n)] M J (nI 1) M J := by
  refine CI.of (plainFor_of_name (by decide)) (Nat.le_of_ble_eq_true rfl) (fun p9 e9 s9 m9 args9 below9 meth9 c9 CF hK hr9 hlk9 hP hS ls hl => ?_)
  have hx := CF.1
  have hb := CF.2.1
  have hA : ∀ q, g_A ad 55 q → g_A ad 55 q := fun _ h => h
  have hl : lv_has ls 3 [(0, .ref (ad (5 + s))), (1, .int (nI i)), (2, .int (nI n))] := hl
  refine lv_iload_n hx hb dX3_hasItems_0 rfl (lv_at hl 1 rfl) ?_
  refine x_ylt (u := (i : Nat)) (tgt := 22) hx hb (nI_toInt (by omega)) dX3_hasItems_1 (by decide) (fun h_1 => (by omega : False).elim) (fun h_1 => ?_)
  refine lv_iload_n hx hb dX3_hasItems_4 rfl (lv_at hl 2 rfl) ?_
  refine x_ylt (u := (n : Nat)) (tgt := 22) hx hb (nI_toInt (by omega)) dX3_hasItems_5 (by decide) (fun h_2 => (by omega : False).elim) (fun h_2 => ?_)
  refine lv_iload_n hx hb dX3_hasItems_8 rfl (lv_at hl 1 rfl) ?_
  refine lv_aload_n hx hb dX3_hasItems_9 rfl (lv_at hl 0 rfl) ?_
  refine x_geti CF hK hP (5 + s) (by omega) (dX_sheet s (by omega)) rfl uX3 2 (by decide) rfl wd1_136 rfl dX3_hasItems_10 ?_
  refine lv_iload_n hx hb dX3_hasItems_13 rfl (lv_at hl 2 rfl) ?_
  refine x_isub hx hb (by omega) dX3_hasItems_14 ?_
  refine x_zgt (u := (i : Nat)) (v := ((M (5 + s) 2) - n : Nat)) (tgt := 22) hx hb (nI_toInt (by omega)) (nI_toInt (by omega)) dX3_hasItems_15 (by decide) (fun h_3 => (by omega : False).elim) (fun h_3 => ?_)
  refine lv_iconst (v := nI 1) hx hb dX3_hasItems_18 (by decide) ?_
  refine lv_goto (tgt := 23) hx hb dX3_hasItems_19 (by decide) ?_
  exact x_retz hx hb hr9 hlk9 hS hP (by first | rfl | (show nI 1 = nI 1; first | rfl | omega)) (rfl) dX3_hasItems_23
theorem z_subn {a : Nat} {x : Int32} (ha : a < 2 ^ 30) (hx : 0 ≤ x.toInt) : (nI a - x).toInt = (a : Int) - x.toInt := by
  have h1 := x.toInt_lt
  rw [Int32.toInt_sub, tz (by omega), Int.bmod_eq_of_le (by omega) (by omega)]
set_option maxHeartbeats 4000000 in
set_option maxRecDepth 100000 in
theorem c_hasItems_f {l : Launch} {g : gE} {ad : Nat → Nat} (hI : g_inj ad 55) (M : gMem) (J : gMeL) (s : Nat) (hs : s < 4) (i n : Int32) (h : ¬ (0 ≤ i.toInt ∧ 0 ≤ n.toInt ∧ i.toInt + n.toInt ≤ M (5 + s) 2)) (h2 : M (5 + s) 2 ≤ 24) : CI l g ad dsX 55 yX3_hasItems cX3_hasItems 3 (some .boolean) 0 [.ref (ad (5 + s)), .int i, .int n] M J (nI 0) M J := by
  refine CI.of (plainFor_of_name (by decide)) (Nat.le_of_ble_eq_true rfl) (fun p9 e9 s9 m9 args9 below9 meth9 c9 CF hK hr9 hlk9 hP hS ls hl => ?_)
  have hx := CF.1
  have hb := CF.2.1
  have hA : ∀ q, g_A ad 55 q → g_A ad 55 q := fun _ h => h
  have hl : lv_has ls 3 [(0, .ref (ad (5 + s))), (1, .int i), (2, .int n)] := hl
  refine lv_iload_n hx hb dX3_hasItems_0 rfl (lv_at hl 1 rfl) ?_
  refine x_ylt (u := _) (tgt := 22) hx hb (rfl) dX3_hasItems_1 (by decide) (fun h_1 => ?_) (fun h_1 => ?_)
  · refine lv_iconst (v := nI 0) hx hb dX3_hasItems_22 (by decide) ?_
    exact x_retz hx hb hr9 hlk9 hS hP (by first | rfl | (show nI 0 = nI 0; first | rfl | omega)) (rfl) dX3_hasItems_23
  · refine lv_iload_n hx hb dX3_hasItems_4 rfl (lv_at hl 2 rfl) ?_
    refine x_ylt (u := _) (tgt := 22) hx hb (rfl) dX3_hasItems_5 (by decide) (fun h_2 => ?_) (fun h_2 => ?_)
    · refine lv_iconst (v := nI 0) hx hb dX3_hasItems_22 (by decide) ?_
      exact x_retz hx hb hr9 hlk9 hS hP (by first | rfl | (show nI 0 = nI 0; first | rfl | omega)) (rfl) dX3_hasItems_23
    · refine lv_iload_n hx hb dX3_hasItems_8 rfl (lv_at hl 1 rfl) ?_
      refine lv_aload_n hx hb dX3_hasItems_9 rfl (lv_at hl 0 rfl) ?_
      refine x_geti CF hK hP (5 + s) (by omega) (dX_sheet s (by omega)) rfl uX3 2 (by decide) rfl wd1_136 rfl dX3_hasItems_10 ?_
      refine lv_iload_n hx hb dX3_hasItems_13 rfl (lv_at hl 2 rfl) ?_
      refine lv_isub hx hb dX3_hasItems_14 ?_
      refine x_zgt (u := _) (v := _) (tgt := 22) hx hb (rfl) (z_subn (by omega) (by omega)) dX3_hasItems_15 (by decide) (fun h_3 => ?_) (fun h_3 => ?_)
      · refine lv_iconst (v := nI 0) hx hb dX3_hasItems_22 (by decide) ?_
        exact x_retz hx hb hr9 hlk9 hS hP (by first | rfl | (show nI 0 = nI 0; first | rfl | omega)) (rfl) dX3_hasItems_23
      · exact (by omega : False).elim
set_option maxHeartbeats 4000000 in
set_option maxRecDepth 100000 in
theorem c_put {l : Launch} {g : gE} {ad : Nat → Nat} (hI : g_inj ad 55) (M : gMem) (J : gMeL) (s : Nat) (hs : s < 4) (i : Nat) (hi9 : i < 24) (v : Int64) (h : M (5 + s) 1 ≤ 2) : CV l g ad dsX 55 yX3_put cX3_put 4 0 [.ref (ad (5 + s)), .int (nI i), .long v] M J M (u2L J (9 + s) i (cutv (M (5 + s) 1) v)) := by
  refine CV.of (plainFor_of_name (by decide)) (Nat.le_of_ble_eq_true rfl) (fun p9 e9 s9 m9 args9 below9 meth9 c9 CF hK hr9 hlk9 hP hS ls hl => ?_)
  have hx := CF.1
  have hb := CF.2.1
  have hA : ∀ q, g_A ad 55 q → g_A ad 55 q := fun _ h => h
  have hl : lv_has ls 4 [(0, .ref (ad (5 + s))), (1, .int (nI i)), (2, .long v)] := hl
  refine lv_aload_n hx hb dX3_put_0 rfl (lv_at hl 0 rfl) ?_
  refine x_geti CF hK hP (5 + s) (by omega) (dX_sheet s (by omega)) rfl uX3 1 (by decide) rfl wd1_134 rfl dX3_put_1 ?_
  rcases (show M (5 + s) 1 = 0 ∨ M (5 + s) 1 = 1 ∨ (M (5 + s) 1 ≠ 0 ∧ M (5 + s) 1 ≠ 1) by omega) with sw_1 | sw_1 | sw_1
  · refine lv_lookup (off := 28) (tgt := 32) hx hb dX3_put_4 (by decide) (by rw [sw_1]; decide +kernel) (by decide) ?_
    refine lv_aload_n hx hb dX3_put_32 rfl (lv_at hl 0 rfl) ?_
    refine x_getr CF hK hP (5 + s) (by omega) (dX_sheet s (by omega)) rfl uX3 0 (by decide) (j := (9 + s)) rfl wd1_132 rfl dX3_put_33 ?_
    refine lv_iload_n hx hb dX3_put_36 rfl (lv_at hl 1 rfl) ?_
    refine lv_lload_n hx hb dX3_put_37 rfl (lv_at hl 2 rfl) ?_
    refine lv_l2i hx hb dX3_put_38 rfl ?_
    refine lv_i2s hx hb dX3_put_39 rfl ?_
    refine lv_i2l hx hb dX3_put_40 rfl ?_
    refine x_last CF hK hI hA hP hS (9 + s) (by omega) (dX_items s (by omega)) i (by omega) (by decide) v.toInt32.toInt16.toInt32.toInt64 dX3_put_41 (fun H locs hP hS => ?_)
    have hP : g_P g ad dsX 55 M (u2L J (9 + s) i (cutv (M (5 + s) 1) v)) H := (by rw [cutv, if_pos sw_1]; exact hP)
    refine lv_goto (tgt := 64) hx hb dX3_put_42 (by decide) ?_
    exact x_retv hx hb hr9 hlk9 hS hP dX3_put_64
  · refine lv_lookup (off := 41) (tgt := 45) hx hb dX3_put_4 (by decide) (by rw [sw_1]; decide +kernel) (by decide) ?_
    refine lv_aload_n hx hb dX3_put_45 rfl (lv_at hl 0 rfl) ?_
    refine x_getr CF hK hP (5 + s) (by omega) (dX_sheet s (by omega)) rfl uX3 0 (by decide) (j := (9 + s)) rfl wd1_132 rfl dX3_put_46 ?_
    refine lv_iload_n hx hb dX3_put_49 rfl (lv_at hl 1 rfl) ?_
    refine lv_lload_n hx hb dX3_put_50 rfl (lv_at hl 2 rfl) ?_
    refine lv_l2i hx hb dX3_put_51 rfl ?_
    refine lv_i2l hx hb dX3_put_52 rfl ?_
    refine x_last CF hK hI hA hP hS (9 + s) (by omega) (dX_items s (by omega)) i (by omega) (by decide) v.toInt32.toInt64 dX3_put_53 (fun H locs hP hS => ?_)
    have hP : g_P g ad dsX 55 M (u2L J (9 + s) i (cutv (M (5 + s) 1) v)) H := (by rw [cutv, if_neg (by omega), if_pos sw_1]; exact hP)
    refine lv_goto (tgt := 64) hx hb dX3_put_54 (by decide) ?_
    exact x_retv hx hb hr9 hlk9 hS hP dX3_put_64
  · refine lv_lookup (off := 53) (tgt := 57) hx hb dX3_put_4 (by decide) (by simp only [Op.lookupswitch.offset]; rw [if_neg (by rw [tz (by omega)]; omega), if_neg (by rw [tz (by omega)]; omega)]) (by decide) ?_
    refine lv_aload_n hx hb dX3_put_57 rfl (lv_at hl 0 rfl) ?_
    refine x_getr CF hK hP (5 + s) (by omega) (dX_sheet s (by omega)) rfl uX3 0 (by decide) (j := (9 + s)) rfl wd1_132 rfl dX3_put_58 ?_
    refine lv_iload_n hx hb dX3_put_61 rfl (lv_at hl 1 rfl) ?_
    refine lv_lload_n hx hb dX3_put_62 rfl (lv_at hl 2 rfl) ?_
    refine x_last CF hK hI hA hP hS (9 + s) (by omega) (dX_items s (by omega)) i (by omega) (by decide) v dX3_put_63 (fun H locs hP hS => ?_)
    have hP : g_P g ad dsX 55 M (u2L J (9 + s) i (cutv (M (5 + s) 1) v)) H := (by rw [cutv, if_neg (by omega), if_neg (by omega)]; exact hP)
    exact x_retv hx hb hr9 hlk9 hS hP dX3_put_64
end
