-- ===== PART A: goes FIRST, ahead of the names: the tables' words, and 'selects' of the private methods out of them =====
/-- a private method of a class that the tables say can be made, by its rows of tables_1 -/
def lw_okq (q : MethodName × Nat) : Prop := (q.1.cls ≠ "java/lang/invoke/MethodHandle" ∧ q.1.cls ≠ "java/lang/invoke/VarHandle") ∧ Cond.instantiable q.1.cls q.2 ∈ tables_1 ∧ Cond.privateMethod q.1 ∈ tables_1 ∧ Cond.instanceMethod q.1 ∈ tables_1
theorem lw_p0 : lw_okq (⟨"RecordNiches$Scan", "take", "(LRecordNiches$Holding;III)I"⟩, 6) := ⟨⟨by decide +kernel, by decide +kernel⟩, List.mem_of_getElem? (i := 76) (by decide +kernel), List.mem_of_getElem? (i := 327) (by decide +kernel), List.mem_of_getElem? (i := 328) (by decide +kernel)⟩
theorem lw_p1 : lw_okq (⟨"RecordNiches$Scan", "begin", "(LRecordNiches$Holding;III)I"⟩, 6) := ⟨⟨by decide +kernel, by decide +kernel⟩, List.mem_of_getElem? (i := 76) (by decide +kernel), List.mem_of_getElem? (i := 331) (by decide +kernel), List.mem_of_getElem? (i := 332) (by decide +kernel)⟩
theorem lw_p2 : lw_okq (⟨"RecordNiches$Scan", "endTerms", "(I)V"⟩, 6) := ⟨⟨by decide +kernel, by decide +kernel⟩, List.mem_of_getElem? (i := 76) (by decide +kernel), List.mem_of_getElem? (i := 342) (by decide +kernel), List.mem_of_getElem? (i := 343) (by decide +kernel)⟩
theorem lw_p3 : lw_okq (⟨"RecordNiches", "isKnown", "(II)Z"⟩, 6) := ⟨⟨by decide +kernel, by decide +kernel⟩, List.mem_of_getElem? (i := 12) (by decide +kernel), List.mem_of_getElem? (i := 350) (by decide +kernel), List.mem_of_getElem? (i := 351) (by decide +kernel)⟩
theorem lw_p4 : lw_okq (⟨"RecordNiches", "prepare", "(II)I"⟩, 6) := ⟨⟨by decide +kernel, by decide +kernel⟩, List.mem_of_getElem? (i := 12) (by decide +kernel), List.mem_of_getElem? (i := 360) (by decide +kernel), List.mem_of_getElem? (i := 361) (by decide +kernel)⟩
theorem lw_p5 : lw_okq (⟨"RecordNiches$Tree", "keepArgument", "(III)I"⟩, 16) := ⟨⟨by decide +kernel, by decide +kernel⟩, List.mem_of_getElem? (i := 112) (by decide +kernel), List.mem_of_getElem? (i := 374) (by decide +kernel), List.mem_of_getElem? (i := 375) (by decide +kernel)⟩
theorem lw_p6 : lw_okq (⟨"RecordNiches$Tree", "goTo", "(III)V"⟩, 16) := ⟨⟨by decide +kernel, by decide +kernel⟩, List.mem_of_getElem? (i := 112) (by decide +kernel), List.mem_of_getElem? (i := 378) (by decide +kernel), List.mem_of_getElem? (i := 379) (by decide +kernel)⟩
theorem lw_p7 : lw_okq (⟨"RecordNiches$Tree", "grow", "(LRecordNiches$Holding;LRecordNiches$Node;)Z"⟩, 16) := ⟨⟨by decide +kernel, by decide +kernel⟩, List.mem_of_getElem? (i := 112) (by decide +kernel), List.mem_of_getElem? (i := 382) (by decide +kernel), List.mem_of_getElem? (i := 383) (by decide +kernel)⟩
theorem lw_p8 : lw_okq (⟨"RecordNiches$Tree", "goThroughLetters", "(LRecordNiches$Holding;)Z"⟩, 16) := ⟨⟨by decide +kernel, by decide +kernel⟩, List.mem_of_getElem? (i := 112) (by decide +kernel), List.mem_of_getElem? (i := 386) (by decide +kernel), List.mem_of_getElem? (i := 387) (by decide +kernel)⟩
theorem lw_p9 : lw_okq (⟨"RecordNiches$Tree", "use", "(II)V"⟩, 16) := ⟨⟨by decide +kernel, by decide +kernel⟩, List.mem_of_getElem? (i := 112) (by decide +kernel), List.mem_of_getElem? (i := 487) (by decide +kernel), List.mem_of_getElem? (i := 488) (by decide +kernel)⟩
theorem lw_p10 : lw_okq (⟨"RecordNiches", "isPlaceForRoot", "(I)Z"⟩, 6) := ⟨⟨by decide +kernel, by decide +kernel⟩, List.mem_of_getElem? (i := 12) (by decide +kernel), List.mem_of_getElem? (i := 509) (by decide +kernel), List.mem_of_getElem? (i := 510) (by decide +kernel)⟩
theorem lw_p11 : lw_okq (⟨"RecordNiches$Transfer", "keep", "(LRecordNiches$Node;J)V"⟩, 2) := ⟨⟨by decide +kernel, by decide +kernel⟩, List.mem_of_getElem? (i := 270) (by decide +kernel), List.mem_of_getElem? (i := 534) (by decide +kernel), List.mem_of_getElem? (i := 535) (by decide +kernel)⟩
def lw_privs_1 : List (MethodName × Nat) := [(⟨"RecordNiches$Scan", "take", "(LRecordNiches$Holding;III)I"⟩, 6), (⟨"RecordNiches$Scan", "begin", "(LRecordNiches$Holding;III)I"⟩, 6), (⟨"RecordNiches$Scan", "endTerms", "(I)V"⟩, 6), (⟨"RecordNiches", "isKnown", "(II)Z"⟩, 6), (⟨"RecordNiches", "prepare", "(II)I"⟩, 6), (⟨"RecordNiches$Tree", "keepArgument", "(III)I"⟩, 16), (⟨"RecordNiches$Tree", "goTo", "(III)V"⟩, 16), (⟨"RecordNiches$Tree", "grow", "(LRecordNiches$Holding;LRecordNiches$Node;)Z"⟩, 16), (⟨"RecordNiches$Tree", "goThroughLetters", "(LRecordNiches$Holding;)Z"⟩, 16), (⟨"RecordNiches$Tree", "use", "(II)V"⟩, 16), (⟨"RecordNiches", "isPlaceForRoot", "(I)Z"⟩, 6), (⟨"RecordNiches$Transfer", "keep", "(LRecordNiches$Node;J)V"⟩, 2)]
theorem lw_r1 : ∀ q ∈ lw_privs_1, lw_okq q := List.forall_mem_cons.mpr ⟨lw_p0, List.forall_mem_cons.mpr ⟨lw_p1, List.forall_mem_cons.mpr ⟨lw_p2, List.forall_mem_cons.mpr ⟨lw_p3, List.forall_mem_cons.mpr ⟨lw_p4, List.forall_mem_cons.mpr ⟨lw_p5, List.forall_mem_cons.mpr ⟨lw_p6, List.forall_mem_cons.mpr ⟨lw_p7, List.forall_mem_cons.mpr ⟨lw_p8, List.forall_mem_cons.mpr ⟨lw_p9, List.forall_mem_cons.mpr ⟨lw_p10, List.forall_mem_cons.mpr ⟨lw_p11, fun _ h => absurd h List.not_mem_nil⟩⟩⟩⟩⟩⟩⟩⟩⟩⟩⟩⟩
def lw_privs : List (MethodName × Nat) := lw_privs_1
def lw_tbl : List Cond := k2_sels lw_privs ++ tables_1
theorem lw_privs_ok : ∀ q ∈ lw_privs, lw_okq q := lw_r1
/-! names and field tables: out of the printed names -/
def RX0 : String := "RecordNiches$Grammar"
def TX0 : u_T := fun k => match k with
  | 0 => ("RecordNiches$Grammar", "scans", "[LRecordNiches$Scan;", true)
  | _ => ("RecordNiches$Grammar", "needed", "[Z", true)
def tyX0 : Nat → FieldType := fun k => match k with
  | 0 => .array (.object "RecordNiches$Scan")
  | _ => .array .boolean
theorem nmX0 : ∀ a, a < 2 → ∀ b, b < 2 → a ≠ b → (TX0 a).2.1 ≠ (TX0 b).2.1 := by decide +kernel
theorem tyX0_ok : ∀ k, k < 2 → parseFieldDescriptor (TX0 k).2.2.1 = some (tyX0 k) := by decide +kernel
abbrev cX0_init : ByteArray := prog_2_method_1_code
def yX0_init : MethodName := ⟨RX0, "<init>", "()V"⟩
abbrev cX0_isWell : ByteArray := prog_2_method_2_code
def yX0_isWell : MethodName := ⟨RX0, "isWell", "(LRecordNiches$Holding;II)Z"⟩
abbrev cX0_behind : ByteArray := prog_2_method_3_code
def yX0_behind : MethodName := ⟨RX0, "behind", "(II)I"⟩
def RX1 : String := "RecordNiches$Holding"
def TX1 : u_T := fun k => match k with
  | 0 => ("RecordNiches$Holding", "texts", "[LRecordNiches$Text;", true)
  | 1 => ("RecordNiches$Holding", "list", "[J", true)
  | 2 => ("RecordNiches$Holding", "memory", "[I", true)
  | 3 => ("RecordNiches$Holding", "listed", "I", false)
  | _ => ("RecordNiches$Holding", "packing", "I", false)
def tyX1 : Nat → FieldType := fun k => match k with
  | 0 => .array (.object "RecordNiches$Text")
  | 1 => .array .long
  | 2 => .array .int
  | 3 => .int
  | _ => .int
theorem nmX1 : ∀ a, a < 5 → ∀ b, b < 5 → a ≠ b → (TX1 a).2.1 ≠ (TX1 b).2.1 := by decide +kernel
theorem tyX1_ok : ∀ k, k < 5 → parseFieldDescriptor (TX1 k).2.2.1 = some (tyX1 k) := by decide +kernel
abbrev cX1_init : ByteArray := prog_3_method_1_code
def yX1_init : MethodName := ⟨RX1, "<init>", "()V"⟩
abbrev cX1_isOpen : ByteArray := prog_3_method_3_code
def yX1_isOpen : MethodName := ⟨RX1, "isOpen", "(I)Z"⟩
abbrev cX1_signAt : ByteArray := prog_3_method_4_code
def yX1_signAt : MethodName := ⟨RX1, "signAt", "(II)I"⟩
abbrev cX1_putNumber : ByteArray := prog_3_method_5_code
def yX1_putNumber : MethodName := ⟨RX1, "putNumber", "(IIJ)V"⟩
abbrev cX1_numberAt : ByteArray := prog_3_method_6_code
def yX1_numberAt : MethodName := ⟨RX1, "numberAt", "(II)J"⟩
def RX2 : String := "RecordNiches$Lay"
def TX2 : u_T := fun k => match k with
  | _ => ("", "", "", false)
def tyX2 : Nat → FieldType := fun k => match k with
  | _ => .int
theorem nmX2 : ∀ a, a < 0 → ∀ b, b < 0 → a ≠ b → (TX2 a).2.1 ≠ (TX2 b).2.1 := by decide +kernel
theorem tyX2_ok : ∀ k, k < 0 → parseFieldDescriptor (TX2 k).2.2.1 = some (tyX2 k) := by decide +kernel
abbrev cX2_fields : ByteArray := prog_4_method_2_code
def yX2_fields : MethodName := ⟨RX2, "fields", "(LRecordNiches$Node;I)V"⟩
abbrev cX2_choices : ByteArray := prog_4_method_3_code
def yX2_choices : MethodName := ⟨RX2, "choices", "(LRecordNiches$Node;)V"⟩
abbrev cX2_greatestAlign : ByteArray := prog_4_method_4_code
def yX2_greatestAlign : MethodName := ⟨RX2, "greatestAlign", "(LRecordNiches$Node;)I"⟩
abbrev cX2_inLine : ByteArray := prog_4_method_5_code
def yX2_inLine : MethodName := ⟨RX2, "inLine", "(LRecordNiches$Node;II)I"⟩
abbrev cX2_takeGreaterGap : ByteArray := prog_4_method_6_code
def yX2_takeGreaterGap : MethodName := ⟨RX2, "takeGreaterGap", "(LRecordNiches$Node;LRecordNiches$Node;)V"⟩
abbrev cX2_alone : ByteArray := prog_4_method_7_code
def yX2_alone : MethodName := ⟨RX2, "alone", "(LRecordNiches$Node;LRecordNiches$Node;)V"⟩
abbrev cX2_findsRoom : ByteArray := prog_4_method_8_code
def yX2_findsRoom : MethodName := ⟨RX2, "findsRoom", "(LRecordNiches$Node;I)Z"⟩
abbrev cX2_hide : ByteArray := prog_4_method_9_code
def yX2_hide : MethodName := ⟨RX2, "hide", "(LRecordNiches$Node;I)V"⟩
abbrev cX2_tag : ByteArray := prog_4_method_10_code
def yX2_tag : MethodName := ⟨RX2, "tag", "(LRecordNiches$Node;)V"⟩
def RX3 : String := "RecordNiches$Node"
def TX3 : u_T := fun k => match k with
  | 0 => ("RecordNiches$Node", "terms", "[LRecordNiches$Node;", true)
  | 1 => ("RecordNiches$Node", "count", "I", false)
  | 2 => ("RecordNiches$Node", "parent", "LRecordNiches$Node;", false)
  | 3 => ("RecordNiches$Node", "number", "I", false)
  | 4 => ("RecordNiches$Node", "kind", "I", false)
  | 5 => ("RecordNiches$Node", "size", "I", false)
  | 6 => ("RecordNiches$Node", "align", "I", false)
  | 7 => ("RecordNiches$Node", "offset", "I", false)
  | 8 => ("RecordNiches$Node", "gapOffset", "I", false)
  | 9 => ("RecordNiches$Node", "gapWidth", "I", false)
  | 10 => ("RecordNiches$Node", "gapFirst", "I", false)
  | 11 => ("RecordNiches$Node", "gapCount", "I", false)
  | 12 => ("RecordNiches$Node", "manner", "I", false)
  | 13 => ("RecordNiches$Node", "host", "I", false)
  | 14 => ("RecordNiches$Node", "mark", "I", false)
  | 15 => ("RecordNiches$Node", "base", "I", false)
  | 16 => ("RecordNiches$Node", "chosen", "I", false)
  | _ => ("RecordNiches$Node", "live", "Z", false)
def tyX3 : Nat → FieldType := fun k => match k with
  | 0 => .array (.object "RecordNiches$Node")
  | 1 => .int
  | 2 => .object "RecordNiches$Node"
  | 3 => .int
  | 4 => .int
  | 5 => .int
  | 6 => .int
  | 7 => .int
  | 8 => .int
  | 9 => .int
  | 10 => .int
  | 11 => .int
  | 12 => .int
  | 13 => .int
  | 14 => .int
  | 15 => .int
  | 16 => .int
  | _ => .boolean
theorem nmX3 : ∀ a, a < 18 → ∀ b, b < 18 → a ≠ b → (TX3 a).2.1 ≠ (TX3 b).2.1 := by decide +kernel
theorem tyX3_ok : ∀ k, k < 18 → parseFieldDescriptor (TX3 k).2.2.1 = some (tyX3 k) := by decide +kernel
abbrev cX3_init : ByteArray := prog_5_method_1_code
def yX3_init : MethodName := ⟨RX3, "<init>", "()V"⟩
abbrev cX3_reset : ByteArray := prog_5_method_2_code
def yX3_reset : MethodName := ⟨RX3, "reset", "(LRecordNiches$Node;)V"⟩
abbrev cX3_be : ByteArray := prog_5_method_3_code
def yX3_be : MethodName := ⟨RX3, "be", "(II)V"⟩
abbrev cX3_setGap : ByteArray := prog_5_method_4_code
def yX3_setGap : MethodName := ⟨RX3, "setGap", "(IIII)V"⟩
abbrev cX3_isNumber : ByteArray := prog_5_method_5_code
def yX3_isNumber : MethodName := ⟨RX3, "isNumber", "()Z"⟩
abbrev cX3_admits : ByteArray := prog_5_method_6_code
def yX3_admits : MethodName := ⟨RX3, "admits", "(J)Z"⟩
def RX4 : String := "RecordNiches$Scan"
def TX4 : u_T := fun k => match k with
  | 0 => ("RecordNiches$Scan", "firstFault", "I", false)
  | 1 => ("RecordNiches$Scan", "ends", "[I", true)
  | 2 => ("RecordNiches$Scan", "openers", "[I", true)
  | 3 => ("RecordNiches$Scan", "begun", "[I", true)
  | 4 => ("RecordNiches$Scan", "held", "[I", true)
  | _ => ("RecordNiches$Scan", "depth", "I", false)
def tyX4 : Nat → FieldType := fun k => match k with
  | 0 => .int
  | 1 => .array .int
  | 2 => .array .int
  | 3 => .array .int
  | 4 => .array .int
  | _ => .int
theorem nmX4 : ∀ a, a < 6 → ∀ b, b < 6 → a ≠ b → (TX4 a).2.1 ≠ (TX4 b).2.1 := by decide +kernel
theorem tyX4_ok : ∀ k, k < 6 → parseFieldDescriptor (TX4 k).2.2.1 = some (tyX4 k) := by decide +kernel
abbrev cX4_init : ByteArray := prog_6_method_1_code
def yX4_init : MethodName := ⟨RX4, "<init>", "()V"⟩
abbrev cX4_run : ByteArray := prog_6_method_2_code
def yX4_run : MethodName := ⟨RX4, "run", "(LRecordNiches$Holding;I)V"⟩
abbrev cX4_behind : ByteArray := prog_6_method_3_code
def yX4_behind : MethodName := ⟨RX4, "behind", "(I)I"⟩
abbrev cX4_take : ByteArray := prog_6_method_4_code
def yX4_take : MethodName := ⟨RX4, "take", "(LRecordNiches$Holding;III)I"⟩
abbrev cX4_begin : ByteArray := prog_6_method_5_code
def yX4_begin : MethodName := ⟨RX4, "begin", "(LRecordNiches$Holding;III)I"⟩
abbrev cX4_endTerms : ByteArray := prog_6_method_6_code
def yX4_endTerms : MethodName := ⟨RX4, "endTerms", "(I)V"⟩
def RX5 : String := "RecordNiches$Text"
def TX5 : u_T := fun k => match k with
  | 0 => ("RecordNiches$Text", "signs", "[I", true)
  | _ => ("RecordNiches$Text", "count", "I", false)
def tyX5 : Nat → FieldType := fun k => match k with
  | 0 => .array .int
  | _ => .int
theorem nmX5 : ∀ a, a < 2 → ∀ b, b < 2 → a ≠ b → (TX5 a).2.1 ≠ (TX5 b).2.1 := by decide +kernel
theorem tyX5_ok : ∀ k, k < 2 → parseFieldDescriptor (TX5 k).2.2.1 = some (tyX5 k) := by decide +kernel
abbrev cX5_init : ByteArray := prog_7_method_1_code
def yX5_init : MethodName := ⟨RX5, "<init>", "()V"⟩
abbrev cX5_append : ByteArray := prog_7_method_2_code
def yX5_append : MethodName := ⟨RX5, "append", "(I)V"⟩
abbrev cX5_signAt : ByteArray := prog_7_method_3_code
def yX5_signAt : MethodName := ⟨RX5, "signAt", "(I)I"⟩
abbrev cX5_holds : ByteArray := prog_7_method_4_code
def yX5_holds : MethodName := ⟨RX5, "holds", "(I)Z"⟩
def RX6 : String := "RecordNiches$Transfer"
def TX6 : u_T := fun k => match k with
  | 0 => ("RecordNiches$Transfer", "numbers", "[J", true)
  | _ => ("RecordNiches$Transfer", "count", "I", false)
def tyX6 : Nat → FieldType := fun k => match k with
  | 0 => .array .long
  | _ => .int
theorem nmX6 : ∀ a, a < 2 → ∀ b, b < 2 → a ≠ b → (TX6 a).2.1 ≠ (TX6 b).2.1 := by decide +kernel
theorem tyX6_ok : ∀ k, k < 2 → parseFieldDescriptor (TX6 k).2.2.1 = some (tyX6 k) := by decide +kernel
abbrev cX6_init : ByteArray := prog_8_method_1_code
def yX6_init : MethodName := ⟨RX6, "<init>", "()V"⟩
abbrev cX6_accepts : ByteArray := prog_8_method_2_code
def yX6_accepts : MethodName := ⟨RX6, "accepts", "(LRecordNiches$Tree;LRecordNiches$Holding;)Z"⟩
abbrev cX6_store : ByteArray := prog_8_method_3_code
def yX6_store : MethodName := ⟨RX6, "store", "(LRecordNiches$Tree;LRecordNiches$Holding;I)V"⟩
abbrev cX6_load : ByteArray := prog_8_method_4_code
def yX6_load : MethodName := ⟨RX6, "load", "(LRecordNiches$Tree;LRecordNiches$Holding;I)Z"⟩
abbrev cX6_chosenAt : ByteArray := prog_8_method_5_code
def yX6_chosenAt : MethodName := ⟨RX6, "chosenAt", "(LRecordNiches$Node;LRecordNiches$Holding;I)I"⟩
abbrev cX6_storeMark : ByteArray := prog_8_method_6_code
def yX6_storeMark : MethodName := ⟨RX6, "storeMark", "(LRecordNiches$Node;LRecordNiches$Holding;I)V"⟩
abbrev cX6_isLive : ByteArray := prog_8_method_7_code
def yX6_isLive : MethodName := ⟨RX6, "isLive", "(LRecordNiches$Node;)Z"⟩
abbrev cX6_hasNumber : ByteArray := prog_8_method_8_code
def yX6_hasNumber : MethodName := ⟨RX6, "hasNumber", "(LRecordNiches$Node;)Z"⟩
abbrev cX6_keep : ByteArray := prog_8_method_9_code
def yX6_keep : MethodName := ⟨RX6, "keep", "(LRecordNiches$Node;J)V"⟩
def RX7 : String := "RecordNiches$Tree"
def TX7 : u_T := fun k => match k with
  | 0 => ("RecordNiches$Tree", "count", "I", false)
  | 1 => ("RecordNiches$Tree", "nodes", "[LRecordNiches$Node;", true)
  | 2 => ("RecordNiches$Tree", "used", "[Z", true)
  | 3 => ("RecordNiches$Tree", "shape", "I", false)
  | 4 => ("RecordNiches$Tree", "place", "I", false)
  | 5 => ("RecordNiches$Tree", "argument", "I", false)
  | 6 => ("RecordNiches$Tree", "letters", "I", false)
  | 7 => ("RecordNiches$Tree", "argumentShape", "[I", true)
  | 8 => ("RecordNiches$Tree", "argumentPlace", "[I", true)
  | 9 => ("RecordNiches$Tree", "argumentOuter", "[I", true)
  | 10 => ("RecordNiches$Tree", "arguments", "I", false)
  | 11 => ("RecordNiches$Tree", "openNode", "[LRecordNiches$Node;", true)
  | 12 => ("RecordNiches$Tree", "openShape", "[I", true)
  | 13 => ("RecordNiches$Tree", "openPlace", "[I", true)
  | 14 => ("RecordNiches$Tree", "openArgument", "[I", true)
  | _ => ("RecordNiches$Tree", "depth", "I", false)
def tyX7 : Nat → FieldType := fun k => match k with
  | 0 => .int
  | 1 => .array (.object "RecordNiches$Node")
  | 2 => .array .boolean
  | 3 => .int
  | 4 => .int
  | 5 => .int
  | 6 => .int
  | 7 => .array .int
  | 8 => .array .int
  | 9 => .array .int
  | 10 => .int
  | 11 => .array (.object "RecordNiches$Node")
  | 12 => .array .int
  | 13 => .array .int
  | 14 => .array .int
  | _ => .int
theorem nmX7 : ∀ a, a < 16 → ∀ b, b < 16 → a ≠ b → (TX7 a).2.1 ≠ (TX7 b).2.1 := by decide +kernel
theorem tyX7_ok : ∀ k, k < 16 → parseFieldDescriptor (TX7 k).2.2.1 = some (tyX7 k) := by decide +kernel
abbrev cX7_init : ByteArray := prog_9_method_1_code
def yX7_init : MethodName := ⟨RX7, "<init>", "()V"⟩
abbrev cX7_root : ByteArray := prog_9_method_2_code
def yX7_root : MethodName := ⟨RX7, "root", "()LRecordNiches$Node;"⟩
abbrev cX7_part : ByteArray := prog_9_method_3_code
def yX7_part : MethodName := ⟨RX7, "part", "(I)LRecordNiches$Node;"⟩
abbrev cX7_build : ByteArray := prog_9_method_4_code
def yX7_build : MethodName := ⟨RX7, "build", "(LRecordNiches$Holding;LRecordNiches$Grammar;II)Z"⟩
abbrev cX7_goTo : ByteArray := prog_9_method_5_code
def yX7_goTo : MethodName := ⟨RX7, "goTo", "(III)V"⟩
abbrev cX7_keepArgument : ByteArray := prog_9_method_6_code
def yX7_keepArgument : MethodName := ⟨RX7, "keepArgument", "(III)I"⟩
abbrev cX7_grow : ByteArray := prog_9_method_7_code
def yX7_grow : MethodName := ⟨RX7, "grow", "(LRecordNiches$Holding;LRecordNiches$Node;)Z"⟩
abbrev cX7_goThroughLetters : ByteArray := prog_9_method_8_code
def yX7_goThroughLetters : MethodName := ⟨RX7, "goThroughLetters", "(LRecordNiches$Holding;)Z"⟩
abbrev cX7_makeLeaf : ByteArray := prog_9_method_9_code
def yX7_makeLeaf : MethodName := ⟨RX7, "makeLeaf", "(LRecordNiches$Node;II)Z"⟩
abbrev cX7_settle : ByteArray := prog_9_method_10_code
def yX7_settle : MethodName := ⟨RX7, "settle", "(I)Z"⟩
abbrev cX7_unusedBytes : ByteArray := prog_9_method_11_code
def yX7_unusedBytes : MethodName := ⟨RX7, "unusedBytes", "()I"⟩
abbrev cX7_use : ByteArray := prog_9_method_12_code
def yX7_use : MethodName := ⟨RX7, "use", "(II)V"⟩
def RX8 : String := "RecordNiches"
def TX8 : u_T := fun k => match k with
  | 0 => ("RecordNiches", "now", "LRecordNiches$Holding;", true)
  | 1 => ("RecordNiches", "images", "[LRecordNiches$Holding;", true)
  | 2 => ("RecordNiches", "kept", "[Z", true)
  | 3 => ("RecordNiches", "grammar", "LRecordNiches$Grammar;", true)
  | 4 => ("RecordNiches", "tree", "LRecordNiches$Tree;", true)
  | _ => ("RecordNiches", "transfer", "LRecordNiches$Transfer;", true)
def tyX8 : Nat → FieldType := fun k => match k with
  | 0 => .object "RecordNiches$Holding"
  | 1 => .array (.object "RecordNiches$Holding")
  | 2 => .array .boolean
  | 3 => .object "RecordNiches$Grammar"
  | 4 => .object "RecordNiches$Tree"
  | _ => .object "RecordNiches$Transfer"
theorem nmX8 : ∀ a, a < 6 → ∀ b, b < 6 → a ≠ b → (TX8 a).2.1 ≠ (TX8 b).2.1 := by decide +kernel
theorem tyX8_ok : ∀ k, k < 6 → parseFieldDescriptor (TX8 k).2.2.1 = some (tyX8 k) := by decide +kernel
abbrev cX8_init : ByteArray := prog_1_method_1_code
def yX8_init : MethodName := ⟨RX8, "<init>", "()V"⟩
abbrev cX8_say : ByteArray := prog_1_method_2_code
def yX8_say : MethodName := ⟨RX8, "say", "(II)I"⟩
abbrev cX8_wipe : ByteArray := prog_1_method_3_code
def yX8_wipe : MethodName := ⟨RX8, "wipe", "(I)I"⟩
abbrev cX8_fault : ByteArray := prog_1_method_4_code
def yX8_fault : MethodName := ⟨RX8, "fault", "(I)I"⟩
abbrev cX8_layout : ByteArray := prog_1_method_6_code
def yX8_layout : MethodName := ⟨RX8, "layout", "(III)I"⟩
abbrev cX8_term : ByteArray := prog_1_method_7_code
def yX8_term : MethodName := ⟨RX8, "term", "(IIII)I"⟩
abbrev cX8_variant : ByteArray := prog_1_method_8_code
def yX8_variant : MethodName := ⟨RX8, "variant", "(III)I"⟩
abbrev cX8_idle : ByteArray := prog_1_method_11_code
def yX8_idle : MethodName := ⟨RX8, "idle", "(II)I"⟩
abbrev cX8_give : ByteArray := prog_1_method_12_code
def yX8_give : MethodName := ⟨RX8, "give", "(J)I"⟩
abbrev cX8_drop : ByteArray := prog_1_method_13_code
def yX8_drop : MethodName := ⟨RX8, "drop", "()I"⟩
abbrev cX8_given : ByteArray := prog_1_method_14_code
def yX8_given : MethodName := ⟨RX8, "given", "(I)J"⟩
abbrev cX8_write : ByteArray := prog_1_method_15_code
def yX8_write : MethodName := ⟨RX8, "write", "(III)I"⟩
abbrev cX8_read : ByteArray := prog_1_method_16_code
def yX8_read : MethodName := ⟨RX8, "read", "(III)I"⟩
abbrev cX8_which : ByteArray := prog_1_method_17_code
def yX8_which : MethodName := ⟨RX8, "which", "(III)I"⟩
abbrev cX8_poke : ByteArray := prog_1_method_18_code
def yX8_poke : MethodName := ⟨RX8, "poke", "(II)I"⟩
abbrev cX8_peek : ByteArray := prog_1_method_19_code
def yX8_peek : MethodName := ⟨RX8, "peek", "(I)I"⟩
abbrev cX8_told : ByteArray := prog_1_method_22_code
def yX8_told : MethodName := ⟨RX8, "told", "(I)I"⟩
abbrev cX8_isShape : ByteArray := prog_1_method_23_code
def yX8_isShape : MethodName := ⟨RX8, "isShape", "(I)Z"⟩
abbrev cX8_isKnown : ByteArray := prog_1_method_24_code
def yX8_isKnown : MethodName := ⟨RX8, "isKnown", "(II)Z"⟩
abbrev cX8_prepare : ByteArray := prog_1_method_25_code
def yX8_prepare : MethodName := ⟨RX8, "prepare", "(II)I"⟩
abbrev cX8_isPlaceForRoot : ByteArray := prog_1_method_26_code
def yX8_isPlaceForRoot : MethodName := ⟨RX8, "isPlaceForRoot", "(I)Z"⟩
abbrev cX8_upTo : ByteArray := prog_1_method_27_code
def yX8_upTo : MethodName := ⟨RX8, "upTo", "(II)I"⟩
abbrev cX8_isLetter : ByteArray := prog_1_method_28_code
def yX8_isLetter : MethodName := ⟨RX8, "isLetter", "(I)Z"⟩
def RX9 : String := "RecordNichesModel"
def TX9 : u_T := fun k => match k with
  | _ => ("", "", "", false)
def tyX9 : Nat → FieldType := fun k => match k with
  | _ => .int
theorem nmX9 : ∀ a, a < 0 → ∀ b, b < 0 → a ≠ b → (TX9 a).2.1 ≠ (TX9 b).2.1 := by decide +kernel
theorem tyX9_ok : ∀ k, k < 0 → parseFieldDescriptor (TX9 k).2.2.1 = some (tyX9 k) := by decide +kernel
def RL : String := "RecordNichesLaw"
abbrev cL_cell : ByteArray := method_2_code
def yL_cell : MethodName := ⟨RL, "cell", "([III)I"⟩
abbrev cL_up : ByteArray := method_3_code
def yL_up : MethodName := ⟨RL, "up", "(II)I"⟩
abbrev cL_of : ByteArray := method_4_code
def yL_of : MethodName := ⟨RL, "of", "(II[I)I"⟩
abbrev cL_tell : ByteArray := method_7_code
def yL_tell : MethodName := ⟨RL, "tell", "(LRecordNiches;II)Z"⟩
abbrev cL_law : ByteArray := code
def yL_law : MethodName := ⟨RL, "law", "([I)Z"⟩
