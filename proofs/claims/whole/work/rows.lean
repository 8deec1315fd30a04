section
-- ===== PART A: goes FIRST, ahead of the names: the tables' words, and 'selects' of the private methods out of them =====
/-- a private method of a class that the tables say can be made, by its rows of tables_1 -/
def lw_okq (q : MethodName × Nat) : Prop := (q.1.cls ≠ "java/lang/invoke/MethodHandle" ∧ q.1.cls ≠ "java/lang/invoke/VarHandle") ∧ Cond.instantiable q.1.cls q.2 ∈ tables_1 ∧ Cond.privateMethod q.1 ∈ tables_1 ∧ Cond.instanceMethod q.1 ∈ tables_1
theorem lw_p0 : lw_okq (⟨"RecordNiches$Scan", "take", "(LRecordNiches$Holding;III)I"⟩, 6) := ⟨⟨by decide +kernel, by decide +kernel⟩, List.mem_of_getElem? (i := 80) (by decide +kernel), List.mem_of_getElem? (i := 332) (by decide +kernel), List.mem_of_getElem? (i := 333) (by decide +kernel)⟩
theorem lw_p1 : lw_okq (⟨"RecordNiches$Scan", "begin", "(LRecordNiches$Holding;III)I"⟩, 6) := ⟨⟨by decide +kernel, by decide +kernel⟩, List.mem_of_getElem? (i := 80) (by decide +kernel), List.mem_of_getElem? (i := 336) (by decide +kernel), List.mem_of_getElem? (i := 337) (by decide +kernel)⟩
theorem lw_p2 : lw_okq (⟨"RecordNiches$Scan", "endTerms", "(I)V"⟩, 6) := ⟨⟨by decide +kernel, by decide +kernel⟩, List.mem_of_getElem? (i := 80) (by decide +kernel), List.mem_of_getElem? (i := 347) (by decide +kernel), List.mem_of_getElem? (i := 348) (by decide +kernel)⟩
theorem lw_p3 : lw_okq (⟨"RecordNiches", "isKnown", "(II)Z"⟩, 6) := ⟨⟨by decide +kernel, by decide +kernel⟩, List.mem_of_getElem? (i := 14) (by decide +kernel), List.mem_of_getElem? (i := 359) (by decide +kernel), List.mem_of_getElem? (i := 360) (by decide +kernel)⟩
theorem lw_p4 : lw_okq (⟨"RecordNiches", "prepare", "(II)I"⟩, 6) := ⟨⟨by decide +kernel, by decide +kernel⟩, List.mem_of_getElem? (i := 14) (by decide +kernel), List.mem_of_getElem? (i := 369) (by decide +kernel), List.mem_of_getElem? (i := 370) (by decide +kernel)⟩
theorem lw_p5 : lw_okq (⟨"RecordNiches$Tree", "keepArgument", "(III)I"⟩, 16) := ⟨⟨by decide +kernel, by decide +kernel⟩, List.mem_of_getElem? (i := 116) (by decide +kernel), List.mem_of_getElem? (i := 383) (by decide +kernel), List.mem_of_getElem? (i := 384) (by decide +kernel)⟩
theorem lw_p6 : lw_okq (⟨"RecordNiches$Tree", "goTo", "(III)V"⟩, 16) := ⟨⟨by decide +kernel, by decide +kernel⟩, List.mem_of_getElem? (i := 116) (by decide +kernel), List.mem_of_getElem? (i := 387) (by decide +kernel), List.mem_of_getElem? (i := 388) (by decide +kernel)⟩
theorem lw_p7 : lw_okq (⟨"RecordNiches$Tree", "grow", "(LRecordNiches$Holding;LRecordNiches$Node;)Z"⟩, 16) := ⟨⟨by decide +kernel, by decide +kernel⟩, List.mem_of_getElem? (i := 116) (by decide +kernel), List.mem_of_getElem? (i := 391) (by decide +kernel), List.mem_of_getElem? (i := 392) (by decide +kernel)⟩
theorem lw_p8 : lw_okq (⟨"RecordNiches$Tree", "goThroughLetters", "(LRecordNiches$Holding;)Z"⟩, 16) := ⟨⟨by decide +kernel, by decide +kernel⟩, List.mem_of_getElem? (i := 116) (by decide +kernel), List.mem_of_getElem? (i := 395) (by decide +kernel), List.mem_of_getElem? (i := 396) (by decide +kernel)⟩
theorem lw_p9 : lw_okq (⟨"RecordNiches$Tree", "use", "(II)V"⟩, 16) := ⟨⟨by decide +kernel, by decide +kernel⟩, List.mem_of_getElem? (i := 116) (by decide +kernel), List.mem_of_getElem? (i := 505) (by decide +kernel), List.mem_of_getElem? (i := 506) (by decide +kernel)⟩
theorem lw_p10 : lw_okq (⟨"RecordNiches", "isPlaceForRoot", "(I)Z"⟩, 6) := ⟨⟨by decide +kernel, by decide +kernel⟩, List.mem_of_getElem? (i := 14) (by decide +kernel), List.mem_of_getElem? (i := 527) (by decide +kernel), List.mem_of_getElem? (i := 528) (by decide +kernel)⟩
theorem lw_p11 : lw_okq (⟨"RecordNiches$Transfer", "keep", "(LRecordNiches$Node;J)V"⟩, 2) := ⟨⟨by decide +kernel, by decide +kernel⟩, List.mem_of_getElem? (i := 275) (by decide +kernel), List.mem_of_getElem? (i := 551) (by decide +kernel), List.mem_of_getElem? (i := 552) (by decide +kernel)⟩
theorem lw_p12 : lw_okq (⟨"RecordNichesModel", "faultOf", "(I)I"⟩, 43) := ⟨⟨by decide +kernel, by decide +kernel⟩, List.mem_of_getElem? (i := 620) (by decide +kernel), List.mem_of_getElem? (i := 777) (by decide +kernel), List.mem_of_getElem? (i := 778) (by decide +kernel)⟩
theorem lw_p13 : lw_okq (⟨"RecordNichesModel", "push", "(I)V"⟩, 43) := ⟨⟨by decide +kernel, by decide +kernel⟩, List.mem_of_getElem? (i := 620) (by decide +kernel), List.mem_of_getElem? (i := 781) (by decide +kernel), List.mem_of_getElem? (i := 782) (by decide +kernel)⟩
theorem lw_p14 : lw_okq (⟨"RecordNichesModel", "signAt", "(II)I"⟩, 43) := ⟨⟨by decide +kernel, by decide +kernel⟩, List.mem_of_getElem? (i := 620) (by decide +kernel), List.mem_of_getElem? (i := 785) (by decide +kernel), List.mem_of_getElem? (i := 786) (by decide +kernel)⟩
theorem lw_p15 : lw_okq (⟨"RecordNichesModel", "canStand", "(II)Z"⟩, 43) := ⟨⟨by decide +kernel, by decide +kernel⟩, List.mem_of_getElem? (i := 620) (by decide +kernel), List.mem_of_getElem? (i := 789) (by decide +kernel), List.mem_of_getElem? (i := 790) (by decide +kernel)⟩
def lw_privs_1 : List (MethodName × Nat) := [(⟨"RecordNiches$Scan", "take", "(LRecordNiches$Holding;III)I"⟩, 6), (⟨"RecordNiches$Scan", "begin", "(LRecordNiches$Holding;III)I"⟩, 6), (⟨"RecordNiches$Scan", "endTerms", "(I)V"⟩, 6), (⟨"RecordNiches", "isKnown", "(II)Z"⟩, 6), (⟨"RecordNiches", "prepare", "(II)I"⟩, 6), (⟨"RecordNiches$Tree", "keepArgument", "(III)I"⟩, 16), (⟨"RecordNiches$Tree", "goTo", "(III)V"⟩, 16), (⟨"RecordNiches$Tree", "grow", "(LRecordNiches$Holding;LRecordNiches$Node;)Z"⟩, 16), (⟨"RecordNiches$Tree", "goThroughLetters", "(LRecordNiches$Holding;)Z"⟩, 16), (⟨"RecordNiches$Tree", "use", "(II)V"⟩, 16), (⟨"RecordNiches", "isPlaceForRoot", "(I)Z"⟩, 6), (⟨"RecordNiches$Transfer", "keep", "(LRecordNiches$Node;J)V"⟩, 2), (⟨"RecordNichesModel", "faultOf", "(I)I"⟩, 43), (⟨"RecordNichesModel", "push", "(I)V"⟩, 43), (⟨"RecordNichesModel", "signAt", "(II)I"⟩, 43), (⟨"RecordNichesModel", "canStand", "(II)Z"⟩, 43)]
theorem lw_r1 : ∀ q ∈ lw_privs_1, lw_okq q := List.forall_mem_cons.mpr ⟨lw_p0, List.forall_mem_cons.mpr ⟨lw_p1, List.forall_mem_cons.mpr ⟨lw_p2, List.forall_mem_cons.mpr ⟨lw_p3, List.forall_mem_cons.mpr ⟨lw_p4, List.forall_mem_cons.mpr ⟨lw_p5, List.forall_mem_cons.mpr ⟨lw_p6, List.forall_mem_cons.mpr ⟨lw_p7, List.forall_mem_cons.mpr ⟨lw_p8, List.forall_mem_cons.mpr ⟨lw_p9, List.forall_mem_cons.mpr ⟨lw_p10, List.forall_mem_cons.mpr ⟨lw_p11, List.forall_mem_cons.mpr ⟨lw_p12, List.forall_mem_cons.mpr ⟨lw_p13, List.forall_mem_cons.mpr ⟨lw_p14, List.forall_mem_cons.mpr ⟨lw_p15, fun _ h => absurd h List.not_mem_nil⟩⟩⟩⟩⟩⟩⟩⟩⟩⟩⟩⟩⟩⟩⟩⟩
theorem lw_p16 : lw_okq (⟨"RecordNichesModel", "isWithin", "(III)Z"⟩, 43) := ⟨⟨by decide +kernel, by decide +kernel⟩, List.mem_of_getElem? (i := 620) (by decide +kernel), List.mem_of_getElem? (i := 793) (by decide +kernel), List.mem_of_getElem? (i := 794) (by decide +kernel)⟩
theorem lw_p17 : lw_okq (⟨"RecordNichesModel", "begins", "(II)Z"⟩, 43) := ⟨⟨by decide +kernel, by decide +kernel⟩, List.mem_of_getElem? (i := 620) (by decide +kernel), List.mem_of_getElem? (i := 797) (by decide +kernel), List.mem_of_getElem? (i := 798) (by decide +kernel)⟩
theorem lw_p18 : lw_okq (⟨"RecordNichesModel", "isOpen", "(I)Z"⟩, 43) := ⟨⟨by decide +kernel, by decide +kernel⟩, List.mem_of_getElem? (i := 620) (by decide +kernel), List.mem_of_getElem? (i := 806) (by decide +kernel), List.mem_of_getElem? (i := 807) (by decide +kernel)⟩
theorem lw_p19 : lw_okq (⟨"RecordNichesModel", "isAsked", "(II)Z"⟩, 43) := ⟨⟨by decide +kernel, by decide +kernel⟩, List.mem_of_getElem? (i := 620) (by decide +kernel), List.mem_of_getElem? (i := 823) (by decide +kernel), List.mem_of_getElem? (i := 824) (by decide +kernel)⟩
theorem lw_p20 : lw_okq (⟨"RecordNichesModel", "refusal", "(II)I"⟩, 43) := ⟨⟨by decide +kernel, by decide +kernel⟩, List.mem_of_getElem? (i := 620) (by decide +kernel), List.mem_of_getElem? (i := 829) (by decide +kernel), List.mem_of_getElem? (i := 830) (by decide +kernel)⟩
theorem lw_p21 : lw_okq (⟨"RecordNichesModel", "isWell", "(II)Z"⟩, 43) := ⟨⟨by decide +kernel, by decide +kernel⟩, List.mem_of_getElem? (i := 620) (by decide +kernel), List.mem_of_getElem? (i := 833) (by decide +kernel), List.mem_of_getElem? (i := 834) (by decide +kernel)⟩
theorem lw_p22 : lw_okq (⟨"RecordNichesModel", "lettersOf", "(I)I"⟩, 43) := ⟨⟨by decide +kernel, by decide +kernel⟩, List.mem_of_getElem? (i := 620) (by decide +kernel), List.mem_of_getElem? (i := 837) (by decide +kernel), List.mem_of_getElem? (i := 838) (by decide +kernel)⟩
theorem lw_p23 : lw_okq (⟨"RecordNichesModel", "isOpened", "(II)Z"⟩, 43) := ⟨⟨by decide +kernel, by decide +kernel⟩, List.mem_of_getElem? (i := 620) (by decide +kernel), List.mem_of_getElem? (i := 841) (by decide +kernel), List.mem_of_getElem? (i := 842) (by decide +kernel)⟩
theorem lw_p24 : lw_okq (⟨"RecordNichesModel", "addX", "(III)I"⟩, 43) := ⟨⟨by decide +kernel, by decide +kernel⟩, List.mem_of_getElem? (i := 620) (by decide +kernel), List.mem_of_getElem? (i := 845) (by decide +kernel), List.mem_of_getElem? (i := 846) (by decide +kernel)⟩
theorem lw_p25 : lw_okq (⟨"RecordNichesModel", "addTodo", "(IIII)V"⟩, 43) := ⟨⟨by decide +kernel, by decide +kernel⟩, List.mem_of_getElem? (i := 620) (by decide +kernel), List.mem_of_getElem? (i := 849) (by decide +kernel), List.mem_of_getElem? (i := 850) (by decide +kernel)⟩
theorem lw_p26 : lw_okq (⟨"RecordNichesModel", "openOne", "()V"⟩, 43) := ⟨⟨by decide +kernel, by decide +kernel⟩, List.mem_of_getElem? (i := 620) (by decide +kernel), List.mem_of_getElem? (i := 853) (by decide +kernel), List.mem_of_getElem? (i := 854) (by decide +kernel)⟩
theorem lw_p27 : lw_okq (⟨"RecordNichesModel", "addPart", "(IIII)V"⟩, 43) := ⟨⟨by decide +kernel, by decide +kernel⟩, List.mem_of_getElem? (i := 620) (by decide +kernel), List.mem_of_getElem? (i := 857) (by decide +kernel), List.mem_of_getElem? (i := 858) (by decide +kernel)⟩
theorem lw_p28 : lw_okq (⟨"RecordNichesModel", "addWithin", "(IIII)V"⟩, 43) := ⟨⟨by decide +kernel, by decide +kernel⟩, List.mem_of_getElem? (i := 620) (by decide +kernel), List.mem_of_getElem? (i := 864) (by decide +kernel), List.mem_of_getElem? (i := 865) (by decide +kernel)⟩
theorem lw_p29 : lw_okq (⟨"RecordNichesModel", "endOf", "(II)I"⟩, 43) := ⟨⟨by decide +kernel, by decide +kernel⟩, List.mem_of_getElem? (i := 620) (by decide +kernel), List.mem_of_getElem? (i := 868) (by decide +kernel), List.mem_of_getElem? (i := 869) (by decide +kernel)⟩
theorem lw_p30 : lw_okq (⟨"RecordNichesModel", "isLaid", "()Z"⟩, 43) := ⟨⟨by decide +kernel, by decide +kernel⟩, List.mem_of_getElem? (i := 620) (by decide +kernel), List.mem_of_getElem? (i := 872) (by decide +kernel), List.mem_of_getElem? (i := 873) (by decide +kernel)⟩
theorem lw_p31 : lw_okq (⟨"RecordNichesModel", "layOne", "(I)V"⟩, 43) := ⟨⟨by decide +kernel, by decide +kernel⟩, List.mem_of_getElem? (i := 620) (by decide +kernel), List.mem_of_getElem? (i := 876) (by decide +kernel), List.mem_of_getElem? (i := 877) (by decide +kernel)⟩
def lw_privs_2 : List (MethodName × Nat) := [(⟨"RecordNichesModel", "isWithin", "(III)Z"⟩, 43), (⟨"RecordNichesModel", "begins", "(II)Z"⟩, 43), (⟨"RecordNichesModel", "isOpen", "(I)Z"⟩, 43), (⟨"RecordNichesModel", "isAsked", "(II)Z"⟩, 43), (⟨"RecordNichesModel", "refusal", "(II)I"⟩, 43), (⟨"RecordNichesModel", "isWell", "(II)Z"⟩, 43), (⟨"RecordNichesModel", "lettersOf", "(I)I"⟩, 43), (⟨"RecordNichesModel", "isOpened", "(II)Z"⟩, 43), (⟨"RecordNichesModel", "addX", "(III)I"⟩, 43), (⟨"RecordNichesModel", "addTodo", "(IIII)V"⟩, 43), (⟨"RecordNichesModel", "openOne", "()V"⟩, 43), (⟨"RecordNichesModel", "addPart", "(IIII)V"⟩, 43), (⟨"RecordNichesModel", "addWithin", "(IIII)V"⟩, 43), (⟨"RecordNichesModel", "endOf", "(II)I"⟩, 43), (⟨"RecordNichesModel", "isLaid", "()Z"⟩, 43), (⟨"RecordNichesModel", "layOne", "(I)V"⟩, 43)]
theorem lw_r2 : ∀ q ∈ lw_privs_2, lw_okq q := List.forall_mem_cons.mpr ⟨lw_p16, List.forall_mem_cons.mpr ⟨lw_p17, List.forall_mem_cons.mpr ⟨lw_p18, List.forall_mem_cons.mpr ⟨lw_p19, List.forall_mem_cons.mpr ⟨lw_p20, List.forall_mem_cons.mpr ⟨lw_p21, List.forall_mem_cons.mpr ⟨lw_p22, List.forall_mem_cons.mpr ⟨lw_p23, List.forall_mem_cons.mpr ⟨lw_p24, List.forall_mem_cons.mpr ⟨lw_p25, List.forall_mem_cons.mpr ⟨lw_p26, List.forall_mem_cons.mpr ⟨lw_p27, List.forall_mem_cons.mpr ⟨lw_p28, List.forall_mem_cons.mpr ⟨lw_p29, List.forall_mem_cons.mpr ⟨lw_p30, List.forall_mem_cons.mpr ⟨lw_p31, fun _ h => absurd h List.not_mem_nil⟩⟩⟩⟩⟩⟩⟩⟩⟩⟩⟩⟩⟩⟩⟩⟩
theorem lw_p32 : lw_okq (⟨"RecordNichesModel", "layRecord", "(I)V"⟩, 43) := ⟨⟨by decide +kernel, by decide +kernel⟩, List.mem_of_getElem? (i := 620) (by decide +kernel), List.mem_of_getElem? (i := 880) (by decide +kernel), List.mem_of_getElem? (i := 881) (by decide +kernel)⟩
theorem lw_p33 : lw_okq (⟨"RecordNichesModel", "layFields", "(III)I"⟩, 43) := ⟨⟨by decide +kernel, by decide +kernel⟩, List.mem_of_getElem? (i := 620) (by decide +kernel), List.mem_of_getElem? (i := 884) (by decide +kernel), List.mem_of_getElem? (i := 885) (by decide +kernel)⟩
theorem lw_p34 : lw_okq (⟨"RecordNichesModel", "child", "(II)I"⟩, 43) := ⟨⟨by decide +kernel, by decide +kernel⟩, List.mem_of_getElem? (i := 620) (by decide +kernel), List.mem_of_getElem? (i := 888) (by decide +kernel), List.mem_of_getElem? (i := 889) (by decide +kernel)⟩
theorem lw_p35 : lw_okq (⟨"RecordNichesModel", "greatestAlign", "(I)I"⟩, 43) := ⟨⟨by decide +kernel, by decide +kernel⟩, List.mem_of_getElem? (i := 620) (by decide +kernel), List.mem_of_getElem? (i := 895) (by decide +kernel), List.mem_of_getElem? (i := 896) (by decide +kernel)⟩
theorem lw_p36 : lw_okq (⟨"RecordNichesModel", "gap", "(IIIII)V"⟩, 43) := ⟨⟨by decide +kernel, by decide +kernel⟩, List.mem_of_getElem? (i := 620) (by decide +kernel), List.mem_of_getElem? (i := 902) (by decide +kernel), List.mem_of_getElem? (i := 903) (by decide +kernel)⟩
theorem lw_p37 : lw_okq (⟨"RecordNichesModel", "layVariant", "(I)V"⟩, 43) := ⟨⟨by decide +kernel, by decide +kernel⟩, List.mem_of_getElem? (i := 620) (by decide +kernel), List.mem_of_getElem? (i := 906) (by decide +kernel), List.mem_of_getElem? (i := 907) (by decide +kernel)⟩
theorem lw_p38 : lw_okq (⟨"RecordNichesModel", "hostOf", "(I)I"⟩, 43) := ⟨⟨by decide +kernel, by decide +kernel⟩, List.mem_of_getElem? (i := 620) (by decide +kernel), List.mem_of_getElem? (i := 910) (by decide +kernel), List.mem_of_getElem? (i := 911) (by decide +kernel)⟩
theorem lw_p39 : lw_okq (⟨"RecordNichesModel", "isHidden", "(II)Z"⟩, 43) := ⟨⟨by decide +kernel, by decide +kernel⟩, List.mem_of_getElem? (i := 620) (by decide +kernel), List.mem_of_getElem? (i := 914) (by decide +kernel), List.mem_of_getElem? (i := 915) (by decide +kernel)⟩
theorem lw_p40 : lw_okq (⟨"RecordNichesModel", "roomFor", "(II)I"⟩, 43) := ⟨⟨by decide +kernel, by decide +kernel⟩, List.mem_of_getElem? (i := 620) (by decide +kernel), List.mem_of_getElem? (i := 918) (by decide +kernel), List.mem_of_getElem? (i := 919) (by decide +kernel)⟩
theorem lw_p41 : lw_okq (⟨"RecordNichesModel", "layTagged", "(I)V"⟩, 43) := ⟨⟨by decide +kernel, by decide +kernel⟩, List.mem_of_getElem? (i := 620) (by decide +kernel), List.mem_of_getElem? (i := 922) (by decide +kernel), List.mem_of_getElem? (i := 923) (by decide +kernel)⟩
theorem lw_p42 : lw_okq (⟨"RecordNichesModel", "layHidden", "(II)V"⟩, 43) := ⟨⟨by decide +kernel, by decide +kernel⟩, List.mem_of_getElem? (i := 620) (by decide +kernel), List.mem_of_getElem? (i := 926) (by decide +kernel), List.mem_of_getElem? (i := 927) (by decide +kernel)⟩
theorem lw_p43 : lw_okq (⟨"RecordNichesModel", "layLeaf", "(I)V"⟩, 43) := ⟨⟨by decide +kernel, by decide +kernel⟩, List.mem_of_getElem? (i := 620) (by decide +kernel), List.mem_of_getElem? (i := 930) (by decide +kernel), List.mem_of_getElem? (i := 931) (by decide +kernel)⟩
theorem lw_p44 : lw_okq (⟨"RecordNichesModel", "toldOf", "(I)I"⟩, 43) := ⟨⟨by decide +kernel, by decide +kernel⟩, List.mem_of_getElem? (i := 620) (by decide +kernel), List.mem_of_getElem? (i := 934) (by decide +kernel), List.mem_of_getElem? (i := 935) (by decide +kernel)⟩
theorem lw_p45 : lw_okq (⟨"RecordNichesModel", "termTold", "(II)I"⟩, 43) := ⟨⟨by decide +kernel, by decide +kernel⟩, List.mem_of_getElem? (i := 620) (by decide +kernel), List.mem_of_getElem? (i := 943) (by decide +kernel), List.mem_of_getElem? (i := 944) (by decide +kernel)⟩
theorem lw_p46 : lw_okq (⟨"RecordNichesModel", "patternOf", "(II)I"⟩, 43) := ⟨⟨by decide +kernel, by decide +kernel⟩, List.mem_of_getElem? (i := 620) (by decide +kernel), List.mem_of_getElem? (i := 955) (by decide +kernel), List.mem_of_getElem? (i := 956) (by decide +kernel)⟩
theorem lw_p47 : lw_okq (⟨"RecordNichesModel", "leastEnd", "()I"⟩, 43) := ⟨⟨by decide +kernel, by decide +kernel⟩, List.mem_of_getElem? (i := 620) (by decide +kernel), List.mem_of_getElem? (i := 963) (by decide +kernel), List.mem_of_getElem? (i := 964) (by decide +kernel)⟩
def lw_privs_3 : List (MethodName × Nat) := [(⟨"RecordNichesModel", "layRecord", "(I)V"⟩, 43), (⟨"RecordNichesModel", "layFields", "(III)I"⟩, 43), (⟨"RecordNichesModel", "child", "(II)I"⟩, 43), (⟨"RecordNichesModel", "greatestAlign", "(I)I"⟩, 43), (⟨"RecordNichesModel", "gap", "(IIIII)V"⟩, 43), (⟨"RecordNichesModel", "layVariant", "(I)V"⟩, 43), (⟨"RecordNichesModel", "hostOf", "(I)I"⟩, 43), (⟨"RecordNichesModel", "isHidden", "(II)Z"⟩, 43), (⟨"RecordNichesModel", "roomFor", "(II)I"⟩, 43), (⟨"RecordNichesModel", "layTagged", "(I)V"⟩, 43), (⟨"RecordNichesModel", "layHidden", "(II)V"⟩, 43), (⟨"RecordNichesModel", "layLeaf", "(I)V"⟩, 43), (⟨"RecordNichesModel", "toldOf", "(I)I"⟩, 43), (⟨"RecordNichesModel", "termTold", "(II)I"⟩, 43), (⟨"RecordNichesModel", "patternOf", "(II)I"⟩, 43), (⟨"RecordNichesModel", "leastEnd", "()I"⟩, 43)]
theorem lw_r3 : ∀ q ∈ lw_privs_3, lw_okq q := List.forall_mem_cons.mpr ⟨lw_p32, List.forall_mem_cons.mpr ⟨lw_p33, List.forall_mem_cons.mpr ⟨lw_p34, List.forall_mem_cons.mpr ⟨lw_p35, List.forall_mem_cons.mpr ⟨lw_p36, List.forall_mem_cons.mpr ⟨lw_p37, List.forall_mem_cons.mpr ⟨lw_p38, List.forall_mem_cons.mpr ⟨lw_p39, List.forall_mem_cons.mpr ⟨lw_p40, List.forall_mem_cons.mpr ⟨lw_p41, List.forall_mem_cons.mpr ⟨lw_p42, List.forall_mem_cons.mpr ⟨lw_p43, List.forall_mem_cons.mpr ⟨lw_p44, List.forall_mem_cons.mpr ⟨lw_p45, List.forall_mem_cons.mpr ⟨lw_p46, List.forall_mem_cons.mpr ⟨lw_p47, fun _ h => absurd h List.not_mem_nil⟩⟩⟩⟩⟩⟩⟩⟩⟩⟩⟩⟩⟩⟩⟩⟩
theorem lw_p48 : lw_okq (⟨"RecordNichesModel", "coverOne", "(I)V"⟩, 43) := ⟨⟨by decide +kernel, by decide +kernel⟩, List.mem_of_getElem? (i := 620) (by decide +kernel), List.mem_of_getElem? (i := 971) (by decide +kernel), List.mem_of_getElem? (i := 972) (by decide +kernel)⟩
theorem lw_p49 : lw_okq (⟨"RecordNichesModel", "placeOf", "(I)I"⟩, 43) := ⟨⟨by decide +kernel, by decide +kernel⟩, List.mem_of_getElem? (i := 620) (by decide +kernel), List.mem_of_getElem? (i := 975) (by decide +kernel), List.mem_of_getElem? (i := 976) (by decide +kernel)⟩
theorem lw_p50 : lw_okq (⟨"RecordNichesModel", "refusalAt", "(III)I"⟩, 43) := ⟨⟨by decide +kernel, by decide +kernel⟩, List.mem_of_getElem? (i := 620) (by decide +kernel), List.mem_of_getElem? (i := 997) (by decide +kernel), List.mem_of_getElem? (i := 998) (by decide +kernel)⟩
theorem lw_p51 : lw_okq (⟨"RecordNichesModel", "isValue", "()Z"⟩, 43) := ⟨⟨by decide +kernel, by decide +kernel⟩, List.mem_of_getElem? (i := 620) (by decide +kernel), List.mem_of_getElem? (i := 1001) (by decide +kernel), List.mem_of_getElem? (i := 1002) (by decide +kernel)⟩
theorem lw_p52 : lw_okq (⟨"RecordNichesModel", "isThereNow", "(I)Z"⟩, 43) := ⟨⟨by decide +kernel, by decide +kernel⟩, List.mem_of_getElem? (i := 620) (by decide +kernel), List.mem_of_getElem? (i := 1005) (by decide +kernel), List.mem_of_getElem? (i := 1006) (by decide +kernel)⟩
theorem lw_p53 : lw_okq (⟨"RecordNichesModel", "hasNumber", "(I)Z"⟩, 43) := ⟨⟨by decide +kernel, by decide +kernel⟩, List.mem_of_getElem? (i := 620) (by decide +kernel), List.mem_of_getElem? (i := 1009) (by decide +kernel), List.mem_of_getElem? (i := 1010) (by decide +kernel)⟩
theorem lw_p54 : lw_okq (⟨"RecordNichesModel", "isNumber", "(IJ)Z"⟩, 43) := ⟨⟨by decide +kernel, by decide +kernel⟩, List.mem_of_getElem? (i := 620) (by decide +kernel), List.mem_of_getElem? (i := 1013) (by decide +kernel), List.mem_of_getElem? (i := 1014) (by decide +kernel)⟩
theorem lw_p55 : lw_okq (⟨"RecordNichesModel", "layValue", "(I)V"⟩, 43) := ⟨⟨by decide +kernel, by decide +kernel⟩, List.mem_of_getElem? (i := 620) (by decide +kernel), List.mem_of_getElem? (i := 1018) (by decide +kernel), List.mem_of_getElem? (i := 1019) (by decide +kernel)⟩
theorem lw_p56 : lw_okq (⟨"RecordNichesModel", "lay", "(IIJ)V"⟩, 43) := ⟨⟨by decide +kernel, by decide +kernel⟩, List.mem_of_getElem? (i := 620) (by decide +kernel), List.mem_of_getElem? (i := 1022) (by decide +kernel), List.mem_of_getElem? (i := 1023) (by decide +kernel)⟩
theorem lw_p57 : lw_okq (⟨"RecordNichesModel", "valueAt", "(I)I"⟩, 43) := ⟨⟨by decide +kernel, by decide +kernel⟩, List.mem_of_getElem? (i := 620) (by decide +kernel), List.mem_of_getElem? (i := 1031) (by decide +kernel), List.mem_of_getElem? (i := 1032) (by decide +kernel)⟩
theorem lw_p58 : lw_okq (⟨"RecordNichesModel", "numberAt", "(II)J"⟩, 43) := ⟨⟨by decide +kernel, by decide +kernel⟩, List.mem_of_getElem? (i := 620) (by decide +kernel), List.mem_of_getElem? (i := 1035) (by decide +kernel), List.mem_of_getElem? (i := 1036) (by decide +kernel)⟩
theorem lw_p59 : lw_okq (⟨"RecordNichesModel", "lies", "(II)J"⟩, 43) := ⟨⟨by decide +kernel, by decide +kernel⟩, List.mem_of_getElem? (i := 620) (by decide +kernel), List.mem_of_getElem? (i := 1039) (by decide +kernel), List.mem_of_getElem? (i := 1040) (by decide +kernel)⟩
theorem lw_p60 : lw_okq (⟨"RecordNichesModel", "hiddenAt", "(II)J"⟩, 43) := ⟨⟨by decide +kernel, by decide +kernel⟩, List.mem_of_getElem? (i := 620) (by decide +kernel), List.mem_of_getElem? (i := 1043) (by decide +kernel), List.mem_of_getElem? (i := 1044) (by decide +kernel)⟩
theorem lw_p61 : lw_okq (⟨"RecordNichesModel", "passAll", "(I)V"⟩, 43) := ⟨⟨by decide +kernel, by decide +kernel⟩, List.mem_of_getElem? (i := 620) (by decide +kernel), List.mem_of_getElem? (i := 1064) (by decide +kernel), List.mem_of_getElem? (i := 1065) (by decide +kernel)⟩
theorem lw_p62 : lw_okq (⟨"RecordNichesModel", "pass", "(I)I"⟩, 43) := ⟨⟨by decide +kernel, by decide +kernel⟩, List.mem_of_getElem? (i := 620) (by decide +kernel), List.mem_of_getElem? (i := 1068) (by decide +kernel), List.mem_of_getElem? (i := 1069) (by decide +kernel)⟩
theorem lw_p63 : lw_okq (⟨"RecordNichesModel", "passRow", "([II)V"⟩, 43) := ⟨⟨by decide +kernel, by decide +kernel⟩, List.mem_of_getElem? (i := 620) (by decide +kernel), List.mem_of_getElem? (i := 1072) (by decide +kernel), List.mem_of_getElem? (i := 1073) (by decide +kernel)⟩
def lw_privs_4 : List (MethodName × Nat) := [(⟨"RecordNichesModel", "coverOne", "(I)V"⟩, 43), (⟨"RecordNichesModel", "placeOf", "(I)I"⟩, 43), (⟨"RecordNichesModel", "refusalAt", "(III)I"⟩, 43), (⟨"RecordNichesModel", "isValue", "()Z"⟩, 43), (⟨"RecordNichesModel", "isThereNow", "(I)Z"⟩, 43), (⟨"RecordNichesModel", "hasNumber", "(I)Z"⟩, 43), (⟨"RecordNichesModel", "isNumber", "(IJ)Z"⟩, 43), (⟨"RecordNichesModel", "layValue", "(I)V"⟩, 43), (⟨"RecordNichesModel", "lay", "(IIJ)V"⟩, 43), (⟨"RecordNichesModel", "valueAt", "(I)I"⟩, 43), (⟨"RecordNichesModel", "numberAt", "(II)J"⟩, 43), (⟨"RecordNichesModel", "lies", "(II)J"⟩, 43), (⟨"RecordNichesModel", "hiddenAt", "(II)J"⟩, 43), (⟨"RecordNichesModel", "passAll", "(I)V"⟩, 43), (⟨"RecordNichesModel", "pass", "(I)I"⟩, 43), (⟨"RecordNichesModel", "passRow", "([II)V"⟩, 43)]
theorem lw_r4 : ∀ q ∈ lw_privs_4, lw_okq q := List.forall_mem_cons.mpr ⟨lw_p48, List.forall_mem_cons.mpr ⟨lw_p49, List.forall_mem_cons.mpr ⟨lw_p50, List.forall_mem_cons.mpr ⟨lw_p51, List.forall_mem_cons.mpr ⟨lw_p52, List.forall_mem_cons.mpr ⟨lw_p53, List.forall_mem_cons.mpr ⟨lw_p54, List.forall_mem_cons.mpr ⟨lw_p55, List.forall_mem_cons.mpr ⟨lw_p56, List.forall_mem_cons.mpr ⟨lw_p57, List.forall_mem_cons.mpr ⟨lw_p58, List.forall_mem_cons.mpr ⟨lw_p59, List.forall_mem_cons.mpr ⟨lw_p60, List.forall_mem_cons.mpr ⟨lw_p61, List.forall_mem_cons.mpr ⟨lw_p62, List.forall_mem_cons.mpr ⟨lw_p63, fun _ h => absurd h List.not_mem_nil⟩⟩⟩⟩⟩⟩⟩⟩⟩⟩⟩⟩⟩⟩⟩⟩
def lw_privs : List (MethodName × Nat) := lw_privs_1 ++ (lw_privs_2 ++ (lw_privs_3 ++ (lw_privs_4)))
def lw_tbl : List Cond := k2_sels lw_privs ++ tables_1
theorem lw_privs_ok : ∀ q ∈ lw_privs, lw_okq q := by
  show ∀ q ∈ lw_privs_1 ++ (lw_privs_2 ++ (lw_privs_3 ++ (lw_privs_4))), lw_okq q
  exact List.forall_mem_append.mpr ⟨lw_r1, List.forall_mem_append.mpr ⟨lw_r2, List.forall_mem_append.mpr ⟨lw_r3, lw_r4⟩⟩⟩
/-! names and field tables: out of the printed names -/
def RX0 : String := "RecordNiches$Grammar"
def TX0 : u_T := fun k => match k with
  | 0 => ("RecordNiches$Grammar", "scans", "[LRecordNiches$Scan;", true)
  | _ => ("RecordNiches$Grammar", "needed", "[Z", true)
def tyX0 : Nat → FieldType := fun k => match k with
  | 0 => .array (.object "RecordNiches$Scan")
  | _ => .array .boolean
theorem nmX0 : ∀ a, a < 2 → ∀ b, b < 2 → a ≠ b → (TX0 a).2.1 ≠ (TX0 b).2.1 := by decide +kernel
theorem tyX0_ok : ∀ k, k < 2 → parseFieldDescriptor (TX0 k).2.2.1 = some (tyX0 k) := by decide +kernel
abbrev cX0_init : ByteArray := prog_2_method_1_code
def yX0_init : MethodName := ⟨RX0, "<init>", "()V"⟩
abbrev cX0_isWell : ByteArray := prog_2_method_2_code
def yX0_isWell : MethodName := ⟨RX0, "isWell", "(LRecordNiches$Holding;II)Z"⟩
abbrev cX0_behind : ByteArray := prog_2_method_3_code
def yX0_behind : MethodName := ⟨RX0, "behind", "(II)I"⟩
def RX1 : String := "RecordNiches$Holding"
def TX1 : u_T := fun k => match k with
  | 0 => ("RecordNiches$Holding", "texts", "[LRecordNiches$Text;", true)
  | 1 => ("RecordNiches$Holding", "list", "[J", true)
  | 2 => ("RecordNiches$Holding", "memory", "[I", true)
  | 3 => ("RecordNiches$Holding", "listed", "I", false)
  | _ => ("RecordNiches$Holding", "packing", "I", false)
def tyX1 : Nat → FieldType := fun k => match k with
  | 0 => .array (.object "RecordNiches$Text")
  | 1 => .array .long
  | 2 => .array .int
  | 3 => .int
  | _ => .int
theorem nmX1 : ∀ a, a < 5 → ∀ b, b < 5 → a ≠ b → (TX1 a).2.1 ≠ (TX1 b).2.1 := by decide +kernel
theorem tyX1_ok : ∀ k, k < 5 → parseFieldDescriptor (TX1 k).2.2.1 = some (tyX1 k) := by decide +kernel
abbrev cX1_init : ByteArray := prog_3_method_1_code
def yX1_init : MethodName := ⟨RX1, "<init>", "()V"⟩
abbrev cX1_copyFrom : ByteArray := prog_3_method_2_code
def yX1_copyFrom : MethodName := ⟨RX1, "copyFrom", "(LRecordNiches$Holding;)V"⟩
abbrev cX1_isOpen : ByteArray := prog_3_method_3_code
def yX1_isOpen : MethodName := ⟨RX1, "isOpen", "(I)Z"⟩
abbrev cX1_signAt : ByteArray := prog_3_method_4_code
def yX1_signAt : MethodName := ⟨RX1, "signAt", "(II)I"⟩
abbrev cX1_putNumber : ByteArray := prog_3_method_5_code
def yX1_putNumber : MethodName := ⟨RX1, "putNumber", "(IIJ)V"⟩
abbrev cX1_numberAt : ByteArray := prog_3_method_6_code
def yX1_numberAt : MethodName := ⟨RX1, "numberAt", "(II)J"⟩
def RX2 : String := "RecordNiches$Lay"
def TX2 : u_T := fun k => match k with
  | _ => ("", "", "", false)
def tyX2 : Nat → FieldType := fun k => match k with
  | _ => .int
theorem nmX2 : ∀ a, a < 0 → ∀ b, b < 0 → a ≠ b → (TX2 a).2.1 ≠ (TX2 b).2.1 := by decide +kernel
theorem tyX2_ok : ∀ k, k < 0 → parseFieldDescriptor (TX2 k).2.2.1 = some (tyX2 k) := by decide +kernel
abbrev cX2_fields : ByteArray := prog_4_method_2_code
def yX2_fields : MethodName := ⟨RX2, "fields", "(LRecordNiches$Node;I)V"⟩
abbrev cX2_choices : ByteArray := prog_4_method_3_code
def yX2_choices : MethodName := ⟨RX2, "choices", "(LRecordNiches$Node;)V"⟩
abbrev cX2_greatestAlign : ByteArray := prog_4_method_4_code
def yX2_greatestAlign : MethodName := ⟨RX2, "greatestAlign", "(LRecordNiches$Node;)I"⟩
abbrev cX2_inLine : ByteArray := prog_4_method_5_code
def yX2_inLine : MethodName := ⟨RX2, "inLine", "(LRecordNiches$Node;II)I"⟩
abbrev cX2_takeGreaterGap : ByteArray := prog_4_method_6_code
def yX2_takeGreaterGap : MethodName := ⟨RX2, "takeGreaterGap", "(LRecordNiches$Node;LRecordNiches$Node;)V"⟩
abbrev cX2_alone : ByteArray := prog_4_method_7_code
def yX2_alone : MethodName := ⟨RX2, "alone", "(LRecordNiches$Node;LRecordNiches$Node;)V"⟩
abbrev cX2_findsRoom : ByteArray := prog_4_method_8_code
def yX2_findsRoom : MethodName := ⟨RX2, "findsRoom", "(LRecordNiches$Node;I)Z"⟩
abbrev cX2_hide : ByteArray := prog_4_method_9_code
def yX2_hide : MethodName := ⟨RX2, "hide", "(LRecordNiches$Node;I)V"⟩
abbrev cX2_tag : ByteArray := prog_4_method_10_code
def yX2_tag : MethodName := ⟨RX2, "tag", "(LRecordNiches$Node;)V"⟩
def RX3 : String := "RecordNiches$Node"
def TX3 : u_T := fun k => match k with
  | 0 => ("RecordNiches$Node", "terms", "[LRecordNiches$Node;", true)
  | 1 => ("RecordNiches$Node", "count", "I", false)
  | 2 => ("RecordNiches$Node", "parent", "LRecordNiches$Node;", false)
  | 3 => ("RecordNiches$Node", "number", "I", false)
  | 4 => ("RecordNiches$Node", "kind", "I", false)
  | 5 => ("RecordNiches$Node", "size", "I", false)
  | 6 => ("RecordNiches$Node", "align", "I", false)
  | 7 => ("RecordNiches$Node", "offset", "I", false)
  | 8 => ("RecordNiches$Node", "gapOffset", "I", false)
  | 9 => ("RecordNiches$Node", "gapWidth", "I", false)
  | 10 => ("RecordNiches$Node", "gapFirst", "I", false)
  | 11 => ("RecordNiches$Node", "gapCount", "I", false)
  | 12 => ("RecordNiches$Node", "manner", "I", false)
  | 13 => ("RecordNiches$Node", "host", "I", false)
  | 14 => ("RecordNiches$Node", "mark", "I", false)
  | 15 => ("RecordNiches$Node", "base", "I", false)
  | 16 => ("RecordNiches$Node", "chosen", "I", false)
  | _ => ("RecordNiches$Node", "live", "Z", false)
def tyX3 : Nat → FieldType := fun k => match k with
  | 0 => .array (.object "RecordNiches$Node")
  | 1 => .int
  | 2 => .object "RecordNiches$Node"
  | 3 => .int
  | 4 => .int
  | 5 => .int
  | 6 => .int
  | 7 => .int
  | 8 => .int
  | 9 => .int
  | 10 => .int
  | 11 => .int
  | 12 => .int
  | 13 => .int
  | 14 => .int
  | 15 => .int
  | 16 => .int
  | _ => .boolean
theorem nmX3 : ∀ a, a < 18 → ∀ b, b < 18 → a ≠ b → (TX3 a).2.1 ≠ (TX3 b).2.1 := by decide +kernel
theorem tyX3_ok : ∀ k, k < 18 → parseFieldDescriptor (TX3 k).2.2.1 = some (tyX3 k) := by decide +kernel
abbrev cX3_init : ByteArray := prog_5_method_1_code
def yX3_init : MethodName := ⟨RX3, "<init>", "()V"⟩
abbrev cX3_reset : ByteArray := prog_5_method_2_code
def yX3_reset : MethodName := ⟨RX3, "reset", "(LRecordNiches$Node;)V"⟩
abbrev cX3_be : ByteArray := prog_5_method_3_code
def yX3_be : MethodName := ⟨RX3, "be", "(II)V"⟩
abbrev cX3_setGap : ByteArray := prog_5_method_4_code
def yX3_setGap : MethodName := ⟨RX3, "setGap", "(IIII)V"⟩
abbrev cX3_isNumber : ByteArray := prog_5_method_5_code
def yX3_isNumber : MethodName := ⟨RX3, "isNumber", "()Z"⟩
abbrev cX3_admits : ByteArray := prog_5_method_6_code
def yX3_admits : MethodName := ⟨RX3, "admits", "(J)Z"⟩
def RX4 : String := "RecordNiches$Scan"
def TX4 : u_T := fun k => match k with
  | 0 => ("RecordNiches$Scan", "firstFault", "I", false)
  | 1 => ("RecordNiches$Scan", "ends", "[I", true)
  | 2 => ("RecordNiches$Scan", "openers", "[I", true)
  | 3 => ("RecordNiches$Scan", "begun", "[I", true)
  | 4 => ("RecordNiches$Scan", "held", "[I", true)
  | _ => ("RecordNiches$Scan", "depth", "I", false)
def tyX4 : Nat → FieldType := fun k => match k with
  | 0 => .int
  | 1 => .array .int
  | 2 => .array .int
  | 3 => .array .int
  | 4 => .array .int
  | _ => .int
theorem nmX4 : ∀ a, a < 6 → ∀ b, b < 6 → a ≠ b → (TX4 a).2.1 ≠ (TX4 b).2.1 := by decide +kernel
theorem tyX4_ok : ∀ k, k < 6 → parseFieldDescriptor (TX4 k).2.2.1 = some (tyX4 k) := by decide +kernel
abbrev cX4_init : ByteArray := prog_6_method_1_code
def yX4_init : MethodName := ⟨RX4, "<init>", "()V"⟩
abbrev cX4_run : ByteArray := prog_6_method_2_code
def yX4_run : MethodName := ⟨RX4, "run", "(LRecordNiches$Holding;I)V"⟩
abbrev cX4_behind : ByteArray := prog_6_method_3_code
def yX4_behind : MethodName := ⟨RX4, "behind", "(I)I"⟩
abbrev cX4_take : ByteArray := prog_6_method_4_code
def yX4_take : MethodName := ⟨RX4, "take", "(LRecordNiches$Holding;III)I"⟩
abbrev cX4_begin : ByteArray := prog_6_method_5_code
def yX4_begin : MethodName := ⟨RX4, "begin", "(LRecordNiches$Holding;III)I"⟩
abbrev cX4_endTerms : ByteArray := prog_6_method_6_code
def yX4_endTerms : MethodName := ⟨RX4, "endTerms", "(I)V"⟩
def RX5 : String := "RecordNiches$Text"
def TX5 : u_T := fun k => match k with
  | 0 => ("RecordNiches$Text", "signs", "[I", true)
  | _ => ("RecordNiches$Text", "count", "I", false)
def tyX5 : Nat → FieldType := fun k => match k with
  | 0 => .array .int
  | _ => .int
theorem nmX5 : ∀ a, a < 2 → ∀ b, b < 2 → a ≠ b → (TX5 a).2.1 ≠ (TX5 b).2.1 := by decide +kernel
theorem tyX5_ok : ∀ k, k < 2 → parseFieldDescriptor (TX5 k).2.2.1 = some (tyX5 k) := by decide +kernel
abbrev cX5_init : ByteArray := prog_7_method_1_code
def yX5_init : MethodName := ⟨RX5, "<init>", "()V"⟩
abbrev cX5_append : ByteArray := prog_7_method_2_code
def yX5_append : MethodName := ⟨RX5, "append", "(I)V"⟩
abbrev cX5_signAt : ByteArray := prog_7_method_3_code
def yX5_signAt : MethodName := ⟨RX5, "signAt", "(I)I"⟩
abbrev cX5_holds : ByteArray := prog_7_method_4_code
def yX5_holds : MethodName := ⟨RX5, "holds", "(I)Z"⟩
abbrev cX5_copyFrom : ByteArray := prog_7_method_5_code
def yX5_copyFrom : MethodName := ⟨RX5, "copyFrom", "(LRecordNiches$Text;)V"⟩
def RX6 : String := "RecordNiches$Transfer"
def TX6 : u_T := fun k => match k with
  | 0 => ("RecordNiches$Transfer", "numbers", "[J", true)
  | _ => ("RecordNiches$Transfer", "count", "I", false)
def tyX6 : Nat → FieldType := fun k => match k with
  | 0 => .array .long
  | _ => .int
theorem nmX6 : ∀ a, a < 2 → ∀ b, b < 2 → a ≠ b → (TX6 a).2.1 ≠ (TX6 b).2.1 := by decide +kernel
theorem tyX6_ok : ∀ k, k < 2 → parseFieldDescriptor (TX6 k).2.2.1 = some (tyX6 k) := by decide +kernel
abbrev cX6_init : ByteArray := prog_8_method_1_code
def yX6_init : MethodName := ⟨RX6, "<init>", "()V"⟩
abbrev cX6_accepts : ByteArray := prog_8_method_2_code
def yX6_accepts : MethodName := ⟨RX6, "accepts", "(LRecordNiches$Tree;LRecordNiches$Holding;)Z"⟩
abbrev cX6_store : ByteArray := prog_8_method_3_code
def yX6_store : MethodName := ⟨RX6, "store", "(LRecordNiches$Tree;LRecordNiches$Holding;I)V"⟩
abbrev cX6_load : ByteArray := prog_8_method_4_code
def yX6_load : MethodName := ⟨RX6, "load", "(LRecordNiches$Tree;LRecordNiches$Holding;I)Z"⟩
abbrev cX6_chosenAt : ByteArray := prog_8_method_5_code
def yX6_chosenAt : MethodName := ⟨RX6, "chosenAt", "(LRecordNiches$Node;LRecordNiches$Holding;I)I"⟩
abbrev cX6_storeMark : ByteArray := prog_8_method_6_code
def yX6_storeMark : MethodName := ⟨RX6, "storeMark", "(LRecordNiches$Node;LRecordNiches$Holding;I)V"⟩
abbrev cX6_isLive : ByteArray := prog_8_method_7_code
def yX6_isLive : MethodName := ⟨RX6, "isLive", "(LRecordNiches$Node;)Z"⟩
abbrev cX6_hasNumber : ByteArray := prog_8_method_8_code
def yX6_hasNumber : MethodName := ⟨RX6, "hasNumber", "(LRecordNiches$Node;)Z"⟩
abbrev cX6_keep : ByteArray := prog_8_method_9_code
def yX6_keep : MethodName := ⟨RX6, "keep", "(LRecordNiches$Node;J)V"⟩
def RX7 : String := "RecordNiches$Tree"
def TX7 : u_T := fun k => match k with
  | 0 => ("RecordNiches$Tree", "count", "I", false)
  | 1 => ("RecordNiches$Tree", "nodes", "[LRecordNiches$Node;", true)
  | 2 => ("RecordNiches$Tree", "used", "[Z", true)
  | 3 => ("RecordNiches$Tree", "shape", "I", false)
  | 4 => ("RecordNiches$Tree", "place", "I", false)
  | 5 => ("RecordNiches$Tree", "argument", "I", false)
  | 6 => ("RecordNiches$Tree", "letters", "I", false)
  | 7 => ("RecordNiches$Tree", "argumentShape", "[I", true)
  | 8 => ("RecordNiches$Tree", "argumentPlace", "[I", true)
  | 9 => ("RecordNiches$Tree", "argumentOuter", "[I", true)
  | 10 => ("RecordNiches$Tree", "arguments", "I", false)
  | 11 => ("RecordNiches$Tree", "openNode", "[LRecordNiches$Node;", true)
  | 12 => ("RecordNiches$Tree", "openShape", "[I", true)
  | 13 => ("RecordNiches$Tree", "openPlace", "[I", true)
  | 14 => ("RecordNiches$Tree", "openArgument", "[I", true)
  | _ => ("RecordNiches$Tree", "depth", "I", false)
def tyX7 : Nat → FieldType := fun k => match k with
  | 0 => .int
  | 1 => .array (.object "RecordNiches$Node")
  | 2 => .array .boolean
  | 3 => .int
  | 4 => .int
  | 5 => .int
  | 6 => .int
  | 7 => .array .int
  | 8 => .array .int
  | 9 => .array .int
  | 10 => .int
  | 11 => .array (.object "RecordNiches$Node")
  | 12 => .array .int
  | 13 => .array .int
  | 14 => .array .int
  | _ => .int
theorem nmX7 : ∀ a, a < 16 → ∀ b, b < 16 → a ≠ b → (TX7 a).2.1 ≠ (TX7 b).2.1 := by decide +kernel
theorem tyX7_ok : ∀ k, k < 16 → parseFieldDescriptor (TX7 k).2.2.1 = some (tyX7 k) := by decide +kernel
abbrev cX7_init : ByteArray := prog_9_method_1_code
def yX7_init : MethodName := ⟨RX7, "<init>", "()V"⟩
abbrev cX7_root : ByteArray := prog_9_method_2_code
def yX7_root : MethodName := ⟨RX7, "root", "()LRecordNiches$Node;"⟩
abbrev cX7_part : ByteArray := prog_9_method_3_code
def yX7_part : MethodName := ⟨RX7, "part", "(I)LRecordNiches$Node;"⟩
abbrev cX7_build : ByteArray := prog_9_method_4_code
def yX7_build : MethodName := ⟨RX7, "build", "(LRecordNiches$Holding;LRecordNiches$Grammar;II)Z"⟩
abbrev cX7_goTo : ByteArray := prog_9_method_5_code
def yX7_goTo : MethodName := ⟨RX7, "goTo", "(III)V"⟩
abbrev cX7_keepArgument : ByteArray := prog_9_method_6_code
def yX7_keepArgument : MethodName := ⟨RX7, "keepArgument", "(III)I"⟩
abbrev cX7_grow : ByteArray := prog_9_method_7_code
def yX7_grow : MethodName := ⟨RX7, "grow", "(LRecordNiches$Holding;LRecordNiches$Node;)Z"⟩
abbrev cX7_goThroughLetters : ByteArray := prog_9_method_8_code
def yX7_goThroughLetters : MethodName := ⟨RX7, "goThroughLetters", "(LRecordNiches$Holding;)Z"⟩
abbrev cX7_makeLeaf : ByteArray := prog_9_method_9_code
def yX7_makeLeaf : MethodName := ⟨RX7, "makeLeaf", "(LRecordNiches$Node;II)Z"⟩
abbrev cX7_settle : ByteArray := prog_9_method_10_code
def yX7_settle : MethodName := ⟨RX7, "settle", "(I)Z"⟩
abbrev cX7_unusedBytes : ByteArray := prog_9_method_11_code
def yX7_unusedBytes : MethodName := ⟨RX7, "unusedBytes", "()I"⟩
abbrev cX7_use : ByteArray := prog_9_method_12_code
def yX7_use : MethodName := ⟨RX7, "use", "(II)V"⟩
def RX8 : String := "RecordNiches"
def TX8 : u_T := fun k => match k with
  | 0 => ("RecordNiches", "now", "LRecordNiches$Holding;", true)
  | 1 => ("RecordNiches", "images", "[LRecordNiches$Holding;", true)
  | 2 => ("RecordNiches", "kept", "[Z", true)
  | 3 => ("RecordNiches", "grammar", "LRecordNiches$Grammar;", true)
  | 4 => ("RecordNiches", "tree", "LRecordNiches$Tree;", true)
  | _ => ("RecordNiches", "transfer", "LRecordNiches$Transfer;", true)
def tyX8 : Nat → FieldType := fun k => match k with
  | 0 => .object "RecordNiches$Holding"
  | 1 => .array (.object "RecordNiches$Holding")
  | 2 => .array .boolean
  | 3 => .object "RecordNiches$Grammar"
  | 4 => .object "RecordNiches$Tree"
  | _ => .object "RecordNiches$Transfer"
theorem nmX8 : ∀ a, a < 6 → ∀ b, b < 6 → a ≠ b → (TX8 a).2.1 ≠ (TX8 b).2.1 := by decide +kernel
theorem tyX8_ok : ∀ k, k < 6 → parseFieldDescriptor (TX8 k).2.2.1 = some (tyX8 k) := by decide +kernel
abbrev cX8_init : ByteArray := prog_1_method_1_code
def yX8_init : MethodName := ⟨RX8, "<init>", "()V"⟩
abbrev cX8_say : ByteArray := prog_1_method_2_code
def yX8_say : MethodName := ⟨RX8, "say", "(II)I"⟩
abbrev cX8_wipe : ByteArray := prog_1_method_3_code
def yX8_wipe : MethodName := ⟨RX8, "wipe", "(I)I"⟩
abbrev cX8_fault : ByteArray := prog_1_method_4_code
def yX8_fault : MethodName := ⟨RX8, "fault", "(I)I"⟩
abbrev cX8_way : ByteArray := prog_1_method_5_code
def yX8_way : MethodName := ⟨RX8, "way", "(I)I"⟩
abbrev cX8_layout : ByteArray := prog_1_method_6_code
def yX8_layout : MethodName := ⟨RX8, "layout", "(III)I"⟩
abbrev cX8_term : ByteArray := prog_1_method_7_code
def yX8_term : MethodName := ⟨RX8, "term", "(IIII)I"⟩
abbrev cX8_variant : ByteArray := prog_1_method_8_code
def yX8_variant : MethodName := ⟨RX8, "variant", "(III)I"⟩
abbrev cX8_pattern : ByteArray := prog_1_method_9_code
def yX8_pattern : MethodName := ⟨RX8, "pattern", "(III)I"⟩
abbrev cX8_least : ByteArray := prog_1_method_10_code
def yX8_least : MethodName := ⟨RX8, "least", "(II)I"⟩
abbrev cX8_idle : ByteArray := prog_1_method_11_code
def yX8_idle : MethodName := ⟨RX8, "idle", "(II)I"⟩
abbrev cX8_give : ByteArray := prog_1_method_12_code
def yX8_give : MethodName := ⟨RX8, "give", "(J)I"⟩
abbrev cX8_drop : ByteArray := prog_1_method_13_code
def yX8_drop : MethodName := ⟨RX8, "drop", "()I"⟩
abbrev cX8_given : ByteArray := prog_1_method_14_code
def yX8_given : MethodName := ⟨RX8, "given", "(I)J"⟩
abbrev cX8_write : ByteArray := prog_1_method_15_code
def yX8_write : MethodName := ⟨RX8, "write", "(III)I"⟩
abbrev cX8_read : ByteArray := prog_1_method_16_code
def yX8_read : MethodName := ⟨RX8, "read", "(III)I"⟩
abbrev cX8_which : ByteArray := prog_1_method_17_code
def yX8_which : MethodName := ⟨RX8, "which", "(III)I"⟩
abbrev cX8_poke : ByteArray := prog_1_method_18_code
def yX8_poke : MethodName := ⟨RX8, "poke", "(II)I"⟩
abbrev cX8_peek : ByteArray := prog_1_method_19_code
def yX8_peek : MethodName := ⟨RX8, "peek", "(I)I"⟩
abbrev cX8_image : ByteArray := prog_1_method_20_code
def yX8_image : MethodName := ⟨RX8, "image", "(I)I"⟩
abbrev cX8_restore : ByteArray := prog_1_method_21_code
def yX8_restore : MethodName := ⟨RX8, "restore", "(I)I"⟩
abbrev cX8_told : ByteArray := prog_1_method_22_code
def yX8_told : MethodName := ⟨RX8, "told", "(I)I"⟩
abbrev cX8_isShape : ByteArray := prog_1_method_23_code
def yX8_isShape : MethodName := ⟨RX8, "isShape", "(I)Z"⟩
abbrev cX8_isKnown : ByteArray := prog_1_method_24_code
def yX8_isKnown : MethodName := ⟨RX8, "isKnown", "(II)Z"⟩
abbrev cX8_prepare : ByteArray := prog_1_method_25_code
def yX8_prepare : MethodName := ⟨RX8, "prepare", "(II)I"⟩
abbrev cX8_isPlaceForRoot : ByteArray := prog_1_method_26_code
def yX8_isPlaceForRoot : MethodName := ⟨RX8, "isPlaceForRoot", "(I)Z"⟩
abbrev cX8_upTo : ByteArray := prog_1_method_27_code
def yX8_upTo : MethodName := ⟨RX8, "upTo", "(II)I"⟩
abbrev cX8_isLetter : ByteArray := prog_1_method_28_code
def yX8_isLetter : MethodName := ⟨RX8, "isLetter", "(I)Z"⟩
def RX9 : String := "RecordNichesModel"
def TX9 : u_T := fun k => match k with
  | 0 => ("RecordNichesModel", "text", "[I", true)
  | 1 => ("RecordNichesModel", "many", "[I", true)
  | 2 => ("RecordNichesModel", "wayNow", "I", false)
  | 3 => ("RecordNichesModel", "due", "[I", true)
  | 4 => ("RecordNichesModel", "dues", "I", false)
  | 5 => ("RecordNichesModel", "kind", "[I", true)
  | 6 => ("RecordNichesModel", "of", "[I", true)
  | 7 => ("RecordNichesModel", "parent", "[I", true)
  | 8 => ("RecordNichesModel", "index", "[I", true)
  | 9 => ("RecordNichesModel", "within", "[I", true)
  | 10 => ("RecordNichesModel", "parts", "I", false)
  | 11 => ("RecordNichesModel", "todoShape", "[I", true)
  | 12 => ("RecordNichesModel", "todoAt", "[I", true)
  | 13 => ("RecordNichesModel", "todoBy", "[I", true)
  | 14 => ("RecordNichesModel", "todoIn", "[I", true)
  | 15 => ("RecordNichesModel", "todos", "I", false)
  | 16 => ("RecordNichesModel", "xShape", "[I", true)
  | 17 => ("RecordNichesModel", "xAt", "[I", true)
  | 18 => ("RecordNichesModel", "xBy", "[I", true)
  | 19 => ("RecordNichesModel", "xs", "I", false)
  | 20 => ("RecordNichesModel", "gone", "I", false)
  | 21 => ("RecordNichesModel", "size", "[I", true)
  | 22 => ("RecordNichesModel", "align", "[I", true)
  | 23 => ("RecordNichesModel", "offset", "[I", true)
  | 24 => ("RecordNichesModel", "gapAt", "[I", true)
  | 25 => ("RecordNichesModel", "gapWide", "[I", true)
  | 26 => ("RecordNichesModel", "gapFirst", "[I", true)
  | 27 => ("RecordNichesModel", "gapMany", "[I", true)
  | 28 => ("RecordNichesModel", "mode", "[I", true)
  | 29 => ("RecordNichesModel", "host", "[I", true)
  | 30 => ("RecordNichesModel", "ends", "[I", true)
  | 31 => ("RecordNichesModel", "covered", "[Z", true)
  | 32 => ("RecordNichesModel", "list", "[J", true)
  | 33 => ("RecordNichesModel", "listMany", "I", false)
  | 34 => ("RecordNichesModel", "memory", "[I", true)
  | 35 => ("RecordNichesModel", "isThere", "[Z", true)
  | 36 => ("RecordNichesModel", "chosen", "[I", true)
  | 37 => ("RecordNichesModel", "number", "[J", true)
  | 38 => ("RecordNichesModel", "kept", "[I", true)
  | 39 => ("RecordNichesModel", "keptList", "[J", true)
  | 40 => ("RecordNichesModel", "isKept", "[Z", true)
  | 41 => ("RecordNichesModel", "keptAt", "I", false)
  | _ => ("RecordNichesModel", "isWriting", "Z", false)
def tyX9 : Nat → FieldType := fun k => match k with
  | 0 => .array .int
  | 1 => .array .int
  | 2 => .int
  | 3 => .array .int
  | 4 => .int
  | 5 => .array .int
  | 6 => .array .int
  | 7 => .array .int
  | 8 => .array .int
  | 9 => .array .int
  | 10 => .int
  | 11 => .array .int
  | 12 => .array .int
  | 13 => .array .int
  | 14 => .array .int
  | 15 => .int
  | 16 => .array .int
  | 17 => .array .int
  | 18 => .array .int
  | 19 => .int
  | 20 => .int
  | 21 => .array .int
  | 22 => .array .int
  | 23 => .array .int
  | 24 => .array .int
  | 25 => .array .int
  | 26 => .array .int
  | 27 => .array .int
  | 28 => .array .int
  | 29 => .array .int
  | 30 => .array .int
  | 31 => .array .boolean
  | 32 => .array .long
  | 33 => .int
  | 34 => .array .int
  | 35 => .array .boolean
  | 36 => .array .int
  | 37 => .array .long
  | 38 => .array .int
  | 39 => .array .long
  | 40 => .array .boolean
  | 41 => .int
  | _ => .boolean
theorem nmX9 : ∀ a, a < 43 → ∀ b, b < 43 → a ≠ b → (TX9 a).2.1 ≠ (TX9 b).2.1 := by decide +kernel
theorem tyX9_ok : ∀ k, k < 43 → parseFieldDescriptor (TX9 k).2.2.1 = some (tyX9 k) := by decide +kernel
abbrev cX9_init : ByteArray := prog_11_method_1_code
def yX9_init : MethodName := ⟨RX9, "<init>", "()V"⟩
abbrev cX9_in : ByteArray := prog_11_method_3_code
def yX9_in : MethodName := ⟨RX9, "in", "(JJJ)Z"⟩
abbrev cX9_isShape : ByteArray := prog_11_method_4_code
def yX9_isShape : MethodName := ⟨RX9, "isShape", "(I)Z"⟩
abbrev cX9_greater : ByteArray := prog_11_method_5_code
def yX9_greater : MethodName := ⟨RX9, "greater", "(II)I"⟩
abbrev cX9_upTo : ByteArray := prog_11_method_6_code
def yX9_upTo : MethodName := ⟨RX9, "upTo", "(II)I"⟩
abbrev cX9_signAt : ByteArray := prog_11_method_7_code
def yX9_signAt : MethodName := ⟨RX9, "signAt", "(II)I"⟩
abbrev cX9_say : ByteArray := prog_11_method_8_code
def yX9_say : MethodName := ⟨RX9, "say", "(II)I"⟩
abbrev cX9_wipe : ByteArray := prog_11_method_9_code
def yX9_wipe : MethodName := ⟨RX9, "wipe", "(I)I"⟩
abbrev cX9_isOpen : ByteArray := prog_11_method_10_code
def yX9_isOpen : MethodName := ⟨RX9, "isOpen", "(I)Z"⟩
abbrev cX9_isLetter : ByteArray := prog_11_method_11_code
def yX9_isLetter : MethodName := ⟨RX9, "isLetter", "(I)Z"⟩
abbrev cX9_push : ByteArray := prog_11_method_12_code
def yX9_push : MethodName := ⟨RX9, "push", "(I)V"⟩
abbrev cX9_isPlain : ByteArray := prog_11_method_13_code
def yX9_isPlain : MethodName := ⟨RX9, "isPlain", "(I)Z"⟩
abbrev cX9_begins : ByteArray := prog_11_method_14_code
def yX9_begins : MethodName := ⟨RX9, "begins", "(II)Z"⟩
abbrev cX9_isWithin : ByteArray := prog_11_method_15_code
def yX9_isWithin : MethodName := ⟨RX9, "isWithin", "(III)Z"⟩
abbrev cX9_canStand : ByteArray := prog_11_method_16_code
def yX9_canStand : MethodName := ⟨RX9, "canStand", "(II)Z"⟩
abbrev cX9_faultOf : ByteArray := prog_11_method_17_code
def yX9_faultOf : MethodName := ⟨RX9, "faultOf", "(I)I"⟩
abbrev cX9_fault : ByteArray := prog_11_method_18_code
def yX9_fault : MethodName := ⟨RX9, "fault", "(I)I"⟩
abbrev cX9_way : ByteArray := prog_11_method_19_code
def yX9_way : MethodName := ⟨RX9, "way", "(I)I"⟩
abbrev cX9_isAsked : ByteArray := prog_11_method_20_code
def yX9_isAsked : MethodName := ⟨RX9, "isAsked", "(II)Z"⟩
abbrev cX9_lettersOf : ByteArray := prog_11_method_21_code
def yX9_lettersOf : MethodName := ⟨RX9, "lettersOf", "(I)I"⟩
abbrev cX9_isWell : ByteArray := prog_11_method_22_code
def yX9_isWell : MethodName := ⟨RX9, "isWell", "(II)Z"⟩
abbrev cX9_endOf : ByteArray := prog_11_method_23_code
def yX9_endOf : MethodName := ⟨RX9, "endOf", "(II)I"⟩
abbrev cX9_addTodo : ByteArray := prog_11_method_24_code
def yX9_addTodo : MethodName := ⟨RX9, "addTodo", "(IIII)V"⟩
abbrev cX9_addX : ByteArray := prog_11_method_25_code
def yX9_addX : MethodName := ⟨RX9, "addX", "(III)I"⟩
abbrev cX9_kindOf : ByteArray := prog_11_method_26_code
def yX9_kindOf : MethodName := ⟨RX9, "kindOf", "(I)I"⟩
abbrev cX9_addWithin : ByteArray := prog_11_method_27_code
def yX9_addWithin : MethodName := ⟨RX9, "addWithin", "(IIII)V"⟩
abbrev cX9_addPart : ByteArray := prog_11_method_28_code
def yX9_addPart : MethodName := ⟨RX9, "addPart", "(IIII)V"⟩
abbrev cX9_openOne : ByteArray := prog_11_method_29_code
def yX9_openOne : MethodName := ⟨RX9, "openOne", "()V"⟩
abbrev cX9_isOpened : ByteArray := prog_11_method_30_code
def yX9_isOpened : MethodName := ⟨RX9, "isOpened", "(II)Z"⟩
abbrev cX9_child : ByteArray := prog_11_method_31_code
def yX9_child : MethodName := ⟨RX9, "child", "(II)I"⟩
abbrev cX9_gap : ByteArray := prog_11_method_32_code
def yX9_gap : MethodName := ⟨RX9, "gap", "(IIIII)V"⟩
abbrev cX9_layLeaf : ByteArray := prog_11_method_33_code
def yX9_layLeaf : MethodName := ⟨RX9, "layLeaf", "(I)V"⟩
abbrev cX9_greatestAlign : ByteArray := prog_11_method_34_code
def yX9_greatestAlign : MethodName := ⟨RX9, "greatestAlign", "(I)I"⟩
abbrev cX9_layFields : ByteArray := prog_11_method_35_code
def yX9_layFields : MethodName := ⟨RX9, "layFields", "(III)I"⟩
abbrev cX9_layRecord : ByteArray := prog_11_method_36_code
def yX9_layRecord : MethodName := ⟨RX9, "layRecord", "(I)V"⟩
abbrev cX9_hostOf : ByteArray := prog_11_method_37_code
def yX9_hostOf : MethodName := ⟨RX9, "hostOf", "(I)I"⟩
abbrev cX9_roomFor : ByteArray := prog_11_method_38_code
def yX9_roomFor : MethodName := ⟨RX9, "roomFor", "(II)I"⟩
abbrev cX9_isHidden : ByteArray := prog_11_method_39_code
def yX9_isHidden : MethodName := ⟨RX9, "isHidden", "(II)Z"⟩
abbrev cX9_layHidden : ByteArray := prog_11_method_40_code
def yX9_layHidden : MethodName := ⟨RX9, "layHidden", "(II)V"⟩
abbrev cX9_layTagged : ByteArray := prog_11_method_41_code
def yX9_layTagged : MethodName := ⟨RX9, "layTagged", "(I)V"⟩
abbrev cX9_layVariant : ByteArray := prog_11_method_42_code
def yX9_layVariant : MethodName := ⟨RX9, "layVariant", "(I)V"⟩
abbrev cX9_layOne : ByteArray := prog_11_method_43_code
def yX9_layOne : MethodName := ⟨RX9, "layOne", "(I)V"⟩
abbrev cX9_isLaid : ByteArray := prog_11_method_44_code
def yX9_isLaid : MethodName := ⟨RX9, "isLaid", "()Z"⟩
abbrev cX9_refusal : ByteArray := prog_11_method_45_code
def yX9_refusal : MethodName := ⟨RX9, "refusal", "(II)I"⟩
abbrev cX9_toldOf : ByteArray := prog_11_method_46_code
def yX9_toldOf : MethodName := ⟨RX9, "toldOf", "(I)I"⟩
abbrev cX9_layout : ByteArray := prog_11_method_47_code
def yX9_layout : MethodName := ⟨RX9, "layout", "(III)I"⟩
abbrev cX9_termTold : ByteArray := prog_11_method_48_code
def yX9_termTold : MethodName := ⟨RX9, "termTold", "(II)I"⟩
abbrev cX9_term : ByteArray := prog_11_method_49_code
def yX9_term : MethodName := ⟨RX9, "term", "(IIII)I"⟩
abbrev cX9_variant : ByteArray := prog_11_method_50_code
def yX9_variant : MethodName := ⟨RX9, "variant", "(III)I"⟩
abbrev cX9_patternOf : ByteArray := prog_11_method_51_code
def yX9_patternOf : MethodName := ⟨RX9, "patternOf", "(II)I"⟩
abbrev cX9_pattern : ByteArray := prog_11_method_52_code
def yX9_pattern : MethodName := ⟨RX9, "pattern", "(III)I"⟩
abbrev cX9_leastEnd : ByteArray := prog_11_method_53_code
def yX9_leastEnd : MethodName := ⟨RX9, "leastEnd", "()I"⟩
abbrev cX9_least : ByteArray := prog_11_method_54_code
def yX9_least : MethodName := ⟨RX9, "least", "(II)I"⟩
abbrev cX9_placeOf : ByteArray := prog_11_method_55_code
def yX9_placeOf : MethodName := ⟨RX9, "placeOf", "(I)I"⟩
abbrev cX9_coverOne : ByteArray := prog_11_method_56_code
def yX9_coverOne : MethodName := ⟨RX9, "coverOne", "(I)V"⟩
abbrev cX9_idle : ByteArray := prog_11_method_57_code
def yX9_idle : MethodName := ⟨RX9, "idle", "(II)I"⟩
abbrev cX9_give : ByteArray := prog_11_method_58_code
def yX9_give : MethodName := ⟨RX9, "give", "(J)I"⟩
abbrev cX9_drop : ByteArray := prog_11_method_59_code
def yX9_drop : MethodName := ⟨RX9, "drop", "()I"⟩
abbrev cX9_given : ByteArray := prog_11_method_60_code
def yX9_given : MethodName := ⟨RX9, "given", "(I)J"⟩
abbrev cX9_isThereNow : ByteArray := prog_11_method_61_code
def yX9_isThereNow : MethodName := ⟨RX9, "isThereNow", "(I)Z"⟩
abbrev cX9_hasNumber : ByteArray := prog_11_method_62_code
def yX9_hasNumber : MethodName := ⟨RX9, "hasNumber", "(I)Z"⟩
abbrev cX9_isNumber : ByteArray := prog_11_method_63_code
def yX9_isNumber : MethodName := ⟨RX9, "isNumber", "(IJ)Z"⟩
abbrev cX9_isValue : ByteArray := prog_11_method_64_code
def yX9_isValue : MethodName := ⟨RX9, "isValue", "()Z"⟩
abbrev cX9_lay : ByteArray := prog_11_method_65_code
def yX9_lay : MethodName := ⟨RX9, "lay", "(IIJ)V"⟩
abbrev cX9_layValue : ByteArray := prog_11_method_66_code
def yX9_layValue : MethodName := ⟨RX9, "layValue", "(I)V"⟩
abbrev cX9_refusalAt : ByteArray := prog_11_method_67_code
def yX9_refusalAt : MethodName := ⟨RX9, "refusalAt", "(III)I"⟩
abbrev cX9_write : ByteArray := prog_11_method_68_code
def yX9_write : MethodName := ⟨RX9, "write", "(III)I"⟩
abbrev cX9_lies : ByteArray := prog_11_method_69_code
def yX9_lies : MethodName := ⟨RX9, "lies", "(II)J"⟩
abbrev cX9_hiddenAt : ByteArray := prog_11_method_70_code
def yX9_hiddenAt : MethodName := ⟨RX9, "hiddenAt", "(II)J"⟩
abbrev cX9_numberAt : ByteArray := prog_11_method_71_code
def yX9_numberAt : MethodName := ⟨RX9, "numberAt", "(II)J"⟩
abbrev cX9_valueAt : ByteArray := prog_11_method_72_code
def yX9_valueAt : MethodName := ⟨RX9, "valueAt", "(I)I"⟩
abbrev cX9_read : ByteArray := prog_11_method_73_code
def yX9_read : MethodName := ⟨RX9, "read", "(III)I"⟩
abbrev cX9_which : ByteArray := prog_11_method_74_code
def yX9_which : MethodName := ⟨RX9, "which", "(III)I"⟩
abbrev cX9_poke : ByteArray := prog_11_method_75_code
def yX9_poke : MethodName := ⟨RX9, "poke", "(II)I"⟩
abbrev cX9_peek : ByteArray := prog_11_method_76_code
def yX9_peek : MethodName := ⟨RX9, "peek", "(I)I"⟩
abbrev cX9_pass : ByteArray := prog_11_method_77_code
def yX9_pass : MethodName := ⟨RX9, "pass", "(I)I"⟩
abbrev cX9_passRow : ByteArray := prog_11_method_78_code
def yX9_passRow : MethodName := ⟨RX9, "passRow", "([II)V"⟩
abbrev cX9_passAll : ByteArray := prog_11_method_79_code
def yX9_passAll : MethodName := ⟨RX9, "passAll", "(I)V"⟩
abbrev cX9_image : ByteArray := prog_11_method_80_code
def yX9_image : MethodName := ⟨RX9, "image", "(I)I"⟩
abbrev cX9_restore : ByteArray := prog_11_method_81_code
def yX9_restore : MethodName := ⟨RX9, "restore", "(I)I"⟩
abbrev cX9_told : ByteArray := prog_11_method_82_code
def yX9_told : MethodName := ⟨RX9, "told", "(I)I"⟩
def RL : String := "RecordNichesLaw"
abbrev cL_law : ByteArray := code
def yL_law : MethodName := ⟨RL, "law", "([I)Z"⟩
end
section
/-! AN ABSTRACT MACHINE: entries at numbers 0, 1, .. (references are these numbers); a step, a run; no heap of the real machine in it -/
abbrev rn_E : Type := (Nat × vp_A) ⊕ (Nat × List Value)
abbrev rn_H : Type := Nat → rn_E
abbrev rn_L : Type := List (Nat × Value)
/-- place in the table, locals, stack, how many entries, how many slots made, the entries -/
abbrev rn_S : Type := Nat × rn_L × List Value × Nat × Nat × rn_H
/-- pc, instruction, the locals kept at it ([]: all), what it needs besides -/
abbrev rn_I : Type := Nat × Instr × List Nat × List Nat
/-- a method: name, bytes, locals, answer, table, (parameters, frames, words, 1: an initialiser) -/
abbrev rn_M : Type := MethodName × ByteArray × Nat × Option FieldType × List rn_I × Nat × Nat × Nat × Nat
def rn_SR : Nat := 1000000
def rn_ci : Nat → Nat → Int32
  | 0, v => Int32.ofNat v
  | _ + 1, v => -(Int32.ofNat v)
def rn_cl : Nat → Nat → Int64
  | 0, v => Int64.ofNat v
  | _ + 1, v => -(Int64.ofNat v)
def rn_lk (i : Nat) : rn_L → Option Value
  | [] => none
  | (j, v) :: t => match Nat.beq j i with
    | true => some v
    | false => rn_lk i t
def rn_fl (i : Nat) (lv : rn_L) : rn_L := lv.filter (fun q => !(q.1 == i) && !(q.1 + 1 == i && q.2.category == 2))
def rn_fm (i : Nat) (lv : rn_L) : rn_L := lv.filter (fun q => !(q.1 == i) && (!(q.1 == i + 1) && !(q.1 + 1 == i && q.2.category == 2)))
def rn_pk (lv : rn_L) : List Nat → rn_L
  | [] => []
  | i :: t => match rn_lk i lv with
    | some v => (i, v) :: rn_pk lv t
    | none => rn_pk lv t
def rn_kp (ks : List Nat) (lv : rn_L) : rn_L := match ks with
  | [] => lv
  | i :: t => rn_pk lv (i :: t)
def rn_cs (st : List Value) : Nat := (st.map fun v => v.category).sum
def rn_ii (f : Int32 → Int32 → Int32) (st : List Value) : Option (List Value) := match st with
  | .int y :: .int x :: r => some (.int (f x y) :: r)
  | _ => none
def rn_id (f : Int32 → Int32 → Int32) (st : List Value) : Option (List Value) := match st with
  | .int y :: .int x :: r => if y = 0 then none else some (.int (f x y) :: r)
  | _ => none
def rn_ll (f : Int64 → Int64 → Int64) (st : List Value) : Option (List Value) := match st with
  | .long y :: .long x :: r => some (.long (f x y) :: r)
  | _ => none
def rn_ld (f : Int64 → Int64 → Int64) (st : List Value) : Option (List Value) := match st with
  | .long y :: .long x :: r => if y = 0 then none else some (.long (f x y) :: r)
  | _ => none
def rn_li (j : Nat) (lv : rn_L) (st : List Value) : Option (List Value) := match rn_lk j lv with
  | some (.int x) => some (.int x :: st)
  | _ => none
def rn_lj (j : Nat) (lv : rn_L) (st : List Value) : Option (List Value) := match rn_lk j lv with
  | some (.long x) => some (.long x :: st)
  | _ => none
def rn_la (j : Nat) (lv : rn_L) (st : List Value) : Option (List Value) := match rn_lk j lv with
  | some (.ref x) => some (.ref x :: st)
  | some .null => some (.null :: st)
  | _ => none
/-- an array of ints (kind 0) or truths (2) read -/
def rn_ai (t : Nat) (h : rn_H) (st : List Value) : Option (List Value) := match st with
  | .int i :: .ref q :: r => match h q with
    | .inl (t1, n, .inl f) => match Nat.beq t1 t with
      | true => if i < 0 ∨ n ≤ i.toNatClampNeg then none else some (.int (f i.toNatClampNeg) :: r)
      | false => none
    | _ => none
  | _ => none
def rn_aj (h : rn_H) (st : List Value) : Option (List Value) := match st with
  | .int i :: .ref q :: r => match h q with
    | .inl (1, n, .inr (.inl f)) => if i < 0 ∨ n ≤ i.toNatClampNeg then none else some (.long (f i.toNatClampNeg) :: r)
    | _ => none
  | _ => none
def rn_aa (t : Nat) (h : rn_H) (st : List Value) : Option (List Value) := match st with
  | .int i :: .ref q :: r => match h q with
    | .inl (t1, n, .inr (.inr (.inr (.inr f)))) => match Nat.beq t1 t with
      | true => if i < 0 ∨ n ≤ i.toNatClampNeg then none else some (va_rf (f i.toNatClampNeg) :: r)
      | false => none
    | _ => none
  | _ => none
def rn_gf (c k : Nat) (h : rn_H) (st : List Value) : Option (List Value) := match st with
  | .ref q :: r => match h q with
    | .inr (c1, fs) => match Nat.beq c1 c with
      | true => match fs[k]? with
        | some v => some (v :: r)
        | none => none
      | false => none
    | _ => none
  | _ => none
/-- the script: how long, its ints -/
abbrev rn_X : Type := Nat × (Nat → Int32)
def rn_sl (X : rn_X) (st : List Value) : Option (List Value) := match st with
  | .int i :: .ref 1000000 :: r => if i < 0 ∨ X.1 ≤ i.toNatClampNeg then none else some (.int (X.2 i.toNatClampNeg) :: r)
  | _ => none
/-- what changes the stack alone -/
def rn_p (X : rn_X) (i : Instr) (ax : List Nat) (lv : rn_L) (st : List Value) (h : rn_H) : Option (List Value) := match i with
  | .iconst _ => match ax with
    | [a, b] => some (.int (rn_ci a b) :: st)
    | _ => none
  | .bipush _ => match ax with
    | [a, b] => some (.int (rn_ci a b) :: st)
    | _ => none
  | .sipush _ => match ax with
    | [a, b] => some (.int (rn_ci a b) :: st)
    | _ => none
  | .lconst _ => match ax with
    | [a, b] => some (.long (rn_cl a b) :: st)
    | _ => none
  | .ldc2_w _ => match ax with
    | [a, b, _] => some (.long (rn_cl a b) :: st)
    | _ => none
  | .aconst_null => some (.null :: st)
  | .iload j => rn_li j lv st
  | .iload_n j => rn_li j lv st
  | .lload j => rn_lj j lv st
  | .lload_n j => rn_lj j lv st
  | .aload j => rn_la j lv st
  | .aload_n j => rn_la j lv st
  | .iadd => rn_ii (fun x y => x + y) st
  | .isub => rn_ii (fun x y => x - y) st
  | .imul => rn_ii (fun x y => x * y) st
  | .iand => rn_ii (fun x y => x &&& y) st
  | .ior => rn_ii (fun x y => x ||| y) st
  | .ixor => rn_ii (fun x y => x ^^^ y) st
  | .ishl => rn_ii (fun x y => x <<< (y &&& 31)) st
  | .ishr => rn_ii (fun x y => x >>> (y &&& 31)) st
  | .idiv => rn_id (fun x y => x / y) st
  | .irem => rn_id (fun x y => x - x / y * y) st
  | .ladd => rn_ll (fun x y => x + y) st
  | .lsub => rn_ll (fun x y => x - y) st
  | .lmul => rn_ll (fun x y => x * y) st
  | .land => rn_ll (fun x y => x &&& y) st
  | .lor => rn_ll (fun x y => x ||| y) st
  | .ldiv => rn_ld (fun x y => x / y) st
  | .lrem => rn_ld (fun x y => x - x / y * y) st
  | .ineg => match st with
    | .int x :: r => some (.int (-x) :: r)
    | _ => none
  | .lshl => match st with
    | .int y :: .long x :: r => some (.long (x <<< (y.toInt64 &&& 63)) :: r)
    | _ => none
  | .lshr => match st with
    | .int y :: .long x :: r => some (.long (x >>> (y.toInt64 &&& 63)) :: r)
    | _ => none
  | .i2l => match st with
    | .int x :: r => some (.long x.toInt64 :: r)
    | _ => none
  | .l2i => match st with
    | .long x :: r => some (.int x.toInt32 :: r)
    | _ => none
  | .lcmp => match st with
    | .long y :: .long x :: r => some (.int (lg_cmp x y) :: r)
    | _ => none
  | .dup => match st with
    | .int x :: r => some (.int x :: .int x :: r)
    | .ref x :: r => some (.ref x :: .ref x :: r)
    | _ => none
  | .dup2 => match st with
    | .int x :: .ref q :: r => some (.int x :: .ref q :: .int x :: .ref q :: r)
    | _ => none
  | .pop => match st with
    | .int _ :: r => some r
    | _ => none
  | .getfield _ => match ax with
    | [c, k, _] => rn_gf c k h st
    | _ => none
  | .iaload => match ax with
    | [] => rn_ai 0 h st
    | _ => rn_sl X st
  | .baload => rn_ai 2 h st
  | .laload => rn_aj h st
  | .aaload => match ax with
    | [t] => rn_aa t h st
    | _ => none
  | .arraylength => match st with
    | .ref 1000000 :: r => some (.int (Int32.ofNat X.1) :: r)
    | _ => none
  | .invokestatic _ => match ax with
    | [2, _, _, _, _] => match st with
      | .int y :: .int x :: r => if rn_cs r ≤ 8 then some (.int (if x < y then y else x) :: r) else none
      | _ => none
    | _ => none
  | .invokespecial _ => match ax with
    | [3, _, _, _] => match st with
      | .ref _ :: r => if rn_cs r ≤ 8 then some r else none
      | _ => none
    | _ => none
  | _ => none
/-- what changes locals -/
def rn_l (i : Instr) (ax : List Nat) (lv : rn_L) (st : List Value) : Option (rn_L × List Value) := match i with
  | .istore j => match st with
    | .int x :: r => some ((j, .int x) :: rn_fl j lv, r)
    | _ => none
  | .istore_n j => match st with
    | .int x :: r => some (((j : Nat), .int x) :: rn_fl j lv, r)
    | _ => none
  | .lstore j => match st with
    | .long x :: r => some ((j, .long x) :: rn_fm j lv, r)
    | _ => none
  | .lstore_n j => match st with
    | .long x :: r => some (((j : Nat), .long x) :: rn_fm j lv, r)
    | _ => none
  | .astore j => match st with
    | .ref x :: r => some ((j, .ref x) :: rn_fl j lv, r)
    | _ => none
  | .astore_n j => match st with
    | .ref x :: r => some (((j : Nat), .ref x) :: rn_fl j lv, r)
    | _ => none
  | .iinc j _ => match ax with
    | [a, b] => match rn_lk j lv with
      | some (.int x) => some ((j, .int (x + rn_ci a b)) :: rn_fl j lv, st)
      | _ => none
    | _ => none
  | _ => none
def rn_st (ts : List Nat) (lo : Int) (x : Int32) (d : Nat) : Nat := match ts with
  | [] => d
  | t :: r => if x = Int32.ofInt lo then t else rn_st r (lo + 1) x d
def rn_sk (ks : List (Int × Int)) (ts : List Nat) (x : Int32) (d : Nat) : Nat := match ks, ts with
  | k :: kr, t :: tr => if x = Int32.ofInt k.1 then t else rn_sk kr tr x d
  | _, _ => d
/-- where it goes on: k the place behind it -/
def rn_b (i : Instr) (ax : List Nat) (k : Nat) (st : List Value) : Option (Nat × List Value) := match ax with
  | [] => none
  | t :: ts => match i with
    | .goto _ => some (t, st)
    | .ifCond c _ => match st with
      | .int x :: r => match c with
        | .eq => some (if x = 0 then t else k, r)
        | .ne => some (if x = 0 then k else t, r)
        | .lt => some (if x < 0 then t else k, r)
        | .ge => some (if 0 ≤ x then t else k, r)
        | .gt => some (if 0 < x then t else k, r)
        | .le => some (if x ≤ 0 then t else k, r)
      | _ => none
    | .if_icmp c _ => match st with
      | .int y :: .int x :: r => match c with
        | .eq => some (if x = y then t else k, r)
        | .ne => some (if x = y then k else t, r)
        | .lt => some (if x < y then t else k, r)
        | .ge => some (if y ≤ x then t else k, r)
        | .gt => some (if y < x then t else k, r)
        | .le => some (if x ≤ y then t else k, r)
      | _ => none
    | .ifnull _ => match st with
      | .ref _ :: r => some (k, r)
      | .null :: r => some (t, r)
      | _ => none
    | .ifnonnull _ => match st with
      | .ref _ :: r => some (t, r)
      | .null :: r => some (k, r)
      | _ => none
    | .tableswitch _ lo _ _ => match st with
      | .int x :: r => some (rn_st ts lo x t, r)
      | _ => none
    | .lookupswitch _ ps => match st with
      | .int x :: r => some (rn_sk ps.toList ts x t, r)
      | _ => none
    | _ => none
/-- a value that a field of that type (0 int, 1 a truth, 2 a reference) can take -/
def rn_ty (ty : Nat) (v : Value) : Bool := match v with
  | .int x => match ty with
    | 0 => true
    | 1 => decide (x = 0) || decide (x = 1)
    | _ => false
  | .ref _ => Nat.beq ty 2
  | .null => Nat.beq ty 2
  | _ => false
def rn_up (h : rn_H) (q : Nat) (e : rn_E) : rn_H := fun j => match Nat.beq j q with
  | true => e
  | false => h j
/-- what writes entries -/
def rn_w (i : Instr) (ax : List Nat) (st : List Value) (h : rn_H) : Option (List Value × rn_H) := match i with
  | .putfield _ => match ax with
    | [c, k, ty, _] => match st with
      | v :: .ref q :: r => match h q with
        | .inr (c1, fs) => match Nat.beq c1 c with
          | true => match rn_ty ty v with
            | true => match Nat.blt k fs.length with
              | true => some (r, rn_up h q (.inr (c1, fs.set k v)))
              | false => none
            | false => none
          | false => none
        | _ => none
      | _ => none
    | _ => none
  | .iastore => match st with
    | .int x :: .int i :: .ref q :: r => match h q with
      | .inl (0, n, .inl f) => if i < 0 ∨ n ≤ i.toNatClampNeg then none else some (r, rn_up h q (.inl (0, n, .inl (upd f i.toNatClampNeg x))))
      | _ => none
    | _ => none
  | .bastore => match st with
    | .int x :: .int i :: .ref q :: r => match h q with
      | .inl (2, n, .inl f) => if i < 0 ∨ n ≤ i.toNatClampNeg then none else if x = 0 ∨ x = 1 then some (r, rn_up h q (.inl (2, n, .inl (upd f i.toNatClampNeg x)))) else none
      | _ => none
    | _ => none
  | .lastore => match st with
    | .long x :: .int i :: .ref q :: r => match h q with
      | .inl (1, n, .inr (.inl f)) => if i < 0 ∨ n ≤ i.toNatClampNeg then none else some (r, rn_up h q (.inl (1, n, .inr (.inl (vp_updL f i.toNatClampNeg x)))))
      | _ => none
    | _ => none
  | .aastore => match ax with
    | [t, c] => match st with
      | .ref v :: .int i :: .ref q :: r => match h q with
        | .inl (t1, n, .inr (.inr (.inr (.inr f)))) => match Nat.beq t1 t with
          | true => match h v with
            | .inr (c1, _) => match Nat.beq c1 c with
              | true => if i < 0 ∨ n ≤ i.toNatClampNeg then none else some (r, rn_up h q (.inl (t1, n, .inr (.inr (.inr (.inr (va_up f i.toNatClampNeg (some v))))))))
              | false => none
            | _ => none
          | false => none
        | _ => none
      | _ => none
    | _ => none
  | .invokestatic _ => match ax with
    | [1, t, _, _, _, _] => match st with
      | .int n :: .int dp :: .ref a :: .int sp :: .ref a0 :: r => if sp < 0 ∨ dp < 0 ∨ n < 0 ∨ 8 < rn_cs r then none else match t with
        | 0 => match h a0, h a with
          | .inl (0, n0, .inl f), .inl (0, n1, .inl g) => if sp.toNatClampNeg + n.toNatClampNeg ≤ n0 ∧ dp.toNatClampNeg + n.toNatClampNeg ≤ n1 then some (r, rn_up h a (.inl (0, n1, .inl (va_cpy f g sp.toNatClampNeg dp.toNatClampNeg n.toNatClampNeg)))) else none
          | _, _ => none
        | 1 => match h a0, h a with
          | .inl (1, n0, .inr (.inl f)), .inl (1, n1, .inr (.inl g)) => if sp.toNatClampNeg + n.toNatClampNeg ≤ n0 ∧ dp.toNatClampNeg + n.toNatClampNeg ≤ n1 then some (r, rn_up h a (.inl (1, n1, .inr (.inl (va_cpy f g sp.toNatClampNeg dp.toNatClampNeg n.toNatClampNeg))))) else none
          | _, _ => none
        | _ => none
      | _ => none
    | _ => none
  | _ => none
def rn_z (t n : Nat) : rn_E := match t with
  | 0 => .inl (0, n, .inl (fun _ => 0))
  | 1 => .inl (1, n, .inr (.inl (fun _ => 0)))
  | 2 => .inl (2, n, .inl (fun _ => 0))
  | t + 3 => .inl (t + 3, n, .inr (.inr (.inr (.inr (fun _ => none)))))
/-- what makes an entry: it, how many slots it has -/
def rn_a (dv : Nat → List Value) (i : Instr) (ax : List Nat) (st : List Value) : Option (List Value × rn_E × Nat) := match i with
  | .new _ => match ax with
    | [c, n, _, _, _] => some (st, .inr (c, dv c), n)
    | _ => none
  | .newarray _ => match ax with
    | [t, _] => match st with
      | .int n :: r => if n < 0 ∨ 1000000 < n.toNatClampNeg then none else some (r, rn_z t n.toNatClampNeg, n.toNatClampNeg)
      | _ => none
    | _ => none
  | .anewarray _ => match ax with
    | [t, _, _] => match st with
      | .int n :: r => if n < 0 ∨ 1000000 < n.toNatClampNeg then none else some (r, rn_z t n.toNatClampNeg, n.toNatClampNeg)
      | _ => none
    | _ => none
  | _ => none
/-- a value that lies within the first N entries -/
def rn_cv (N : Nat) (v : Value) : Bool := match v with
  | .ref a => Nat.blt a N || Nat.beq a 1000000
  | _ => true
def rn_sp (X : rn_X) (dv : Nat → List Value) (e : rn_I) (s : rn_S) : Option rn_S := match e, s with
  | (_, i, _, ax), (k, lv, st, N, sl, h) => match rn_p X i ax lv st h with
    | some st1 => some (k + 1, lv, st1, N, sl, h)
    | none => match rn_b i ax (k + 1) st with
      | some (k1, st1) => some (k1, lv, st1, N, sl, h)
      | none => match rn_l i ax lv st with
        | some (lv1, st1) => some (k + 1, lv1, st1, N, sl, h)
        | none => match rn_w i ax st h with
          | some (st1, h1) => some (k + 1, lv, st1, N, sl, h1)
          | none => match rn_a dv i ax st with
            | some (st1, z, n) => match Nat.blt N 1000000 with
              | true => some (k + 1, lv, .ref N :: st1, N + 1, sl + n, rn_up h N z)
              | false => none
            | none => none
/-- the answer at a return: none, or a value -/
def rn_rt (i : Instr) (rt : Option FieldType) (st : List Value) : Option (Option Value) := match i with
  | .return_ => match st, rt with
    | [], none => some none
    | _, _ => none
  | .ireturn => match st, rt with
    | [.int x], some .int => some (some (.int x))
    | [.int x], some .boolean => if x = 0 ∨ x = 1 then some (some (.int x)) else none
    | _, _ => none
  | .lreturn => match st, rt with
    | [.long x], some .long => some (some (.long x))
    | _, _ => none
  | .areturn => match st, rt with
    | [.ref x], some (.object _) => some (some (.ref x))
    | _, _ => none
  | _ => none
/-- a call: the method, whether it has a receiver, its class' number -/
def rn_cc (i : Instr) (ax : List Nat) : Option (Nat × Bool × Nat) := match i with
  | .invokevirtual _ => match ax with
    | 0 :: z :: c :: _ => some (z, true, c)
    | _ => none
  | .invokespecial _ => match ax with
    | 0 :: z :: c :: _ => some (z, true, c)
    | 4 :: z :: c :: _ => some (z, true, c)
    | _ => none
  | .invokestatic _ => match ax with
    | 0 :: z :: c :: _ => some (z, false, c)
    | 4 :: z :: c :: _ => some (z, false, c)
    | _ => none
  | _ => none
/-- a receiver is an object of that class -/
def rn_rc (h : rn_H) (c : Nat) (as : List Value) : Bool := match as with
  | .ref q :: _ => match h q with
    | .inr (c1, _) => Nat.beq c1 c
    | _ => false
  | _ => false
def rn_x (X : rn_X) (dv : Nat → List Value) (ms : Nat → Option rn_M) : Nat → Nat → rn_S → Option (Option Value × Nat × Nat × rn_H)
  | 0, _, _ => none
  | f + 1, y, (k, lv, st, N, sl, h) => match ms y with
    | none => none
    | some (_, _, _, rt, T, _, fr, lo, _) => match T[k]? with
      | none => none
      | some e => match rn_sp X dv e (k, rn_kp e.2.2.1 lv, st, N, sl, h) with
        | some s => rn_x X dv ms f y s
        | none => match rn_rt e.2.1 rt st with
          | some v => some (v, N, sl, h)
          | none => match rn_cc e.2.1 e.2.2.2 with
            | none => none
            | some (z, b, c) => match ms z with
              | none => none
              | some (_, _, mL, _, _, n, fr2, lo2, _) => match Nat.ble (fr2 + 1) fr && Nat.ble (19 + mL + lo2) lo && Nat.ble (n + (bif b then 1 else 0)) st.length && Nat.ble (rn_cs (st.drop (n + (bif b then 1 else 0)))) 8 && Nat.ble (rn_cs (st.take (n + (bif b then 1 else 0)))) mL && (!b || rn_rc h c (st.take (n + 1)).reverse) with
                | false => none
                | true => match rn_x X dv ms f z (0, lv_args 0 (st.take (n + (bif b then 1 else 0))).reverse, [], N, sl, h) with
                  | none => none
                  | some (v, N1, sl1, h1) => rn_x X dv ms f y (k + 1, rn_kp e.2.2.1 lv, v.toList ++ st.drop (n + (bif b then 1 else 0)), N1, sl1, h1)
end
section
/-! classes and kinds of arrays by number -/
abbrev rn_cls : List vw_C := [(RX0, TX0, 2), (RX1, TX1, 5), (RX0, TX0, 2), (RX3, TX3, 18), (RX4, TX4, 6), (RX5, TX5, 2), (RX6, TX6, 2), (RX7, TX7, 16), (RX8, TX8, 6), (RX9, TX9, 43)]
def rn_fty : Nat → Nat → FieldType := fun c => match c with
  | 0 => tyX0
  | 1 => tyX1
  | 2 => tyX0
  | 3 => tyX3
  | 4 => tyX4
  | 5 => tyX5
  | 6 => tyX6
  | 7 => tyX7
  | 8 => tyX8
  | 9 => tyX9
  | _ => fun _ => .int
def rn_ft : List FieldType := [.int, .long, .boolean, .object RX1, .object RX3, .object RX4, .object RX5]
def rn_dv : Nat → List Value := fun c => match c with
  | 0 => [.null, .null]
  | 1 => [.null, .null, .null, .int 0, .int 0]
  | 2 => [.null, .null]
  | 3 => [.null, .int 0, .null, .int 0, .int 0, .int 0, .int 0, .int 0, .int 0, .int 0, .int 0, .int 0, .int 0, .int 0, .int 0, .int 0, .int 0, .int 0]
  | 4 => [.int 0, .null, .null, .null, .null, .int 0]
  | 5 => [.null, .int 0]
  | 6 => [.null, .int 0]
  | 7 => [.int 0, .null, .null, .int 0, .int 0, .int 0, .int 0, .null, .null, .null, .int 0, .null, .null, .null, .null, .int 0]
  | 8 => [.null, .null, .null, .null, .null, .null]
  | 9 => [.null, .null, .int 0, .null, .int 0, .null, .null, .null, .null, .null, .int 0, .null, .null, .null, .null, .int 0, .null, .null, .null, .int 0, .int 0, .null, .null, .null, .null, .null, .null, .null, .null, .null, .null, .null, .null, .int 0, .null, .null, .null, .null, .null, .null, .null, .int 0, .int 0]
  | _ => []
def rn_nest : List (String × Nat × MethodName × String) := [("RecordNiches$Holding", 25, ⟨"RecordNiches$Text", "<init>", "()V"⟩, "RecordNiches"), ("RecordNiches$Grammar", 21, ⟨"RecordNiches$Scan", "<init>", "()V"⟩, "RecordNiches"), ("RecordNiches$Tree", 43, ⟨"RecordNiches$Node", "<init>", "()V"⟩, "RecordNiches"), ("RecordNiches", 40, ⟨"RecordNiches$Transfer", "<init>", "()V"⟩, "RecordNiches"), ("RecordNiches$Scan", 56, ⟨"RecordNiches", "isLetter", "(I)Z"⟩, "RecordNiches"), ("RecordNiches$Holding", 43, ⟨"RecordNiches", "isShape", "(I)Z"⟩, "RecordNiches"), ("RecordNiches$Tree", 105, ⟨"RecordNiches", "isLetter", "(I)Z"⟩, "RecordNiches"), ("RecordNiches$Grammar", 42, ⟨"RecordNiches", "isShape", "(I)Z"⟩, "RecordNiches"), ("RecordNiches$Lay", 25, ⟨"RecordNiches", "upTo", "(II)I"⟩, "RecordNiches")]
def rn_gw : List Cond := lw_tbl.filter goodWord
theorem rn_in0 : ∀ w ∈ u_ws RX0 TX0 2, w ∈ rn_gw := by decide +kernel
theorem rn_dv0 : ∀ j, j < 2 → defaultValue (tyX0 j) = vp_V (rn_dv 0) j := by decide +kernel
theorem rn_in1 : ∀ w ∈ u_ws RX1 TX1 5, w ∈ rn_gw := by decide +kernel
theorem rn_dv1 : ∀ j, j < 5 → defaultValue (tyX1 j) = vp_V (rn_dv 1) j := by decide +kernel
theorem rn_in2 : ∀ w ∈ u_ws RX2 TX2 0, w ∈ rn_gw := by decide +kernel
theorem rn_dv2 : ∀ j, j < 0 → defaultValue (tyX2 j) = vp_V (rn_dv 2) j := by decide +kernel
theorem rn_in3 : ∀ w ∈ u_ws RX3 TX3 18, w ∈ rn_gw := by decide +kernel
theorem rn_dv3 : ∀ j, j < 18 → defaultValue (tyX3 j) = vp_V (rn_dv 3) j := by decide +kernel
theorem rn_in4 : ∀ w ∈ u_ws RX4 TX4 6, w ∈ rn_gw := by decide +kernel
theorem rn_dv4 : ∀ j, j < 6 → defaultValue (tyX4 j) = vp_V (rn_dv 4) j := by decide +kernel
theorem rn_in5 : ∀ w ∈ u_ws RX5 TX5 2, w ∈ rn_gw := by decide +kernel
theorem rn_dv5 : ∀ j, j < 2 → defaultValue (tyX5 j) = vp_V (rn_dv 5) j := by decide +kernel
theorem rn_in6 : ∀ w ∈ u_ws RX6 TX6 2, w ∈ rn_gw := by decide +kernel
theorem rn_dv6 : ∀ j, j < 2 → defaultValue (tyX6 j) = vp_V (rn_dv 6) j := by decide +kernel
theorem rn_in7 : ∀ w ∈ u_ws RX7 TX7 16, w ∈ rn_gw := by decide +kernel
theorem rn_dv7 : ∀ j, j < 16 → defaultValue (tyX7 j) = vp_V (rn_dv 7) j := by decide +kernel
theorem rn_in8 : ∀ w ∈ u_ws RX8 TX8 6, w ∈ rn_gw := by decide +kernel
theorem rn_dv8 : ∀ j, j < 6 → defaultValue (tyX8 j) = vp_V (rn_dv 8) j := by decide +kernel
theorem rn_in9 : ∀ w ∈ u_ws RX9 TX9 43, w ∈ rn_gw := by decide +kernel
theorem rn_dv9 : ∀ j, j < 43 → defaultValue (tyX9 j) = vp_V (rn_dv 9) j := by decide +kernel
/-- what is known of a class by its number -/
def rn_cf (c : Nat) (q : vw_C) : Prop := (∀ w ∈ u_ws q.1 q.2.1 q.2.2, w ∈ rn_gw) ∧ (∀ k, k < q.2.2 → parseFieldDescriptor (q.2.1 k).2.2.1 = some (rn_fty c k)) ∧ (∀ a, a < q.2.2 → ∀ b, b < q.2.2 → a ≠ b → (q.2.1 a).2.1 ≠ (q.2.1 b).2.1) ∧ (∀ j, j < q.2.2 → defaultValue (rn_fty c j) = vp_V (rn_dv c) j)
theorem rn_cf_all : ∀ (c : Nat) (q : vw_C), rn_cls[c]? = some q → rn_cf c q := by
  intro c q h
  match c, h with
  | 0, h => cases h; exact ⟨rn_in0, tyX0_ok, nmX0, rn_dv0⟩
  | 1, h => cases h; exact ⟨rn_in1, tyX1_ok, nmX1, rn_dv1⟩
  | 2, h => cases h; exact ⟨rn_in0, tyX0_ok, nmX0, rn_dv0⟩
  | 3, h => cases h; exact ⟨rn_in3, tyX3_ok, nmX3, rn_dv3⟩
  | 4, h => cases h; exact ⟨rn_in4, tyX4_ok, nmX4, rn_dv4⟩
  | 5, h => cases h; exact ⟨rn_in5, tyX5_ok, nmX5, rn_dv5⟩
  | 6, h => cases h; exact ⟨rn_in6, tyX6_ok, nmX6, rn_dv6⟩
  | 7, h => cases h; exact ⟨rn_in7, tyX7_ok, nmX7, rn_dv7⟩
  | 8, h => cases h; exact ⟨rn_in8, tyX8_ok, nmX8, rn_dv8⟩
  | 9, h => cases h; exact ⟨rn_in9, tyX9_ok, nmX9, rn_dv9⟩
  | c + 10, h => simp [rn_cls] at h
end
section
/-! from the abstract entries to the cells: numbers become addresses -/
def rn_vv (ad : Nat → Nat) (v : Value) : Value := match v with
  | .ref a => .ref (ad a)
  | v => v
def rn_ev (cA : Nat → ClassId) (ad : Nat → Nat) (e : rn_E) : va_E := match e with
  | .inl (t, n, .inr (.inr (.inr (.inr f)))) => .inl (cA t, n, .inr (.inr (.inr (.inr (fun i => (f i).map ad)))))
  | .inl (t, a) => .inl (cA t, a)
  | .inr (c, fs) => .inr (c, fs.map (rn_vv ad))
def rn_wl (cA : Nat → ClassId) (ad : Nat → Nat) (N : Nat) (h : rn_H) : va_W := (List.range N).map (fun k => (ad k, rn_ev cA ad (h k)))
def rn_cE (N : Nat) (e : rn_E) : Prop := match e with
  | .inl (_, _, .inr (.inr (.inr (.inr f)))) => ∀ i a : Nat, f i = some a → a < N
  | .inl _ => True
  | .inr (_, fs) => ∀ v ∈ fs, rn_cv N v = true
def rn_hc (N : Nat) (h : rn_H) : Prop := (∀ k, k < N → rn_cE N (h k)) ∧ h 1000000 = .inr (999999, []) ∧ N ≤ 1000000
def rn_cs1 (N : Nat) (st : List Value) : Prop := ∀ v ∈ st, rn_cv N v = true
def rn_cl1 (N : Nat) (lv : rn_L) : Prop := ∀ q ∈ lv, rn_cv N q.2 = true
def rn_ag (N : Nat) (ad ad2 : Nat → Nat) : Prop := ∀ k, k < N ∨ k = 1000000 → ad2 k = ad k
theorem rn_cv_ref {N a : Nat} : rn_cv N (.ref a) = true ↔ a < N ∨ a = 1000000 := by
  simp [rn_cv]
theorem rn_vv_ag {N : Nat} {ad ad2 : Nat → Nat} (h : rn_ag N ad ad2) {v : Value} (hv : rn_cv N v = true) : rn_vv ad2 v = rn_vv ad v := by
  cases v <;> simp only [rn_vv]
  rename_i a
  rw [h a (rn_cv_ref.mp hv)]
theorem rn_vs_ag {N : Nat} {ad ad2 : Nat → Nat} (h : rn_ag N ad ad2) {st : List Value} (hv : rn_cs1 N st) : st.map (rn_vv ad2) = st.map (rn_vv ad) :=
  List.map_congr_left fun v q => rn_vv_ag h (hv v q)
theorem rn_ev_ag {N : Nat} {cA : Nat → ClassId} {ad ad2 : Nat → Nat} (h : rn_ag N ad ad2) {e : rn_E} (he : rn_cE N e) : rn_ev cA ad2 e = rn_ev cA ad e := by
  rcases e with ⟨t, n, f | f | f | f | f⟩ | ⟨c, fs⟩
  · rfl
  · rfl
  · rfl
  · rfl
  · have e1 : (fun i => (f i).map ad2) = (fun i => (f i).map ad) := by
      funext i
      cases hf : f i with
      | none => rfl
      | some a => simp [h a (Or.inl (he i a hf))]
    simp only [rn_ev, e1]
  · have e1 : fs.map (rn_vv ad2) = fs.map (rn_vv ad) := rn_vs_ag h he
    simp only [rn_ev, e1]
theorem rn_wl_get {cA : Nat → ClassId} {ad : Nat → Nat} {N k : Nat} {h : rn_H} (hk : k < N) : (rn_wl cA ad N h)[k]? = some (ad k, rn_ev cA ad (h k)) := by
  simp [rn_wl, hk]
theorem rn_wl_some {cA : Nat → ClassId} {ad : Nat → Nat} {N k : Nat} {h : rn_H} {q : Nat × va_E} (hq : (rn_wl cA ad N h)[k]? = some q) : k < N ∧ q = (ad k, rn_ev cA ad (h k)) := by
  by_cases hk : k < N
  · rw [rn_wl_get hk] at hq
    exact ⟨hk, (Option.some.inj hq).symm⟩
  · rw [List.getElem?_eq_none (by simp [rn_wl]; omega)] at hq
    cases hq
theorem rn_up_s {h : rn_H} {q : Nat} {e : rn_E} : rn_up h q e q = e := by simp [rn_up]
theorem rn_up_n {h : rn_H} {q j : Nat} {e : rn_E} (hj : j ≠ q) : rn_up h q e j = h j := by
  have : Nat.beq j q = false := by
    cases hb : Nat.beq j q with
    | false => rfl
    | true => exact absurd (Nat.eq_of_beq_eq_true hb) hj
  simp only [rn_up, this]
theorem rn_wl_set {cA : Nat → ClassId} {ad : Nat → Nat} {N q : Nat} {h : rn_H} {e : rn_E} {x : va_E} (hx : rn_ev cA ad e = x) : (rn_wl cA ad N h).set q (ad q, x) = rn_wl cA ad N (rn_up h q e) := by
  subst hx
  refine List.ext_getElem? fun k => ?_
  by_cases hk : k < N
  · by_cases hq : k = q
    · subst hq
      rw [List.getElem?_set_self (by simp [rn_wl]; exact hk), rn_wl_get hk, rn_up_s]
    · rw [List.getElem?_set_ne (Ne.symm hq), rn_wl_get hk, rn_wl_get hk, rn_up_n hq]
  · rw [List.getElem?_eq_none (by simp [rn_wl]; omega), List.getElem?_eq_none (by simp [rn_wl]; omega)]
theorem rn_wl_ag {cA : Nat → ClassId} {N : Nat} {ad ad2 : Nat → Nat} {h : rn_H} (hA : rn_ag N ad ad2) (hc : rn_hc N h) : rn_wl cA ad2 N h = rn_wl cA ad N h := by
  refine List.map_congr_left fun k hk => ?_
  have hk := List.mem_range.mp hk
  rw [hA k (Or.inl hk), rn_ev_ag hA (hc.1 k hk)]
theorem rn_ag_up {N q : Nat} {ad : Nat → Nat} (hN : N < 1000000) : rn_ag N ad (va_up ad N q) := by
  intro k hk
  simp only [va_up]
  rw [if_neg]
  omega
theorem rn_wl_push {cA : Nat → ClassId} {N q : Nat} {ad : Nat → Nat} {h : rn_H} {e : rn_E} {x : va_E} (hN : N < 1000000) (hc : rn_hc N h) (hx : rn_ev cA (va_up ad N q) e = x) : rn_wl cA ad N h ++ [(q, x)] = rn_wl cA (va_up ad N q) (N + 1) (rn_up h N e) := by
  subst hx
  rw [← rn_wl_ag (rn_ag_up (q := q) hN) hc]
  unfold rn_wl
  rw [List.range_succ, List.map_append]
  congr 1
  · refine List.map_congr_left fun k hk => ?_
    have hk := List.mem_range.mp hk
    rw [rn_up_n (by omega)]
  · simp [va_up, rn_up_s]
/-! what the machine knows of classes in a state -/
def rn_tys (cA : Nat → ClassId) : List (ClassId × FieldType) := (List.range rn_ft.length).map (fun t => (cA t, rn_ft.getD t .int))
theorem rn_tys_get {cA : Nat → ClassId} {t : Nat} {ty : FieldType} (h : rn_ft[t]? = some ty) : (rn_tys cA)[t]? = some (cA t, ty) := by
  have ht : t < rn_ft.length := (List.getElem?_eq_some_iff.mp h).1
  simp only [rn_tys, List.getElem?_map, List.getElem?_range ht, Option.map_some]
  rw [List.getD_eq_getElem?_getD, h]
  rfl
def rn_Kn (D : va_G) (cA : Nat → ClassId) (U : State) : Prop := va_K D rn_cls (rn_tys cA) U ∧ (∀ w ∈ rn_nest, va_Nw (.methodLinkNest w.1 w.2.1 w.2.2.1 w.2.2.2) U) ∧ ∀ C : String, FieldType.object C ∈ rn_ft → va_AO C U
theorem rn_Kn.warm {D : va_G} {cA : Nat → ClassId} {s U : State} (hW : s.WarmedH U.vm) (h : rn_Kn D cA s) : rn_Kn D cA U :=
  ⟨va_K.moved hW.alike h.1, fun w hw => va_Nw.warmM hW (h.2.1 w hw), fun C hC => va_AO.moved hW.alike (h.2.2 C hC)⟩
theorem rn_Kn.same {D : va_G} {cA : Nat → ClassId} {s U : State} (hW : s.vm = U.vm) (h : rn_Kn D cA s) : rn_Kn D cA U :=
  ⟨va_K.moved (by rw [← hW]; exact Vm.Alike.refl _) h.1, fun w hw => va_Nw.same rfl hW (h.2.1 w hw), fun C hC => va_AO.moved (by rw [← hW]; exact Vm.Alike.refl _) (h.2.2 C hC)⟩
theorem rn_hw {args : Array Value} {s : State} {i : Nat} {c : Cond} (hts : ∀ w ∈ rn_gw, w.before args s = true) (h : lw_tbl[i]? = some c) (hg : goodWord c = true) : c.before args s = true :=
  hts c (List.mem_filter.mpr ⟨List.mem_of_getElem? h, hg⟩)
theorem rn_gm {i : Nat} {c : Cond} (h : lw_tbl[i]? = some c) (hg : goodWord c = true) : c ∈ rn_gw := List.mem_filter.mpr ⟨List.mem_of_getElem? h, hg⟩
/-! locals -/
def rn_vl (ad : Nat → Nat) (lv : rn_L) : List (Nat × Value) := lv.map (fun q => (q.1, rn_vv ad q.2))
theorem rn_lk_some {i : Nat} {v : Value} : ∀ {lv : rn_L}, rn_lk i lv = some v → (i, v) ∈ lv
  | [], h => by cases h
  | (j, w) :: t, h => by
    unfold rn_lk at h
    split at h
    · next hb =>
      have := Nat.eq_of_beq_eq_true hb
      subst this
      cases h
      exact List.mem_cons_self
    · exact List.mem_cons_of_mem _ (rn_lk_some h)
theorem rn_pk_sub {lv : rn_L} : ∀ {ks : List Nat} {q : Nat × Value}, q ∈ rn_pk lv ks → q ∈ lv
  | [], q, h => by cases h
  | i :: t, q, h => by
    unfold rn_pk at h
    split at h
    · next v hv =>
      rcases List.mem_cons.mp h with rfl | h
      · exact rn_lk_some hv
      · exact rn_pk_sub h
    · exact rn_pk_sub h
theorem rn_kp_sub {ks : List Nat} {lv : rn_L} {q : Nat × Value} (h : q ∈ rn_kp ks lv) : q ∈ lv := by
  cases ks with
  | nil => exact h
  | cons i t => exact rn_pk_sub h
theorem rn_vl_sub {ad : Nat → Nat} {ls : Array Slot} {n : Nat} {lv lv2 : rn_L} (h : lv_has ls n (rn_vl ad lv)) (hs : ∀ q ∈ lv2, q ∈ lv) : lv_has ls n (rn_vl ad lv2) := by
  refine ⟨h.1, h.2.1, fun q hq => ?_⟩
  obtain ⟨x, hx, rfl⟩ := List.mem_map.mp hq
  exact h.2.2 _ (List.mem_map.mpr ⟨x, hs x hx, rfl⟩)
theorem rn_vl_at {ad : Nat → Nat} {ls : Array Slot} {n i : Nat} {lv : rn_L} {v : Value} (h : lv_has ls n (rn_vl ad lv)) (hk : rn_lk i lv = some v) : ls[i]? = some (.val (rn_vv ad v)) :=
  h.2.2 (i, rn_vv ad v) (List.mem_map.mpr ⟨(i, v), rn_lk_some hk, rfl⟩)
theorem rn_vl_ag {N : Nat} {ad ad2 : Nat → Nat} (h : rn_ag N ad ad2) {lv : rn_L} (hv : rn_cl1 N lv) : rn_vl ad2 lv = rn_vl ad lv :=
  List.map_congr_left fun q hq => by rw [rn_vv_ag h (hv q hq)]
theorem rn_vv_cat {ad : Nat → Nat} {v : Value} : (rn_vv ad v).category = v.category := by cases v <;> rfl
theorem rn_cs_map {ad : Nat → Nat} (st : List Value) : ((st.map (rn_vv ad)).map fun v => v.category).sum = rn_cs st := by
  unfold rn_cs
  rw [List.map_map]
  congr 1
  exact List.map_congr_left fun v _ => rn_vv_cat
theorem rn_fl_map {ad : Nat → Nat} {i : Nat} {lv : rn_L} : (rn_vl ad lv).filter (fun q => !(q.1 == i) && !(q.1 + 1 == i && q.2.category == 2)) = rn_vl ad (rn_fl i lv) := by
  unfold rn_vl rn_fl
  rw [List.filter_map]
  congr 1
  refine List.filter_congr fun q _ => ?_
  simp only [Function.comp, rn_vv_cat]
theorem rn_fm_map {ad : Nat → Nat} {i : Nat} {lv : rn_L} : (rn_vl ad lv).filter (fun q => !(q.1 == i) && (!(q.1 == i + 1) && !(q.1 + 1 == i && q.2.category == 2))) = rn_vl ad (rn_fm i lv) := by
  unfold rn_vl rn_fm
  rw [List.filter_map]
  congr 1
  refine List.filter_congr fun q _ => ?_
  simp only [Function.comp, rn_vv_cat]
theorem rn_cl1_cons {N i : Nat} {v : Value} {lv : rn_L} (hv : rn_cv N v = true) (h : rn_cl1 N lv) : rn_cl1 N ((i, v) :: rn_fl i lv) := by
  intro q hq
  rcases List.mem_cons.mp hq with rfl | hq
  · exact hv
  · exact h q (List.mem_filter.mp hq).1
theorem rn_cl1_consm {N i : Nat} {v : Value} {lv : rn_L} (hv : rn_cv N v = true) (h : rn_cl1 N lv) : rn_cl1 N ((i, v) :: rn_fm i lv) := by
  intro q hq
  rcases List.mem_cons.mp hq with rfl | hq
  · exact hv
  · exact h q (List.mem_filter.mp hq).1
theorem rn_vl_args {ad : Nat → Nat} : ∀ (as : List Value) (i : Nat), lv_args i (as.map (rn_vv ad)) = rn_vl ad (lv_args i as)
  | [], i => rfl
  | v :: t, i => by
    simp only [List.map_cons, lv_args, rn_vl, rn_vv_cat]
    rw [rn_vl_args t]
    rfl
theorem rn_cl1_args {N : Nat} : ∀ (as : List Value) (i : Nat), rn_cs1 N as → rn_cl1 N (lv_args i as)
  | [], i, h => by intro q hq; cases hq
  | v :: t, i, h => by
    intro q hq
    simp only [lv_args] at hq
    rcases List.mem_cons.mp hq with rfl | hq
    · exact h v List.mem_cons_self
    · exact rn_cl1_args t _ (fun w hw => h w (List.mem_cons_of_mem _ hw)) q hq
end
section
/-! the tables' checks, and one step of the stack -/
def rn_ln (i : Instr) : Nat := match i with
  | .bipush _ | .iload _ | .lload _ | .aload _ | .istore _ | .lstore _ | .astore _ | .newarray _ => 2
  | .sipush _ | .ldc2_w _ | .goto _ | .ifCond _ _ | .if_icmp _ _ | .ifnull _ | .ifnonnull _ | .iinc _ _ | .getfield _ | .putfield _ | .invokestatic _ | .invokevirtual _ | .invokespecial _ | .new _ | .anewarray _ => 3
  | _ => 1
def rn_fd (own : String) (idx c k w : Nat) : Bool := match rn_cls[c]? with
  | some q => Nat.blt k q.2.2 && decide (lw_tbl[w]? = some (.fieldLink own idx q.1 (q.2.1 k).2.1 (q.2.1 k).2.2.1)) && decide ((q.2.1 k).1 = q.1)
  | none => false
def rn_isO (t : Nat) : Bool := match rn_ft[t]? with
  | some (.object _) => true
  | _ => false
theorem rn_isO_some {t : Nat} (h : rn_isO t = true) : ∃ C : String, rn_ft[t]? = some (.object C) := by
  unfold rn_isO at h
  split at h
  · next C hC => exact ⟨C, hC⟩
  · cases h
def rn_oP (own : String) (fr lo : Nat) (i : Instr) (ax : List Nat) : Bool := match i with
  | .iconst n => match ax with
    | [a, b] => decide (Int32.ofInt n = rn_ci a b)
    | _ => false
  | .bipush n => match ax with
    | [a, b] => decide ((Int8.ofInt n).toInt32 = rn_ci a b)
    | _ => false
  | .sipush n => match ax with
    | [a, b] => decide ((Int16.ofInt n).toInt32 = rn_ci a b)
    | _ => false
  | .lconst n => match ax with
    | [a, b] => decide (Int64.ofNat (n : Nat) = rn_cl a b)
    | _ => false
  | .ldc2_w idx => match ax with
    | [a, b, w] => decide (lw_tbl[w]? = some (.constantLong own idx (rn_cl a b)))
    | _ => false
  | .getfield idx => match ax with
    | [c, k, w] => rn_fd own idx c k w
    | _ => false
  | .aaload => match ax with
    | [t] => rn_isO t
    | _ => false
  | .invokestatic idx => match ax with
    | [2, w1, w2, w3, w4] => decide (lw_tbl[w1]? = some (.methodLink own idx Lib.Math.max.name)) && decide (lw_tbl[w2]? = some (.static Lib.Math.max.name)) && decide (lw_tbl[w3]? = some (.initialized "java/lang/Math")) && decide (lw_tbl[w4]? = some (.code Lib.Math.max.name Lib.Math.max.code 2 (some .int))) && Nat.ble 1 fr && Nat.ble 21 lo
    | _ => true
  | .invokespecial idx => match ax with
    | [3, w1, w2, w3] => decide (lw_tbl[w1]? = some (.methodLink own idx Lib.objectInit)) && decide (lw_tbl[w2]? = some (.instanceMethod Lib.objectInit)) && decide (lw_tbl[w3]? = some (.code Lib.objectInit ⟨#[0xb1]⟩ 1 none)) && Nat.ble 1 fr && Nat.ble 20 lo
    | _ => true
  | _ => true
theorem rn_ii_inv {f : Int32 → Int32 → Int32} {st st1 : List Value} (h : rn_ii f st = some st1) : ∃ (x y : Int32) (r : List Value), st = .int y :: .int x :: r ∧ st1 = .int (f x y) :: r := by
  unfold rn_ii at h
  split at h
  · cases h; exact ⟨_, _, _, rfl, rfl⟩
  · cases h
theorem rn_id_inv {f : Int32 → Int32 → Int32} {st st1 : List Value} (h : rn_id f st = some st1) : ∃ (x y : Int32) (r : List Value), st = .int y :: .int x :: r ∧ st1 = .int (f x y) :: r ∧ ¬ y = 0 := by
  unfold rn_id at h
  split at h
  · split at h
    · cases h
    · next hy => cases h; exact ⟨_, _, _, rfl, rfl, hy⟩
  · cases h
theorem rn_ll_inv {f : Int64 → Int64 → Int64} {st st1 : List Value} (h : rn_ll f st = some st1) : ∃ (x y : Int64) (r : List Value), st = .long y :: .long x :: r ∧ st1 = .long (f x y) :: r := by
  unfold rn_ll at h
  split at h
  · cases h; exact ⟨_, _, _, rfl, rfl⟩
  · cases h
theorem rn_ld_inv {f : Int64 → Int64 → Int64} {st st1 : List Value} (h : rn_ld f st = some st1) : ∃ (x y : Int64) (r : List Value), st = .long y :: .long x :: r ∧ st1 = .long (f x y) :: r ∧ ¬ y = 0 := by
  unfold rn_ld at h
  split at h
  · split at h
    · cases h
    · next hy => cases h; exact ⟨_, _, _, rfl, rfl, hy⟩
  · cases h
theorem rn_li_inv {j : Nat} {lv : rn_L} {st st1 : List Value} (h : rn_li j lv st = some st1) : ∃ x : Int32, rn_lk j lv = some (.int x) ∧ st1 = .int x :: st := by
  unfold rn_li at h
  split at h
  · next x hx => cases h; exact ⟨x, hx, rfl⟩
  · cases h
theorem rn_lj_inv {j : Nat} {lv : rn_L} {st st1 : List Value} (h : rn_lj j lv st = some st1) : ∃ x : Int64, rn_lk j lv = some (.long x) ∧ st1 = .long x :: st := by
  unfold rn_lj at h
  split at h
  · next x hx => cases h; exact ⟨x, hx, rfl⟩
  · cases h
theorem rn_la_inv {j : Nat} {lv : rn_L} {st st1 : List Value} (h : rn_la j lv st = some st1) : (∃ x : Nat, rn_lk j lv = some (.ref x) ∧ st1 = .ref x :: st) ∨ (rn_lk j lv = some .null ∧ st1 = .null :: st) := by
  unfold rn_la at h
  split at h
  · next x hx => cases h; exact Or.inl ⟨x, hx, rfl⟩
  · next hx => cases h; exact Or.inr ⟨hx, rfl⟩
  · cases h
theorem rn_ai_inv {t : Nat} {h : rn_H} {st st1 : List Value} (e : rn_ai t h st = some st1) : ∃ (i : Int32) (q n : Nat) (f : Nat → Int32) (r : List Value), st = .int i :: .ref q :: r ∧ h q = .inl (t, n, .inl f) ∧ vp_in i n ∧ st1 = .int (f i.toNatClampNeg) :: r := by
  unfold rn_ai at e
  split at e
  · split at e
    · split at e
      · next hq _ hb =>
        have := Nat.eq_of_beq_eq_true hb
        subst this
        split at e
        · cases e
        · next hi => cases e; exact ⟨_, _, _, _, _, rfl, hq, hi, rfl⟩
      · cases e
    · cases e
  · cases e
theorem rn_aj_inv {h : rn_H} {st st1 : List Value} (e : rn_aj h st = some st1) : ∃ (i : Int32) (q n : Nat) (f : Nat → Int64) (r : List Value), st = .int i :: .ref q :: r ∧ h q = .inl (1, n, .inr (.inl f)) ∧ vp_in i n ∧ st1 = .long (f i.toNatClampNeg) :: r := by
  unfold rn_aj at e
  split at e
  · split at e
    · next hq =>
      split at e
      · cases e
      · next hi => cases e; exact ⟨_, _, _, _, _, rfl, hq, hi, rfl⟩
    · cases e
  · cases e
theorem rn_aa_inv {t : Nat} {h : rn_H} {st st1 : List Value} (e : rn_aa t h st = some st1) : ∃ (i : Int32) (q n : Nat) (f : Nat → Option Nat) (r : List Value), st = .int i :: .ref q :: r ∧ h q = .inl (t, n, .inr (.inr (.inr (.inr f)))) ∧ vp_in i n ∧ st1 = va_rf (f i.toNatClampNeg) :: r := by
  unfold rn_aa at e
  split at e
  · split at e
    · split at e
      · next hq _ hb =>
        have := Nat.eq_of_beq_eq_true hb
        subst this
        split at e
        · cases e
        · next hi => cases e; exact ⟨_, _, _, _, _, rfl, hq, hi, rfl⟩
      · cases e
    · cases e
  · cases e
theorem rn_gf_inv {c k : Nat} {h : rn_H} {st st1 : List Value} (e : rn_gf c k h st = some st1) : ∃ (q : Nat) (fs : List Value) (v : Value) (r : List Value), st = .ref q :: r ∧ h q = .inr (c, fs) ∧ fs[k]? = some v ∧ st1 = v :: r := by
  unfold rn_gf at e
  split at e
  · split at e
    · split at e
      · next hq _ hb =>
        have := Nat.eq_of_beq_eq_true hb
        subst this
        split at e
        · next v hv => cases e; exact ⟨_, _, v, _, rfl, hq, hv, rfl⟩
        · cases e
      · cases e
    · cases e
  · cases e
theorem rn_sl_inv {X : rn_X} {st st1 : List Value} (e : rn_sl X st = some st1) : ∃ (i : Int32) (r : List Value), st = .int i :: .ref 1000000 :: r ∧ vp_in i X.1 ∧ st1 = .int (X.2 i.toNatClampNeg) :: r := by
  unfold rn_sl at e
  split at e
  · split at e
    · cases e
    · next hi => cases e; exact ⟨_, _, rfl, hi, rfl⟩
  · cases e
theorem rn_lt {N q : Nat} {r : List Value} {h : rn_H} (hs : rn_cs1 N (.ref q :: r)) (hh : rn_hc N h) (hn : h q ≠ .inr (999999, [])) : q < N := by
  rcases rn_cv_ref.mp (hs _ List.mem_cons_self) with g | g
  · exact g
  · exact absurd (by rw [g]; exact hh.2.1) hn
theorem rn_cs_c {N : Nat} {v : Value} {r : List Value} (hv : rn_cv N v = true) (h : rn_cs1 N r) : rn_cs1 N (v :: r) := fun w hw => (List.mem_cons.mp hw).elim (fun e => e ▸ hv) (h w)
theorem rn_cs_t {N : Nat} {v : Value} {r : List Value} (h : rn_cs1 N (v :: r)) : rn_cs1 N r := fun w hw => h w (List.mem_cons_of_mem _ hw)
theorem rn_cs_h {N : Nat} {v : Value} {r : List Value} (h : rn_cs1 N (v :: r)) : rn_cv N v = true := h v List.mem_cons_self
theorem rn_lk_cv {N i : Nat} {v : Value} {lv : rn_L} (h : rn_cl1 N lv) (hk : rn_lk i lv = some v) : rn_cv N v = true := h (i, v) (rn_lk_some hk)
section RN1
variable {p : Program} {l : Launch} {e : Env} {R : Room} {s : State} {m : MethodId} {args : Array Value} {below : List Frame} {meth : Method} {c : Code} {H : Heap} {locs : List Loc} {cells slots : Nat} {Q : State → Prop}
variable {cc : ByteArray} {pc n nL : Nat} {ls : Array Slot} {D : va_G} {cA : Nat → ClassId} {ad : Nat → Nat} {N : Nat} {h : rn_H} {A : Nat → Prop} {H0 : Heap} {lv : rn_L} {st : List Value} {b : Nat} {X : rn_X} {own : String} {fr lo : Nat}
theorem rn_oF {idx ci k w : Nat} (hc : rn_fd own idx ci k w = true) : ∃ q : vw_C, rn_cls[ci]? = some q ∧ k < q.2.2 ∧ lw_tbl[w]? = some (.fieldLink own idx q.1 (q.2.1 k).2.1 (q.2.1 k).2.2.1) ∧ (q.2.1 k).1 = q.1 := by
  unfold rn_fd at hc
  split at hc
  · next q hq =>
    simp only [Bool.and_eq_true, decide_eq_true_eq] at hc
    exact ⟨q, hq, Nat.le_of_ble_eq_true hc.1.1, hc.1.2, hc.2⟩
  · cases hc
set_option maxHeartbeats 4000000 in
theorem rn_p_ok {i : Instr} {ax : List Nat} {st1 : List Value} (hx : p.tables.exec = Jvm.exec) (hb : c.code = cc) (hml : c.maxLocals = ls.size) (hts : ∀ w ∈ rn_gw, w.before args s = true) (hown : s.vm.findClass own = some m.cls)
    (hK : va_K D rn_cls (rn_tys cA) s) (hP : va_P D rn_cls (rn_wl cA ad N h) H) (hS : va_S A H0 H locs) (hX : va_X b X.1 X.2 s H0) (hbl : b < H0.size) (hbA : ¬ A b) (hab : ad 1000000 = b)
    (hl : lv_has ls nL (rn_vl ad lv)) (hcl : rn_cl1 N lv) (hcs : rn_cs1 N st) (hh : rn_hc N h) (hfr : fr ≤ R.frames) (hlo : lo ≤ R.locals) (hce : cells ≤ R.cells) (hsl : slots ≤ R.slots)
    (hok : rn_oP own fr lo i ax = true) (hd : decode cc pc = .ok (i, rn_ln i)) (hp : rn_p X i ax lv st h = some st1)
    (kk : rn_cs1 N st1 → W p l e R s m args below meth c H locs cells slots Q (F0 m (pc + rn_ln i) ls (st1.map (rn_vv ad)))) :
    W p l e R s m args below meth c H locs cells slots Q (F0 m pc ls (st.map (rn_vv ad))) := by
  cases i
  all_goals (try (exact absurd (show (none : Option (List Value)) = some st1 from hp) (fun q => by cases q)))
  case iconst z =>
    simp only [rn_p, rn_oP] at hp hok
    split at hp
    · cases hp
      exact lv_iconst hx hb hd (of_decide_eq_true hok) (kk (rn_cs_c rfl hcs))
    · cases hp
  case bipush z =>
    simp only [rn_p, rn_oP] at hp hok
    split at hp
    · cases hp
      exact lv_bipush hx hb hd (of_decide_eq_true hok) (kk (rn_cs_c rfl hcs))
    · cases hp
  case sipush z =>
    simp only [rn_p, rn_oP] at hp hok
    split at hp
    · cases hp
      exact lv_sipush hx hb hd (of_decide_eq_true hok) (kk (rn_cs_c rfl hcs))
    · cases hp
  case lconst z =>
    simp only [rn_p, rn_oP] at hp hok
    split at hp
    · cases hp
      exact lv_lconst hx hb hd (of_decide_eq_true hok) (kk (rn_cs_c rfl hcs))
    · cases hp
  case ldc2_w z =>
    simp only [rn_p, rn_oP] at hp hok
    split at hp
    · cases hp
      exact lv_ldc2 hx hb hown (rn_hw hts (of_decide_eq_true hok) rfl) hd (kk (rn_cs_c rfl hcs))
    · cases hp
  case aconst_null =>
    cases hp
    exact lv_null hx hb hd (kk (rn_cs_c rfl hcs))
  case iload j =>
    obtain ⟨x, h1, rfl⟩ := rn_li_inv hp
    exact lv_iload hx hb hd (rn_vl_at hl h1) (kk (rn_cs_c rfl hcs))
  case iload_n j =>
    obtain ⟨x, h1, rfl⟩ := rn_li_inv hp
    exact lv_iload_n hx hb hd rfl (rn_vl_at hl h1) (kk (rn_cs_c rfl hcs))
  case lload j =>
    obtain ⟨x, h1, rfl⟩ := rn_lj_inv hp
    exact lv_lload hx hb hd (rn_vl_at hl h1) (kk (rn_cs_c rfl hcs))
  case lload_n j =>
    obtain ⟨x, h1, rfl⟩ := rn_lj_inv hp
    exact lv_lload_n hx hb hd rfl (rn_vl_at hl h1) (kk (rn_cs_c rfl hcs))
  case aload j =>
    rcases rn_la_inv hp with ⟨x, h1, rfl⟩ | ⟨h1, rfl⟩
    · exact lv_aload hx hb hd (rn_vl_at hl h1) (kk (rn_cs_c (rn_lk_cv hcl h1) hcs))
    · exact lv_aloadN hx hb hd (rn_vl_at hl h1) (kk (rn_cs_c (rn_lk_cv hcl h1) hcs))
  case aload_n j =>
    rcases rn_la_inv hp with ⟨x, h1, rfl⟩ | ⟨h1, rfl⟩
    · exact lv_aload_n hx hb hd rfl (rn_vl_at hl h1) (kk (rn_cs_c (rn_lk_cv hcl h1) hcs))
    · exact lv_aload_nN hx hb hd rfl (rn_vl_at hl h1) (kk (rn_cs_c (rn_lk_cv hcl h1) hcs))
  case iadd =>
    obtain ⟨x, y, r, rfl, rfl⟩ := rn_ii_inv hp
    exact lv_iadd hx hb hd (kk (rn_cs_c rfl (rn_cs_t (rn_cs_t hcs))))
  case isub =>
    obtain ⟨x, y, r, rfl, rfl⟩ := rn_ii_inv hp
    exact lv_isub hx hb hd (kk (rn_cs_c rfl (rn_cs_t (rn_cs_t hcs))))
  case imul =>
    obtain ⟨x, y, r, rfl, rfl⟩ := rn_ii_inv hp
    exact lv_imul hx hb hd (kk (rn_cs_c rfl (rn_cs_t (rn_cs_t hcs))))
  case iand =>
    obtain ⟨x, y, r, rfl, rfl⟩ := rn_ii_inv hp
    exact lv_iand hx hb hd (kk (rn_cs_c rfl (rn_cs_t (rn_cs_t hcs))))
  case ior =>
    obtain ⟨x, y, r, rfl, rfl⟩ := rn_ii_inv hp
    exact lv_ior hx hb hd (kk (rn_cs_c rfl (rn_cs_t (rn_cs_t hcs))))
  case ixor =>
    obtain ⟨x, y, r, rfl, rfl⟩ := rn_ii_inv hp
    exact lv_ixor hx hb hd (kk (rn_cs_c rfl (rn_cs_t (rn_cs_t hcs))))
  case ishl =>
    obtain ⟨x, y, r, rfl, rfl⟩ := rn_ii_inv hp
    exact lv_ishl hx hb hd (kk (rn_cs_c rfl (rn_cs_t (rn_cs_t hcs))))
  case ishr =>
    obtain ⟨x, y, r, rfl, rfl⟩ := rn_ii_inv hp
    exact lv_ishr hx hb hd (kk (rn_cs_c rfl (rn_cs_t (rn_cs_t hcs))))
  case idiv =>
    obtain ⟨x, y, r, rfl, rfl, hy⟩ := rn_id_inv hp
    exact lv_idiv hx hb hd hy (kk (rn_cs_c rfl (rn_cs_t (rn_cs_t hcs))))
  case irem =>
    obtain ⟨x, y, r, rfl, rfl, hy⟩ := rn_id_inv hp
    exact lv_irem hx hb hd hy (kk (rn_cs_c rfl (rn_cs_t (rn_cs_t hcs))))
  case ladd =>
    obtain ⟨x, y, r, rfl, rfl⟩ := rn_ll_inv hp
    exact lv_ladd hx hb hd (kk (rn_cs_c rfl (rn_cs_t (rn_cs_t hcs))))
  case lsub =>
    obtain ⟨x, y, r, rfl, rfl⟩ := rn_ll_inv hp
    exact lv_lsub hx hb hd (kk (rn_cs_c rfl (rn_cs_t (rn_cs_t hcs))))
  case lmul =>
    obtain ⟨x, y, r, rfl, rfl⟩ := rn_ll_inv hp
    exact lv_lmul hx hb hd (kk (rn_cs_c rfl (rn_cs_t (rn_cs_t hcs))))
  case land =>
    obtain ⟨x, y, r, rfl, rfl⟩ := rn_ll_inv hp
    exact lv_land hx hb hd (kk (rn_cs_c rfl (rn_cs_t (rn_cs_t hcs))))
  case lor =>
    obtain ⟨x, y, r, rfl, rfl⟩ := rn_ll_inv hp
    exact lv_lor hx hb hd (kk (rn_cs_c rfl (rn_cs_t (rn_cs_t hcs))))
  case ldiv =>
    obtain ⟨x, y, r, rfl, rfl, hy⟩ := rn_ld_inv hp
    exact lv_ldiv hx hb hd hy (kk (rn_cs_c rfl (rn_cs_t (rn_cs_t hcs))))
  case lrem =>
    obtain ⟨x, y, r, rfl, rfl, hy⟩ := rn_ld_inv hp
    exact lv_lrem hx hb hd hy (kk (rn_cs_c rfl (rn_cs_t (rn_cs_t hcs))))
  case ineg =>
    simp only [rn_p] at hp
    split at hp
    · cases hp
      exact lv_ineg hx hb hd (kk (rn_cs_c rfl (rn_cs_t hcs)))
    · cases hp
  case lshl =>
    simp only [rn_p] at hp
    split at hp
    · cases hp
      exact lv_lshl hx hb hd rfl (kk (rn_cs_c rfl (rn_cs_t (rn_cs_t hcs))))
    · cases hp
  case lshr =>
    simp only [rn_p] at hp
    split at hp
    · cases hp
      exact lv_lshr hx hb hd rfl (kk (rn_cs_c rfl (rn_cs_t (rn_cs_t hcs))))
    · cases hp
  case i2l =>
    simp only [rn_p] at hp
    split at hp
    · cases hp
      exact lv_i2l hx hb hd rfl (kk (rn_cs_c rfl (rn_cs_t hcs)))
    · cases hp
  case l2i =>
    simp only [rn_p] at hp
    split at hp
    · cases hp
      exact lv_l2i hx hb hd rfl (kk (rn_cs_c rfl (rn_cs_t hcs)))
    · cases hp
  case lcmp =>
    simp only [rn_p] at hp
    split at hp
    · cases hp
      exact W.lcmp hx hb hd (kk (rn_cs_c rfl (rn_cs_t (rn_cs_t hcs))))
    · cases hp
  case dup =>
    simp only [rn_p] at hp
    split at hp
    · cases hp
      exact lv_dup hx hb hd rfl (kk (rn_cs_c rfl hcs))
    · cases hp
      exact lv_dup hx hb hd rfl (kk (rn_cs_c (rn_cs_h hcs) hcs))
    · cases hp
  case dup2 =>
    simp only [rn_p] at hp
    split at hp
    · cases hp
      exact lv_dup2_11 hx hb hd rfl rfl (kk (rn_cs_c rfl (rn_cs_c (rn_cs_h (rn_cs_t hcs)) hcs)))
    · cases hp
  case pop =>
    simp only [rn_p] at hp
    split at hp
    · cases hp
      exact lv_pop hx hb hd rfl (kk (rn_cs_t hcs))
    · cases hp
  case getfield z =>
    simp only [rn_p, rn_oP] at hp hok
    split at hp
    · obtain ⟨q, fs, v, r, rfl, hq, hv, rfl⟩ := rn_gf_inv hp
      obtain ⟨q1, hc1, hk1, hw1, hd1⟩ := rn_oF hok
      have hqN : q < N := rn_lt hcs hh (by rw [hq]; intro z; cases z; cases hv)
      have hcf := rn_cf_all _ q1 hc1
      have hcv : rn_cv N v = true := by
        have := hh.1 q hqN
        rw [hq] at this
        exact this v (List.mem_of_getElem? hv)
      exact va_get (C := q1.1) (T := q1.2.1) (N := q1.2.2) hx hb hts hcf.1 hown hK hP q (rn_wl_get hqN |>.trans (by rw [hq]; rfl)) hc1 _ hk1 (rn_hw hts hw1 rfl) (fun x h9 => by rw [hd1] at h9; exact h9) (v := rn_vv ad v) (by rw [List.getElem?_map, hv]; rfl) hd (kk (rn_cs_c hcv (rn_cs_t hcs)))
    · cases hp
  case iaload =>
    simp only [rn_p] at hp
    split at hp
    · obtain ⟨j, q, n, f, r, rfl, hq, hin, rfl⟩ := rn_ai_inv hp
      have hqN : q < N := rn_lt (rn_cs_t hcs) hh (by rw [hq]; intro z; cases z)
      exact va_iald hx hb hK hP q 0 (rn_wl_get hqN |>.trans (by rw [hq]; rfl)) (rn_tys_get rfl) hin hd (kk (rn_cs_c rfl (rn_cs_t (rn_cs_t hcs))))
    · obtain ⟨j, r, rfl, hin, rfl⟩ := rn_sl_inv hp
      show W p l e R s m args below meth c H locs cells slots Q (F0 m pc ls (.int j :: .ref (ad 1000000) :: r.map (rn_vv ad)))
      rw [hab]
      exact va_sld hx hb hX hbl hbA hS hin hd (kk (rn_cs_c rfl (rn_cs_t (rn_cs_t hcs))))
  case baload =>
    obtain ⟨j, q, n, f, r, rfl, hq, hin, rfl⟩ := rn_ai_inv hp
    have hqN : q < N := rn_lt (rn_cs_t hcs) hh (by rw [hq]; intro z; cases z)
    exact va_zald hx hb hK hP q 2 (rn_wl_get hqN |>.trans (by rw [hq]; rfl)) (rn_tys_get rfl) hin hd (kk (rn_cs_c rfl (rn_cs_t (rn_cs_t hcs))))
  case laload =>
    obtain ⟨j, q, n, f, r, rfl, hq, hin, rfl⟩ := rn_aj_inv hp
    have hqN : q < N := rn_lt (rn_cs_t hcs) hh (by rw [hq]; intro z; cases z)
    exact va_lald hx hb hK hP q 1 (rn_wl_get hqN |>.trans (by rw [hq]; rfl)) (rn_tys_get rfl) hin hd (kk (rn_cs_c rfl (rn_cs_t (rn_cs_t hcs))))
  case aaload =>
    simp only [rn_p, rn_oP] at hp hok
    split at hp
    · obtain ⟨j, q, n, f, r, rfl, hq, hin, rfl⟩ := rn_aa_inv hp
      obtain ⟨C, hC⟩ := rn_isO_some hok
      have hqN : q < N := rn_lt (rn_cs_t hcs) hh (by rw [hq]; intro z; cases z)
      have hcv : rn_cv N (va_rf (f j.toNatClampNeg)) = true := by
        cases hf : f j.toNatClampNeg with
        | none => rfl
        | some a =>
          have := hh.1 q hqN
          rw [hq] at this
          exact rn_cv_ref.mpr (Or.inl (this _ _ hf))
      refine va_aldq (C := C) hx hb hK hP q _ (rn_wl_get hqN |>.trans (by rw [hq]; rfl)) (rn_tys_get hC) hin hd ?_
      have e1 : va_rf ((f j.toNatClampNeg).map ad) = rn_vv ad (va_rf (f j.toNatClampNeg)) := by cases f j.toNatClampNeg <;> rfl
      rw [e1]
      exact kk (rn_cs_c hcv (rn_cs_t (rn_cs_t hcs)))
    · cases hp
  case arraylength =>
    simp only [rn_p] at hp
    split at hp
    · cases hp
      next r =>
      show W p l e R s m args below meth c H locs cells slots Q (F0 m pc ls (.ref (ad 1000000) :: r.map (rn_vv ad)))
      rw [hab]
      exact va_slen hx hb hX hbl hbA hS hd (kk (rn_cs_c rfl (rn_cs_t hcs)))
    · cases hp
  case invokestatic z =>
    simp only [rn_p] at hp
    split at hp
    · split at hp
      · next r =>
        split at hp
        · next hr8 =>
          cases hp
          simp only [rn_oP, Bool.and_eq_true, decide_eq_true_eq] at hok
          obtain ⟨⟨⟨⟨⟨o1, o2⟩, o3⟩, o4⟩, o5⟩, o6⟩ := hok
          have o5 := Nat.le_of_ble_eq_true o5
          have o6 := Nat.le_of_ble_eq_true o6
          refine va_mmax hx hb hml hown (rn_hw hts o1 rfl) (rn_hw hts o2 rfl) (rn_hw hts o3 rfl) (rn_hw hts o4 rfl) (by omega) (by rw [rn_cs_map]; omega) hce hsl hd (kk (rn_cs_c rfl (rn_cs_t (rn_cs_t hcs))))
        · cases hp
      · cases hp
    · cases hp
  case invokespecial z =>
    simp only [rn_p] at hp
    split at hp
    · split at hp
      · next r =>
        split at hp
        · next hr8 =>
          cases hp
          simp only [rn_oP, Bool.and_eq_true, decide_eq_true_eq] at hok
          obtain ⟨⟨⟨⟨o1, o2⟩, o3⟩, o5⟩, o6⟩ := hok
          have o5 := Nat.le_of_ble_eq_true o5
          have o6 := Nat.le_of_ble_eq_true o6
          refine W.objInit hx hb hown (rn_hw hts o1 rfl) (rn_hw hts o2 rfl) (rn_hw hts o3 rfl) rfl hml.symm rfl hd (by omega) ?_ ?_
          · have := rn_cs_map (ad := ad) st1
            show 2 * 0 + ((st1.map (rn_vv ad)).map fun v => v.category).sum + 12 ≤ R.locals
            omega
          · exact kk (rn_cs_t hcs)
        · cases hp
      · cases hp
    · cases hp
end RN1
end
section
/-! one step of locals, of the place, of the entries -/
def rn_oL (nL : Nat) (i : Instr) (ax : List Nat) : Bool := match i with
  | .istore j => Nat.blt j nL
  | .istore_n j => Nat.blt j nL
  | .lstore j => Nat.blt (j + 1) nL
  | .lstore_n j => Nat.blt (j + 1) nL
  | .astore j => Nat.blt j nL
  | .astore_n j => Nat.blt j nL
  | .iinc j n => Nat.blt j nL && (match ax with
    | [a, b] => decide (Int32.ofInt n = rn_ci a b)
    | _ => false)
  | _ => true
/-- that the table has at a place the pc that stands so far off -/
def rn_at (T : List rn_I) (k : Nat) (z : Int) : Bool := match T[k]? with
  | some e => decide ((e.1 : Int) = z)
  | none => false
theorem rn_at_some {T : List rn_I} {k : Nat} {z : Int} (h : rn_at T k z = true) : ∃ e, T[k]? = some e ∧ (e.1 : Int) = z := by
  unfold rn_at at h
  split at h
  · next e he => exact ⟨e, he, of_decide_eq_true h⟩
  · cases h
def rn_oB (T : List rn_I) (pc : Nat) (i : Instr) (ax : List Nat) : Bool := match ax with
  | [] => true
  | t :: ts => match i with
    | .goto o => rn_at T t (pc + o)
    | .ifCond _ o => rn_at T t (pc + o)
    | .if_icmp _ o => rn_at T t (pc + o)
    | .ifnull o => rn_at T t (pc + o)
    | .ifnonnull o => rn_at T t (pc + o)
    | .tableswitch d lo hi os => rn_at T t (pc + d) && decide (-2147483648 ≤ lo) && decide (hi < 2147483648) && decide (hi - lo + 1 = ts.length) && decide (os.toList.length = ts.length) && (ts.zip os.toList).all (fun q => rn_at T q.1 (pc + q.2))
    | .lookupswitch d ps => rn_at T t (pc + d) && (ps.toList.zip (ps.toList.drop 1)).all (fun (a, next) => a.1 < next.1) && decide (ps.toList.length = ts.length) && (ts.zip ps.toList).all (fun q => rn_at T q.1 (pc + q.2.2)) && ps.toList.all (fun q => decide (-2147483648 ≤ q.1) && decide (q.1 < 2147483648))
    | _ => true
theorem rn_i32 {x : Int32} {z : Int} (h1 : -2147483648 ≤ z) (h2 : z < 2147483648) : x = Int32.ofInt z ↔ x.toInt = z := by
  have e : (Int32.ofInt z).toInt = z := by
    have hs : Int32.size = 4294967296 := rfl
    rw [Int32.toInt_ofInt, hs]
    exact Int.bmod_eq_of_le (by omega) (by omega)
  constructor
  · intro h; rw [h, e]
  · intro h; rw [← Int32.toInt_inj, h, e]
theorem rn_st_spec {x : Int32} {d : Nat} : ∀ (ts : List Nat) (lo : Int), -2147483648 ≤ lo → lo + ts.length ≤ 2147483648 → ((x.toInt < lo ∨ lo + ts.length ≤ x.toInt) ∧ rn_st ts lo x d = d) ∨ (∃ j : Nat, x.toInt = lo + j ∧ ts[j]? = some (rn_st ts lo x d))
  | [], lo, h1, h2 => by
    left
    refine ⟨?_, rfl⟩
    simp only [List.length_nil]
    omega
  | t :: r, lo, h1, h2 => by
    simp only [List.length_cons] at h2
    unfold rn_st
    by_cases hx : x = Int32.ofInt lo
    · right
      refine ⟨0, ?_, ?_⟩
      · rw [(rn_i32 h1 (by omega)).mp hx]; omega
      · rw [if_pos hx]; rfl
    · rw [if_neg hx]
      have hne : x.toInt ≠ lo := fun q => hx ((rn_i32 h1 (by omega)).mpr q)
      rcases rn_st_spec (x := x) (d := d) r (lo + 1) (by omega) (by omega) with ⟨g1, g2⟩ | ⟨j, g1, g2⟩
      · left
        refine ⟨?_, g2⟩
        simp only [List.length_cons]
        omega
      · right
        exact ⟨j + 1, by omega, by rw [List.getElem?_cons_succ]; exact g2⟩
theorem rn_sk_spec {x : Int32} {T : List rn_I} {pc d : Nat} {z : Int} (hd : rn_at T d (pc + z) = true) : ∀ (ps : List (Int × Int)) (ts : List Nat), ps.length = ts.length → (ts.zip ps).all (fun q => rn_at T q.1 (pc + q.2.2)) = true → ps.all (fun q => decide (-2147483648 ≤ q.1) && decide (q.1 < 2147483648)) = true → rn_at T (rn_sk ps ts x d) (pc + Op.lookupswitch.offset ps z x.toInt) = true
  | [], [], _, _, _ => hd
  | [], _ :: _, h, _, _ => by cases h
  | _ :: _, [], h, _, _ => by cases h
  | k :: kr, t :: tr, h, h2, h3 => by
    simp only [List.zip_cons_cons, List.all_cons, Bool.and_eq_true, decide_eq_true_eq] at h2 h3
    have ih := rn_sk_spec (x := x) hd kr tr (by simpa using h) h2.2 (by simpa using h3.2)
    unfold rn_sk
    by_cases hx : x = Int32.ofInt k.1
    · have e := (rn_i32 h3.1.1 h3.1.2).mp hx
      rw [if_pos hx]
      have e2 : Op.lookupswitch.offset (k :: kr) z x.toInt = k.2 := by
        first
          | (unfold Op.lookupswitch.offset; simp [e]; done)
          | (simp [Op.lookupswitch.offset, e]; done)
      rw [e2]
      exact h2.1
    · have e : x.toInt ≠ k.1 := fun q => hx ((rn_i32 h3.1.1 h3.1.2).mpr q)
      rw [if_neg hx]
      have e2 : Op.lookupswitch.offset (k :: kr) z x.toInt = Op.lookupswitch.offset kr z x.toInt := by
        have e' : ¬ k.1 = x.toInt := fun q => e q.symm
        first
          | (unfold Op.lookupswitch.offset; simp [e, e']; done)
          | (simp [Op.lookupswitch.offset, e, e']; done)
      rw [e2]
      exact ih
section RN2
variable {p : Program} {l : Launch} {e : Env} {R : Room} {s : State} {m : MethodId} {args : Array Value} {below : List Frame} {meth : Method} {c : Code} {H : Heap} {locs : List Loc} {cells slots : Nat} {Q : State → Prop}
variable {cc : ByteArray} {pc n nL : Nat} {ls : Array Slot} {D : va_G} {cA : Nat → ClassId} {ad : Nat → Nat} {N : Nat} {h : rn_H} {A : Nat → Prop} {H0 : Heap} {lv : rn_L} {st : List Value} {own : String} {fr lo : Nat}
set_option maxHeartbeats 4000000 in
theorem rn_l_ok {i : Instr} {ax : List Nat} {st1 : List Value} {lv1 : rn_L} (hx : p.tables.exec = Jvm.exec) (hb : c.code = cc)
    (hl : lv_has ls nL (rn_vl ad lv)) (hcl : rn_cl1 N lv) (hcs : rn_cs1 N st)
    (hok : rn_oL nL i ax = true) (hd : decode cc pc = .ok (i, rn_ln i)) (hp : rn_l i ax lv st = some (lv1, st1))
    (kk : ∀ ls2 : Array Slot, lv_has ls2 nL (rn_vl ad lv1) → rn_cl1 N lv1 → rn_cs1 N st1 → W p l e R s m args below meth c H locs cells slots Q (F0 m (pc + rn_ln i) ls2 (st1.map (rn_vv ad)))) :
    W p l e R s m args below meth c H locs cells slots Q (F0 m pc ls (st.map (rn_vv ad))) := by
  cases i
  all_goals (try (exact absurd (show (none : Option (rn_L × List Value)) = some (lv1, st1) from hp) (fun q => by cases q)))
  case istore j =>
    simp only [rn_l] at hp
    split at hp
    · cases hp
      exact lv_istore hx hb hd hl (Nat.le_of_ble_eq_true hok) (by rw [rn_fl_map]; rfl) (fun ls2 h2 => kk ls2 h2 (rn_cl1_cons (rn_cs_h hcs) hcl) (rn_cs_t hcs))
    · cases hp
  case istore_n j =>
    simp only [rn_l] at hp
    split at hp
    · cases hp
      exact lv_istore_n hx hb hd rfl hl (Nat.le_of_ble_eq_true hok) (by rw [rn_fl_map]; rfl) (fun ls2 h2 => kk ls2 h2 (rn_cl1_cons (rn_cs_h hcs) hcl) (rn_cs_t hcs))
    · cases hp
  case lstore j =>
    simp only [rn_l] at hp
    split at hp
    · cases hp
      exact lv_lstore hx hb hd hl (Nat.le_of_ble_eq_true hok) (by rw [rn_fm_map]; rfl) (fun ls2 h2 => kk ls2 h2 (rn_cl1_consm (rn_cs_h hcs) hcl) (rn_cs_t hcs))
    · cases hp
  case lstore_n j =>
    simp only [rn_l] at hp
    split at hp
    · cases hp
      exact lv_lstore_n hx hb hd rfl hl (Nat.le_of_ble_eq_true hok) (by rw [rn_fm_map]; rfl) (fun ls2 h2 => kk ls2 h2 (rn_cl1_consm (rn_cs_h hcs) hcl) (rn_cs_t hcs))
    · cases hp
  case astore j =>
    simp only [rn_l] at hp
    split at hp
    · cases hp
      exact lv_astore hx hb hd hl (Nat.le_of_ble_eq_true hok) (by rw [rn_fl_map]; rfl) (fun ls2 h2 => kk ls2 h2 (rn_cl1_cons (rn_cs_h hcs) hcl) (rn_cs_t hcs))
    · cases hp
  case astore_n j =>
    simp only [rn_l] at hp
    split at hp
    · cases hp
      exact lv_astore_n hx hb hd rfl hl (Nat.le_of_ble_eq_true hok) (by rw [rn_fl_map]; rfl) (fun ls2 h2 => kk ls2 h2 (rn_cl1_cons (rn_cs_h hcs) hcl) (rn_cs_t hcs))
    · cases hp
  case iinc j z =>
    simp only [rn_l] at hp
    split at hp
    · split at hp
      · next x hk =>
        cases hp
        simp only [rn_oL, Bool.and_eq_true, decide_eq_true_eq] at hok
        obtain ⟨k, hk2⟩ := List.getElem?_of_mem (List.mem_map.mpr ⟨_, rn_lk_some hk, rfl⟩ : (j, rn_vv ad (.int x)) ∈ rn_vl ad lv)
        exact lv_iinc hx hb hd hl hk2 (by rw [hok.2]) (Nat.le_of_ble_eq_true hok.1) (by rw [rn_fl_map]; rfl) (fun ls2 h2 => kk ls2 h2 (rn_cl1_cons rfl hcl) hcs)
      · cases hp
    · cases hp
set_option maxHeartbeats 4000000 in
theorem rn_b_ok {T : List rn_I} {i : Instr} {ax : List Nat} {k k1 : Nat} {st1 : List Value} (hx : p.tables.exec = Jvm.exec) (hb : c.code = cc) (hcs : rn_cs1 N st)
    (hnx : (match i with
      | .goto _ => false
      | .tableswitch _ _ _ _ => false
      | .lookupswitch _ _ => false
      | _ => true) = true → rn_at T k ((pc : Int) + rn_ln i) = true)
    (hok : rn_oB T pc i ax = true) {len : Nat} (hd : decode cc pc = .ok (i, len)) (hln : (match i with
      | .tableswitch _ _ _ _ => false
      | .lookupswitch _ _ => false
      | _ => true) = true → len = rn_ln i) (hp : rn_b i ax k st = some (k1, st1))
    (kk : rn_cs1 N st1 → ∀ e1 : rn_I, T[k1]? = some e1 → W p l e R s m args below meth c H locs cells slots Q (F0 m e1.1 ls (st1.map (rn_vv ad)))) :
    W p l e R s m args below meth c H locs cells slots Q (F0 m pc ls (st.map (rn_vv ad))) := by
  cases ax with
  | nil => cases hp
  | cons t ts =>
    cases i
    all_goals (try (exact absurd (show (none : Option (Nat × List Value)) = some (k1, st1) from hp) (fun q => by cases q)))
    case goto o =>
      have := hln rfl
      subst this
      cases hp
      obtain ⟨e1, h1, h2⟩ := rn_at_some hok
      exact lv_goto hx hb hd h2.symm (kk hcs e1 h1)
    case ifCond q o =>
      have := hln rfl
      subst this
      obtain ⟨e1, h1, h2⟩ := rn_at_some hok
      obtain ⟨e2, h3, h4⟩ := rn_at_some (hnx rfl)
      have h5 : e2.1 = pc + 3 := by
        have : (e2.1 : Int) = pc + (3 : Nat) := h4
        omega
      have kf : k1 = k → rn_cs1 N st1 → W p l e R s m args below meth c H locs cells slots Q (F0 m (pc + 3) ls (st1.map (rn_vv ad))) := fun q1 q2 => by
        subst q1
        rw [← h5]
        exact kk q2 e2 h3
      have kt : k1 = t → rn_cs1 N st1 → W p l e R s m args below meth c H locs cells slots Q (F0 m e1.1 ls (st1.map (rn_vv ad))) := fun q1 q2 => by
        subst q1
        exact kk q2 e1 h1
      cases q <;> simp only [rn_b] at hp <;> split at hp <;> cases hp
      · exact lv_if_eq hx hb hd h2.symm (fun z => kt (if_pos z) (rn_cs_t hcs)) (fun z => kf (if_neg z) (rn_cs_t hcs))
      · exact lv_if_ne hx hb hd h2.symm (fun z => kt (if_neg z) (rn_cs_t hcs)) (fun z => kf (if_pos z) (rn_cs_t hcs))
      · exact lv_if_lt hx hb hd h2.symm (fun z => kt (if_pos z) (rn_cs_t hcs)) (fun z => kf (if_neg z) (rn_cs_t hcs))
      · exact lv_if_ge hx hb hd h2.symm (fun z => kt (if_pos z) (rn_cs_t hcs)) (fun z => kf (if_neg z) (rn_cs_t hcs))
      · exact lv_if_gt hx hb hd h2.symm (fun z => kt (if_pos z) (rn_cs_t hcs)) (fun z => kf (if_neg z) (rn_cs_t hcs))
      · exact lv_if_le hx hb hd h2.symm (fun z => kt (if_pos z) (rn_cs_t hcs)) (fun z => kf (if_neg z) (rn_cs_t hcs))
    case if_icmp q o =>
      have := hln rfl
      subst this
      obtain ⟨e1, h1, h2⟩ := rn_at_some hok
      obtain ⟨e2, h3, h4⟩ := rn_at_some (hnx rfl)
      have h5 : e2.1 = pc + 3 := by
        have : (e2.1 : Int) = pc + (3 : Nat) := h4
        omega
      have kf : k1 = k → rn_cs1 N st1 → W p l e R s m args below meth c H locs cells slots Q (F0 m (pc + 3) ls (st1.map (rn_vv ad))) := fun q1 q2 => by
        subst q1
        rw [← h5]
        exact kk q2 e2 h3
      have kt : k1 = t → rn_cs1 N st1 → W p l e R s m args below meth c H locs cells slots Q (F0 m e1.1 ls (st1.map (rn_vv ad))) := fun q1 q2 => by
        subst q1
        exact kk q2 e1 h1
      cases q <;> simp only [rn_b] at hp <;> split at hp <;> cases hp
      · exact lv_icmp_eq hx hb hd h2.symm (fun z => kt (if_pos z) (rn_cs_t (rn_cs_t hcs))) (fun z => kf (if_neg z) (rn_cs_t (rn_cs_t hcs)))
      · exact lv_icmp_ne hx hb hd h2.symm (fun z => kt (if_neg z) (rn_cs_t (rn_cs_t hcs))) (fun z => kf (if_pos z) (rn_cs_t (rn_cs_t hcs)))
      · exact lv_icmp_lt hx hb hd h2.symm (fun z => kt (if_pos z) (rn_cs_t (rn_cs_t hcs))) (fun z => kf (if_neg z) (rn_cs_t (rn_cs_t hcs)))
      · exact lv_icmp_ge hx hb hd h2.symm (fun z => kt (if_pos z) (rn_cs_t (rn_cs_t hcs))) (fun z => kf (if_neg z) (rn_cs_t (rn_cs_t hcs)))
      · exact lv_icmp_gt hx hb hd h2.symm (fun z => kt (if_pos z) (rn_cs_t (rn_cs_t hcs))) (fun z => kf (if_neg z) (rn_cs_t (rn_cs_t hcs)))
      · exact lv_icmp_le hx hb hd h2.symm (fun z => kt (if_pos z) (rn_cs_t (rn_cs_t hcs))) (fun z => kf (if_neg z) (rn_cs_t (rn_cs_t hcs)))
    case ifnull o =>
      have := hln rfl
      subst this
      obtain ⟨e1, h1, h2⟩ := rn_at_some hok
      obtain ⟨e2, h3, h4⟩ := rn_at_some (hnx rfl)
      have h5 : e2.1 = pc + 3 := by
        have : (e2.1 : Int) = pc + (3 : Nat) := h4
        omega
      simp only [rn_b] at hp
      split at hp
      · cases hp
        refine lv_ifnull hx hb hd ?_
        rw [← h5]
        exact kk (rn_cs_t hcs) e2 h3
      · cases hp
        exact lv_ifnullN hx hb hd h2.symm (kk (rn_cs_t hcs) e1 h1)
      · cases hp
    case ifnonnull o =>
      have := hln rfl
      subst this
      obtain ⟨e1, h1, h2⟩ := rn_at_some hok
      obtain ⟨e2, h3, h4⟩ := rn_at_some (hnx rfl)
      have h5 : e2.1 = pc + 3 := by
        have : (e2.1 : Int) = pc + (3 : Nat) := h4
        omega
      simp only [rn_b] at hp
      split at hp
      · cases hp
        exact lv_ifnonnull hx hb hd h2.symm (kk (rn_cs_t hcs) e1 h1)
      · cases hp
        refine lv_ifnonnullN hx hb hd ?_
        rw [← h5]
        exact kk (rn_cs_t hcs) e2 h3
      · cases hp
    case tableswitch d lo1 hi os =>
      simp only [rn_b] at hp
      split at hp
      · next x r =>
        cases hp
        simp only [rn_oB, Bool.and_eq_true, decide_eq_true_eq] at hok
        obtain ⟨⟨⟨⟨⟨o1, o2⟩, o3⟩, o4⟩, o5⟩, o6⟩ := hok
        rcases rn_st_spec (x := x) (d := t) ts lo1 o2 (by omega) with ⟨g1, g2⟩ | ⟨j, g1, g2⟩
        · rw [g2] at kk
          obtain ⟨e1, h1, h2⟩ := rn_at_some o1
          exact lv_tableOut hx hb hd (by omega) h2.symm (kk (rn_cs_t hcs) e1 h1)
        · have hj : j < ts.length := (List.getElem?_eq_some_iff.mp g2).1
          have hj2 : j < os.toList.length := by omega
          have hz : (ts.zip os.toList)[j]? = some (rn_st ts lo1 x t, os.toList[j]) := by
            rw [List.getElem?_zip_eq_some]
            exact ⟨g2, List.getElem?_eq_getElem hj2⟩
          have := List.all_eq_true.mp o6 _ (List.mem_of_getElem? hz)
          obtain ⟨e1, h1, h2⟩ := rn_at_some this
          refine lv_tableIn hx hb hd (by omega) (by omega) (off := os.toList[j]) ?_ h2.symm (kk (rn_cs_t hcs) e1 h1)
          rw [show (x.toInt - lo1).toNat = j by omega, ← Array.getElem?_toList, List.getElem?_eq_getElem hj2]
      · cases hp
    case lookupswitch d ps =>
      simp only [rn_b] at hp
      split at hp
      · next x r =>
        cases hp
        simp only [rn_oB, Bool.and_eq_true, decide_eq_true_eq] at hok
        obtain ⟨⟨⟨⟨o1, o2⟩, o3⟩, o4⟩, o5⟩ := hok
        obtain ⟨e1, h1, h2⟩ := rn_at_some (rn_sk_spec (x := x) o1 ps.toList ts o3 o4 o5)
        exact lv_lookup hx hb hd o2 rfl h2.symm (kk (rn_cs_t hcs) e1 h1)
      · cases hp
end RN2
end
section
/-! one step that writes entries, and one that makes one -/
def rn_tyk (ty : Nat) (f : FieldType) : Bool := match ty, f with
  | 0, .int => true
  | 1, .boolean => true
  | 2, .object _ => true
  | 2, .array _ => true
  | _, _ => false
theorem rn_tyk_ok {ty : Nat} {f : FieldType} {v : Value} {ad : Nat → Nat} (h1 : rn_tyk ty f = true) (h2 : rn_ty ty v = true) : narrow f (rn_vv ad v) = rn_vv ad v ∧ fits f (rn_vv ad v) = true := by
  unfold rn_tyk at h1
  split at h1
  · cases v <;> first | exact ⟨rfl, rfl⟩ | (cases h2)
  · cases v with
    | int x =>
      simp only [rn_ty, Bool.or_eq_true, decide_eq_true_eq] at h2
      rcases h2 with rfl | rfl
      · exact ⟨show narrow .boolean (.int 0) = .int 0 by decide +kernel, show fits .boolean (.int 0) = true by decide +kernel⟩
      · exact ⟨show narrow .boolean (.int 1) = .int 1 by decide +kernel, show fits .boolean (.int 1) = true by decide +kernel⟩
    | ref a => cases h2
    | null => cases h2
    | _ => cases h2
  · cases v <;> first | exact ⟨rfl, rfl⟩ | (cases h2)
  · cases v <;> first | exact ⟨rfl, rfl⟩ | (cases h2)
  · cases h1
def rn_fin (own : String) (ini : Bool) (c k ty : Nat) : Bool := match rn_cls[c]? with
  | some q => rn_tyk ty (rn_fty c k) && (!(q.2.1 k).2.2.2 || (ini && decide ((q.2.1 k).1 = own)))
  | none => false
def rn_oA (t c : Nat) : Bool := match rn_cls[c]? with
  | some q => decide (rn_ft[t]? = some (.object q.1))
  | none => false
theorem rn_oA_some {t c : Nat} (h : rn_oA t c = true) : ∃ q : vw_C, rn_cls[c]? = some q ∧ rn_ft[t]? = some (.object q.1) := by
  unfold rn_oA at h
  split at h
  · next q hq => exact ⟨q, hq, of_decide_eq_true h⟩
  · cases h
def rn_oW (own : String) (ini : Bool) (fr lo : Nat) (i : Instr) (ax : List Nat) : Bool := match i with
  | .putfield idx => match ax with
    | [c, k, ty, w] => rn_fd own idx c k w && rn_fin own ini c k ty
    | _ => false
  | .aastore => match ax with
    | [t, c] => rn_oA t c
    | _ => false
  | .invokestatic idx => match ax with
    | [1, _, w1, w2, w3, w4] => decide (lw_tbl[w1]? = some (.methodLink own idx arraycopyName)) && decide (lw_tbl[w2]? = some (.native arraycopyName)) && decide (lw_tbl[w3]? = some (.static arraycopyName)) && decide (lw_tbl[w4]? = some (.initialized "java/lang/System")) && Nat.ble 1 fr && Nat.ble 26 lo
    | _ => true
  | _ => true
theorem rn_hc_up {N q : Nat} {h : rn_H} {e : rn_E} (hh : rn_hc N h) (hq : q < N) (he : rn_cE N e) : rn_hc N (rn_up h q e) := by
  refine ⟨fun k hk => ?_, ?_, hh.2.2⟩
  · by_cases h1 : k = q
    · subst h1; rw [rn_up_s]; exact he
    · rw [rn_up_n h1]; exact hh.1 k hk
  · rw [rn_up_n (by have := hh.2.2; omega)]
    exact hh.2.1
theorem rn_c999 {c : Nat} {q : vw_C} (h : rn_cls[c]? = some q) : c ≠ 999999 := by
  have : c < rn_cls.length := (List.getElem?_eq_some_iff.mp h).1
  have e : rn_cls.length ≤ 100 := by decide +kernel
  omega
section RN3
variable {p : Program} {l : Launch} {e : Env} {R : Room} {s : State} {m : MethodId} {args : Array Value} {below : List Frame} {meth : Method} {c : Code} {H : Heap} {locs : List Loc} {cells slots : Nat} {Q : State → Prop}
variable {cc : ByteArray} {pc n nL : Nat} {ls : Array Slot} {D : va_G} {cA : Nat → ClassId} {ad : Nat → Nat} {N : Nat} {h : rn_H} {A : Nat → Prop} {H0 : Heap} {lv : rn_L} {st : List Value} {own : String} {fr lo : Nat}
set_option maxHeartbeats 4000000 in
theorem rn_w_ok {i : Instr} {ax : List Nat} {st1 : List Value} {h1 : rn_H} {ini : Bool} (hx : p.tables.exec = Jvm.exec) (hb : c.code = cc) (hml : c.maxLocals = ls.size) (hts : ∀ w ∈ rn_gw, w.before args s = true) (hown : s.vm.findClass own = some m.cls) (hini : ini = true → meth.name = "<init>")
    (hK : va_K D rn_cls (rn_tys cA) s) (hP : va_P D rn_cls (rn_wl cA ad N h) H) (hD : va_D A (rn_wl cA ad N h)) (hS : va_S A H0 H locs)
    (hcs : rn_cs1 N st) (hh : rn_hc N h) (hfr : fr ≤ R.frames) (hlo : lo ≤ R.locals)
    (hok : rn_oW own ini fr lo i ax = true) (hd : decode cc pc = .ok (i, rn_ln i)) (hp : rn_w i ax st h = some (st1, h1))
    (kk : ∀ (H1 : Heap) (locs1 : List Loc), va_P D rn_cls (rn_wl cA ad N h1) H1 → va_D A (rn_wl cA ad N h1) → va_S A H0 H1 locs1 → rn_hc N h1 → rn_cs1 N st1 → W p l e R s m args below meth c H1 locs1 cells slots Q (F0 m (pc + rn_ln i) ls (st1.map (rn_vv ad)))) :
    W p l e R s m args below meth c H locs cells slots Q (F0 m pc ls (st.map (rn_vv ad))) := by
  cases i
  all_goals (try (exact absurd (show (none : Option (List Value × rn_H)) = some (st1, h1) from hp) (fun q => by cases q)))
  case putfield idx =>
    simp only [rn_w, rn_oW] at hp hok
    split at hp
    · next ci k ty w =>
      split at hp
      · next v q r =>
        split at hp
        · next c1 fs hq =>
          split at hp
          · next hb1 =>
            have := Nat.eq_of_beq_eq_true hb1
            subst this
            split at hp
            · next ht =>
              split at hp
              · next hk =>
                cases hp
                simp only [Bool.and_eq_true] at hok
                obtain ⟨o1, o2⟩ := hok
                obtain ⟨q1, hc1, hk1, hw1, hd1⟩ := rn_oF o1
                have hcf := rn_cf_all _ q1 hc1
                have hk := Nat.le_of_ble_eq_true hk
                have hqN : q < N := rn_lt (rn_cs_t hcs) hh (by rw [hq]; intro z; cases z; exact absurd rfl (rn_c999 hc1))
                unfold rn_fin at o2
                rw [hc1] at o2
                simp only [Bool.and_eq_true, Bool.or_eq_true, Bool.not_eq_true', decide_eq_true_eq] at o2
                obtain ⟨t1, t2⟩ := o2
                obtain ⟨n1, n2⟩ := rn_tyk_ok (ad := ad) t1 ht
                have he : (rn_wl cA ad N h)[q]? = some (ad q, .inr (c1, fs.map (rn_vv ad))) := rn_wl_get hqN |>.trans (by rw [hq]; rfl)
                have hset : (rn_wl cA ad N h).set q (ad q, .inr (c1, (fs.map (rn_vv ad)).set k (rn_vv ad v))) = rn_wl cA ad N (rn_up h q (.inr (c1, fs.set k v))) := rn_wl_set (by simp only [rn_ev, List.map_set])
                have hhc : rn_hc N (rn_up h q (.inr (c1, fs.set k v))) := rn_hc_up hh hqN (fun w hw => by
                  rcases List.mem_or_eq_of_mem_set hw with g | g
                  · have := hh.1 q hqN
                    rw [hq] at this
                    exact this w g
                  · rw [g]; exact rn_cs_h hcs)
                have hl : k < (fs.map (rn_vv ad)).length := by rw [List.length_map]; exact hk
                have kk2 : ∀ (H1 : Heap) (locs1 : List Loc), va_P D rn_cls ((rn_wl cA ad N h).set q (ad q, .inr (c1, (fs.map (rn_vv ad)).set k (rn_vv ad v)))) H1 → va_D A ((rn_wl cA ad N h).set q (ad q, .inr (c1, (fs.map (rn_vv ad)).set k (rn_vv ad v)))) → va_S A H0 H1 locs1 → W p l e R s m args below meth c H1 locs1 cells slots Q (F0 m (pc + 3) ls (st1.map (rn_vv ad))) := by
                  intro H1 locs1 g1 g2 g3
                  rw [hset] at g1 g2
                  exact kk H1 locs1 g1 g2 g3 hhc (rn_cs_t (rn_cs_t hcs))
                rcases t2 with t2 | ⟨t2, t3⟩
                · exact va_put (C := q1.1) (T := q1.2.1) (N := q1.2.2) hx hb hts hcf.1 (rn_fty c1) hcf.2.1 hcf.2.2.1 hown hK hP hD hS q he hc1 k hk1 (rn_hw hts hw1 rfl) (fun x h9 => by rw [hd1] at h9; exact h9) t2 (hcf.2.1 k hk1) n1 n2 hl hd kk2
                · by_cases t4 : (q1.2.1 k).2.2.2 = true
                  · exact va_putF (C := q1.1) (T := q1.2.1) (N := q1.2.2) hx hb hts hcf.1 (rn_fty c1) hcf.2.1 hcf.2.2.1 hown hK hP hD hS q he hc1 k hk1 (rn_hw hts hw1 rfl) (fun x h9 => by rw [hd1] at h9; exact h9) t4 (hini t2) t3 (hcf.2.1 k hk1) n1 n2 hl hd kk2
                  · exact va_put (C := q1.1) (T := q1.2.1) (N := q1.2.2) hx hb hts hcf.1 (rn_fty c1) hcf.2.1 hcf.2.2.1 hown hK hP hD hS q he hc1 k hk1 (rn_hw hts hw1 rfl) (fun x h9 => by rw [hd1] at h9; exact h9) (by simpa using t4) (hcf.2.1 k hk1) n1 n2 hl hd kk2
              · cases hp
            · cases hp
          · cases hp
        · cases hp
      · cases hp
    · cases hp
  case iastore =>
    simp only [rn_w] at hp
    split at hp
    · next x j q r =>
      split at hp
      · next n f hq =>
        split at hp
        · cases hp
        · next hin =>
          cases hp
          have hqN : q < N := rn_lt (rn_cs_t (rn_cs_t hcs)) hh (by rw [hq]; intro z; cases z)
          refine va_iast hx hb hK hP hD hS q 0 (rn_wl_get hqN |>.trans (by rw [hq]; rfl)) (rn_tys_get rfl) hin hd (fun H1 locs1 g1 g2 g3 => ?_)
          rw [rn_wl_set (e := .inl (0, n, .inl (upd f j.toNatClampNeg x))) (x := .inl (cA 0, n, .inl (upd f j.toNatClampNeg x))) rfl] at g1 g2
          exact kk H1 locs1 g1 g2 g3 (rn_hc_up hh hqN trivial) (rn_cs_t (rn_cs_t (rn_cs_t hcs)))
      · cases hp
    · cases hp
  case bastore =>
    simp only [rn_w] at hp
    split at hp
    · next x j q r =>
      split at hp
      · next n f hq =>
        split at hp
        · cases hp
        · next hin =>
          split at hp
          · next h01 =>
            cases hp
            have hqN : q < N := rn_lt (rn_cs_t (rn_cs_t hcs)) hh (by rw [hq]; intro z; cases z)
            have hnar : vp_nar .boolean x = x := by rcases h01 with rfl | rfl <;> decide +kernel
            refine va_zast hx hb hK hP hD hS q 2 (rn_wl_get hqN |>.trans (by rw [hq]; rfl)) (rn_tys_get rfl) hin hd (fun H1 locs1 g1 g2 g3 => ?_)
            rw [hnar] at g1 g2
            rw [rn_wl_set (e := .inl (2, n, .inl (upd f j.toNatClampNeg x))) (x := .inl (cA 2, n, .inl (upd f j.toNatClampNeg x))) rfl] at g1 g2
            exact kk H1 locs1 g1 g2 g3 (rn_hc_up hh hqN trivial) (rn_cs_t (rn_cs_t (rn_cs_t hcs)))
          · cases hp
      · cases hp
    · cases hp
  case lastore =>
    simp only [rn_w] at hp
    split at hp
    · next x j q r =>
      split at hp
      · next n f hq =>
        split at hp
        · cases hp
        · next hin =>
          cases hp
          have hqN : q < N := rn_lt (rn_cs_t (rn_cs_t hcs)) hh (by rw [hq]; intro z; cases z)
          refine va_last hx hb hK hP hD hS q 1 (rn_wl_get hqN |>.trans (by rw [hq]; rfl)) (rn_tys_get rfl) hin hd (fun H1 locs1 g1 g2 g3 => ?_)
          rw [rn_wl_set (e := .inl (1, n, .inr (.inl (vp_updL f j.toNatClampNeg x)))) (x := .inl (cA 1, n, .inr (.inl (vp_updL f j.toNatClampNeg x)))) rfl] at g1 g2
          exact kk H1 locs1 g1 g2 g3 (rn_hc_up hh hqN trivial) (rn_cs_t (rn_cs_t (rn_cs_t hcs)))
      · cases hp
    · cases hp
  case aastore =>
    simp only [rn_w, rn_oW] at hp hok
    split at hp
    · next t ci =>
      split at hp
      · next v j q r =>
        split at hp
        · next t1 n f hq =>
          split at hp
          · next hb1 =>
            have := Nat.eq_of_beq_eq_true hb1
            subst this
            split at hp
            · next c1 vs hv =>
              split at hp
              · next hb2 =>
                have := Nat.eq_of_beq_eq_true hb2
                subst this
                split at hp
                · cases hp
                · next hin =>
                  cases hp
                  obtain ⟨q1, hc1, ht1⟩ := rn_oA_some hok
                  have hqN : q < N := rn_lt (rn_cs_t (rn_cs_t hcs)) hh (by rw [hq]; intro z; cases z)
                  have hvN : v < N := rn_lt hcs hh (by rw [hv]; intro z; cases z; exact absurd rfl (rn_c999 hc1))
                  refine va_astq (r := q1) hx hb hK hP hD hS q _ v c1 (rn_wl_get hqN |>.trans (by rw [hq]; rfl)) (rn_tys_get ht1) (rn_wl_get hvN |>.trans (by rw [hv]; rfl)) hc1 hin hd (fun H1 locs1 g1 g2 g3 => ?_)
                  have e1 : va_up (fun i => (f i).map ad) j.toNatClampNeg (some (ad v)) = fun i => (va_up f j.toNatClampNeg (some v) i).map ad := by
                    funext i
                    simp only [va_up]
                    split <;> rfl
                  rw [e1] at g1 g2
                  rw [rn_wl_set (e := .inl (t1, n, .inr (.inr (.inr (.inr (va_up f j.toNatClampNeg (some v))))))) (x := .inl (cA t1, n, .inr (.inr (.inr (.inr (fun i => (va_up f j.toNatClampNeg (some v) i).map ad)))))) rfl] at g1 g2
                  refine kk H1 locs1 g1 g2 g3 (rn_hc_up hh hqN (fun i a ha => ?_)) (rn_cs_t (rn_cs_t (rn_cs_t hcs)))
                  simp only [va_up] at ha
                  split at ha
                  · cases ha; exact hvN
                  · have := hh.1 q hqN
                    rw [hq] at this
                    exact this i a ha
              · cases hp
            · cases hp
          · cases hp
        · cases hp
      · cases hp
    · cases hp
  case invokestatic idx =>
    simp only [rn_w, rn_oW] at hp hok
    split at hp
    · next t w1 w2 w3 w4 =>
      simp only [Bool.and_eq_true, decide_eq_true_eq] at hok
      obtain ⟨⟨⟨⟨⟨o1, o2⟩, o3⟩, o4⟩, o5⟩, o6⟩ := hok
      have o5 := Nat.le_of_ble_eq_true o5
      have o6 := Nat.le_of_ble_eq_true o6
      have hnw : nativeFrameWords "java/lang/System" "arraycopy" 5 = 7 := by decide +kernel
      split at hp
      · next n dp a sp a0 r =>
        split at hp
        · cases hp
        · next hno =>
          have n1 : ¬ sp < 0 := fun z => hno (Or.inl z)
          have n2 : ¬ dp < 0 := fun z => hno (Or.inr (Or.inl z))
          have n3 : ¬ n < 0 := fun z => hno (Or.inr (Or.inr (Or.inl z)))
          have n4 : rn_cs r ≤ 8 := Nat.le_of_not_lt fun z => hno (Or.inr (Or.inr (Or.inr z)))
          split at hp
          · split at hp
            · next n0 f n1' g hq0 hq1 =>
              split at hp
              · next hbd =>
                cases hp
                have hq0N : a0 < N := rn_lt (rn_cs_t (rn_cs_t (rn_cs_t (rn_cs_t hcs)))) hh (by rw [hq0]; intro z; cases z)
                have hq1N : a < N := rn_lt (rn_cs_t (rn_cs_t hcs)) hh (by rw [hq1]; intro z; cases z)
                refine va_copyi hx hb hml hown (rn_hw hts o1 rfl) (rn_hw hts o2 rfl) (rn_hw hts o3 rfl) (rn_hw hts o4 rfl) hK hP hD hS a0 a 0 0 (rn_wl_get hq0N |>.trans (by rw [hq0]; rfl)) (rn_wl_get hq1N |>.trans (by rw [hq1]; rfl)) (rn_tys_get rfl) (rn_tys_get rfl) rfl n1 n2 n3 hbd.1 hbd.2 (fun _ _ => rfl) (by omega) (by rw [rn_cs_map, hnw]; omega) hd (fun H1 locs1 g1 g2 g3 => ?_)
                rw [rn_wl_set (e := .inl (0, n1', .inl (va_cpy f g sp.toNatClampNeg dp.toNatClampNeg n.toNatClampNeg))) (x := .inl (cA 0, n1', .inl (va_cpy f g sp.toNatClampNeg dp.toNatClampNeg n.toNatClampNeg))) rfl] at g1 g2
                exact kk H1 locs1 g1 g2 g3 (rn_hc_up hh hq1N trivial) (rn_cs_t (rn_cs_t (rn_cs_t (rn_cs_t (rn_cs_t hcs)))))
              · cases hp
            · cases hp
          · split at hp
            · next n0 f n1' g hq0 hq1 =>
              split at hp
              · next hbd =>
                cases hp
                have hq0N : a0 < N := rn_lt (rn_cs_t (rn_cs_t (rn_cs_t (rn_cs_t hcs)))) hh (by rw [hq0]; intro z; cases z)
                have hq1N : a < N := rn_lt (rn_cs_t (rn_cs_t hcs)) hh (by rw [hq1]; intro z; cases z)
                refine va_copyl hx hb hml hown (rn_hw hts o1 rfl) (rn_hw hts o2 rfl) (rn_hw hts o3 rfl) (rn_hw hts o4 rfl) hK hP hD hS a0 a 1 1 (rn_wl_get hq0N |>.trans (by rw [hq0]; rfl)) (rn_wl_get hq1N |>.trans (by rw [hq1]; rfl)) (rn_tys_get rfl) (rn_tys_get rfl) rfl n1 n2 n3 hbd.1 hbd.2 (fun _ _ => rfl) (by omega) (by rw [rn_cs_map, hnw]; omega) hd (fun H1 locs1 g1 g2 g3 => ?_)
                rw [rn_wl_set (e := .inl (1, n1', .inr (.inl (va_cpy f g sp.toNatClampNeg dp.toNatClampNeg n.toNatClampNeg)))) (x := .inl (cA 1, n1', .inr (.inl (va_cpy f g sp.toNatClampNeg dp.toNatClampNeg n.toNatClampNeg)))) rfl] at g1 g2
                exact kk H1 locs1 g1 g2 g3 (rn_hc_up hh hq1N trivial) (rn_cs_t (rn_cs_t (rn_cs_t (rn_cs_t (rn_cs_t hcs)))))
              · cases hp
            · cases hp
          · cases hp
      · cases hp
    · cases hp
end RN3
end
section
/-! one step that makes an entry -/
def rn_nr (v : Value) : Bool := match v with
  | .ref _ => false
  | _ => true
def rn_oNe (own : String) (idx c n w1 w2 w3 : Nat) : Bool := match rn_cls[c]? with
  | some q => Nat.beq n q.2.2 && decide (lw_tbl[w1]? = some (.classLink own idx q.1)) && decide (lw_tbl[w2]? = some (.instantiable q.1 q.2.2)) && decide (lw_tbl[w3]? = some (.initialized q.1)) && (rn_dv c).all rn_nr
  | none => false
theorem rn_oNe_some {own : String} {idx c n w1 w2 w3 : Nat} (h : rn_oNe own idx c n w1 w2 w3 = true) : ∃ q : vw_C, rn_cls[c]? = some q ∧ n = q.2.2 ∧ lw_tbl[w1]? = some (.classLink own idx q.1) ∧ lw_tbl[w2]? = some (.instantiable q.1 q.2.2) ∧ lw_tbl[w3]? = some (.initialized q.1) ∧ ∀ v ∈ rn_dv c, rn_nr v = true := by
  unfold rn_oNe at h
  split at h
  · next q hq =>
    simp only [Bool.and_eq_true, decide_eq_true_eq] at h
    obtain ⟨⟨⟨⟨o1, o2⟩, o3⟩, o4⟩, o5⟩ := h
    exact ⟨q, hq, Nat.eq_of_beq_eq_true o1, o2, o3, o4, List.all_eq_true.mp o5⟩
  · cases h
def rn_oNa (a : ArrayType) (t w : Nat) : Bool := match t with
  | 0 => decide (newarray.typeOf a = .int) && decide (lw_tbl[w]? = some (.arrayClass .int))
  | 1 => decide (newarray.typeOf a = .long) && decide (lw_tbl[w]? = some (.arrayClass .long))
  | 2 => decide (newarray.typeOf a = .boolean) && decide (lw_tbl[w]? = some (.arrayClass .boolean))
  | _ => false
theorem rn_oNa_some {a : ArrayType} {t w : Nat} (h : rn_oNa a t w = true) : (t = 0 ∧ newarray.typeOf a = .int ∧ lw_tbl[w]? = some (.arrayClass .int)) ∨ (t = 1 ∧ newarray.typeOf a = .long ∧ lw_tbl[w]? = some (.arrayClass .long)) ∨ (t = 2 ∧ newarray.typeOf a = .boolean ∧ lw_tbl[w]? = some (.arrayClass .boolean)) := by
  unfold rn_oNa at h
  split at h
  · simp only [Bool.and_eq_true, decide_eq_true_eq] at h
    exact Or.inl ⟨rfl, h⟩
  · simp only [Bool.and_eq_true, decide_eq_true_eq] at h
    exact Or.inr (Or.inl ⟨rfl, h⟩)
  · simp only [Bool.and_eq_true, decide_eq_true_eq] at h
    exact Or.inr (Or.inr ⟨rfl, h⟩)
  · cases h
def rn_oNq (own : String) (idx t c w : Nat) : Bool := match rn_cls[c]? with
  | some q => Nat.ble 3 t && decide (rn_ft[t]? = some (.object q.1)) && decide (lw_tbl[w]? = some (.classLink own idx q.1))
  | none => false
theorem rn_oNq_some {own : String} {idx t c w : Nat} (h : rn_oNq own idx t c w = true) : ∃ (q : vw_C) (t3 : Nat), t = t3 + 3 ∧ rn_ft[t]? = some (.object q.1) ∧ lw_tbl[w]? = some (.classLink own idx q.1) := by
  unfold rn_oNq at h
  split at h
  · next q hq =>
    simp only [Bool.and_eq_true, decide_eq_true_eq] at h
    exact ⟨q, t - 3, by have := Nat.le_of_ble_eq_true h.1.1; omega, h.1.2, h.2⟩
  · cases h
def rn_oN (own : String) (i : Instr) (ax : List Nat) : Bool := match i with
  | .new idx => match ax with
    | [c, n, w1, w2, w3] => rn_oNe own idx c n w1 w2 w3
    | _ => false
  | .newarray a => match ax with
    | [t, w] => rn_oNa a t w
    | _ => false
  | .anewarray idx => match ax with
    | [t, c, w] => rn_oNq own idx t c w
    | _ => false
  | _ => true
theorem rn_vv_nr {ad : Nat → Nat} {v : Value} (h : rn_nr v = true) : rn_vv ad v = v := by
  cases v <;> first | rfl | (cases h)
theorem rn_cv_nr {N : Nat} {v : Value} (h : rn_nr v = true) : rn_cv N v = true := by
  cases v <;> first | rfl | (cases h)
theorem rn_cv_up {N N1 : Nat} {v : Value} (hN : N ≤ N1) (h : rn_cv N v = true) : rn_cv N1 v = true := by
  cases v <;> first | rfl | skip
  rename_i a
  rcases rn_cv_ref.mp h with g | g
  · exact rn_cv_ref.mpr (Or.inl (by omega))
  · exact rn_cv_ref.mpr (Or.inr g)
theorem rn_cE_up {N N1 : Nat} {e : rn_E} (hN : N ≤ N1) (h : rn_cE N e) : rn_cE N1 e := by
  rcases e with ⟨t, n, f | f | f | f | f⟩ | ⟨c, fs⟩
  · trivial
  · trivial
  · trivial
  · trivial
  · exact fun i a ha => Nat.lt_of_lt_of_le (h i a ha) hN
  · exact fun v hv => rn_cv_up hN (h v hv)
theorem rn_cs1_up {N N1 : Nat} {st : List Value} (hN : N ≤ N1) (h : rn_cs1 N st) : rn_cs1 N1 st := fun v hv => rn_cv_up hN (h v hv)
theorem rn_cl1_up {N N1 : Nat} {lv : rn_L} (hN : N ≤ N1) (h : rn_cl1 N lv) : rn_cl1 N1 lv := fun v hv => rn_cv_up hN (h v hv)
theorem rn_hc_push {N : Nat} {h : rn_H} {e : rn_E} (hh : rn_hc N h) (hN : N < 1000000) (he : rn_cE (N + 1) e) : rn_hc (N + 1) (rn_up h N e) := by
  refine ⟨fun k hk => ?_, ?_, hN⟩
  · by_cases h1 : k = N
    · subst h1; rw [rn_up_s]; exact he
    · rw [rn_up_n h1]; exact rn_cE_up (Nat.le_succ N) (hh.1 k (by omega))
  · rw [rn_up_n (by omega)]
    exact hh.2.1
theorem rn_RA {U : State} {c1 c2 : ClassId} {ty : FieldType} (h1 : va_RA U c1 ty) (h2 : va_RA U c2 ty) : c1 = c2 := by
  cases ty with
  | object C =>
    obtain ⟨_, _, _, _, _, a⟩ := h1
    obtain ⟨_, _, _, _, _, b⟩ := h2
    exact Option.some.inj (a.symm.trans b)
  | _ => exact Option.some.inj ((show U.vm.findClass _ = some c1 from h1).symm.trans h2)
theorem rn_last {D : va_G} {cl : List vw_C} {tys : List (ClassId × FieldType)} {c1 c2 : ClassId} {ty : FieldType} {t : Nat} {U : State} (hK : va_K D cl (tys ++ [(c1, ty)]) U) (ht : tys[t]? = some (c2, ty)) : c1 = c2 := by
  have h1 := (hK.2 tys.length (c1, ty) (by simp)).2
  have hl : t < tys.length := (List.getElem?_eq_some_iff.mp ht).1
  have h2 := (hK.2 t (c2, ty) (by rw [List.getElem?_append_left hl]; exact ht)).2
  exact rn_RA h1 h2
section RN4
variable {p : Program} {l : Launch} {e : Env} {R : Room} {s : State} {m : MethodId} {args : Array Value} {below : List Frame} {meth : Method} {c : Code} {H : Heap} {locs : List Loc} {cells slots : Nat} {Q : State → Prop}
variable {cc : ByteArray} {pc n nL : Nat} {ls : Array Slot} {D : va_G} {cA : Nat → ClassId} {ad : Nat → Nat} {N : Nat} {h : rn_H} {A : Nat → Prop} {H0 : Heap} {lv : rn_L} {st : List Value} {own : String} {fr lo : Nat}
set_option maxHeartbeats 4000000 in
theorem rn_a_ok {i : Instr} {ax : List Nat} {st1 : List Value} {z : rn_E} {k : Nat} (hx : p.tables.exec = Jvm.exec) (hb : c.code = cc) (hts : ∀ w ∈ rn_gw, w.before args s = true) (hown : s.vm.findClass own = some m.cls)
    (hKn : rn_Kn D cA s) (hP : va_P D rn_cls (rn_wl cA ad N h) H) (hD : va_D A (rn_wl cA ad N h)) (hS : va_S A H0 H locs) (hA : ∀ q, H0.size ≤ q → A q)
    (hl : lv_has ls nL (rn_vl ad lv)) (hcl : rn_cl1 N lv) (hcs : rn_cs1 N st) (hh : rn_hc N h) (hN : N < 1000000) (hce : cells + 1 ≤ R.cells) (hsl : slots + k ≤ R.slots)
    (hok : rn_oN own i ax = true) (hd : decode cc pc = .ok (i, rn_ln i)) (hp : rn_a rn_dv i ax st = some (st1, z, k))
    (kk : ∀ (ad2 : Nat → Nat) (H1 : Heap), rn_ag N ad ad2 → va_P D rn_cls (rn_wl cA ad2 (N + 1) (rn_up h N z)) H1 → va_D A (rn_wl cA ad2 (N + 1) (rn_up h N z)) → va_S A H0 H1 locs → rn_hc (N + 1) (rn_up h N z) → lv_has ls nL (rn_vl ad2 lv) → rn_cl1 (N + 1) lv → rn_cs1 (N + 1) (.ref N :: st1) → W p l e R s m args below meth c H1 locs (cells + 1) (slots + k) Q (F0 m (pc + rn_ln i) ls ((.ref N :: st1).map (rn_vv ad2)))) :
    W p l e R s m args below meth c H locs cells slots Q (F0 m pc ls (st.map (rn_vv ad))) := by
  have fin : ∀ (q : Nat) (H1 : Heap) (x : va_E), rn_ev cA (va_up ad N q) z = x → rn_cE (N + 1) z → rn_cs1 N st1 → va_P D rn_cls (rn_wl cA ad N h ++ [(q, x)]) H1 → va_D A (rn_wl cA ad N h ++ [(q, x)]) → va_S A H0 H1 locs → W p l e R s m args below meth c H1 locs (cells + 1) (slots + k) Q (F0 m (pc + rn_ln i) ls (.ref q :: st1.map (rn_vv ad))) := by
    intro q H1 x hxz hz hst g1 g2 g3
    have hag : rn_ag N ad (va_up ad N q) := rn_ag_up hN
    rw [rn_wl_push hN hh hxz] at g1 g2
    have := kk (va_up ad N q) H1 hag g1 g2 g3 (rn_hc_push hh hN hz) (by rw [rn_vl_ag hag hcl]; exact hl) (rn_cl1_up (Nat.le_succ N) hcl) (rn_cs_c (rn_cv_ref.mpr (Or.inl (Nat.lt_succ_self N))) (rn_cs1_up (Nat.le_succ N) hst))
    rw [List.map_cons, rn_vs_ag hag hst] at this
    have e1 : rn_vv (va_up ad N q) (.ref N) = .ref q := by simp [rn_vv, va_up]
    rw [e1] at this
    exact this
  cases i
  all_goals (try (exact absurd (show (none : Option (List Value × rn_E × Nat)) = some (st1, z, k) from hp) (fun q => by cases q)))
  case new idx =>
    simp only [rn_a, rn_oN] at hp hok
    split at hp
    · cases hp
      next ci w1 w2 w3 =>
      obtain ⟨q1, hc1, rfl, o2, o3, o4, hnr⟩ := rn_oNe_some hok
      have hcf := rn_cf_all _ q1 hc1
      refine va_new (C := q1.1) (T := q1.2.1) (N := q1.2.2) hx hb hts hcf.1 (rn_fty ci) hcf.2.1 hown (rn_hw hts o2 rfl) (rn_hw hts o3 rfl) (rn_hw hts o4 rfl) hKn.1 hP hD hS hA hc1 (fs := rn_dv ci) hcf.2.2.2 hce hsl hd (fun q H1 g1 g2 g3 => fin q H1 _ ?_ (fun v hv => rn_cv_nr (hnr v hv)) hcs g1 g2 g3)
      show Sum.inr (ci, (rn_dv ci).map (rn_vv (va_up ad N q))) = Sum.inr (ci, rn_dv ci)
      have e9 : (rn_dv ci).map (rn_vv (va_up ad N q)) = (rn_dv ci).map id := List.map_congr_left fun v hv => rn_vv_nr (hnr v hv)
      rw [e9, List.map_id]
    · cases hp
  case newarray a =>
    simp only [rn_a, rn_oN] at hp hok
    split at hp
    · split at hp
      · next t w x r =>
        split at hp
        · cases hp
        · next hno =>
          cases hp
          have n1 : ¬ x < 0 := fun z => hno (Or.inl z)
          have n2 : x.toNatClampNeg ≤ 1000000 := Nat.le_of_not_lt fun z => hno (Or.inr z)
          rcases rn_oNa_some hok with ⟨rfl, o1, o2⟩ | ⟨rfl, o1, o2⟩ | ⟨rfl, o1, o2⟩
          · refine va_newa (ty := .int) (a0 := (x.toNatClampNeg, .inl (fun _ => 0))) hx hb (by rw [o1]; exact rn_hw hts o2 rfl) o1 hKn.1 hP hD hS hA (fun cA => by first | rfl | (simp [vp_cell, defaultValue]; done)) n1 rfl (by have : componentBytes FieldType.int = 4 := rfl; rw [this]; omega) hce hsl hd (fun q c2 H1 g0 g1 g2 g3 => ?_)
            have hc2 : c2 = cA 0 := rn_last g0 (rn_tys_get rfl)
            subst hc2
            exact fin q H1 _ rfl trivial (rn_cs_t hcs) g1 g2 g3
          · refine va_newa (ty := .long) (a0 := (x.toNatClampNeg, .inr (.inl (fun _ => 0)))) hx hb (by rw [o1]; exact rn_hw hts o2 rfl) o1 hKn.1 hP hD hS hA (fun cA => by first | rfl | (simp [vp_cell, defaultValue]; done)) n1 rfl (by have : componentBytes FieldType.long = 8 := rfl; rw [this]; omega) hce hsl hd (fun q c2 H1 g0 g1 g2 g3 => ?_)
            have hc2 : c2 = cA 1 := rn_last g0 (rn_tys_get rfl)
            subst hc2
            exact fin q H1 _ rfl trivial (rn_cs_t hcs) g1 g2 g3
          · refine va_newa (ty := .boolean) (a0 := (x.toNatClampNeg, .inl (fun _ => 0))) hx hb (by rw [o1]; exact rn_hw hts o2 rfl) o1 hKn.1 hP hD hS hA (fun cA => by first | rfl | (simp [vp_cell, defaultValue]; done)) n1 rfl (by have : componentBytes FieldType.boolean = 1 := rfl; rw [this]; omega) hce hsl hd (fun q c2 H1 g0 g1 g2 g3 => ?_)
            have hc2 : c2 = cA 2 := rn_last g0 (rn_tys_get rfl)
            subst hc2
            exact fin q H1 _ rfl trivial (rn_cs_t hcs) g1 g2 g3
      · cases hp
    · cases hp
  case anewarray idx =>
    simp only [rn_a, rn_oN] at hp hok
    split at hp
    · split at hp
      · next t ci w x r =>
        split at hp
        · cases hp
        · next hno =>
          cases hp
          have n1 : ¬ x < 0 := fun z => hno (Or.inl z)
          have n2 : x.toNatClampNeg ≤ 1000000 := Nat.le_of_not_lt fun z => hno (Or.inr z)
          obtain ⟨q1, t3, rfl, o2, o3⟩ := rn_oNq_some hok
          refine va_newq (C := q1.1) hx hb hown (rn_hw hts o3 rfl) (hKn.2.2 q1.1 (List.mem_of_getElem? o2)) hKn.1 hP hD hS hA n1 rfl (by omega) hce hsl hd (fun q c2 H1 g0 g1 g2 g3 => ?_)
          have hc2 : c2 = cA (t3 + 3) := rn_last g0 (rn_tys_get o2)
          subst hc2
          exact fin q H1 _ rfl (fun i a ha => by cases ha) (rn_cs_t hcs) g1 g2 g3
      · cases hp
    · cases hp
end RN4
end
section
/-! calls -/
def rn_ws (q : rn_M) : List Cond := Cond.code q.1 q.2.1 q.2.2.1 q.2.2.2.1 :: rn_gw
def rn_rm (q : rn_M) (mc ms : Nat) : Room := { frames := q.2.2.2.2.2.2.1, cells := mc, slots := ms, locals := q.2.2.2.2.2.2.2.1 }
def rn_Pc (D : va_G) (cA : Nat → ClassId) (b : Nat) (X : rn_X) (ad : Nat → Nat) (N : Nat) (h : rn_H) (as : List Value) (sz : Nat) : Array Value → State → Prop := fun v U =>
  v = (as.map (rn_vv ad)).toArray ∧ U.heap.size = sz ∧ va_P D rn_cls (rn_wl cA ad N h) U.heap ∧ va_D (fun _ => True) (rn_wl cA ad N h) ∧ rn_Kn D cA U ∧ va_X b X.1 X.2 U U.heap ∧ b < sz ∧ ∀ k, k < N → ad k ≠ b
def rn_Qc (D : va_G) (cA : Nat → ClassId) (ad : Nat → Nat) (N N1 : Nat) (h1 : rn_H) (v : Option Value) (A : Nat → Prop) : Array Value → State → Outcome → State → Prop := fun _ st o t =>
  (∃ ad2 : Nat → Nat, rn_ag N ad ad2 ∧ o = .returned (v.map (rn_vv ad2)) ∧ va_P D rn_cls (rn_wl cA ad2 N1 h1) t.heap ∧ va_D A (rn_wl cA ad2 N1 h1) ∧ rn_hc N1 h1 ∧ ∀ w, v = some w → rn_cv N1 w = true) ∧ va_F A st t
def rn_met (l : Launch) (q : rn_M) (D : va_G) (cA : Nat → ClassId) (b : Nat) (X : rn_X) (ad : Nat → Nat) (N sl N1 sl1 : Nat) (h h1 : rn_H) (as : List Value) (v : Option Value) (sz : Nat) : Prop :=
  Met l q.1 (rn_ws q) (rn_rm q (N1 - N) (sl1 - sl)) (rn_Pc D cA b X ad N h as sz) (rn_Qc D cA ad N N1 h1 v (va_A (rn_wl cA ad N h) sz)) (N1 - N) (sl1 - sl) (va_A (rn_wl cA ad N h) sz)
def rn_oCm (nm : MethodName) (n : Nat) : Bool := plainName nm.cls && decide (nm.cls ≠ "java/lang/invoke/MethodHandle") && decide (nm.cls ≠ "java/lang/invoke/VarHandle") && decide ((parseMethodDescriptor nm.desc).map (fun d => d.parameters.length) = some n)
def rn_isC (c : Nat) (C : String) : Bool := match rn_cls[c]? with
  | some q => decide (q.1 = C)
  | none => false
def rn_oC1 (own : String) (i : Instr) (c : Nat) (ws : List Nat) (k : Nat) (q : rn_M) : Bool := rn_oCm q.1 q.2.2.2.2.2.1 && (match i, k, ws with
  | .invokevirtual idx, 0, [w1, w2, w3, w4, w5] => decide (lw_tbl[w1]? = some (.methodLink own idx q.1)) && decide (lw_tbl[w2]? = some (.instanceMethod q.1)) && decide (lw_tbl[w3]? = some (.selects q.1.cls q.1 q.1)) && decide (lw_tbl[w4]? = some (.initialized q.1.cls)) && decide (lw_tbl[w5]? = some (.code q.1 q.2.1 q.2.2.1 q.2.2.2.1)) && rn_isC c q.1.cls
  | .invokestatic idx, 0, [w1, w2, _, w4, w5] => decide (lw_tbl[w1]? = some (.methodLink own idx q.1)) && decide (lw_tbl[w2]? = some (.static q.1)) && decide (lw_tbl[w4]? = some (.initialized q.1.cls)) && decide (lw_tbl[w5]? = some (.code q.1 q.2.1 q.2.2.1 q.2.2.2.1))
  | .invokestatic idx, 4, [j, w2, _, w4, w5] => decide ((rn_nest[j]?).map (fun x => (x.1, x.2.1, x.2.2.1)) = some (own, idx, q.1)) && decide (lw_tbl[w2]? = some (.static q.1)) && decide (lw_tbl[w4]? = some (.initialized q.1.cls)) && decide (lw_tbl[w5]? = some (.code q.1 q.2.1 q.2.2.1 q.2.2.2.1))
  | .invokespecial idx, 0, [w1, w2, _, w4, w5] => decide (lw_tbl[w1]? = some (.methodLink own idx q.1)) && decide (lw_tbl[w2]? = some (.instanceMethod q.1)) && decide (lw_tbl[w4]? = some (.initialized q.1.cls)) && decide (lw_tbl[w5]? = some (.code q.1 q.2.1 q.2.2.1 q.2.2.2.1)) && decide (q.1.name = "<init>") && decide (q.2.2.2.1 = none)
  | .invokespecial idx, 4, [j, w2, _, w4, w5] => decide ((rn_nest[j]?).map (fun x => (x.1, x.2.1, x.2.2.1)) = some (own, idx, q.1)) && decide (lw_tbl[w2]? = some (.instanceMethod q.1)) && decide (lw_tbl[w4]? = some (.initialized q.1.cls)) && decide (lw_tbl[w5]? = some (.code q.1 q.2.1 q.2.2.1 q.2.2.2.1)) && decide (q.1.name = "<init>") && decide (q.2.2.2.1 = none)
  | _, _, _ => false)
def rn_oC (ms : Nat → Option rn_M) (own : String) (i : Instr) (ax : List Nat) : Bool := match rn_cc i ax with
  | none => true
  | some _ => match ax with
    | k :: z :: c :: ws => match ms z with
      | some q => rn_oC1 own i c ws k q
      | none => false
    | _ => false
theorem rn_gi {q : rn_M} {w : Nat} (h : lw_tbl[w]? = some (.code q.1 q.2.1 q.2.2.1 q.2.2.2.1)) : GoodIn rn_gw (rn_ws q) := by
  intro x hx
  have : x ∈ rn_gw := by
    rcases List.mem_cons.mp hx with rfl | hx
    · exact rn_gm h rfl
    · exact hx
  exact ⟨this, good_of_word (List.mem_filter.mp this).2⟩
theorem rn_nest_at {own : String} {idx j : Nat} {nm : MethodName} {D : va_G} {cA : Nat → ClassId} {s : State} (hKn : rn_Kn D cA s) (h : (rn_nest[j]?).map (fun x => (x.1, x.2.1, x.2.2.1)) = some (own, idx, nm)) : ∃ host : String, va_Nw (.methodLinkNest own idx nm host) s := by
  cases hx : rn_nest[j]? with
  | none => rw [hx] at h; cases h
  | some x =>
    rw [hx] at h
    cases h
    exact ⟨x.2.2.2, hKn.2.1 x (List.mem_of_getElem? hx)⟩
theorem rn_Pc_blind {D : va_G} {cA : Nat → ClassId} {b : Nat} {X : rn_X} {ad : Nat → Nat} {N : Nat} {h : rn_H} {as : List Value} {sz : Nat} : FrameBlind (rn_Pc D cA b X ad N h as sz) := by
  intro a U g mk q
  obtain ⟨q1, q2, q3, q4, q5, q6, q7, q8⟩ := q
  exact ⟨q1, q2, q3, q4, rn_Kn.same rfl q5, va_X.moved (u := U) (U := U.calling g mk a) (Vm.Alike.refl U.vm) q6, q7, q8⟩
section RN5
variable {p : Program} {l : Launch} {e : Env} {R : Room} {s : State} {m : MethodId} {args : Array Value} {below : List Frame} {meth : Method} {c : Code} {H : Heap} {locs : List Loc} {cells slots : Nat} {Q : State → Prop}
variable {cc : ByteArray} {pc n nL : Nat} {ls : Array Slot} {D : va_G} {cA : Nat → ClassId} {ad : Nat → Nat} {N N1 sl sl1 : Nat} {h h1 : rn_H} {A : Nat → Prop} {H0 : Heap} {lv : rn_L} {st as rest : List Value} {own : String} {fr lo b : Nat} {X : rn_X} {v : Option Value}
theorem rn_call {st0 rest0 : List Value} {a : Array Value} {A1 : Nat → Prop} {mc ms : Nat} (hr : va_Run p l e R s m args below meth c H locs cells slots mc ms (F0 m pc ls st0) rest0 (rn_Qc D cA ad N N1 h1 v A1 a) A1) (hS : va_S A H0 H locs) (hf : ∀ q, A1 q → A q)
    (kk : ∀ (ad2 : Nat → Nat) (H1 : Heap) (locs1 : List Loc), rn_ag N ad ad2 → va_P D rn_cls (rn_wl cA ad2 N1 h1) H1 → va_D A (rn_wl cA ad2 N1 h1) → rn_hc N1 h1 → (∀ w, v = some w → rn_cv N1 w = true) → va_S A H0 H1 locs1 → W p l e R s m args below meth c H1 locs1 (cells + mc) (slots + ms) Q (F0 m (pc + 3) ls ((v.map (rn_vv ad2)).toList ++ rest0))) : W p l e R s m args below meth c H locs cells slots Q (F0 m pc ls st0) := by
  intro T hT X
  obtain ⟨v2, st₀, t, T', L, h0, X', hL, e1, e2, ⟨⟨ad2, hag, hv, hP1, hD1, hh1, hv1⟩, hz, hk⟩, st⟩ := hr T hT X
  cases hv
  rw [h0] at hz hk
  obtain ⟨t2, a1, b1⟩ := kk ad2 T'.heap (locs ++ L) hag (by rw [e1]; exact hP1) (hD1.weaken (fun _ q _ hq => hf q.1 hq)) hh1 hv1
    ⟨Nat.le_trans hS.1 (by rw [e1]; exact hz), fun q g1 g2 => by rw [e1, hk q (Nat.lt_of_lt_of_le g1 hS.1) (fun z => g2 (hf q z))]; exact hS.2.1 q g1 g2, fun q hq => by
      rcases List.mem_append.mp hq with g | g
      · exact hS.2.2 q g
      · exact hf _ (hL q g)⟩ T' rfl X'
  exact ⟨t2, st t2 a1, b1⟩
set_option maxHeartbeats 4000000 in
theorem rn_c_ok {ms : Nat → Option rn_M} {i : Instr} {ax : List Nat} {z ci : Nat} {bb : Bool} {q : rn_M} (hx : p.tables.exec = Jvm.exec) (hb : c.code = cc) (hml : c.maxLocals = nL) (hlsz : ls.size = nL) (hts : ∀ w ∈ rn_gw, w.before args s = true) (hown : s.vm.findClass own = some m.cls)
    (hKn : rn_Kn D cA s) (hP : va_P D rn_cls (rn_wl cA ad N h) H) (hD : va_D A (rn_wl cA ad N h)) (hS : va_S A s.heap H locs) (hA : ∀ q, s.heap.size ≤ q → A q) (hX : va_X b X.1 X.2 s s.heap) (hbl : b < s.heap.size) (hbA : ¬ A b)
    (hcs : rn_cs1 N st) (hh : rn_hc N h) (hst : st = as.reverse ++ rest) (hlen : as.length = q.2.2.2.2.2.1 + (bif bb then 1 else 0)) (hrc : bb = true → rn_rc h ci as = true) (h8 : rn_cs rest ≤ 8)
    (hfr : q.2.2.2.2.2.2.1 + 1 ≤ R.frames) (hlo : 19 + q.2.2.1 + q.2.2.2.2.2.2.2.1 ≤ R.locals) (hce : cells + (N1 - N) ≤ R.cells) (hsl : slots + (sl1 - sl) ≤ R.slots)
    (hcc : rn_cc i ax = some (z, bb, ci)) (hq : ms z = some q) (hok : rn_oC ms own i ax = true) (hd : decode cc pc = .ok (i, 3))
    (hM : rn_met l q D cA b X ad N sl N1 sl1 h h1 as v H.size)
    (kk : ∀ (ad2 : Nat → Nat) (H1 : Heap) (locs1 : List Loc), rn_ag N ad ad2 → va_P D rn_cls (rn_wl cA ad2 N1 h1) H1 → va_D A (rn_wl cA ad2 N1 h1) → rn_hc N1 h1 → (∀ w, v = some w → rn_cv N1 w = true) → va_S A s.heap H1 locs1 → W p l e R s m args below meth c H1 locs1 (cells + (N1 - N)) (slots + (sl1 - sl)) Q (F0 m (pc + 3) ls ((v.map (rn_vv ad2)).toList ++ rest.map (rn_vv ad)))) :
    W p l e R s m args below meth c H locs cells slots Q (F0 m pc ls (st.map (rn_vv ad))) := by
  have hab : ∀ k, k < N → ad k ≠ b := fun k hk hb1 => hbA (by
    have := hD.2 k _ (rn_wl_get hk)
    rw [← hb1]
    exact this)
  have hpre : ∀ U : State, U.heap = H → s.WarmedH U.vm → rn_Pc D cA b X ad N h as H.size (as.map (rn_vv ad)).toArray U := fun U hU hW =>
    ⟨rfl, by rw [hU], by rw [hU]; exact hP, hD.weaken (fun _ _ _ _ => trivial), hKn.warm hW, by
      rw [hU]
      exact va_X.moved hW.alike (hX.kept (hS.2.1 b hbl hbA)), Nat.lt_of_lt_of_le hbl hS.1, hab⟩
  have hfree : ∀ x, va_A (rn_wl cA ad N h) H.size x → A x := by
    intro x hx1
    rcases hx1 with ⟨k, e1, hk⟩ | hx1
    · exact hD.2 k _ hk
    · exact hA x (Nat.le_trans hS.1 hx1)
  have hfin : ∀ {rest0 st0 : List Value} {a : Array Value}, rest0 = rest.map (rn_vv ad) → va_Run p l e R s m args below meth c H locs cells slots (N1 - N) (sl1 - sl) (F0 m pc ls st0) rest0 (rn_Qc D cA ad N N1 h1 v (va_A (rn_wl cA ad N h) H.size) a) (va_A (rn_wl cA ad N h) H.size) → W p l e R s m args below meth c H locs cells slots Q (F0 m pc ls st0) := by
    intro rest0 st0 a hre hr
    subst hre
    exact rn_call hr hS hfree kk
  have h8' : 2 * (F0 m pc ls (st.map (rn_vv ad))).monitorRoom + ((rest.map (rn_vv ad)).map fun v => v.category).sum ≤ 8 := lv_room (by rw [rn_cs_map]; exact h8)
  have hS5 : CallFix p m c cc nL s args rn_gw own := ⟨hx, hb, hml, hown, hts⟩
  unfold rn_oC at hok
  rw [hcc] at hok
  simp only at hok
  cases ax with
  | nil => cases i <;> cases hcc
  | cons k ax =>
  cases ax with
  | nil => cases hok
  | cons z2 ax =>
  cases ax with
  | nil => cases hok
  | cons c2 ws =>
  simp only at hok
  have hz : z2 = z ∧ c2 = ci := by
    unfold rn_cc at hcc
    split at hcc <;> first | (cases hcc; done) | (split at hcc <;> first | (cases hcc; done) | (rename_i heq; cases heq; cases hcc; exact ⟨rfl, rfl⟩))
  obtain ⟨rfl, rfl⟩ := hz
  rw [hq] at hok
  simp only at hok
  unfold rn_oC1 at hok
  rw [Bool.and_eq_true] at hok
  obtain ⟨hm, hok⟩ := hok
  unfold rn_oCm at hm
  simp only [Bool.and_eq_true, decide_eq_true_eq] at hm
  obtain ⟨⟨⟨m1, m2⟩, m3⟩, m4⟩ := hm
  have hstk : bb = true → ∃ (q0 : Nat) (fs : List Value) (as1 : List Value), as = .ref q0 :: as1 ∧ h q0 = .inr (c2, fs) ∧ st.map (rn_vv ad) = (as1.map (rn_vv ad)).reverse ++ .ref (ad q0) :: rest.map (rn_vv ad) := by
    intro hbb
    have h1 := hrc hbb
    unfold rn_rc at h1
    split at h1
    · next q0 as1 =>
      split at h1
      · next c1 fs hq0 =>
        have := Nat.eq_of_beq_eq_true h1
        subst this
        exact ⟨q0, fs, as1, rfl, hq0, by rw [hst]; simp [rn_vv]⟩
      · cases h1
    · cases h1
  have hstk2 : st.map (rn_vv ad) = (as.map (rn_vv ad)).reverse ++ rest.map (rn_vv ad) := by rw [hst]; simp
  split at hok
  · next idx w1 w2 w3 w4 w5 =>
    simp only [Bool.and_eq_true, decide_eq_true_eq] at hok
    obtain ⟨⟨⟨⟨⟨o1, o2⟩, o3⟩, o4⟩, o5⟩, o6⟩ := hok
    cases hcc
    obtain ⟨q0, fs, as1, rfl, hq0, hst1⟩ := hstk rfl
    unfold rn_isC at o6
    split at o6
    · next q1 hc1 =>
      have o6 := of_decide_eq_true o6
      have hq0N : q0 < N := rn_lt (r := []) (fun w hw => by
        rw [List.mem_singleton] at hw
        subst hw
        exact hcs _ (by rw [hst]; simp)) hh (by rw [hq0]; intro z; cases z; exact absurd rfl (rn_c999 hc1))
      have hcb : CallB R s args own idx q.1 q.2.1 q.2.2.1 q.2.2.2.1 (rn_ws q) (rn_rm q (N1 - N) (sl1 - sl)) (N1 - N) (sl1 - sl) q.2.2.2.2.2.1 := callB_of _ hts (rn_gi o5) rfl rfl rfl (rn_hw hts o4 rfl) (rn_hw hts o1 rfl) ⟨m2, m3, m4⟩ ⟨hfr, by show 8 + (q.2.2.1 + 11) + q.2.2.2.2.2.2.2.1 ≤ R.locals; omega⟩
      refine hfin rfl (a := (Value.ref (ad q0) :: as1.map (rn_vv ad)).toArray) (va_runV (C := q.1.cls) (b := ad q0) (As := as1.map (rn_vv ad)) hS5 hM ⟨hcb, rn_hw hts o2 rfl, rn_hw hts o3 rfl⟩ ⟨rn_Pc_blind, ?_, hpre⟩ rfl (by simpa using hlen) hlsz hst1 h8' hd ⟨hce, hsl⟩)
      have := va_recv hKn.1 hP hc1 (rn_wl_get hq0N |>.trans (by rw [hq0]; rfl))
      rw [o6] at this
      exact this
    · cases o6
  · next idx w1 w2 _ w4 w5 =>
    simp only [Bool.and_eq_true, decide_eq_true_eq] at hok
    obtain ⟨⟨⟨o1, o2⟩, o4⟩, o5⟩ := hok
    cases hcc
    have hcb : CallB R s args own idx q.1 q.2.1 q.2.2.1 q.2.2.2.1 (rn_ws q) (rn_rm q (N1 - N) (sl1 - sl)) (N1 - N) (sl1 - sl) q.2.2.2.2.2.1 := callB_of _ hts (rn_gi o5) rfl rfl rfl (rn_hw hts o4 rfl) (rn_hw hts o1 rfl) ⟨m2, m3, m4⟩ ⟨hfr, by show 8 + (q.2.2.1 + 11) + q.2.2.2.2.2.2.2.1 ≤ R.locals; omega⟩
    exact hfin rfl (a := (as.map (rn_vv ad)).toArray) (va_runS (As := as.map (rn_vv ad)) hS5 hM ⟨hcb, rn_hw hts o2 rfl⟩ ⟨rn_Pc_blind, hpre⟩ rfl (by simpa using hlen) hlsz hstk2 h8' hd ⟨hce, hsl⟩)
  · next idx j w2 _ w4 w5 =>
    simp only [Bool.and_eq_true, decide_eq_true_eq] at hok
    obtain ⟨⟨⟨o1, o2⟩, o4⟩, o5⟩ := hok
    cases hcc
    obtain ⟨host, hn⟩ := rn_nest_at hKn o1
    have hcb : va_CN R s args own idx q.1 host q.2.1 q.2.2.1 q.2.2.2.1 (rn_ws q) (rn_rm q (N1 - N) (sl1 - sl)) (N1 - N) (sl1 - sl) q.2.2.2.2.2.1 := va_cnB _ hts (rn_gi o5) rfl rfl rfl hn (rn_hw hts o4 rfl) ⟨m2, m3, m4⟩ ⟨hfr, by show 8 + (q.2.2.1 + 11) + q.2.2.2.2.2.2.2.1 ≤ R.locals; omega⟩
    exact hfin rfl (a := (as.map (rn_vv ad)).toArray) (va_runSN (As := as.map (rn_vv ad)) hS5 hM ⟨hcb, rn_hw hts o2 rfl, trivial⟩ ⟨rn_Pc_blind, hpre⟩ rfl (by simpa using hlen) hlsz hstk2 h8' hd ⟨hce, hsl⟩)
  · next idx w1 w2 _ w4 w5 =>
    simp only [Bool.and_eq_true, decide_eq_true_eq] at hok
    obtain ⟨⟨⟨⟨⟨o1, o2⟩, o4⟩, o5⟩, o6⟩, o7⟩ := hok
    cases hcc
    obtain ⟨q0, fs, as1, rfl, hq0, hst1⟩ := hstk rfl
    have hcb : CallB R s args own idx q.1 q.2.1 q.2.2.1 q.2.2.2.1 (rn_ws q) (rn_rm q (N1 - N) (sl1 - sl)) (N1 - N) (sl1 - sl) q.2.2.2.2.2.1 := callB_of _ hts (rn_gi o5) rfl rfl rfl (rn_hw hts o4 rfl) (rn_hw hts o1 rfl) ⟨m2, m3, m4⟩ ⟨hfr, by show 8 + (q.2.2.1 + 11) + q.2.2.2.2.2.2.2.1 ≤ R.locals; omega⟩
    rw [o7] at hcb
    exact hfin rfl (a := (Value.ref (ad q0) :: as1.map (rn_vv ad)).toArray) (va_runI (b := ad q0) (As := as1.map (rn_vv ad)) hS5 hM ⟨hcb, o6, rn_hw hts o2 rfl⟩ ⟨rn_Pc_blind, hpre⟩ rfl (by simpa using hlen) hlsz hst1 h8' hd ⟨hce, hsl⟩)
  · next idx j w2 _ w4 w5 =>
    simp only [Bool.and_eq_true, decide_eq_true_eq] at hok
    obtain ⟨⟨⟨⟨⟨o1, o2⟩, o4⟩, o5⟩, o6⟩, o7⟩ := hok
    cases hcc
    obtain ⟨q0, fs, as1, rfl, hq0, hst1⟩ := hstk rfl
    obtain ⟨host, hn⟩ := rn_nest_at hKn o1
    have hcb : va_CN R s args own idx q.1 host q.2.1 q.2.2.1 q.2.2.2.1 (rn_ws q) (rn_rm q (N1 - N) (sl1 - sl)) (N1 - N) (sl1 - sl) q.2.2.2.2.2.1 := va_cnB _ hts (rn_gi o5) rfl rfl rfl hn (rn_hw hts o4 rfl) ⟨m2, m3, m4⟩ ⟨hfr, by show 8 + (q.2.2.1 + 11) + q.2.2.2.2.2.2.2.1 ≤ R.locals; omega⟩
    rw [o7] at hcb
    exact hfin rfl (a := (Value.ref (ad q0) :: as1.map (rn_vv ad)).toArray) (va_runIN (b := ad q0) (As := as1.map (rn_vv ad)) hS5 hM ⟨hcb, o6, rn_hw hts o2 rfl⟩ ⟨rn_Pc_blind, hpre⟩ rfl (by simpa using hlen) hlsz hst1 h8' hd ⟨hce, hsl⟩)
  · cases hok
end RN5
end
section
/-! a run of the abstract machine is a run of the real one -/
def rn_sw (i : Instr) : Bool := match i with
  | .tableswitch _ _ _ _ => true
  | .lookupswitch _ _ => true
  | _ => false
def rn_nn (i : Instr) : Bool := match i with
  | .tableswitch _ _ _ _ => true
  | .lookupswitch _ _ => true
  | .goto _ => true
  | .ireturn => true
  | .lreturn => true
  | .areturn => true
  | .return_ => true
  | _ => false
def rn_dc (b : ByteArray) (pc : Nat) (i : Instr) : Bool := match decode b pc with
  | .ok (j, n) => decide (j = i) && (rn_sw i || Nat.beq n (rn_ln i))
  | _ => false
theorem rn_dc_some {b : ByteArray} {pc : Nat} {i : Instr} (h : rn_dc b pc i = true) : ∃ n, decode b pc = .ok (i, n) ∧ (rn_sw i = false → n = rn_ln i) := by
  unfold rn_dc at h
  split at h
  · next j n hj =>
    simp only [Bool.and_eq_true, decide_eq_true_eq, Bool.or_eq_true] at h
    obtain ⟨rfl, h2⟩ := h
    refine ⟨n, hj, fun q => ?_⟩
    rcases h2 with h2 | h2
    · rw [q] at h2; cases h2
    · exact Nat.eq_of_beq_eq_true h2
  · cases h
/-- what is checked of a place of a method's table -/
def rn_oE (ms : Nat → Option rn_M) (nm : MethodName) (b : ByteArray) (mL : Nat) (T : List rn_I) (fr lo ini : Nat) (k : Nat) (e : rn_I) : Bool :=
  rn_dc b e.1 e.2.1 && (rn_nn e.2.1 || rn_at T (k + 1) ((e.1 : Int) + rn_ln e.2.1)) && rn_oP nm.cls fr lo e.2.1 e.2.2.2 && rn_oL mL e.2.1 e.2.2.2 && rn_oB T e.1 e.2.1 e.2.2.2 && rn_oW nm.cls (Nat.beq ini 1) fr lo e.2.1 e.2.2.2 && rn_oN nm.cls e.2.1 e.2.2.2 && rn_oC ms nm.cls e.2.1 e.2.2.2
def rn_oT (ms : Nat → Option rn_M) (nm : MethodName) (b : ByteArray) (mL : Nat) (T : List rn_I) (fr lo ini : Nat) : Nat → List rn_I → Bool
  | _, [] => true
  | k, e :: r => rn_oE ms nm b mL T fr lo ini k e && rn_oT ms nm b mL T fr lo ini (k + 1) r
theorem rn_oT_app {ms : Nat → Option rn_M} {nm : MethodName} {b : ByteArray} {mL : Nat} {T : List rn_I} {fr lo ini : Nat} : ∀ (r1 r2 : List rn_I) (k : Nat), rn_oT ms nm b mL T fr lo ini k r1 = true → rn_oT ms nm b mL T fr lo ini (k + r1.length) r2 = true → rn_oT ms nm b mL T fr lo ini k (r1 ++ r2) = true
  | [], r2, k, _, h2 => h2
  | e0 :: r1, r2, k, h1, h2 => by
    unfold rn_oT at h1
    rw [Bool.and_eq_true] at h1
    rw [List.cons_append]
    unfold rn_oT
    rw [h1.1, Bool.true_and]
    refine rn_oT_app r1 r2 (k + 1) h1.2 ?_
    rw [show k + 1 + r1.length = k + (e0 :: r1).length by rw [List.length_cons]; omega]
    exact h2
theorem rn_oT_at {ms : Nat → Option rn_M} {nm : MethodName} {b : ByteArray} {mL : Nat} {T : List rn_I} {fr lo ini : Nat} : ∀ (r : List rn_I) (k j : Nat) (e : rn_I), rn_oT ms nm b mL T fr lo ini k r = true → r[j]? = some e → rn_oE ms nm b mL T fr lo ini (k + j) e = true
  | [], k, j, e, h, hj => by cases hj
  | e0 :: r, k, 0, e, h, hj => by
    cases hj
    unfold rn_oT at h
    exact (Bool.and_eq_true _ _ ▸ h).1
  | e0 :: r, k, j + 1, e, h, hj => by
    unfold rn_oT at h
    have := rn_oT_at r (k + 1) j e (Bool.and_eq_true _ _ ▸ h).2 (by simpa using hj)
    rw [show k + (j + 1) = k + 1 + j by omega]
    exact this
/-- a method's own check -/
def rn_oM (ms : Nat → Option rn_M) (q : rn_M) : Bool := rn_oT ms q.1 q.2.1 q.2.2.1 q.2.2.2.2.1 q.2.2.2.2.2.2.1 q.2.2.2.2.2.2.2.1 q.2.2.2.2.2.2.2.2 0 q.2.2.2.2.1 && (!(Nat.beq q.2.2.2.2.2.2.2.2 1) || decide (q.1.name = "<init>")) && plainName q.1.cls && rn_at q.2.2.2.2.1 0 0
/-- how many locals' words the parameters take is within -/
theorem rn_sp_mono {X : rn_X} {dv : Nat → List Value} {e : rn_I} {k k1 : Nat} {lv lv1 : rn_L} {st st1 : List Value} {N N1 sl sl1 : Nat} {h h1 : rn_H} (hs : rn_sp X dv e (k, lv, st, N, sl, h) = some (k1, lv1, st1, N1, sl1, h1)) : N ≤ N1 ∧ sl ≤ sl1 := by
  obtain ⟨pc, i, kp, ax⟩ := e
  unfold rn_sp at hs
  simp only at hs
  split at hs
  · cases hs; exact ⟨Nat.le_refl _, Nat.le_refl _⟩
  · split at hs
    · cases hs; exact ⟨Nat.le_refl _, Nat.le_refl _⟩
    · split at hs
      · cases hs; exact ⟨Nat.le_refl _, Nat.le_refl _⟩
      · split at hs
        · cases hs; exact ⟨Nat.le_refl _, Nat.le_refl _⟩
        · split at hs
          · split at hs
            · cases hs; exact ⟨Nat.le_succ _, Nat.le_add_right _ _⟩
            · cases hs
          · cases hs
theorem rn_x_mono {X : rn_X} {dv : Nat → List Value} {ms : Nat → Option rn_M} : ∀ (f y k : Nat) (lv : rn_L) (st : List Value) (N sl : Nat) (h : rn_H) (v : Option Value) (N1 sl1 : Nat) (h1 : rn_H), rn_x X dv ms f y (k, lv, st, N, sl, h) = some (v, N1, sl1, h1) → N ≤ N1 ∧ sl ≤ sl1 := by
  intro f
  induction f with
  | zero => intro y k lv st N sl h v N1 sl1 h1 hr; cases hr
  | succ f ih =>
    intro y k lv st N sl h v N1 sl1 h1 hr
    unfold rn_x at hr
    split at hr
    · cases hr
    · split at hr
      · cases hr
      · split at hr
        · next s hs =>
          obtain ⟨k2, lv2, st2, N2, sl2, h2⟩ := s
          have a := rn_sp_mono hs
          have b := ih y k2 lv2 st2 N2 sl2 h2 v N1 sl1 h1 hr
          omega
        · split at hr
          · cases hr; exact ⟨Nat.le_refl _, Nat.le_refl _⟩
          · split at hr
            · cases hr
            · split at hr
              · cases hr
              · split at hr
                · cases hr
                · split at hr
                  · cases hr
                  · next v2 N2 sl2 h2 hz =>
                    have a := ih _ _ _ _ _ _ _ _ _ _ _ hz
                    have b := ih _ _ _ _ _ _ _ _ _ _ _ hr
                    omega
theorem rn_rt_len {i : Instr} {rt : Option FieldType} {st : List Value} {v : Option Value} (h : rn_rt i rt st = some v) : rn_sw i = false ∧ rn_ln i = 1 := by
  cases i <;> first | (cases h; done) | exact ⟨rfl, rfl⟩
theorem rn_rt_inv {i : Instr} {rt : Option FieldType} {st : List Value} {v : Option Value} (h : rn_rt i rt st = some v) : (i = .return_ ∧ rt = none ∧ st = [] ∧ v = none) ∨ (∃ x : Int32, i = .ireturn ∧ (rt = some .int ∨ rt = some .boolean ∧ (x = 0 ∨ x = 1)) ∧ st = [.int x] ∧ v = some (.int x)) ∨ (∃ x : Int64, i = .lreturn ∧ rt = some .long ∧ st = [.long x] ∧ v = some (.long x)) ∨ (∃ (x : Nat) (C : String), i = .areturn ∧ rt = some (.object C) ∧ st = [.ref x] ∧ v = some (.ref x)) := by
  cases i <;> first | (cases h; done) | skip
  case return_ =>
    simp only [rn_rt] at h
    split at h
    · cases h; exact Or.inl ⟨rfl, rfl, rfl, rfl⟩
    · cases h
  case ireturn =>
    simp only [rn_rt] at h
    split at h
    · cases h; exact Or.inr (Or.inl ⟨_, rfl, Or.inl rfl, rfl, rfl⟩)
    · split at h
      · next hx => cases h; exact Or.inr (Or.inl ⟨_, rfl, Or.inr ⟨rfl, hx⟩, rfl, rfl⟩)
      · cases h
    · cases h
  case lreturn =>
    simp only [rn_rt] at h
    split at h
    · cases h; exact Or.inr (Or.inr (Or.inl ⟨_, rfl, rfl, rfl, rfl⟩))
    · cases h
  case areturn =>
    simp only [rn_rt] at h
    split at h
    · cases h; exact Or.inr (Or.inr (Or.inr ⟨_, _, rfl, rfl, rfl, rfl⟩))
    · cases h
theorem rn_rt_cv {i : Instr} {rt : Option FieldType} {st : List Value} {v : Option Value} {N : Nat} (h : rn_rt i rt st = some v) (hs : rn_cs1 N st) : ∀ w, v = some w → rn_cv N w = true := by
  rcases rn_rt_inv h with ⟨-, -, rfl, rfl⟩ | ⟨x, -, -, rfl, rfl⟩ | ⟨x, -, -, rfl, rfl⟩ | ⟨x, C, -, -, rfl, rfl⟩
  · intro w hw; cases hw
  · intro w hw; cases hw; rfl
  · intro w hw; cases hw; rfl
  · intro w hw; cases hw; exact hs _ List.mem_cons_self
theorem rn_sl_len {ad : Nat → Nat} : ∀ (as : List Value), (lg_sl (as.map (rn_vv ad))).length = rn_cs as
  | [] => rfl
  | v :: t => by
    have ih := rn_sl_len (ad := ad) t
    unfold lg_sl at ih ⊢
    simp only [List.map_cons, List.flatMap_cons, List.length_append, rn_vv_cat]
    rw [ih]
    rcases lv_cat v with h | h <;> simp [rn_cs, h]
theorem rn_cs_rev (as : List Value) : rn_cs as.reverse = rn_cs as := by
  simp [rn_cs, List.sum_reverse]
section RN6
variable {p : Program} {l : Launch} {e : Env} {R : Room} {s : State} {m : MethodId} {args : Array Value} {below : List Frame} {meth : Method} {c : Code} {H : Heap} {locs : List Loc} {cells slots : Nat}
theorem rn_fin_ok {cc : ByteArray} {i : Instr} {rt : Option FieldType} {st : List Value} {v : Option Value} {ad : Nat → Nat} {pc : Nat} {ls : Array Slot} {Qc : Array Value → State → Outcome → State → Prop} {free : Addr → Prop} (hx : p.tables.exec = Jvm.exec) (hb : c.code = cc) (hr : meth.sig.returnType = rt) (hlocks : meth.locks = false) (h : rn_rt i rt st = some v) (hd : decode cc pc = .ok (i, 1)) (hf : ∀ q ∈ locs, free q.base)
    (hq : ∀ t : State, t.heap = H → s.WarmedH t.vm → Qc args s (.returned (v.map (rn_vv ad))) t) : W p l e R s m args below meth c H locs cells slots (MQ below Qc args s cells slots free) (F0 m pc ls (st.map (rn_vv ad))) := by
  rcases rn_rt_inv h with ⟨rfl, rfl, rfl, rfl⟩ | ⟨x, rfl, hrt, rfl, rfl⟩ | ⟨x, rfl, rfl, rfl, rfl⟩ | ⟨x, C, rfl, rfl, rfl, rfl⟩
  · exact W.vret hx hb hr hq hf hd hlocks
  · rcases hrt with rfl | ⟨rfl, h01⟩
    · exact W.iret hx hb hr hq hf hd hlocks
    · exact W.zret hx hb hr (by rcases h01 with rfl | rfl <;> decide +kernel) hq hf hd hlocks
  · exact W.lret hx hb hr hq hf hd hlocks
  · exact W.aret (v := .ref (ad x)) hx hb hr (Or.inl ⟨C, rfl⟩) (Or.inr ⟨_, rfl⟩) hq hf hd hlocks
end RN6
end
section
set_option maxHeartbeats 8000000 in
theorem rn_snd {X : rn_X} {ms : Nat → Option rn_M} (hms : ∀ (y : Nat) (q : rn_M), ms y = some q → rn_oM ms q = true) {D : va_G} {cA : Nat → ClassId} {b : Nat} : ∀ (f y k : Nat) (lv : rn_L) (st : List Value) (N sl : Nat) (h : rn_H) (v : Option Value) (N1 sl1 : Nat) (h1 : rn_H), rn_x X rn_dv ms f y (k, lv, st, N, sl, h) = some (v, N1, sl1, h1) →
    ∀ (q : rn_M), ms y = some q → ∀ {p : Program} {l : Launch} {e : Env} {R : Room} {s : State} {m : MethodId} {args : Array Value} {below : List Frame} {meth : Method} {c : Code} {Q : State → Prop},
    p.tables.exec = Jvm.exec → c.code = q.2.1 → c.maxLocals = q.2.2.1 → (∀ w ∈ rn_gw, w.before args s = true) → s.vm.findClass q.1.cls = some m.cls → (q.1.name = "<init>" → meth.name = "<init>") → rn_Kn D cA s → va_X b X.1 X.2 s s.heap → b < s.heap.size → q.2.2.2.2.2.2.1 ≤ R.frames → q.2.2.2.2.2.2.2.1 ≤ R.locals →
    ∀ {ad : Nat → Nat} {A : Nat → Prop} {H : Heap} {locs : List Loc} {ls : Array Slot} {cells slots : Nat}, va_P D rn_cls (rn_wl cA ad N h) H → va_D A (rn_wl cA ad N h) → va_S A s.heap H locs → (∀ q, s.heap.size ≤ q → A q) → ¬ A b → ad 1000000 = b → lv_has ls q.2.2.1 (rn_vl ad lv) → rn_cl1 N lv → rn_cs1 N st → rn_hc N h → cells + (N1 - N) ≤ R.cells → slots + (sl1 - sl) ≤ R.slots →
    (∀ (ad2 : Nat → Nat) (H1 : Heap) (locs1 : List Loc) (ls1 : Array Slot) (e1 : rn_I) (st1 : List Value), rn_ag N ad ad2 → va_P D rn_cls (rn_wl cA ad2 N1 h1) H1 → va_D A (rn_wl cA ad2 N1 h1) → va_S A s.heap H1 locs1 → rn_hc N1 h1 → rn_cs1 N1 st1 → rn_rt e1.2.1 q.2.2.2.1 st1 = some v → decode q.2.1 e1.1 = .ok (e1.2.1, 1) → W p l e R s m args below meth c H1 locs1 (cells + (N1 - N)) (slots + (sl1 - sl)) Q (F0 m e1.1 ls1 (st1.map (rn_vv ad2)))) →
    ∀ e0 : rn_I, q.2.2.2.2.1[k]? = some e0 → W p l e R s m args below meth c H locs cells slots Q (F0 m e0.1 ls (st.map (rn_vv ad))) := by
  intro f
  induction f with
  | zero => intro y k lv st N sl h v N1 sl1 h1 hr; cases hr
  | succ f ih =>
    intro y k lv st N sl h v N1 sl1 h1 hr q hq p l e R s m args below meth c Q hx hb hml hts hown hini hKn hX hbl hfr hlo ad A H locs ls cells slots hP hD hS hA hbA hab hl hcl hcs hh hce hsl kret e0 he0
    obtain ⟨nm, bc, mL, rt, T, np, fr, lo, ini⟩ := q
    simp only at hb hml hown hini hfr hlo hl kret he0
    have hmono := rn_x_mono _ _ _ _ _ _ _ _ _ _ _ _ hr
    unfold rn_x at hr
    rw [hq] at hr
    simp only at hr
    rw [he0] at hr
    simp only at hr
    have hMq := hms y _ hq
    unfold rn_oM at hMq
    simp only [Bool.and_eq_true] at hMq
    obtain ⟨⟨⟨hT, hM2⟩, hM3⟩, hM4⟩ := hMq
    have hE := rn_oT_at T 0 k e0 hT he0
    rw [Nat.zero_add] at hE
    unfold rn_oE at hE
    simp only [Bool.and_eq_true] at hE
    obtain ⟨⟨⟨⟨⟨⟨⟨hdc, hnx⟩, hoP⟩, hoL⟩, hoB⟩, hoW⟩, hoN⟩, hoC⟩ := hE
    obtain ⟨len, hd, hlen⟩ := rn_dc_some hdc
    have hini2 : Nat.beq ini 1 = true → meth.name = "<init>" := fun g => by
      rw [g] at hM2
      simp only [Bool.not_true, Bool.false_or, decide_eq_true_eq] at hM2
      exact hini hM2
    obtain ⟨pc, i, kp, ax⟩ := e0
    simp only at hr hd hlen hnx hoP hoL hoB hoW hoN hoC hdc ⊢
    have hl2 : lv_has ls mL (rn_vl ad (rn_kp kp lv)) := rn_vl_sub hl (fun q hq => rn_kp_sub hq)
    have hcl2 : rn_cl1 N (rn_kp kp lv) := fun q hq => hcl q (rn_kp_sub hq)
    have hlsz : ls.size = mL := hl.1
    have next : rn_nn i = false → ∃ e1, T[k + 1]? = some e1 ∧ e1.1 = pc + rn_ln i := fun g => by
      rw [g, Bool.false_or] at hnx
      obtain ⟨e1, h3, h4⟩ := rn_at_some hnx
      exact ⟨e1, h3, by omega⟩
    split at hr
    · next s2 hs =>
      unfold rn_sp at hs
      simp only at hs
      split at hs
      · next st1 hp =>
        cases hs
        have hnn : rn_nn i = false := by cases i <;> first | rfl | (cases hp; done)
        have hsw : rn_sw i = false := by cases i <;> first | rfl | (cases hp; done)
        obtain ⟨e1, he1, hpc1⟩ := next hnn
        have := hlen hsw
        subst this
        refine rn_p_ok hx hb (hml.trans hlsz.symm) hts hown hKn.1 hP hS hX hbl hbA hab hl2 hcl2 hcs hh hfr hlo (by omega) (by omega) hoP hd hp (fun hcs1 => ?_)
        rw [← hpc1]
        exact ih y _ _ _ _ _ _ _ _ _ _ hr _ hq hx hb hml hts hown hini hKn hX hbl hfr hlo hP hD hS hA hbA hab hl2 hcl2 hcs1 hh hce hsl kret e1 he1
      · split at hs
        · next hp0 k1 st1 hp =>
          cases hs
          refine rn_b_ok (T := T) (k := k + 1) (k1 := k1) (st1 := st1) hx hb hcs (fun g => ?_) hoB hd (fun g => hlen (by cases i <;> first | rfl | (cases g; done))) hp (fun hcs1 e1 he1 => ih y _ _ _ _ _ _ _ _ _ _ hr _ hq hx hb hml hts hown hini hKn hX hbl hfr hlo hP hD hS hA hbA hab hl2 hcl2 hcs1 hh hce hsl kret e1 he1)
          simp only [Bool.or_eq_true] at hnx
          rcases hnx with g2 | g2
          · exfalso
            cases ax with
            | nil => cases hp
            | cons t ts => cases i <;> first | (cases g; done) | (cases g2; done) | (cases hp; done)
          · exact g2
        · next hp0 hb0 =>
          split at hs
          · next lv1 st1 hp =>
            cases hs
            have hnn : rn_nn i = false := by cases i <;> first | rfl | (cases hp; done)
            have hsw : rn_sw i = false := by cases i <;> first | rfl | (cases hp; done)
            obtain ⟨e1, he1, hpc1⟩ := next hnn
            have := hlen hsw
            subst this
            refine rn_l_ok hx hb hl2 hcl2 hcs hoL hd hp (fun ls2 g1 g2 g3 => ?_)
            rw [← hpc1]
            exact ih y _ _ _ _ _ _ _ _ _ _ hr _ hq hx hb hml hts hown hini hKn hX hbl hfr hlo hP hD hS hA hbA hab g1 g2 g3 hh hce hsl kret e1 he1
          · split at hs
            · next st1 h2 hp =>
              cases hs
              have hnn : rn_nn i = false := by cases i <;> first | rfl | (cases hp; done)
              have hsw : rn_sw i = false := by cases i <;> first | rfl | (cases hp; done)
              obtain ⟨e1, he1, hpc1⟩ := next hnn
              have := hlen hsw
              subst this
              refine rn_w_ok hx hb (hml.trans hlsz.symm) hts hown hini2 hKn.1 hP hD hS hcs hh hfr hlo hoW hd hp (fun H1 locs1 g1 g2 g3 g4 g5 => ?_)
              rw [← hpc1]
              exact ih y _ _ _ _ _ _ _ _ _ _ hr _ hq hx hb hml hts hown hini hKn hX hbl hfr hlo g1 g2 g3 hA hbA hab hl2 hcl2 g5 g4 hce hsl kret e1 he1
            · split at hs
              · next st1 z n hp =>
                split at hs
                · next hN =>
                  cases hs
                  have hN := Nat.le_of_ble_eq_true hN
                  have hnn : rn_nn i = false := by cases i <;> first | rfl | (cases hp; done)
                  have hsw : rn_sw i = false := by cases i <;> first | rfl | (cases hp; done)
                  obtain ⟨e1, he1, hpc1⟩ := next hnn
                  have := hlen hsw
                  subst this
                  have hm2 := rn_x_mono _ _ _ _ _ _ _ _ _ _ _ _ hr
                  refine rn_a_ok hx hb hts hown hKn hP hD hS hA hl2 hcl2 hcs hh hN (by omega) (by omega) hoN hd hp (fun ad2 H1 g0 g1 g2 g3 g4 g5 g6 g7 => ?_)
                  rw [← hpc1]
                  refine ih y _ _ _ _ _ _ _ _ _ _ hr _ hq hx hb hml hts hown hini hKn hX hbl hfr hlo g1 g2 g3 hA hbA ?_ g5 g6 g7 g4 (by omega) (by omega) (fun ad3 H2 locs2 ls2 e2 st2 k0 k1 k2 k3 k4 k5 k6 k7 => ?_) e1 he1
                  · rw [g0 1000000 (Or.inr rfl)]; exact hab
                  · have := kret ad3 H2 locs2 ls2 e2 st2 (fun j hj => (k0 j (by omega)).trans (g0 j hj)) k1 k2 k3 k4 k5 k6 k7
                    rw [show cells + 1 + (N1 - (N + 1)) = cells + (N1 - N) by omega, show slots + n + (sl1 - (sl + n)) = slots + (sl1 - sl) by omega]
                    exact this
                · cases hs
              · cases hs
    · next hs =>
      split at hr
      · next v2 hrt =>
        cases hr
        obtain ⟨r1, r2⟩ := rn_rt_len hrt
        have := hlen r1
        subst this
        rw [r2] at hd
        have := kret ad H locs ls (pc, i, kp, ax) st (fun _ _ => rfl) hP hD hS hh hcs hrt hd
        simpa using this
      · split at hr
        · cases hr
        · next z bb ci hcc =>
          split at hr
          · cases hr
          · next nm2 b2 mL2 rt2 T2 n2 fr2 lo2 ini2 hz =>
            split at hr
            · cases hr
            · next hck =>
              simp only [Bool.and_eq_true] at hck
              obtain ⟨⟨⟨⟨⟨c1, c2⟩, c3⟩, c4⟩, c6⟩, c5⟩ := hck
              have c6 := Nat.le_of_ble_eq_true c6
              have c1 := Nat.le_of_ble_eq_true c1
              have c2 := Nat.le_of_ble_eq_true c2
              have c3 := Nat.le_of_ble_eq_true c3
              have c4 := Nat.le_of_ble_eq_true c4
              split at hr
              · cases hr
              · next v2 N2 sl2 h2 hzr =>
                have hnn : rn_nn i = false := by cases i <;> first | rfl | (cases hcc; done)
                have hsw : rn_sw i = false := by cases i <;> first | rfl | (cases hcc; done)
                have hl3 : rn_ln i = 3 := by cases i <;> first | rfl | (cases hcc; done)
                obtain ⟨e1, he1, hpc1⟩ := next hnn
                have := hlen hsw
                subst this
                rw [hl3] at hd hpc1
                have hm1 := rn_x_mono _ _ _ _ _ _ _ _ _ _ _ _ hzr
                have hm2 := rn_x_mono _ _ _ _ _ _ _ _ _ _ _ _ hr
                generalize hkk : (n2 + bif bb then 1 else 0) = kk at *
                have hcsd : rn_cs1 N (st.drop kk) := fun w hw => hcs w (List.mem_of_mem_drop hw)
                have hcst : rn_cs1 N (st.take kk).reverse := fun w hw => hcs w (List.mem_of_mem_take (List.mem_reverse.mp hw))
                have hM : rn_met l (nm2, b2, mL2, rt2, T2, n2, fr2, lo2, ini2) D cA b X ad N sl N2 sl2 h h2 (st.take kk).reverse v2 H.size := by
                  have hMz := hms z _ hz
                  unfold rn_oM at hMz
                  simp only [Bool.and_eq_true] at hMz
                  refine Met.ofW (cc := b2) (maxL := mL2) (ret := rt2) hMz.1.2 rfl ?_
                  intro p' e' s' m' args' below' meth' c' s₁' B hml' hv'
                  obtain ⟨rfl, v1, v2', v3, v4, v5, v6, v7⟩ := hv'
                  have hts' := atoms_spec (ws := rn_ws (nm2, b2, mL2, rt2, T2, n2, fr2, lo2, ini2)) B.pre
                  have hown' : s'.vm.findClass nm2.cls = some m'.cls := findClass_of_methodNamed B.named
                  have hr' := B.returns
                  have hlocks' := B.notSynchronized
                  have hlen0 : (lg_sl (((st.take kk).reverse).map (rn_vv ad))).length ≤ mL2 := by
                    rw [rn_sl_len, rn_cs_rev]
                    exact c6
                  have hl' := lv_entry (((st.take kk).reverse).map (rn_vv ad)) (n := mL2) hlen0
                  rw [lg_entry_eq]
                  rw [rn_vl_args] at hl'
                  have hT0 : ∃ e00, T2[0]? = some e00 ∧ e00.1 = 0 := by
                    obtain ⟨e00, g1, g2⟩ := rn_at_some hMz.2
                    exact ⟨e00, g1, by omega⟩
                  obtain ⟨e00, he00, hpc0⟩ := hT0
                  have hDs : va_D (va_A (rn_wl cA ad N h) H.size) (rn_wl cA ad N h) := hD.self
                  have hgo := ih z 0 (lv_args 0 (st.take kk).reverse) [] N sl h v2 N2 sl2 h2 hzr _ hz (p := p') (l := l) (e := e') (R := (headSpec (rn_ws (nm2, b2, mL2, rt2, T2, n2, fr2, lo2, ini2)) (rn_rm (nm2, b2, mL2, rt2, T2, n2, fr2, lo2, ini2) (N2 - N) (sl2 - sl))).room) (s := s') (m := m') (args := ((st.take kk).reverse.map (rn_vv ad)).toArray) (below := below') (meth := meth') (c := c') (Q := MQ below' (rn_Qc D cA ad N N2 h2 v2 (va_A (rn_wl cA ad N h) H.size)) ((st.take kk).reverse.map (rn_vv ad)).toArray s' (N2 - N) (sl2 - sl) (va_A (rn_wl cA ad N h) H.size)) B.exec B.bytes hml' (fun w hw => hts' w (List.mem_cons_of_mem _ hw)) hown' (fun g => (name_of_methodNamed B.named B.method).1.trans g) v4 v5 (by rw [v1]; exact v6) (Nat.le_refl _) (Nat.le_refl _) (ad := ad) (A := va_A (rn_wl cA ad N h) H.size) (H := s'.heap) (locs := []) (cells := 0) (slots := 0) v2' hDs va_S.rf (fun q0 hq0 => Or.inr (by rw [← v1]; exact hq0)) ?_ hab hl' (rn_cl1_args _ _ hcst) (fun w hw => by cases hw) hh (by show 0 + (N2 - N) ≤ N2 - N; omega) (by show 0 + (sl2 - sl) ≤ sl2 - sl; omega) ?_ e00 he00
                  · rw [hpc0] at hgo
                    exact hgo
                  · rintro (⟨k9, e9, hk9⟩ | hk9)
                    · obtain ⟨hk1, hk2⟩ := rn_wl_some hk9
                      cases hk2
                      exact v7 k9 hk1 rfl
                    · omega
                  · intro ad2 H1 locs1 ls1 e2 st2 k0 k1 k2 k3 k4 k5 k6 k7
                    rw [Nat.zero_add, Nat.zero_add]
                    exact rn_fin_ok B.exec B.bytes hr' hlocks' k6 k7 k3.2.2 (fun t ht hW => ⟨⟨ad2, k0, rfl, by rw [ht]; exact k1, k2, k4, rn_rt_cv k6 k5⟩, va_S.F k3 ht⟩)
                refine rn_c_ok (v := v2) (N1 := N2) (sl1 := sl2) (h1 := h2) (sl := sl) hx hb hml hlsz hts hown hKn hP hD hS hA hX hbl hbA hcs hh (as := (st.take kk).reverse) (rest := st.drop kk) (by rw [List.reverse_reverse, List.take_append_drop]) (by simp; omega) ?_ c4 (by show fr2 + 1 ≤ R.frames; omega) (by show 19 + mL2 + lo2 ≤ R.locals; omega) (by omega) (by omega) hcc hz hoC hd hM (fun ad2 H1 locs1 g0 g1 g2 g3 g4 g5 => ?_)
                · intro hbb
                  subst hbb
                  simp only [Bool.not_true, Bool.false_or] at c5
                  rw [← hkk]
                  exact c5
                · rw [← hpc1]
                  rw [← rn_vs_ag g0 hcsd]
                  have e9 : (v2.map (rn_vv ad2)).toList ++ (st.drop kk).map (rn_vv ad2) = (v2.toList ++ st.drop kk).map (rn_vv ad2) := by cases v2 <;> rfl
                  rw [e9]
                  refine ih y _ _ _ _ _ _ _ _ _ _ hr _ hq hx hb hml hts hown hini hKn hX hbl hfr hlo g1 g2 g5 hA hbA ?_ (by rw [rn_vl_ag g0 hcl2]; exact hl2) (rn_cl1_up hm1.1 hcl2) ?_ g3 (by omega) (by omega) (fun ad3 H2 locs2 ls2 e2 st2 k0 k1 k2 k3 k4 k5 k6 k7 => ?_) e1 he1
                  · rw [g0 1000000 (Or.inr rfl)]; exact hab
                  · intro w hw
                    rcases List.mem_append.mp hw with hw | hw
                    · exact g4 w (by cases v2 with
                        | none => cases hw
                        | some x => rw [Option.toList_some, List.mem_singleton] at hw; rw [hw])
                    · exact rn_cs1_up hm1.1 hcsd w hw
                  · have := kret ad3 H2 locs2 ls2 e2 st2 (fun j hj => (k0 j (by omega)).trans (g0 j hj)) k1 k2 k3 k4 k5 k6 k7
                    rw [show cells + (N2 - N) + (N1 - N2) = cells + (N1 - N) by omega, show slots + (sl2 - sl) + (sl1 - sl2) = slots + (sl1 - sl) by omega]
                    exact this
end
section
/-! the methods' tables (pc, instruction, locals kept, places of words) and their checks -/
/-- 0: RecordNiches.<init>()V -/
def rn_t0 : List rn_I := [(0, .aload_n 0, [], []), (1, .invokespecial 1, [], [3, 82, 83, 84]), (4, .aload_n 0, [], []), (5, .new 7, [], [1, 5, 85, 86, 66]), (8, .dup, [], []), (9, .invokespecial 9, [], [0, 112, 1, 87, 88, 0, 66, 89]), (12, .putfield 10, [], [8, 0, 2, 353]), (15, .aload_n 0, [], []), (16, .iconst (2), [], [0, 2]), (17, .anewarray 7, [], [3, 1, 85]), (20, .putfield 16, [], [8, 1, 2, 354]), (23, .aload_n 0, [], []), (24, .iconst (2), [], [0, 2]), (25, .newarray .boolean, [], [2, 170]), (27, .putfield 20, [], [8, 2, 2, 355]), (30, .aload_n 0, [], []), (31, .new 24, [], [0, 2, 136, 137, 68]), (34, .dup, [], []), (35, .invokespecial 26, [], [0, 109, 0, 138, 139, 0, 68, 140]), (38, .putfield 27, [], [8, 3, 2, 356]), (41, .aload_n 0, [], []), (42, .new 31, [], [7, 16, 179, 180, 70]), (45, .dup, [], []), (46, .invokespecial 33, [], [0, 153, 7, 181, 182, 0, 70, 183]), (49, .putfield 34, [], [8, 4, 2, 357]), (52, .aload_n 0, [], []), (53, .new 38, [], [6, 2, 338, 339, 72]), (56, .dup, [], []), (57, .invokespecial 40, [], [4, 144, 6, 3, 341, 0, 72, 342]), (60, .putfield 41, [], [8, 5, 2, 358]), (63, .iconst (0), [], [0, 0]), (64, .istore_n 1, [], []), (65, .iload_n 1, [0, 1], []), (66, .iconst (2), [], [0, 2]), (67, .if_icmp .ge (22), [], [44]), (70, .aload_n 0, [], []), (71, .getfield 16, [], [8, 1, 354]), (74, .iload_n 1, [], []), (75, .new 7, [], [1, 5, 85, 86, 66]), (78, .dup, [], []), (79, .invokespecial 9, [], [0, 112, 1, 87, 88, 0, 66, 89]), (82, .aastore, [], [3, 1]), (83, .iinc 1 (1), [], [0, 1]), (86, .goto (-21), [], [32]), (89, .return_, [999], [])]
def rn_q0 : rn_M := (yX8_init, cX8_init, 2, none, rn_t0, 0, 3, 61, 1)
/-- 1: RecordNiches.say(II)I -/
def rn_t1 : List rn_I := [(0, .iload_n 1, [], []), (1, .invokestatic 45, [], [0, 22, 8, 376, 377, 0, 65, 378]), (4, .ifCond .ne (5), [], [5]), (7, .iconst (-1), [], [1, 1]), (8, .ireturn, [], []), (9, .iload_n 2, [], []), (10, .bipush (33), [], [0, 33]), (12, .if_icmp .lt (9), [], [11]), (15, .iload_n 2, [], []), (16, .bipush (126), [], [0, 126]), (18, .if_icmp .le (6), [], [13]), (21, .bipush (-2), [999], [1, 2]), (23, .ireturn, [], []), (24, .aload_n 0, [], []), (25, .getfield 10, [], [8, 0, 353]), (28, .getfield 49, [], [1, 0, 112]), (31, .iload_n 1, [], []), (32, .aaload, [], [6]), (33, .astore_n 3, [], []), (34, .aload_n 3, [], []), (35, .getfield 53, [], [5, 1, 102]), (38, .bipush (40), [], [0, 40]), (40, .if_icmp .lt (6), [], [25]), (43, .bipush (-4), [], [1, 4]), (45, .ireturn, [], []), (46, .aload_n 3, [], []), (47, .iload_n 2, [], []), (48, .invokevirtual 59, [], [0, 140, 5, 379, 380, 381, 67, 382]), (51, .aload_n 3, [], []), (52, .getfield 53, [], [5, 1, 102]), (55, .ireturn, [], [])]
def rn_q1 : rn_M := (yX8_say, cX8_say, 4, some .int, rn_t1, 2, 1, 21, 0)
/-- 2: RecordNiches.wipe(I)I -/
def rn_t2 : List rn_I := [(0, .iload_n 1, [], []), (1, .invokestatic 45, [], [0, 22, 8, 376, 377, 0, 65, 378]), (4, .ifCond .ne (5), [], [5]), (7, .iconst (-1), [], [1, 1]), (8, .ireturn, [], []), (9, .aload_n 0, [], []), (10, .getfield 10, [], [8, 0, 353]), (13, .getfield 49, [], [1, 0, 112]), (16, .iload_n 1, [], []), (17, .aaload, [], [6]), (18, .getfield 53, [], [5, 1, 102]), (21, .istore_n 2, [], []), (22, .aload_n 0, [], []), (23, .getfield 10, [], [8, 0, 353]), (26, .getfield 49, [], [1, 0, 112]), (29, .iload_n 1, [], []), (30, .aaload, [], [6]), (31, .iconst (0), [], [0, 0]), (32, .putfield 53, [], [5, 1, 0, 102]), (35, .iload_n 2, [], []), (36, .ireturn, [], [])]
def rn_q2 : rn_M := (yX8_wipe, cX8_wipe, 3, some .int, rn_t2, 1, 1, 20, 0)
/-- 3: RecordNiches.fault(I)I -/
def rn_t3 : List rn_I := [(0, .iload_n 1, [], []), (1, .invokestatic 45, [], [0, 22, 8, 376, 377, 0, 65, 378]), (4, .ifCond .ne (5), [], [5]), (7, .iconst (-1), [], [1, 1]), (8, .ireturn, [], []), (9, .aload_n 0, [], []), (10, .getfield 27, [], [8, 3, 356]), (13, .getfield 63, [], [0, 0, 172]), (16, .iload_n 1, [], []), (17, .aaload, [], [5]), (18, .astore_n 2, [], []), (19, .aload_n 2, [], []), (20, .aload_n 0, [], []), (21, .getfield 10, [], [8, 0, 353]), (24, .iload_n 1, [], []), (25, .invokevirtual 67, [], [0, 134, 4, 391, 392, 393, 69, 394]), (28, .aload_n 2, [], []), (29, .getfield 73, [], [4, 0, 151]), (32, .ireturn, [], [])]
def rn_q3 : rn_M := (yX8_fault, cX8_fault, 3, some .int, rn_t3, 1, 4, 96, 0)
/-- 4: RecordNiches.way(I)I -/
def rn_t4 : List rn_I := [(0, .iload_n 1, [], []), (1, .ifCond .lt (8), [], [5]), (4, .iload_n 1, [], []), (5, .iconst (1), [], [0, 1]), (6, .if_icmp .le (6), [], [7]), (9, .bipush (-2), [999], [1, 2]), (11, .ireturn, [], []), (12, .aload_n 0, [], []), (13, .getfield 10, [], [8, 0, 353]), (16, .getfield 76, [], [1, 4, 123]), (19, .istore_n 2, [], []), (20, .aload_n 0, [], []), (21, .getfield 10, [], [8, 0, 353]), (24, .iload_n 1, [], []), (25, .putfield 76, [], [1, 4, 0, 123]), (28, .iload_n 2, [], []), (29, .ireturn, [], [])]
def rn_q4 : rn_M := (yX8_way, cX8_way, 3, some .int, rn_t4, 1, 0, 0, 0)
/-- 5: RecordNiches.layout(III)I -/
def rn_t5 : List rn_I := [(0, .aload_n 0, [], []), (1, .iload_n 1, [], []), (2, .iload_n 2, [], []), (3, .invokevirtual 79, [], [0, 23, 8, 422, 424, 3, 65, 425]), (6, .ifCond .ne (5), [], [7]), (9, .iconst (-1), [], [1, 1]), (10, .ireturn, [], []), (11, .iload_n 3, [], []), (12, .ifCond .lt (9), [], [12]), (15, .iload_n 3, [], []), (16, .bipush (6), [], [0, 6]), (18, .if_icmp .le (6), [], [14]), (21, .bipush (-2), [999], [1, 2]), (23, .ireturn, [], []), (24, .aload_n 0, [], []), (25, .iload_n 1, [], []), (26, .iload_n 2, [], []), (27, .invokevirtual 83, [], [0, 24, 8, 432, 434, 4, 65, 435]), (30, .istore 4, [], []), (32, .iload 4, [], []), (34, .ifCond .eq (6), [], [23]), (37, .iload 4, [], []), (39, .ireturn, [], []), (40, .aload_n 0, [], []), (41, .getfield 34, [], [8, 4, 357]), (44, .invokevirtual 87, [], [0, 154, 7, 535, 536, 537, 70, 538]), (47, .astore 5, [], []), (49, .iload_n 3, [], []), (50, .ifCond .ne (9), [], [32]), (53, .aload 5, [], []), (55, .getfield 91, [], [3, 5, 213]), (58, .ireturn, [], []), (59, .iload_n 3, [], []), (60, .iconst (1), [], [0, 1]), (61, .if_icmp .ne (9), [], [38]), (64, .aload 5, [], []), (66, .getfield 96, [], [3, 6, 217]), (69, .ireturn, [], []), (70, .iload_n 3, [], []), (71, .bipush (6), [], [0, 6]), (73, .if_icmp .ne (11), [], [45]), (76, .aload_n 0, [], []), (77, .getfield 34, [], [8, 4, 357]), (80, .getfield 99, [], [7, 0, 289]), (83, .ireturn, [], []), (84, .aload 5, [], []), (86, .getfield 100, [], [3, 11, 234]), (89, .ifCond .ne (6), [], [50]), (92, .bipush (-6), [], [1, 6]), (94, .ireturn, [], []), (95, .iload_n 3, [], []), (96, .iconst (2), [], [0, 2]), (97, .if_icmp .ne (9), [], [56]), (100, .aload 5, [], []), (102, .getfield 103, [], [3, 8, 224]), (105, .ireturn, [], []), (106, .iload_n 3, [], []), (107, .iconst (3), [], [0, 3]), (108, .if_icmp .ne (9), [], [62]), (111, .aload 5, [], []), (113, .getfield 106, [], [3, 9, 228]), (116, .ireturn, [], []), (117, .iload_n 3, [], []), (118, .iconst (4), [], [0, 4]), (119, .if_icmp .ne (11), [], [68]), (122, .aload 5, [], []), (124, .getfield 109, [], [3, 10, 231]), (127, .goto (8), [], [70]), (130, .aload 5, [], []), (132, .getfield 100, [], [3, 11, 234]), (135, .ireturn, [999], [])]
def rn_q5 : rn_M := (yX8_layout, cX8_layout, 6, some .int, rn_t5, 3, 6, 143, 0)
/-- 6: RecordNiches.term(IIII)I -/
def rn_t6 : List rn_I := [(0, .aload_n 0, [], []), (1, .iload_n 1, [], []), (2, .iload_n 2, [], []), (3, .invokevirtual 79, [], [0, 23, 8, 422, 424, 3, 65, 425]), (6, .ifCond .ne (5), [], [7]), (9, .iconst (-1), [], [1, 1]), (10, .ireturn, [], []), (11, .iload 4, [], []), (13, .ifCond .lt (9), [], [12]), (16, .iload 4, [], []), (18, .iconst (3), [], [0, 3]), (19, .if_icmp .le (6), [], [14]), (22, .bipush (-2), [999], [1, 2]), (24, .ireturn, [], []), (25, .aload_n 0, [], []), (26, .iload_n 1, [], []), (27, .iload_n 2, [], []), (28, .invokevirtual 83, [], [0, 24, 8, 432, 434, 4, 65, 435]), (31, .istore 5, [], []), (33, .iload 5, [], []), (35, .ifCond .eq (6), [], [23]), (38, .iload 5, [], []), (40, .ireturn, [], []), (41, .aload_n 0, [], []), (42, .getfield 34, [], [8, 4, 357]), (45, .invokevirtual 87, [], [0, 154, 7, 535, 536, 537, 70, 538]), (48, .astore 6, [], []), (50, .iload_n 3, [], []), (51, .ifCond .lt (12), [], [33]), (54, .iload_n 3, [], []), (55, .aload 6, [], []), (57, .getfield 112, [], [3, 1, 200]), (60, .if_icmp .lt (6), [], [35]), (63, .bipush (-6), [999], [1, 6]), (65, .ireturn, [], []), (66, .aload 6, [], []), (68, .getfield 113, [], [3, 0, 196]), (71, .iload_n 3, [], []), (72, .aaload, [], [4]), (73, .astore 7, [], []), (75, .iload 4, [], []), (77, .ifCond .ne (9), [], [45]), (80, .aload 7, [], []), (82, .getfield 117, [], [3, 7, 219]), (85, .ireturn, [], []), (86, .iload 4, [], []), (88, .iconst (1), [], [0, 1]), (89, .if_icmp .ne (9), [], [51]), (92, .aload 7, [], []), (94, .getfield 91, [], [3, 5, 213]), (97, .ireturn, [], []), (98, .iload 4, [], []), (100, .iconst (2), [], [0, 2]), (101, .if_icmp .ne (11), [], [57]), (104, .aload 7, [], []), (106, .getfield 96, [], [3, 6, 217]), (109, .goto (8), [], [59]), (112, .aload 7, [], []), (114, .getfield 120, [], [3, 4, 208]), (117, .ireturn, [999], [])]
def rn_q6 : rn_M := (yX8_term, cX8_term, 8, some .int, rn_t6, 4, 6, 143, 0)
/-- 7: RecordNiches.variant(III)I -/
def rn_t7 : List rn_I := [(0, .aload_n 0, [], []), (1, .iload_n 1, [], []), (2, .iload_n 2, [], []), (3, .invokevirtual 79, [], [0, 23, 8, 422, 424, 3, 65, 425]), (6, .ifCond .ne (5), [], [7]), (9, .iconst (-1), [], [1, 1]), (10, .ireturn, [], []), (11, .iload_n 3, [], []), (12, .ifCond .lt (8), [], [12]), (15, .iload_n 3, [], []), (16, .iconst (1), [], [0, 1]), (17, .if_icmp .le (6), [], [14]), (20, .bipush (-2), [999], [1, 2]), (22, .ireturn, [], []), (23, .aload_n 0, [], []), (24, .iload_n 1, [], []), (25, .iload_n 2, [], []), (26, .invokevirtual 83, [], [0, 24, 8, 432, 434, 4, 65, 435]), (29, .istore 4, [], []), (31, .iload 4, [], []), (33, .ifCond .eq (6), [], [23]), (36, .iload 4, [], []), (38, .ireturn, [], []), (39, .aload_n 0, [], []), (40, .getfield 34, [], [8, 4, 357]), (43, .invokevirtual 87, [], [0, 154, 7, 535, 536, 537, 70, 538]), (46, .astore 5, [], []), (48, .aload 5, [], []), (50, .getfield 120, [], [3, 4, 208]), (53, .bipush (6), [], [0, 6]), (55, .if_icmp .eq (6), [], [33]), (58, .bipush (-6), [], [1, 6]), (60, .ireturn, [], []), (61, .iload_n 3, [], []), (62, .ifCond .ne (9), [], [38]), (65, .aload 5, [], []), (67, .getfield 123, [], [3, 12, 237]), (70, .ireturn, [], []), (71, .aload 5, [], []), (73, .getfield 123, [], [3, 12, 237]), (76, .iconst (1), [], [0, 1]), (77, .if_icmp .ne (11), [], [45]), (80, .aload 5, [], []), (82, .getfield 126, [], [3, 13, 240]), (85, .goto (5), [], [46]), (88, .bipush (-6), [], [1, 6]), (90, .ireturn, [999], [])]
def rn_q7 : rn_M := (yX8_variant, cX8_variant, 6, some .int, rn_t7, 3, 6, 143, 0)
/-- 8: RecordNiches.pattern(III)I -/
def rn_t8 : List rn_I := [(0, .aload_n 0, [], []), (1, .iload_n 1, [], []), (2, .iload_n 2, [], []), (3, .invokevirtual 79, [], [0, 23, 8, 422, 424, 3, 65, 425]), (6, .ifCond .ne (5), [], [7]), (9, .iconst (-1), [], [1, 1]), (10, .ireturn, [], []), (11, .aload_n 0, [], []), (12, .iload_n 1, [], []), (13, .iload_n 2, [], []), (14, .invokevirtual 83, [], [0, 24, 8, 432, 434, 4, 65, 435]), (17, .istore 4, [], []), (19, .iload 4, [], []), (21, .ifCond .eq (6), [], [16]), (24, .iload 4, [], []), (26, .ireturn, [], []), (27, .aload_n 0, [], []), (28, .getfield 34, [], [8, 4, 357]), (31, .invokevirtual 87, [], [0, 154, 7, 535, 536, 537, 70, 538]), (34, .astore 5, [], []), (36, .aload 5, [], []), (38, .getfield 120, [], [3, 4, 208]), (41, .bipush (6), [], [0, 6]), (43, .if_icmp .ne (16), [], [30]), (46, .iload_n 3, [], []), (47, .ifCond .lt (12), [], [30]), (50, .iload_n 3, [], []), (51, .aload 5, [], []), (53, .getfield 112, [], [3, 1, 200]), (56, .if_icmp .lt (6), [], [32]), (59, .bipush (-6), [999], [1, 6]), (61, .ireturn, [], []), (62, .aload 5, [], []), (64, .getfield 113, [], [3, 0, 196]), (67, .iload_n 3, [], []), (68, .aaload, [], [4]), (69, .getfield 129, [], [3, 14, 245]), (72, .ireturn, [], [])]
def rn_q8 : rn_M := (yX8_pattern, cX8_pattern, 6, some .int, rn_t8, 3, 6, 143, 0)
/-- 9: RecordNiches.least(II)I -/
def rn_t9 : List rn_I := [(0, .aload_n 0, [], []), (1, .iload_n 1, [], []), (2, .iload_n 2, [], []), (3, .invokevirtual 79, [], [0, 23, 8, 422, 424, 3, 65, 425]), (6, .ifCond .ne (5), [], [7]), (9, .iconst (-1), [], [1, 1]), (10, .ireturn, [], []), (11, .aload_n 0, [], []), (12, .iload_n 1, [], []), (13, .iload_n 2, [], []), (14, .invokevirtual 83, [], [0, 24, 8, 432, 434, 4, 65, 435]), (17, .istore_n 3, [], []), (18, .iload_n 3, [], []), (19, .ifCond .eq (5), [], [16]), (22, .iload_n 3, [], []), (23, .ireturn, [], []), (24, .aload_n 0, [], []), (25, .getfield 34, [], [8, 4, 357]), (28, .invokevirtual 87, [], [0, 154, 7, 535, 536, 537, 70, 538]), (31, .astore 4, [], []), (33, .aload 4, [], []), (35, .getfield 120, [], [3, 4, 208]), (38, .iconst (5), [], [0, 5]), (39, .if_icmp .eq (6), [], [26]), (42, .bipush (-6), [], [1, 6]), (44, .ireturn, [], []), (45, .iconst (0), [], [0, 0]), (46, .istore 5, [], []), (48, .iconst (0), [], [0, 0]), (49, .istore 6, [], []), (51, .iload 6, [4, 5, 6], []), (53, .aload 4, [], []), (55, .getfield 112, [], [3, 1, 200]), (58, .if_icmp .ge (25), [], [44]), (61, .iload 5, [], []), (63, .aload 4, [], []), (65, .getfield 113, [], [3, 0, 196]), (68, .iload 6, [], []), (70, .aaload, [], [4]), (71, .getfield 91, [], [3, 5, 213]), (74, .iadd, [], []), (75, .istore 5, [], []), (77, .iinc 6 (1), [], [0, 1]), (80, .goto (-29), [], [30]), (83, .iload 5, [4, 5], []), (85, .aload 4, [], []), (87, .getfield 96, [], [3, 6, 217]), (90, .invokestatic 132, [], [0, 26, 8, 555, 514, 0, 65, 515]), (93, .ireturn, [], [])]
def rn_q9 : rn_M := (yX8_least, cX8_least, 7, some .int, rn_t9, 2, 6, 143, 0)
/-- 10: RecordNiches.idle(II)I -/
def rn_t10 : List rn_I := [(0, .aload_n 0, [], []), (1, .iload_n 1, [], []), (2, .iload_n 2, [], []), (3, .invokevirtual 79, [], [0, 23, 8, 422, 424, 3, 65, 425]), (6, .ifCond .ne (5), [], [7]), (9, .iconst (-1), [], [1, 1]), (10, .ireturn, [], []), (11, .aload_n 0, [], []), (12, .iload_n 1, [], []), (13, .iload_n 2, [], []), (14, .invokevirtual 83, [], [0, 24, 8, 432, 434, 4, 65, 435]), (17, .istore_n 3, [], []), (18, .iload_n 3, [], []), (19, .ifCond .eq (5), [], [16]), (22, .iload_n 3, [], []), (23, .ireturn, [], []), (24, .aload_n 0, [], []), (25, .getfield 34, [], [8, 4, 357]), (28, .invokevirtual 135, [], [0, 163, 7, 560, 561, 562, 70, 563]), (31, .ireturn, [], [])]
def rn_q10 : rn_M := (yX8_idle, cX8_idle, 4, some .int, rn_t10, 2, 6, 143, 0)
/-- 11: RecordNiches.give(J)I -/
def rn_t11 : List rn_I := [(0, .lload_n 1, [], []), (1, .lconst 0, [], [0, 0]), (2, .lcmp, [], []), (3, .ifCond .lt (11), [], [8]), (6, .lload_n 1, [], []), (7, .ldc2_w 139, [], [0, 4294967295, 576]), (10, .lcmp, [], []), (11, .ifCond .le (6), [], [10]), (14, .bipush (-2), [999], [1, 2]), (16, .ireturn, [], []), (17, .aload_n 0, [], []), (18, .getfield 10, [], [8, 0, 353]), (21, .getfield 141, [], [1, 3, 121]), (24, .bipush (60), [], [0, 60]), (26, .if_icmp .lt (6), [], [17]), (29, .bipush (-4), [], [1, 4]), (31, .ireturn, [], []), (32, .aload_n 0, [], []), (33, .getfield 10, [], [8, 0, 353]), (36, .getfield 144, [], [1, 1, 116]), (39, .aload_n 0, [], []), (40, .getfield 10, [], [8, 0, 353]), (43, .getfield 141, [], [1, 3, 121]), (46, .lload_n 1, [], []), (47, .lastore, [], []), (48, .aload_n 0, [], []), (49, .getfield 10, [], [8, 0, 353]), (52, .dup, [], []), (53, .getfield 141, [], [1, 3, 121]), (56, .iconst (1), [], [0, 1]), (57, .iadd, [], []), (58, .putfield 141, [], [1, 3, 0, 121]), (61, .aload_n 0, [], []), (62, .getfield 10, [], [8, 0, 353]), (65, .getfield 141, [], [1, 3, 121]), (68, .ireturn, [], [])]
def rn_q11 : rn_M := (yX8_give, cX8_give, 3, some .int, rn_t11, 1, 0, 0, 0)
/-- 12: RecordNiches.drop()I -/
def rn_t12 : List rn_I := [(0, .aload_n 0, [], []), (1, .getfield 10, [], [8, 0, 353]), (4, .getfield 141, [], [1, 3, 121]), (7, .istore_n 1, [], []), (8, .aload_n 0, [], []), (9, .getfield 10, [], [8, 0, 353]), (12, .iconst (0), [], [0, 0]), (13, .putfield 141, [], [1, 3, 0, 121]), (16, .iload_n 1, [], []), (17, .ireturn, [], [])]
def rn_q12 : rn_M := (yX8_drop, cX8_drop, 2, some .int, rn_t12, 0, 0, 0, 0)
/-- 13: RecordNiches.given(I)J -/
def rn_t13 : List rn_I := [(0, .iload_n 1, [], []), (1, .iconst (-1), [], [1, 1]), (2, .if_icmp .ne (12), [], [8]), (5, .aload_n 0, [], []), (6, .getfield 10, [], [8, 0, 353]), (9, .getfield 141, [], [1, 3, 121]), (12, .i2l, [], []), (13, .lreturn, [], []), (14, .iload_n 1, [], []), (15, .ifCond .lt (14), [], [15]), (18, .iload_n 1, [], []), (19, .aload_n 0, [], []), (20, .getfield 10, [], [8, 0, 353]), (23, .getfield 141, [], [1, 3, 121]), (26, .if_icmp .lt (7), [], [17]), (29, .ldc2_w 148, [999], [1, 6, 585]), (32, .lreturn, [], []), (33, .aload_n 0, [], []), (34, .getfield 10, [], [8, 0, 353]), (37, .getfield 144, [], [1, 1, 116]), (40, .iload_n 1, [], []), (41, .laload, [], []), (42, .lreturn, [], [])]
def rn_q13 : rn_M := (yX8_given, cX8_given, 2, some .long, rn_t13, 1, 0, 0, 0)
/-- 14: RecordNiches.write(III)I -/
def rn_t14 : List rn_I := [(0, .aload_n 0, [], []), (1, .iload_n 1, [], []), (2, .iload_n 2, [], []), (3, .invokevirtual 79, [], [0, 23, 8, 422, 424, 3, 65, 425]), (6, .ifCond .ne (5), [], [7]), (9, .iconst (-1), [], [1, 1]), (10, .ireturn, [], []), (11, .aload_n 0, [], []), (12, .iload_n 1, [], []), (13, .iload_n 2, [], []), (14, .invokevirtual 83, [], [0, 24, 8, 432, 434, 4, 65, 435]), (17, .istore 4, [], []), (19, .iload 4, [], []), (21, .ifCond .eq (6), [], [16]), (24, .iload 4, [], []), (26, .ireturn, [], []), (27, .aload_n 0, [], []), (28, .iload_n 3, [], []), (29, .invokevirtual 150, [], [0, 25, 8, 590, 592, 10, 65, 593]), (32, .ifCond .ne (6), [], [22]), (35, .bipush (-2), [], [1, 2]), (37, .ireturn, [], []), (38, .aload_n 0, [], []), (39, .getfield 41, [], [8, 5, 358]), (42, .aload_n 0, [], []), (43, .getfield 34, [], [8, 4, 357]), (46, .aload_n 0, [], []), (47, .getfield 10, [], [8, 0, 353]), (50, .invokevirtual 153, [], [0, 145, 6, 594, 595, 596, 72, 597]), (53, .ifCond .ne (6), [], [32]), (56, .bipush (-3), [], [1, 3]), (58, .ireturn, [], []), (59, .aload_n 0, [], []), (60, .getfield 41, [], [8, 5, 358]), (63, .aload_n 0, [], []), (64, .getfield 34, [], [8, 4, 357]), (67, .aload_n 0, [], []), (68, .getfield 10, [], [8, 0, 353]), (71, .iload_n 3, [], []), (72, .invokevirtual 157, [], [0, 146, 6, 618, 619, 620, 72, 621]), (75, .aload_n 0, [], []), (76, .getfield 34, [], [8, 4, 357]), (79, .invokevirtual 87, [], [0, 154, 7, 535, 536, 537, 70, 538]), (82, .getfield 91, [], [3, 5, 213]), (85, .ireturn, [], [])]
def rn_q14 : rn_M := (yX8_write, cX8_write, 5, some .int, rn_t14, 3, 6, 143, 0)
/-- 15: RecordNiches.read(III)I -/
def rn_t15 : List rn_I := [(0, .aload_n 0, [], []), (1, .iload_n 1, [], []), (2, .iload_n 2, [], []), (3, .invokevirtual 79, [], [0, 23, 8, 422, 424, 3, 65, 425]), (6, .ifCond .ne (5), [], [7]), (9, .iconst (-1), [], [1, 1]), (10, .ireturn, [], []), (11, .aload_n 0, [], []), (12, .iload_n 1, [], []), (13, .iload_n 2, [], []), (14, .invokevirtual 83, [], [0, 24, 8, 432, 434, 4, 65, 435]), (17, .istore 4, [], []), (19, .iload 4, [], []), (21, .ifCond .eq (6), [], [16]), (24, .iload 4, [], []), (26, .ireturn, [], []), (27, .aload_n 0, [], []), (28, .iload_n 3, [], []), (29, .invokevirtual 150, [], [0, 25, 8, 590, 592, 10, 65, 593]), (32, .ifCond .ne (6), [], [22]), (35, .bipush (-2), [], [1, 2]), (37, .ireturn, [], []), (38, .aload_n 0, [], []), (39, .getfield 41, [], [8, 5, 358]), (42, .aload_n 0, [], []), (43, .getfield 34, [], [8, 4, 357]), (46, .aload_n 0, [], []), (47, .getfield 10, [], [8, 0, 353]), (50, .iload_n 3, [], []), (51, .invokevirtual 161, [], [0, 147, 6, 634, 635, 636, 72, 637]), (54, .ifCond .ne (6), [], [33]), (57, .bipush (-3), [], [1, 3]), (59, .ireturn, [], []), (60, .aload_n 0, [], []), (61, .getfield 41, [], [8, 5, 358]), (64, .getfield 165, [], [6, 1, 347]), (67, .bipush (60), [], [0, 60]), (69, .if_icmp .le (6), [], [40]), (72, .bipush (-4), [], [1, 4]), (74, .ireturn, [], []), (75, .iconst (0), [], [0, 0]), (76, .istore 5, [], []), (78, .iload 5, [0, 5], []), (80, .aload_n 0, [], []), (81, .getfield 41, [], [8, 5, 358]), (84, .getfield 165, [], [6, 1, 347]), (87, .if_icmp .ge (29), [], [59]), (90, .aload_n 0, [], []), (91, .getfield 10, [], [8, 0, 353]), (94, .getfield 144, [], [1, 1, 116]), (97, .iload 5, [], []), (99, .aload_n 0, [], []), (100, .getfield 41, [], [8, 5, 358]), (103, .getfield 166, [], [6, 0, 345]), (106, .iload 5, [], []), (108, .laload, [], []), (109, .lastore, [], []), (110, .iinc 5 (1), [], [0, 1]), (113, .goto (-35), [], [42]), (116, .aload_n 0, [0], []), (117, .getfield 10, [], [8, 0, 353]), (120, .aload_n 0, [], []), (121, .getfield 41, [], [8, 5, 358]), (124, .getfield 165, [], [6, 1, 347]), (127, .putfield 141, [], [1, 3, 0, 121]), (130, .aload_n 0, [], []), (131, .getfield 10, [], [8, 0, 353]), (134, .getfield 141, [], [1, 3, 121]), (137, .ireturn, [], [])]
def rn_q15 : rn_M := (yX8_read, cX8_read, 6, some .int, rn_t15, 3, 6, 143, 0)
/-- 16: RecordNiches.which(III)I -/
def rn_t16 : List rn_I := [(0, .aload_n 0, [], []), (1, .iload_n 1, [], []), (2, .iload_n 2, [], []), (3, .invokevirtual 79, [], [0, 23, 8, 422, 424, 3, 65, 425]), (6, .ifCond .ne (5), [], [7]), (9, .iconst (-1), [], [1, 1]), (10, .ireturn, [], []), (11, .aload_n 0, [], []), (12, .iload_n 1, [], []), (13, .iload_n 2, [], []), (14, .invokevirtual 83, [], [0, 24, 8, 432, 434, 4, 65, 435]), (17, .istore 4, [], []), (19, .iload 4, [], []), (21, .ifCond .eq (6), [], [16]), (24, .iload 4, [], []), (26, .ireturn, [], []), (27, .aload_n 0, [], []), (28, .iload_n 3, [], []), (29, .invokevirtual 150, [], [0, 25, 8, 590, 592, 10, 65, 593]), (32, .ifCond .ne (6), [], [22]), (35, .bipush (-2), [], [1, 2]), (37, .ireturn, [], []), (38, .aload_n 0, [], []), (39, .getfield 34, [], [8, 4, 357]), (42, .invokevirtual 87, [], [0, 154, 7, 535, 536, 537, 70, 538]), (45, .astore 5, [], []), (47, .aload 5, [], []), (49, .getfield 120, [], [3, 4, 208]), (52, .bipush (6), [], [0, 6]), (54, .if_icmp .eq (6), [], [32]), (57, .bipush (-6), [], [1, 6]), (59, .ireturn, [], []), (60, .aload 5, [], []), (62, .aload_n 0, [], []), (63, .getfield 10, [], [8, 0, 353]), (66, .iload_n 3, [], []), (67, .invokestatic 169, [], [0, 148, 6, 649, 639, 0, 72, 640]), (70, .istore 6, [], []), (72, .iload 6, [], []), (74, .ifCond .ge (8), [], [42]), (77, .bipush (-3), [], [1, 3]), (79, .goto (5), [], [43]), (82, .iload 6, [], []), (84, .ireturn, [999], [])]
def rn_q16 : rn_M := (yX8_which, cX8_which, 7, some .int, rn_t16, 3, 6, 143, 0)
/-- 17: RecordNiches.poke(II)I -/
def rn_t17 : List rn_I := [(0, .iload_n 1, [], []), (1, .ifCond .lt (20), [], [10]), (4, .iload_n 1, [], []), (5, .bipush (96), [], [0, 96]), (7, .if_icmp .ge (14), [], [10]), (10, .iload_n 2, [], []), (11, .ifCond .lt (10), [], [10]), (14, .iload_n 2, [], []), (15, .sipush (255), [], [0, 255]), (18, .if_icmp .le (6), [], [12]), (21, .bipush (-2), [999], [1, 2]), (23, .ireturn, [], []), (24, .aload_n 0, [], []), (25, .getfield 10, [], [8, 0, 353]), (28, .getfield 173, [], [1, 2, 118]), (31, .iload_n 1, [], []), (32, .iaload, [], []), (33, .istore_n 3, [], []), (34, .aload_n 0, [], []), (35, .getfield 10, [], [8, 0, 353]), (38, .getfield 173, [], [1, 2, 118]), (41, .iload_n 1, [], []), (42, .iload_n 2, [], []), (43, .iastore, [], []), (44, .iload_n 3, [], []), (45, .ireturn, [], [])]
def rn_q17 : rn_M := (yX8_poke, cX8_poke, 4, some .int, rn_t17, 2, 0, 0, 0)
/-- 18: RecordNiches.peek(I)I -/
def rn_t18 : List rn_I := [(0, .iload_n 1, [], []), (1, .ifCond .lt (9), [], [5]), (4, .iload_n 1, [], []), (5, .bipush (96), [], [0, 96]), (7, .if_icmp .lt (6), [], [7]), (10, .bipush (-2), [999], [1, 2]), (12, .ireturn, [], []), (13, .aload_n 0, [], []), (14, .getfield 10, [], [8, 0, 353]), (17, .getfield 173, [], [1, 2, 118]), (20, .iload_n 1, [], []), (21, .iaload, [], []), (22, .ireturn, [], [])]
def rn_q18 : rn_M := (yX8_peek, cX8_peek, 2, some .int, rn_t18, 1, 0, 0, 0)
/-- 19: RecordNiches.image(I)I -/
def rn_t19 : List rn_I := [(0, .iload_n 1, [], []), (1, .ifCond .lt (8), [], [5]), (4, .iload_n 1, [], []), (5, .iconst (2), [], [0, 2]), (6, .if_icmp .lt (6), [], [7]), (9, .bipush (-2), [999], [1, 2]), (11, .ireturn, [], []), (12, .aload_n 0, [], []), (13, .getfield 16, [], [8, 1, 354]), (16, .iload_n 1, [], []), (17, .aaload, [], [3]), (18, .aload_n 0, [], []), (19, .getfield 10, [], [8, 0, 353]), (22, .invokevirtual 177, [], [0, 113, 1, 662, 663, 664, 66, 665]), (25, .aload_n 0, [], []), (26, .getfield 20, [], [8, 2, 355]), (29, .iload_n 1, [], []), (30, .iconst (1), [], [0, 1]), (31, .bastore, [], []), (32, .iconst (1), [], [0, 1]), (33, .ireturn, [], [])]
def rn_q19 : rn_M := (yX8_image, cX8_image, 2, some .int, rn_t19, 1, 3, 69, 0)
/-- 20: RecordNiches.restore(I)I -/
def rn_t20 : List rn_I := [(0, .iload_n 1, [], []), (1, .ifCond .lt (8), [], [5]), (4, .iload_n 1, [], []), (5, .iconst (2), [], [0, 2]), (6, .if_icmp .lt (6), [], [7]), (9, .bipush (-2), [999], [1, 2]), (11, .ireturn, [], []), (12, .aload_n 0, [], []), (13, .getfield 20, [], [8, 2, 355]), (16, .iload_n 1, [], []), (17, .baload, [], []), (18, .ifCond .ne (6), [], [14]), (21, .bipush (-3), [], [1, 3]), (23, .ireturn, [], []), (24, .aload_n 0, [], []), (25, .getfield 10, [], [8, 0, 353]), (28, .aload_n 0, [], []), (29, .getfield 16, [], [8, 1, 354]), (32, .iload_n 1, [], []), (33, .aaload, [], [3]), (34, .invokevirtual 177, [], [0, 113, 1, 662, 663, 664, 66, 665]), (37, .iconst (1), [], [0, 1]), (38, .ireturn, [], [])]
def rn_q20 : rn_M := (yX8_restore, cX8_restore, 2, some .int, rn_t20, 1, 3, 69, 0)
/-- 21: RecordNiches.told(I)I -/
def rn_t21 : List rn_I := [(0, .iload_n 1, [], []), (1, .ifCond .ne (11), [], [6]), (4, .aload_n 0, [], []), (5, .getfield 10, [], [8, 0, 353]), (8, .getfield 76, [], [1, 4, 123]), (11, .ireturn, [], []), (12, .iload_n 1, [], []), (13, .iconst (1), [], [0, 1]), (14, .if_icmp .ne (11), [], [13]), (17, .aload_n 0, [], []), (18, .getfield 10, [], [8, 0, 353]), (21, .getfield 141, [], [1, 3, 121]), (24, .ireturn, [], []), (25, .iload_n 1, [], []), (26, .bipush (10), [], [0, 10]), (28, .if_icmp .lt (25), [], [28]), (31, .iload_n 1, [], []), (32, .bipush (18), [], [0, 18]), (34, .if_icmp .ge (19), [], [28]), (37, .aload_n 0, [], []), (38, .getfield 10, [], [8, 0, 353]), (41, .getfield 49, [], [1, 0, 112]), (44, .iload_n 1, [], []), (45, .bipush (10), [], [0, 10]), (47, .isub, [], []), (48, .aaload, [], [6]), (49, .getfield 53, [], [5, 1, 102]), (52, .ireturn, [], []), (53, .iload_n 1, [0, 1], []), (54, .bipush (20), [], [0, 20]), (56, .if_icmp .lt (29), [], [45]), (59, .iload_n 1, [], []), (60, .bipush (28), [], [0, 28]), (62, .if_icmp .ge (23), [], [45]), (65, .aload_n 0, [], []), (66, .getfield 10, [], [8, 0, 353]), (69, .iload_n 1, [], []), (70, .bipush (20), [], [0, 20]), (72, .isub, [], []), (73, .invokevirtual 181, [], [0, 114, 1, 426, 427, 428, 66, 429]), (76, .ifCond .eq (7), [], [43]), (79, .iconst (1), [], [0, 1]), (80, .goto (4), [], [44]), (83, .iconst (0), [], [0, 0]), (84, .ireturn, [999], []), (85, .iload_n 1, [0, 1], []), (86, .bipush (100), [], [0, 100]), (88, .if_icmp .lt (10), [], [51]), (91, .iload_n 1, [], []), (92, .sipush (900), [], [0, 900]), (95, .if_icmp .lt (6), [], [53]), (98, .bipush (-2), [999], [1, 2]), (100, .ireturn, [], []), (101, .aload_n 0, [], []), (102, .getfield 10, [], [8, 0, 353]), (105, .iload_n 1, [], []), (106, .bipush (100), [], [0, 100]), (108, .idiv, [], []), (109, .iconst (1), [], [0, 1]), (110, .isub, [], []), (111, .iload_n 1, [], []), (112, .bipush (100), [], [0, 100]), (114, .irem, [], []), (115, .invokevirtual 184, [], [0, 115, 1, 682, 463, 464, 66, 465]), (118, .istore_n 2, [], []), (119, .iload_n 2, [], []), (120, .ifCond .ne (8), [], [69]), (123, .bipush (-2), [], [1, 2]), (125, .goto (4), [], [70]), (128, .iload_n 2, [], []), (129, .ireturn, [999], [])]
def rn_q21 : rn_M := (yX8_told, cX8_told, 3, some .int, rn_t21, 1, 2, 43, 0)
/-- 22: RecordNiches.isShape(I)Z -/
def rn_t22 : List rn_I := [(0, .iload_n 0, [], []), (1, .ifCond .lt (13), [], [7]), (4, .iload_n 0, [], []), (5, .bipush (8), [], [0, 8]), (7, .if_icmp .ge (7), [], [7]), (10, .iconst (1), [], [0, 1]), (11, .goto (4), [], [8]), (14, .iconst (0), [999], [0, 0]), (15, .ireturn, [999], [])]
def rn_q22 : rn_M := (yX8_isShape, cX8_isShape, 1, some .boolean, rn_t22, 1, 0, 0, 0)
/-- 23: RecordNiches.isKnown(II)Z -/
def rn_t23 : List rn_I := [(0, .iload_n 1, [], []), (1, .invokestatic 45, [], [0, 22, 8, 376, 377, 0, 65, 378]), (4, .ifCond .ne (5), [], [5]), (7, .iconst (0), [], [0, 0]), (8, .ireturn, [], []), (9, .aload_n 0, [], []), (10, .getfield 10, [], [8, 0, 353]), (13, .iload_n 1, [], []), (14, .invokevirtual 181, [], [0, 114, 1, 426, 427, 428, 66, 429]), (17, .ifCond .ne (14), [], [17]), (20, .iload_n 2, [], []), (21, .iconst (-1), [], [1, 1]), (22, .if_icmp .ne (7), [], [15]), (25, .iconst (1), [], [0, 1]), (26, .goto (4), [], [16]), (29, .iconst (0), [], [0, 0]), (30, .ireturn, [999], []), (31, .iload_n 2, [], []), (32, .invokestatic 45, [], [0, 22, 8, 376, 377, 0, 65, 378]), (35, .ifCond .eq (18), [], [27]), (38, .aload_n 0, [], []), (39, .getfield 10, [], [8, 0, 353]), (42, .iload_n 2, [], []), (43, .invokevirtual 181, [], [0, 114, 1, 426, 427, 428, 66, 429]), (46, .ifCond .ne (7), [], [27]), (49, .iconst (1), [], [0, 1]), (50, .goto (4), [], [28]), (53, .iconst (0), [999], [0, 0]), (54, .ireturn, [999], [])]
def rn_q23 : rn_M := (yX8_isKnown, cX8_isKnown, 3, some .boolean, rn_t23, 2, 2, 43, 0)
/-- 24: RecordNiches.prepare(II)I -/
def rn_t24 : List rn_I := [(0, .aload_n 0, [], []), (1, .getfield 27, [], [8, 3, 356]), (4, .aload_n 0, [], []), (5, .getfield 10, [], [8, 0, 353]), (8, .iload_n 1, [], []), (9, .iload_n 2, [], []), (10, .invokevirtual 187, [], [0, 110, 0, 436, 437, 438, 68, 439]), (13, .ifCond .ne (6), [], [10]), (16, .bipush (-5), [], [1, 5]), (18, .ireturn, [], []), (19, .aload_n 0, [], []), (20, .getfield 34, [], [8, 4, 357]), (23, .aload_n 0, [], []), (24, .getfield 10, [], [8, 0, 353]), (27, .aload_n 0, [], []), (28, .getfield 27, [], [8, 3, 356]), (31, .iload_n 1, [], []), (32, .iload_n 2, [], []), (33, .invokevirtual 191, [], [0, 156, 7, 442, 443, 444, 70, 445]), (36, .ifCond .ne (6), [], [22]), (39, .bipush (-3), [], [1, 3]), (41, .ireturn, [], []), (42, .aload_n 0, [], []), (43, .getfield 34, [], [8, 4, 357]), (46, .aload_n 0, [], []), (47, .getfield 10, [], [8, 0, 353]), (50, .getfield 76, [], [1, 4, 123]), (53, .invokevirtual 195, [], [0, 162, 7, 497, 498, 499, 70, 500]), (56, .ifCond .eq (7), [], [31]), (59, .iconst (0), [], [0, 0]), (60, .goto (5), [], [32]), (63, .bipush (-3), [], [1, 3]), (65, .ireturn, [999], [])]
def rn_q24 : rn_M := (yX8_prepare, cX8_prepare, 3, some .int, rn_t24, 2, 5, 121, 0)
/-- 25: RecordNiches.isPlaceForRoot(I)Z -/
def rn_t25 : List rn_I := [(0, .aload_n 0, [], []), (1, .getfield 34, [], [8, 4, 357]), (4, .invokevirtual 87, [], [0, 154, 7, 535, 536, 537, 70, 538]), (7, .astore_n 2, [], []), (8, .iload_n 1, [], []), (9, .ifCond .lt (14), [], [12]), (12, .iload_n 1, [], []), (13, .bipush (96), [], [0, 96]), (15, .aload_n 2, [], []), (16, .getfield 91, [], [3, 5, 213]), (19, .isub, [], []), (20, .if_icmp .le (5), [], [14]), (23, .iconst (0), [999], [0, 0]), (24, .ireturn, [], []), (25, .iload_n 1, [], []), (26, .aload_n 2, [], []), (27, .getfield 96, [], [3, 6, 217]), (30, .invokestatic 132, [], [0, 26, 8, 555, 514, 0, 65, 515]), (33, .iload_n 1, [], []), (34, .if_icmp .ne (7), [], [22]), (37, .iconst (1), [], [0, 1]), (38, .goto (4), [], [23]), (41, .iconst (0), [], [0, 0]), (42, .ireturn, [999], [])]
def rn_q25 : rn_M := (yX8_isPlaceForRoot, cX8_isPlaceForRoot, 3, some .boolean, rn_t25, 1, 1, 21, 0)
/-- 26: RecordNiches.upTo(II)I -/
def rn_t26 : List rn_I := [(0, .iload_n 0, [], []), (1, .iload_n 1, [], []), (2, .iadd, [], []), (3, .iconst (1), [], [0, 1]), (4, .isub, [], []), (5, .iload_n 1, [], []), (6, .ineg, [], []), (7, .iand, [], []), (8, .ireturn, [], [])]
def rn_q26 : rn_M := (yX8_upTo, cX8_upTo, 2, some .int, rn_t26, 2, 0, 0, 0)
/-- 27: RecordNiches.isLetter(I)Z -/
def rn_t27 : List rn_I := [(0, .iload_n 0, [], []), (1, .bipush (65), [], [0, 65]), (3, .if_icmp .lt (13), [], [8]), (6, .iload_n 0, [], []), (7, .bipush (73), [], [0, 73]), (9, .if_icmp .ge (7), [], [8]), (12, .iconst (1), [], [0, 1]), (13, .goto (4), [], [9]), (16, .iconst (0), [999], [0, 0]), (17, .ireturn, [999], [])]
def rn_q27 : rn_M := (yX8_isLetter, cX8_isLetter, 1, some .boolean, rn_t27, 1, 0, 0, 0)
/-- 28: RecordNichesModel.<init>()V -/
def rn_t28 : List rn_I := [(0, .aload_n 0, [], []), (1, .invokespecial 1, [], [3, 688, 83, 84]), (4, .aload_n 0, [], []), (5, .sipush (320), [], [0, 320]), (8, .newarray .int, [], [0, 109]), (10, .putfield 7, [], [9, 0, 2, 689]), (13, .aload_n 0, [], []), (14, .bipush (8), [], [0, 8]), (16, .newarray .int, [], [0, 109]), (18, .putfield 13, [], [9, 1, 2, 690]), (21, .aload_n 0, [], []), (22, .bipush (60), [], [0, 60]), (24, .newarray .int, [], [0, 109]), (26, .putfield 16, [], [9, 3, 2, 692]), (29, .aload_n 0, [], []), (30, .bipush (101), [], [0, 101]), (32, .newarray .int, [], [0, 109]), (34, .putfield 19, [], [9, 5, 2, 694]), (37, .aload_n 0, [], []), (38, .bipush (101), [], [0, 101]), (40, .newarray .int, [], [0, 109]), (42, .putfield 22, [], [9, 6, 2, 695]), (45, .aload_n 0, [], []), (46, .bipush (101), [], [0, 101]), (48, .newarray .int, [], [0, 109]), (50, .putfield 25, [], [9, 7, 2, 696]), (53, .aload_n 0, [], []), (54, .bipush (101), [], [0, 101]), (56, .newarray .int, [], [0, 109]), (58, .putfield 28, [], [9, 8, 2, 697]), (61, .aload_n 0, [], []), (62, .bipush (101), [], [0, 101]), (64, .newarray .int, [], [0, 109]), (66, .putfield 31, [], [9, 9, 2, 698]), (69, .aload_n 0, [], []), (70, .sipush (640), [], [0, 640]), (73, .newarray .int, [], [0, 109]), (75, .putfield 34, [], [9, 11, 2, 700]), (78, .aload_n 0, [], []), (79, .sipush (640), [], [0, 640]), (82, .newarray .int, [], [0, 109]), (84, .putfield 37, [], [9, 12, 2, 701]), (87, .aload_n 0, [], []), (88, .sipush (640), [], [0, 640]), (91, .newarray .int, [], [0, 109]), (93, .putfield 40, [], [9, 13, 2, 702]), (96, .aload_n 0, [], []), (97, .sipush (640), [], [0, 640]), (100, .newarray .int, [], [0, 109]), (102, .putfield 43, [], [9, 14, 2, 703]), (105, .aload_n 0, [], []), (106, .sipush (520), [], [0, 520]), (109, .newarray .int, [], [0, 109]), (111, .putfield 46, [], [9, 16, 2, 705]), (114, .aload_n 0, [], []), (115, .sipush (520), [], [0, 520]), (118, .newarray .int, [], [0, 109]), (120, .putfield 49, [], [9, 17, 2, 706]), (123, .aload_n 0, [], []), (124, .sipush (520), [], [0, 520]), (127, .newarray .int, [], [0, 109]), (129, .putfield 52, [], [9, 18, 2, 707]), (132, .aload_n 0, [], []), (133, .bipush (101), [], [0, 101]), (135, .newarray .int, [], [0, 109]), (137, .putfield 55, [], [9, 21, 2, 710]), (140, .aload_n 0, [], []), (141, .bipush (101), [], [0, 101]), (143, .newarray .int, [], [0, 109]), (145, .putfield 58, [], [9, 22, 2, 711]), (148, .aload_n 0, [], []), (149, .bipush (101), [], [0, 101]), (151, .newarray .int, [], [0, 109]), (153, .putfield 61, [], [9, 23, 2, 712]), (156, .aload_n 0, [], []), (157, .bipush (101), [], [0, 101]), (159, .newarray .int, [], [0, 109]), (161, .putfield 64, [], [9, 24, 2, 713]), (164, .aload_n 0, [], []), (165, .bipush (101), [], [0, 101]), (167, .newarray .int, [], [0, 109]), (169, .putfield 67, [], [9, 25, 2, 714]), (172, .aload_n 0, [], []), (173, .bipush (101), [], [0, 101]), (175, .newarray .int, [], [0, 109]), (177, .putfield 70, [], [9, 26, 2, 715]), (180, .aload_n 0, [], []), (181, .bipush (101), [], [0, 101]), (183, .newarray .int, [], [0, 109]), (185, .putfield 73, [], [9, 27, 2, 716]), (188, .aload_n 0, [], []), (189, .bipush (101), [], [0, 101]), (191, .newarray .int, [], [0, 109]), (193, .putfield 76, [], [9, 28, 2, 717]), (196, .aload_n 0, [], []), (197, .bipush (101), [], [0, 101]), (199, .newarray .int, [], [0, 109]), (201, .putfield 79, [], [9, 29, 2, 718]), (204, .aload_n 0, [], []), (205, .bipush (64), [], [0, 64]), (207, .newarray .int, [], [0, 109]), (209, .putfield 82, [], [9, 30, 2, 719]), (212, .aload_n 0, [], []), (213, .bipush (64), [], [0, 64]), (215, .newarray .boolean, [], [2, 170]), (217, .putfield 85, [], [9, 31, 2, 720]), (220, .aload_n 0, [], []), (221, .bipush (60), [], [0, 60]), (223, .newarray .long, [], [1, 108]), (225, .putfield 89, [], [9, 32, 2, 721]), (228, .aload_n 0, [], []), (229, .bipush (96), [], [0, 96]), (231, .newarray .int, [], [0, 109]), (233, .putfield 93, [], [9, 34, 2, 723]), (236, .aload_n 0, [], []), (237, .bipush (101), [], [0, 101]), (239, .newarray .boolean, [], [2, 170]), (241, .putfield 96, [], [9, 35, 2, 724]), (244, .aload_n 0, [], []), (245, .bipush (101), [], [0, 101]), (247, .newarray .int, [], [0, 109]), (249, .putfield 99, [], [9, 36, 2, 725]), (252, .aload_n 0, [], []), (253, .bipush (101), [], [0, 101]), (255, .newarray .long, [], [1, 108]), (257, .putfield 102, [], [9, 37, 2, 726]), (260, .aload_n 0, [], []), (261, .sipush (852), [], [0, 852]), (264, .newarray .int, [], [0, 109]), (266, .putfield 105, [], [9, 38, 2, 727]), (269, .aload_n 0, [], []), (270, .bipush (120), [], [0, 120]), (272, .newarray .long, [], [1, 108]), (274, .putfield 108, [], [9, 39, 2, 728]), (277, .aload_n 0, [], []), (278, .iconst (2), [], [0, 2]), (279, .newarray .boolean, [], [2, 170]), (281, .putfield 111, [], [9, 40, 2, 729]), (284, .return_, [], [])]
def rn_q28 : rn_M := (yX9_init, cX9_init, 1, none, rn_t28, 0, 1, 20, 1)
/-- 29: RecordNichesModel.in(JJJ)Z -/
def rn_t29 : List rn_I := [(0, .lload_n 0, [], []), (1, .lload_n 2, [], []), (2, .lcmp, [], []), (3, .ifCond .lt (14), [], [10]), (6, .lload_n 0, [], []), (7, .lload 4, [], []), (9, .lcmp, [], []), (10, .ifCond .gt (7), [], [10]), (13, .iconst (1), [], [0, 1]), (14, .goto (4), [], [11]), (17, .iconst (0), [999], [0, 0]), (18, .ireturn, [999], [])]
def rn_q29 : rn_M := (yX9_in, cX9_in, 6, some .boolean, rn_t29, 3, 0, 0, 0)
/-- 30: RecordNichesModel.isShape(I)Z -/
def rn_t30 : List rn_I := [(0, .iload_n 0, [], []), (1, .i2l, [], []), (2, .lconst 0, [], [0, 0]), (3, .ldc2_w 114, [], [0, 7, 826]), (6, .invokestatic 116, [], [0, 29, 9, 827, 828, 0, 73, 829]), (9, .ireturn, [], [])]
def rn_q30 : rn_M := (yX9_isShape, cX9_isShape, 1, some .boolean, rn_t30, 1, 1, 25, 0)
/-- 31: RecordNichesModel.greater(II)I -/
def rn_t31 : List rn_I := [(0, .iload_n 0, [], []), (1, .iload_n 1, [], []), (2, .if_icmp .le (7), [], [5]), (5, .iload_n 0, [], []), (6, .goto (4), [], [6]), (9, .iload_n 1, [], []), (10, .ireturn, [999], [])]
def rn_q31 : rn_M := (yX9_greater, cX9_greater, 2, some .int, rn_t31, 2, 0, 0, 0)
/-- 32: RecordNichesModel.upTo(II)I -/
def rn_t32 : List rn_I := [(0, .iload_n 0, [], []), (1, .iload_n 1, [], []), (2, .iadd, [], []), (3, .iconst (1), [], [0, 1]), (4, .isub, [], []), (5, .iload_n 1, [], []), (6, .idiv, [], []), (7, .iload_n 1, [], []), (8, .imul, [], []), (9, .ireturn, [], [])]
def rn_q32 : rn_M := (yX9_upTo, cX9_upTo, 2, some .int, rn_t32, 2, 0, 0, 0)
/-- 33: RecordNichesModel.signAt(II)I -/
def rn_t33 : List rn_I := [(0, .aload_n 0, [], []), (1, .getfield 7, [], [9, 0, 689]), (4, .bipush (40), [], [0, 40]), (6, .iload_n 1, [], []), (7, .imul, [], []), (8, .iload_n 2, [], []), (9, .iadd, [], []), (10, .iaload, [], []), (11, .ireturn, [], [])]
def rn_q33 : rn_M := (yX9_signAt, cX9_signAt, 3, some .int, rn_t33, 2, 0, 0, 0)
/-- 34: RecordNichesModel.say(II)I -/
def rn_t34 : List rn_I := [(0, .iload_n 1, [], []), (1, .invokestatic 120, [], [0, 30, 9, 823, 824, 0, 73, 825]), (4, .ifCond .ne (5), [], [5]), (7, .iconst (-1), [], [1, 1]), (8, .ireturn, [], []), (9, .iload_n 2, [], []), (10, .i2l, [], []), (11, .ldc2_w 124, [], [0, 33, 830]), (14, .ldc2_w 126, [], [0, 126, 831]), (17, .invokestatic 116, [], [0, 29, 9, 827, 828, 0, 73, 829]), (20, .ifCond .ne (6), [], [13]), (23, .bipush (-2), [], [1, 2]), (25, .ireturn, [], []), (26, .aload_n 0, [], []), (27, .getfield 13, [], [9, 1, 690]), (30, .iload_n 1, [], []), (31, .iaload, [], []), (32, .bipush (40), [], [0, 40]), (34, .if_icmp .ne (6), [], [21]), (37, .bipush (-4), [], [1, 4]), (39, .ireturn, [], []), (40, .aload_n 0, [], []), (41, .getfield 7, [], [9, 0, 689]), (44, .bipush (40), [], [0, 40]), (46, .iload_n 1, [], []), (47, .imul, [], []), (48, .aload_n 0, [], []), (49, .getfield 13, [], [9, 1, 690]), (52, .iload_n 1, [], []), (53, .iaload, [], []), (54, .iadd, [], []), (55, .iload_n 2, [], []), (56, .iastore, [], []), (57, .aload_n 0, [], []), (58, .getfield 13, [], [9, 1, 690]), (61, .iload_n 1, [], []), (62, .dup2, [], []), (63, .iaload, [], []), (64, .iconst (1), [], [0, 1]), (65, .iadd, [], []), (66, .iastore, [], []), (67, .aload_n 0, [], []), (68, .getfield 13, [], [9, 1, 690]), (71, .iload_n 1, [], []), (72, .iaload, [], []), (73, .ireturn, [], [])]
def rn_q34 : rn_M := (yX9_say, cX9_say, 3, some .int, rn_t34, 2, 2, 45, 0)
/-- 35: RecordNichesModel.wipe(I)I -/
def rn_t35 : List rn_I := [(0, .iload_n 1, [], []), (1, .invokestatic 120, [], [0, 30, 9, 823, 824, 0, 73, 825]), (4, .ifCond .ne (5), [], [5]), (7, .iconst (-1), [], [1, 1]), (8, .ireturn, [], []), (9, .aload_n 0, [], []), (10, .getfield 13, [], [9, 1, 690]), (13, .iload_n 1, [], []), (14, .iaload, [], []), (15, .istore_n 2, [], []), (16, .aload_n 0, [], []), (17, .getfield 13, [], [9, 1, 690]), (20, .iload_n 1, [], []), (21, .iconst (0), [], [0, 0]), (22, .iastore, [], []), (23, .iload_n 2, [], []), (24, .ireturn, [], [])]
def rn_q35 : rn_M := (yX9_wipe, cX9_wipe, 3, some .int, rn_t35, 1, 2, 45, 0)
/-- 36: RecordNichesModel.isOpen(I)Z -/
def rn_t36 : List rn_I := [(0, .iconst (0), [], [0, 0]), (1, .istore_n 2, [], []), (2, .iconst (0), [], [0, 0]), (3, .istore_n 3, [], []), (4, .iload_n 3, [0, 1, 2, 3], []), (5, .aload_n 0, [], []), (6, .getfield 13, [], [9, 1, 690]), (9, .iload_n 1, [], []), (10, .iaload, [], []), (11, .if_icmp .ge (30), [], [24]), (14, .iload_n 2, [], []), (15, .ifCond .ne (14), [], [18]), (18, .aload_n 0, [], []), (19, .iload_n 1, [], []), (20, .iload_n 3, [], []), (21, .invokevirtual 128, [], [0, 33, 9, 848, 850, 14, 73, 851]), (24, .bipush (120), [], [0, 120]), (26, .if_icmp .ne (7), [], [20]), (29, .iconst (1), [0, 1, 3], [0, 1]), (30, .goto (4), [], [21]), (33, .iconst (0), [], [0, 0]), (34, .istore_n 2, [0, 1, 3], []), (35, .iinc 3 (1), [], [0, 1]), (38, .goto (-34), [], [4]), (41, .iload_n 2, [2], []), (42, .ireturn, [], [])]
def rn_q36 : rn_M := (yX9_isOpen, cX9_isOpen, 4, some .boolean, rn_t36, 1, 1, 22, 0)
/-- 37: RecordNichesModel.isLetter(I)Z -/
def rn_t37 : List rn_I := [(0, .iload_n 0, [], []), (1, .i2l, [], []), (2, .ldc2_w 132, [], [0, 65, 867]), (5, .ldc2_w 134, [], [0, 72, 868]), (8, .invokestatic 116, [], [0, 29, 9, 827, 828, 0, 73, 829]), (11, .ireturn, [], [])]
def rn_q37 : rn_M := (yX9_isLetter, cX9_isLetter, 1, some .boolean, rn_t37, 1, 1, 25, 0)
/-- 38: RecordNichesModel.push(I)V -/
def rn_t38 : List rn_I := [(0, .aload_n 0, [], []), (1, .getfield 16, [], [9, 3, 692]), (4, .aload_n 0, [], []), (5, .getfield 136, [], [9, 4, 693]), (8, .iload_n 1, [], []), (9, .iastore, [], []), (10, .aload_n 0, [], []), (11, .dup, [], []), (12, .getfield 136, [], [9, 4, 693]), (15, .iconst (1), [], [0, 1]), (16, .iadd, [], []), (17, .putfield 136, [], [9, 4, 0, 693]), (20, .return_, [], [])]
def rn_q38 : rn_M := (yX9_push, cX9_push, 2, none, rn_t38, 1, 0, 0, 0)
/-- 39: RecordNichesModel.isPlain(I)Z -/
def rn_t39 : List rn_I := [(0, .iload_n 0, [], []), (1, .bipush (48), [], [0, 48]), (3, .if_icmp .eq (39), [], [21]), (6, .iload_n 0, [], []), (7, .bipush (49), [], [0, 49]), (9, .if_icmp .eq (33), [], [21]), (12, .iload_n 0, [], []), (13, .bipush (50), [], [0, 50]), (15, .if_icmp .eq (27), [], [21]), (18, .iload_n 0, [], []), (19, .bipush (52), [], [0, 52]), (21, .if_icmp .eq (21), [], [21]), (24, .iload_n 0, [], []), (25, .bipush (98), [], [0, 98]), (27, .if_icmp .eq (15), [], [21]), (30, .iload_n 0, [], []), (31, .bipush (112), [], [0, 112]), (33, .if_icmp .eq (9), [], [21]), (36, .iload_n 0, [], []), (37, .bipush (120), [], [0, 120]), (39, .if_icmp .ne (7), [], [23]), (42, .iconst (1), [999], [0, 1]), (43, .goto (4), [], [24]), (46, .iconst (0), [], [0, 0]), (47, .ireturn, [999], [])]
def rn_q39 : rn_M := (yX9_isPlain, cX9_isPlain, 1, some .boolean, rn_t39, 1, 0, 0, 0)
/-- 40: RecordNichesModel.begins(II)Z -/
def rn_t40 : List rn_I := [(0, .iload_n 2, [], []), (1, .bipush (40), [], [0, 40]), (3, .if_icmp .eq (15), [], [9]), (6, .iload_n 2, [], []), (7, .bipush (91), [], [0, 91]), (9, .if_icmp .eq (9), [], [9]), (12, .iload_n 2, [], []), (13, .bipush (101), [], [0, 101]), (15, .if_icmp .ne (33), [], [24]), (18, .aload_n 0, [0, 2], []), (19, .iload_n 2, [], []), (20, .bipush (40), [], [0, 40]), (22, .if_icmp .ne (8), [], [15]), (25, .bipush (10), [], [0, 10]), (27, .goto (16), [], [21]), (30, .iload_n 2, [], []), (31, .bipush (91), [], [0, 91]), (33, .if_icmp .ne (8), [], [20]), (36, .bipush (20), [], [0, 20]), (38, .goto (5), [], [21]), (41, .bipush (30), [], [0, 30]), (43, .invokevirtual 140, [999], [0, 38, 9, 844, 846, 13, 73, 847]), (46, .iconst (1), [], [0, 1]), (47, .ireturn, [], []), (48, .iload_n 2, [], []), (49, .invokestatic 144, [], [0, 37, 9, 864, 865, 0, 73, 866]), (52, .ifCond .eq (29), [], [43]), (55, .iload_n 2, [], []), (56, .bipush (65), [], [0, 65]), (58, .isub, [], []), (59, .iload_n 1, [], []), (60, .if_icmp .ge (21), [], [43]), (63, .aload_n 0, [], []), (64, .iload_n 2, [], []), (65, .bipush (65), [], [0, 65]), (67, .isub, [], []), (68, .invokevirtual 147, [], [0, 36, 9, 869, 871, 18, 73, 872]), (71, .ifCond .eq (8), [], [41]), (74, .aload_n 0, [], []), (75, .iconst (0), [], [0, 0]), (76, .invokevirtual 140, [], [0, 38, 9, 844, 846, 13, 73, 847]), (79, .iconst (1), [999], [0, 1]), (80, .ireturn, [], []), (81, .iload_n 2, [2], []), (82, .invokestatic 150, [], [0, 39, 9, 873, 874, 0, 73, 875]), (85, .ireturn, [], [])]
def rn_q40 : rn_M := (yX9_begins, cX9_begins, 3, some .boolean, rn_t40, 2, 2, 45, 0)
/-- 41: RecordNichesModel.isWithin(III)Z -/
def rn_t41 : List rn_I := [(0, .iload_n 3, [], []), (1, .bipush (10), [], [0, 10]), (3, .if_icmp .le (15), [], [9]), (6, .iload_n 3, [], []), (7, .bipush (20), [], [0, 20]), (9, .if_icmp .ge (9), [], [9]), (12, .iload_n 2, [], []), (13, .bipush (41), [], [0, 41]), (15, .if_icmp .eq (15), [], [15]), (18, .iload_n 3, [0, 1, 2, 3], []), (19, .bipush (20), [], [0, 20]), (21, .if_icmp .le (21), [], [23]), (24, .iload_n 2, [], []), (25, .bipush (93), [], [0, 93]), (27, .if_icmp .ne (15), [], [23]), (30, .aload_n 0, [0], []), (31, .dup, [], []), (32, .getfield 136, [], [9, 4, 693]), (35, .iconst (1), [], [0, 1]), (36, .isub, [], []), (37, .putfield 136, [], [9, 4, 0, 693]), (40, .iconst (1), [], [0, 1]), (41, .ireturn, [], []), (42, .iload_n 3, [0, 1, 2, 3], []), (43, .bipush (10), [], [0, 10]), (45, .irem, [], []), (46, .bipush (6), [], [0, 6]), (48, .if_icmp .ne (5), [], [30]), (51, .iconst (0), [], [0, 0]), (52, .ireturn, [], []), (53, .aload_n 0, [], []), (54, .getfield 16, [], [9, 3, 692]), (57, .aload_n 0, [], []), (58, .getfield 136, [], [9, 4, 693]), (61, .iconst (1), [], [0, 1]), (62, .isub, [], []), (63, .iload_n 3, [], []), (64, .iconst (1), [], [0, 1]), (65, .iadd, [], []), (66, .iastore, [], []), (67, .aload_n 0, [], []), (68, .iload_n 1, [], []), (69, .iload_n 2, [], []), (70, .invokevirtual 153, [], [0, 40, 9, 860, 862, 17, 73, 863]), (73, .ireturn, [], [])]
def rn_q41 : rn_M := (yX9_isWithin, cX9_isWithin, 4, some .boolean, rn_t41, 3, 3, 67, 0)
/-- 42: RecordNichesModel.canStand(II)Z -/
def rn_t42 : List rn_I := [(0, .aload_n 0, [], []), (1, .getfield 136, [], [9, 4, 693]), (4, .ifCond .ne (5), [], [5]), (7, .iconst (0), [], [0, 0]), (8, .ireturn, [], []), (9, .aload_n 0, [], []), (10, .getfield 16, [], [9, 3, 692]), (13, .aload_n 0, [], []), (14, .getfield 136, [], [9, 4, 693]), (17, .iconst (1), [], [0, 1]), (18, .isub, [], []), (19, .iaload, [], []), (20, .istore_n 3, [], []), (21, .iload_n 3, [], []), (22, .ifCond .le (17), [], [24]), (25, .iload_n 3, [], []), (26, .bipush (30), [], [0, 30]), (28, .if_icmp .ge (11), [], [24]), (31, .aload_n 0, [], []), (32, .iload_n 1, [], []), (33, .iload_n 2, [], []), (34, .iload_n 3, [], []), (35, .invokevirtual 157, [], [0, 41, 9, 856, 858, 16, 73, 859]), (38, .ireturn, [], []), (39, .aload_n 0, [0, 1, 2, 3], []), (40, .dup, [], []), (41, .getfield 136, [], [9, 4, 693]), (44, .iconst (1), [], [0, 1]), (45, .isub, [], []), (46, .putfield 136, [], [9, 4, 0, 693]), (49, .iload_n 3, [], []), (50, .bipush (30), [], [0, 30]), (52, .if_icmp .ne (17), [], [39]), (55, .iload_n 2, [], []), (56, .i2l, [], []), (57, .ldc2_w 161, [], [0, 50, 876]), (60, .ldc2_w 163, [], [0, 57, 877]), (63, .invokestatic 116, [], [0, 29, 9, 827, 828, 0, 73, 829]), (66, .goto (9), [], [43]), (69, .aload_n 0, [], []), (70, .iload_n 1, [], []), (71, .iload_n 2, [], []), (72, .invokevirtual 153, [], [0, 40, 9, 860, 862, 17, 73, 863]), (75, .ireturn, [999], [])]
def rn_q42 : rn_M := (yX9_canStand, cX9_canStand, 4, some .boolean, rn_t42, 2, 4, 90, 0)
/-- 43: RecordNichesModel.faultOf(I)I -/
def rn_t43 : List rn_I := [(0, .aload_n 0, [], []), (1, .iconst (0), [], [0, 0]), (2, .putfield 136, [], [9, 4, 0, 693]), (5, .aload_n 0, [], []), (6, .iconst (0), [], [0, 0]), (7, .invokevirtual 140, [], [0, 38, 9, 844, 846, 13, 73, 847]), (10, .iconst (0), [], [0, 0]), (11, .istore_n 2, [], []), (12, .iload_n 2, [0, 1, 2], []), (13, .aload_n 0, [], []), (14, .getfield 13, [], [9, 1, 690]), (17, .iload_n 1, [], []), (18, .iaload, [], []), (19, .if_icmp .ge (25), [], [26]), (22, .aload_n 0, [], []), (23, .iload_n 1, [], []), (24, .aload_n 0, [], []), (25, .iload_n 1, [], []), (26, .iload_n 2, [], []), (27, .invokevirtual 128, [], [0, 33, 9, 848, 850, 14, 73, 851]), (30, .invokevirtual 165, [], [0, 42, 9, 852, 854, 15, 73, 855]), (33, .ifCond .ne (5), [], [24]), (36, .iload_n 2, [], []), (37, .ireturn, [], []), (38, .iinc 2 (1), [], [0, 1]), (41, .goto (-29), [], [8]), (44, .aload_n 0, [0, 1], []), (45, .getfield 136, [], [9, 4, 693]), (48, .ifCond .ne (8), [], [31]), (51, .bipush (-6), [], [1, 6]), (53, .goto (9), [], [35]), (56, .aload_n 0, [], []), (57, .getfield 13, [], [9, 1, 690]), (60, .iload_n 1, [], []), (61, .iaload, [], []), (62, .ireturn, [999], [])]
def rn_q43 : rn_M := (yX9_faultOf, cX9_faultOf, 3, some .int, rn_t43, 1, 5, 113, 0)
/-- 44: RecordNichesModel.fault(I)I -/
def rn_t44 : List rn_I := [(0, .iload_n 1, [], []), (1, .invokestatic 120, [], [0, 30, 9, 823, 824, 0, 73, 825]), (4, .ifCond .eq (11), [], [7]), (7, .aload_n 0, [], []), (8, .iload_n 1, [], []), (9, .invokevirtual 168, [], [0, 43, 9, 840, 842, 12, 73, 843]), (12, .goto (4), [], [8]), (15, .iconst (-1), [], [1, 1]), (16, .ireturn, [999], [])]
def rn_q44 : rn_M := (yX9_fault, cX9_fault, 2, some .int, rn_t44, 1, 6, 135, 0)
/-- 45: RecordNichesModel.way(I)I -/
def rn_t45 : List rn_I := [(0, .iload_n 1, [], []), (1, .i2l, [], []), (2, .lconst 0, [], [0, 0]), (3, .lconst 1, [], [0, 1]), (4, .invokestatic 116, [], [0, 29, 9, 827, 828, 0, 73, 829]), (7, .ifCond .ne (6), [], [8]), (10, .bipush (-2), [], [1, 2]), (12, .ireturn, [], []), (13, .aload_n 0, [], []), (14, .getfield 172, [], [9, 2, 691]), (17, .istore_n 2, [], []), (18, .aload_n 0, [], []), (19, .iload_n 1, [], []), (20, .putfield 172, [], [9, 2, 0, 691]), (23, .iload_n 2, [], []), (24, .ireturn, [], [])]
def rn_q45 : rn_M := (yX9_way, cX9_way, 3, some .int, rn_t45, 1, 1, 25, 0)
/-- 46: RecordNichesModel.isAsked(II)Z -/
def rn_t46 : List rn_I := [(0, .iload_n 1, [], []), (1, .invokestatic 120, [], [0, 30, 9, 823, 824, 0, 73, 825]), (4, .ifCond .eq (17), [], [9]), (7, .iload_n 2, [], []), (8, .i2l, [], []), (9, .ldc2_w 175, [], [1, 1, 890]), (12, .ldc2_w 114, [], [0, 7, 826]), (15, .invokestatic 116, [], [0, 29, 9, 827, 828, 0, 73, 829]), (18, .ifCond .ne (5), [], [11]), (21, .iconst (0), [999], [0, 0]), (22, .ireturn, [], []), (23, .aload_n 0, [], []), (24, .iload_n 1, [], []), (25, .invokevirtual 147, [], [0, 36, 9, 869, 871, 18, 73, 872]), (28, .ifCond .eq (23), [], [25]), (31, .iload_n 2, [], []), (32, .ifCond .lt (15), [], [23]), (35, .aload_n 0, [], []), (36, .iload_n 2, [], []), (37, .invokevirtual 147, [], [0, 36, 9, 869, 871, 18, 73, 872]), (40, .ifCond .ne (7), [], [23]), (43, .iconst (1), [], [0, 1]), (44, .goto (17), [], [31]), (47, .iconst (0), [999], [0, 0]), (48, .goto (13), [], [31]), (51, .iload_n 2, [], []), (52, .iconst (-1), [], [1, 1]), (53, .if_icmp .ne (7), [], [30]), (56, .iconst (1), [], [0, 1]), (57, .goto (4), [], [31]), (60, .iconst (0), [], [0, 0]), (61, .ireturn, [999], [])]
def rn_q46 : rn_M := (yX9_isAsked, cX9_isAsked, 3, some .boolean, rn_t46, 2, 2, 45, 0)
/-- 47: RecordNichesModel.lettersOf(I)I -/
def rn_t47 : List rn_I := [(0, .iconst (0), [], [0, 0]), (1, .istore_n 2, [], []), (2, .iconst (0), [], [0, 0]), (3, .istore_n 3, [], []), (4, .iload_n 3, [0, 1, 2, 3], []), (5, .aload_n 0, [], []), (6, .getfield 13, [], [9, 1, 690]), (9, .iload_n 1, [], []), (10, .iaload, [], []), (11, .if_icmp .ge (39), [], [30]), (14, .aload_n 0, [], []), (15, .iload_n 1, [], []), (16, .iload_n 3, [], []), (17, .invokevirtual 128, [], [0, 33, 9, 848, 850, 14, 73, 851]), (20, .istore 4, [], []), (22, .iload_n 2, [], []), (23, .iload 4, [], []), (25, .invokestatic 144, [], [0, 37, 9, 864, 865, 0, 73, 866]), (28, .ifCond .eq (13), [], [25]), (31, .iconst (1), [], [0, 1]), (32, .iload 4, [], []), (34, .bipush (65), [], [0, 65]), (36, .isub, [], []), (37, .ishl, [], []), (38, .goto (4), [], [26]), (41, .iconst (0), [], [0, 0]), (42, .ior, [0, 1, 3], []), (43, .istore_n 2, [], []), (44, .iinc 3 (1), [], [0, 1]), (47, .goto (-43), [], [4]), (50, .iload_n 2, [2], []), (51, .ireturn, [], [])]
def rn_q47 : rn_M := (yX9_lettersOf, cX9_lettersOf, 5, some .int, rn_t47, 1, 2, 45, 0)
/-- 48: RecordNichesModel.isWell(II)Z -/
def rn_t48 : List rn_I := [(0, .iconst (1), [], [0, 1]), (1, .iload_n 1, [], []), (2, .ishl, [], []), (3, .iload_n 2, [], []), (4, .ifCond .ge (7), [], [7]), (7, .iconst (0), [], [0, 0]), (8, .goto (6), [], [10]), (11, .iconst (1), [], [0, 1]), (12, .iload_n 2, [], []), (13, .ishl, [], []), (14, .ior, [0], []), (15, .istore_n 3, [], []), (16, .iconst (1), [], [0, 1]), (17, .istore 4, [], []), (19, .iconst (0), [], [0, 0]), (20, .istore 5, [], []), (22, .iload 5, [0, 3, 4, 5], []), (24, .bipush (8), [], [0, 8]), (26, .if_icmp .ge (48), [], [43]), (29, .iconst (0), [], [0, 0]), (30, .istore 6, [], []), (32, .iload 6, [0, 3, 4, 5, 6], []), (34, .bipush (8), [], [0, 8]), (36, .if_icmp .ge (32), [], [41]), (39, .iload_n 3, [], []), (40, .iload_n 3, [], []), (41, .iload 6, [], []), (43, .ishr, [], []), (44, .iconst (1), [], [0, 1]), (45, .iand, [], []), (46, .iconst (1), [], [0, 1]), (47, .if_icmp .ne (12), [], [36]), (50, .aload_n 0, [], []), (51, .iload 6, [], []), (53, .invokevirtual 177, [], [0, 47, 9, 900, 902, 22, 73, 903]), (56, .goto (4), [], [37]), (59, .iconst (0), [], [0, 0]), (60, .ior, [0, 4, 5, 6], []), (61, .istore_n 3, [], []), (62, .iinc 6 (1), [], [0, 1]), (65, .goto (-33), [], [21]), (68, .iinc 5 (1), [0, 3, 4, 5], [0, 1]), (71, .goto (-49), [], [16]), (74, .iconst (0), [0, 3, 4], [0, 0]), (75, .istore 5, [], []), (77, .iload 5, [0, 3, 4, 5], []), (79, .bipush (8), [], [0, 8]), (81, .if_icmp .ge (39), [], [66]), (84, .iload 4, [], []), (86, .ifCond .eq (25), [], [62]), (89, .iload_n 3, [], []), (90, .iload 5, [], []), (92, .ishr, [], []), (93, .iconst (1), [], [0, 1]), (94, .iand, [], []), (95, .ifCond .eq (12), [], [60]), (98, .aload_n 0, [], []), (99, .iload 5, [], []), (101, .invokevirtual 168, [], [0, 43, 9, 840, 842, 12, 73, 843]), (104, .ifCond .ge (7), [], [62]), (107, .iconst (1), [0, 3, 5], [0, 1]), (108, .goto (4), [], [63]), (111, .iconst (0), [0, 3, 5], [0, 0]), (112, .istore 4, [0, 3, 5], []), (114, .iinc 5 (1), [], [0, 1]), (117, .goto (-40), [], [45]), (120, .iload 4, [4], []), (122, .ireturn, [], [])]
def rn_q48 : rn_M := (yX9_isWell, cX9_isWell, 7, some .boolean, rn_t48, 2, 6, 135, 0)
/-- 49: RecordNichesModel.endOf(II)I -/
def rn_t49 : List rn_I := [(0, .iload_n 2, [], []), (1, .istore_n 3, [], []), (2, .iconst (1), [], [0, 1]), (3, .istore 4, [], []), (5, .iconst (0), [], [0, 0]), (6, .istore 5, [], []), (8, .iload 4, [0, 1, 3, 4, 5], []), (10, .ifCond .le (142), [], [78]), (13, .aload_n 0, [], []), (14, .iload_n 1, [], []), (15, .iload_n 3, [], []), (16, .invokevirtual 128, [], [0, 33, 9, 848, 850, 14, 73, 851]), (19, .istore 6, [], []), (21, .iload 6, [], []), (23, .bipush (40), [], [0, 40]), (25, .if_icmp .eq (10), [], [19]), (28, .iload 6, [], []), (30, .bipush (91), [], [0, 91]), (32, .if_icmp .ne (7), [], [21]), (35, .iconst (1), [0, 1, 3, 4, 5, 6], [0, 1]), (36, .goto (4), [], [22]), (39, .iconst (0), [], [0, 0]), (40, .istore 7, [0, 1, 3, 4, 5, 6], []), (42, .iload 6, [], []), (44, .bipush (41), [], [0, 41]), (46, .if_icmp .eq (10), [], [29]), (49, .iload 6, [], []), (51, .bipush (93), [], [0, 93]), (53, .if_icmp .ne (7), [], [31]), (56, .iconst (1), [0, 1, 3, 4, 5, 6, 7], [0, 1]), (57, .goto (4), [], [32]), (60, .iconst (0), [], [0, 0]), (61, .istore 8, [0, 1, 3, 4, 5, 6, 7], []), (63, .iload 5, [], []), (65, .iload 7, [], []), (67, .ifCond .eq (7), [], [38]), (70, .iconst (1), [], [0, 1]), (71, .goto (13), [], [43]), (74, .iload 8, [], []), (76, .ifCond .eq (7), [], [42]), (79, .iconst (-1), [], [1, 1]), (80, .goto (4), [], [43]), (83, .iconst (0), [], [0, 0]), (84, .iadd, [0, 1, 3, 4, 6], []), (85, .istore 5, [], []), (87, .iload 6, [], []), (89, .invokestatic 144, [], [0, 37, 9, 864, 865, 0, 73, 866]), (92, .ifCond .eq (19), [], [56]), (95, .aload_n 0, [], []), (96, .iload 6, [], []), (98, .bipush (65), [], [0, 65]), (100, .isub, [], []), (101, .invokevirtual 147, [], [0, 36, 9, 869, 871, 18, 73, 872]), (104, .ifCond .eq (7), [], [56]), (107, .iconst (1), [], [0, 1]), (108, .goto (4), [], [57]), (111, .iconst (0), [0, 1, 3, 4, 5, 6], [0, 0]), (112, .istore 9, [0, 1, 3, 4, 5, 6], []), (114, .iload 4, [], []), (116, .iload 5, [], []), (118, .ifCond .ne (12), [], [65]), (121, .iload 9, [], []), (123, .ifCond .ne (7), [], [65]), (126, .iconst (1), [], [0, 1]), (127, .goto (4), [], [66]), (130, .iconst (0), [0, 1, 3, 5, 6], [0, 0]), (131, .isub, [0, 1, 3, 5, 6], []), (132, .istore 4, [], []), (134, .iload_n 3, [], []), (135, .iload 6, [], []), (137, .bipush (101), [], [0, 101]), (139, .if_icmp .ne (7), [], [74]), (142, .iconst (2), [], [0, 2]), (143, .goto (4), [], [75]), (146, .iconst (1), [], [0, 1]), (147, .iadd, [0, 1, 4, 5], []), (148, .istore_n 3, [], []), (149, .goto (-141), [], [6]), (152, .iload_n 3, [3], []), (153, .ireturn, [], [])]
def rn_q49 : rn_M := (yX9_endOf, cX9_endOf, 10, some .int, rn_t49, 2, 2, 45, 0)
/-- 50: RecordNichesModel.addTodo(IIII)V -/
def rn_t50 : List rn_I := [(0, .aload_n 0, [], []), (1, .getfield 34, [], [9, 11, 700]), (4, .aload_n 0, [], []), (5, .getfield 180, [], [9, 15, 704]), (8, .iload_n 1, [], []), (9, .iastore, [], []), (10, .aload_n 0, [], []), (11, .getfield 37, [], [9, 12, 701]), (14, .aload_n 0, [], []), (15, .getfield 180, [], [9, 15, 704]), (18, .iload_n 2, [], []), (19, .iastore, [], []), (20, .aload_n 0, [], []), (21, .getfield 40, [], [9, 13, 702]), (24, .aload_n 0, [], []), (25, .getfield 180, [], [9, 15, 704]), (28, .iload_n 3, [], []), (29, .iastore, [], []), (30, .aload_n 0, [], []), (31, .getfield 43, [], [9, 14, 703]), (34, .aload_n 0, [], []), (35, .getfield 180, [], [9, 15, 704]), (38, .iload 4, [], []), (40, .iastore, [], []), (41, .aload_n 0, [], []), (42, .dup, [], []), (43, .getfield 180, [], [9, 15, 704]), (46, .iconst (1), [], [0, 1]), (47, .iadd, [], []), (48, .putfield 180, [], [9, 15, 0, 704]), (51, .return_, [], [])]
def rn_q50 : rn_M := (yX9_addTodo, cX9_addTodo, 5, none, rn_t50, 4, 0, 0, 0)
/-- 51: RecordNichesModel.addX(III)I -/
def rn_t51 : List rn_I := [(0, .aload_n 0, [], []), (1, .getfield 46, [], [9, 16, 705]), (4, .aload_n 0, [], []), (5, .getfield 183, [], [9, 19, 708]), (8, .iload_n 1, [], []), (9, .iastore, [], []), (10, .aload_n 0, [], []), (11, .getfield 49, [], [9, 17, 706]), (14, .aload_n 0, [], []), (15, .getfield 183, [], [9, 19, 708]), (18, .iload_n 2, [], []), (19, .iastore, [], []), (20, .aload_n 0, [], []), (21, .getfield 52, [], [9, 18, 707]), (24, .aload_n 0, [], []), (25, .getfield 183, [], [9, 19, 708]), (28, .iload_n 3, [], []), (29, .iastore, [], []), (30, .aload_n 0, [], []), (31, .dup, [], []), (32, .getfield 183, [], [9, 19, 708]), (35, .iconst (1), [], [0, 1]), (36, .iadd, [], []), (37, .putfield 183, [], [9, 19, 0, 708]), (40, .aload_n 0, [], []), (41, .getfield 183, [], [9, 19, 708]), (44, .iconst (1), [], [0, 1]), (45, .isub, [], []), (46, .ireturn, [], [])]
def rn_q51 : rn_M := (yX9_addX, cX9_addX, 4, some .int, rn_t51, 3, 0, 0, 0)
/-- 52: RecordNichesModel.kindOf(I)I -/
def rn_t52 : List rn_I := [(0, .iload_n 0, [], []), (1, .lookupswitch (72) #[(40, 67), (48, 59), (91, 69), (98, 61), (101, 63), (112, 65)], [], [14, 10, 2, 12, 4, 6, 8]), (60, .iconst (0), [], [0, 0]), (61, .ireturn, [], []), (62, .iconst (2), [], [0, 2]), (63, .ireturn, [], []), (64, .iconst (3), [], [0, 3]), (65, .ireturn, [], []), (66, .iconst (4), [], [0, 4]), (67, .ireturn, [], []), (68, .iconst (5), [], [0, 5]), (69, .ireturn, [], []), (70, .bipush (6), [], [0, 6]), (72, .ireturn, [], []), (73, .iconst (1), [], [0, 1]), (74, .ireturn, [], [])]
def rn_q52 : rn_M := (yX9_kindOf, cX9_kindOf, 1, some .int, rn_t52, 1, 0, 0, 0)
/-- 53: RecordNichesModel.addWithin(IIII)V -/
def rn_t53 : List rn_I := [(0, .aload_n 0, [], []), (1, .getfield 180, [], [9, 15, 704]), (4, .istore 5, [], []), (6, .iload_n 2, [], []), (7, .iconst (1), [], [0, 1]), (8, .iadd, [], []), (9, .istore 6, [], []), (11, .aload_n 0, [0, 1, 3, 4, 5, 6], []), (12, .iload_n 1, [], []), (13, .iload 6, [], []), (15, .invokevirtual 128, [], [0, 33, 9, 848, 850, 14, 73, 851]), (18, .bipush (41), [], [0, 41]), (20, .if_icmp .eq (37), [], [31]), (23, .aload_n 0, [], []), (24, .iload_n 1, [], []), (25, .iload 6, [], []), (27, .invokevirtual 128, [], [0, 33, 9, 848, 850, 14, 73, 851]), (30, .bipush (93), [], [0, 93]), (32, .if_icmp .eq (25), [], [31]), (35, .aload_n 0, [], []), (36, .iload_n 1, [], []), (37, .iload 6, [], []), (39, .iload_n 3, [], []), (40, .iload 4, [], []), (42, .invokevirtual 186, [], [0, 50, 9, 912, 914, 25, 73, 915]), (45, .aload_n 0, [], []), (46, .iload_n 1, [], []), (47, .iload 6, [], []), (49, .invokevirtual 190, [], [0, 49, 9, 931, 933, 29, 73, 934]), (52, .istore 6, [], []), (54, .goto (-43), [], [7]), (57, .iload 5, [0, 5], []), (59, .istore 7, [], []), (61, .aload_n 0, [], []), (62, .getfield 180, [], [9, 15, 704]), (65, .iconst (1), [], [0, 1]), (66, .isub, [], []), (67, .istore 8, [], []), (69, .iload 7, [0, 7, 8], []), (71, .iload 8, [], []), (73, .if_icmp .ge (44), [], [62]), (76, .aload_n 0, [], []), (77, .getfield 37, [], [9, 12, 701]), (80, .iload 7, [], []), (82, .iaload, [], []), (83, .istore 9, [], []), (85, .aload_n 0, [], []), (86, .getfield 37, [], [9, 12, 701]), (89, .iload 7, [], []), (91, .aload_n 0, [], []), (92, .getfield 37, [], [9, 12, 701]), (95, .iload 8, [], []), (97, .iaload, [], []), (98, .iastore, [], []), (99, .aload_n 0, [], []), (100, .getfield 37, [], [9, 12, 701]), (103, .iload 8, [], []), (105, .iload 9, [], []), (107, .iastore, [], []), (108, .iinc 7 (1), [], [0, 1]), (111, .iinc 8 (-1), [], [1, 1]), (114, .goto (-45), [], [38]), (117, .return_, [999], [])]
def rn_q53 : rn_M := (yX9_addWithin, cX9_addWithin, 10, none, rn_t53, 4, 3, 74, 0)
/-- 54: RecordNichesModel.addPart(IIII)V -/
def rn_t54 : List rn_I := [(0, .aload_n 0, [], []), (1, .iload_n 1, [], []), (2, .iload_n 2, [], []), (3, .invokevirtual 128, [], [0, 33, 9, 848, 850, 14, 73, 851]), (6, .istore 5, [], []), (8, .aload_n 0, [], []), (9, .getfield 19, [], [9, 5, 694]), (12, .aload_n 0, [], []), (13, .getfield 193, [], [9, 10, 699]), (16, .iload 5, [], []), (18, .invokestatic 196, [], [0, 52, 9, 924, 925, 0, 73, 926]), (21, .iastore, [], []), (22, .aload_n 0, [], []), (23, .getfield 22, [], [9, 6, 695]), (26, .aload_n 0, [], []), (27, .getfield 193, [], [9, 10, 699]), (30, .iload 5, [], []), (32, .bipush (101), [], [0, 101]), (34, .if_icmp .ne (17), [], [28]), (37, .aload_n 0, [], []), (38, .iload_n 1, [], []), (39, .iload_n 2, [], []), (40, .iconst (1), [], [0, 1]), (41, .iadd, [], []), (42, .invokevirtual 128, [], [0, 33, 9, 848, 850, 14, 73, 851]), (45, .bipush (48), [], [0, 48]), (47, .isub, [], []), (48, .goto (8), [], [31]), (51, .iload 5, [], []), (53, .bipush (48), [], [0, 48]), (55, .isub, [], []), (56, .iastore, [0, 1, 2, 3, 4, 5], []), (57, .aload_n 0, [], []), (58, .getfield 25, [], [9, 7, 696]), (61, .aload_n 0, [], []), (62, .getfield 193, [], [9, 10, 699]), (65, .iload 4, [], []), (67, .iastore, [], []), (68, .aload_n 0, [], []), (69, .getfield 31, [], [9, 9, 698]), (72, .aload_n 0, [], []), (73, .getfield 193, [], [9, 10, 699]), (76, .iconst (0), [], [0, 0]), (77, .iastore, [], []), (78, .aload_n 0, [], []), (79, .getfield 28, [], [9, 8, 697]), (82, .aload_n 0, [], []), (83, .getfield 193, [], [9, 10, 699]), (86, .iload 4, [], []), (88, .ifCond .ge (7), [], [52]), (91, .iconst (0), [], [0, 0]), (92, .goto (10), [], [56]), (95, .aload_n 0, [], []), (96, .getfield 31, [], [9, 9, 698]), (99, .iload 4, [], []), (101, .iaload, [], []), (102, .iastore, [0, 1, 2, 3, 4, 5], []), (103, .iload 4, [], []), (105, .ifCond .lt (14), [], [67]), (108, .aload_n 0, [], []), (109, .getfield 31, [], [9, 9, 698]), (112, .iload 4, [], []), (114, .dup2, [], []), (115, .iaload, [], []), (116, .iconst (1), [], [0, 1]), (117, .iadd, [], []), (118, .iastore, [], []), (119, .aload_n 0, [0, 1, 2, 3, 5], []), (120, .dup, [], []), (121, .getfield 193, [], [9, 10, 699]), (124, .iconst (1), [], [0, 1]), (125, .iadd, [], []), (126, .putfield 193, [], [9, 10, 0, 699]), (129, .iload 5, [], []), (131, .bipush (40), [], [0, 40]), (133, .if_icmp .eq (10), [], [79]), (136, .iload 5, [], []), (138, .bipush (91), [], [0, 91]), (140, .if_icmp .ne (16), [], [88]), (143, .aload_n 0, [0, 1, 2, 3], []), (144, .iload_n 1, [], []), (145, .iload_n 2, [], []), (146, .iload_n 3, [], []), (147, .aload_n 0, [], []), (148, .getfield 193, [], [9, 10, 699]), (151, .iconst (1), [], [0, 1]), (152, .isub, [], []), (153, .invokevirtual 199, [], [0, 53, 9, 927, 929, 28, 73, 930]), (156, .return_, [999], [])]
def rn_q54 : rn_M := (yX9_addPart, cX9_addPart, 6, none, rn_t54, 4, 4, 103, 0)
/-- 55: RecordNichesModel.openOne()V -/
def rn_t55 : List rn_I := [(0, .aload_n 0, [], []), (1, .dup, [], []), (2, .getfield 180, [], [9, 15, 704]), (5, .iconst (1), [], [0, 1]), (6, .isub, [], []), (7, .putfield 180, [], [9, 15, 0, 704]), (10, .aload_n 0, [], []), (11, .getfield 34, [], [9, 11, 700]), (14, .aload_n 0, [], []), (15, .getfield 180, [], [9, 15, 704]), (18, .iaload, [], []), (19, .istore_n 1, [], []), (20, .aload_n 0, [], []), (21, .getfield 37, [], [9, 12, 701]), (24, .aload_n 0, [], []), (25, .getfield 180, [], [9, 15, 704]), (28, .iaload, [], []), (29, .istore_n 2, [], []), (30, .aload_n 0, [], []), (31, .getfield 40, [], [9, 13, 702]), (34, .aload_n 0, [], []), (35, .getfield 180, [], [9, 15, 704]), (38, .iaload, [], []), (39, .istore_n 3, [], []), (40, .aload_n 0, [], []), (41, .getfield 43, [], [9, 14, 703]), (44, .aload_n 0, [], []), (45, .getfield 180, [], [9, 15, 704]), (48, .iaload, [], []), (49, .istore 4, [], []), (51, .aload_n 0, [], []), (52, .iload_n 1, [], []), (53, .iload_n 2, [], []), (54, .invokevirtual 128, [], [0, 33, 9, 848, 850, 14, 73, 851]), (57, .istore 5, [], []), (59, .aload_n 0, [], []), (60, .dup, [], []), (61, .getfield 202, [], [9, 20, 709]), (64, .iload 5, [], []), (66, .bipush (120), [], [0, 120]), (68, .if_icmp .eq (11), [], [44]), (71, .iload 5, [], []), (73, .invokestatic 144, [], [0, 37, 9, 864, 865, 0, 73, 866]), (76, .ifCond .eq (7), [], [46]), (79, .iconst (1), [0, 1, 2, 3, 4, 5], [0, 1]), (80, .goto (4), [], [47]), (83, .iconst (0), [], [0, 0]), (84, .iadd, [0, 1, 2, 3, 4, 5], []), (85, .putfield 202, [], [9, 20, 0, 709]), (88, .iload 5, [], []), (90, .bipush (120), [], [0, 120]), (92, .if_icmp .ne (30), [], [68]), (95, .aload_n 0, [], []), (96, .aload_n 0, [], []), (97, .getfield 46, [], [9, 16, 705]), (100, .iload_n 3, [], []), (101, .iaload, [], []), (102, .aload_n 0, [], []), (103, .getfield 49, [], [9, 17, 706]), (106, .iload_n 3, [], []), (107, .iaload, [], []), (108, .aload_n 0, [], []), (109, .getfield 52, [], [9, 18, 707]), (112, .iload_n 3, [], []), (113, .iaload, [], []), (114, .iload 4, [], []), (116, .invokevirtual 186, [], [0, 50, 9, 912, 914, 25, 73, 915]), (119, .goto (61), [], [100]), (122, .iload 5, [], []), (124, .invokestatic 144, [], [0, 37, 9, 864, 865, 0, 73, 866]), (127, .ifCond .eq (44), [], [94]), (130, .aload_n 0, [], []), (131, .iload 5, [], []), (133, .bipush (65), [], [0, 65]), (135, .isub, [], []), (136, .iconst (0), [], [0, 0]), (137, .aload_n 0, [], []), (138, .iload 5, [], []), (140, .bipush (65), [], [0, 65]), (142, .isub, [], []), (143, .invokevirtual 147, [], [0, 36, 9, 869, 871, 18, 73, 872]), (146, .ifCond .eq (15), [], [90]), (149, .aload_n 0, [], []), (150, .iload_n 1, [], []), (151, .iload_n 2, [], []), (152, .iconst (1), [], [0, 1]), (153, .iadd, [], []), (154, .iload_n 3, [], []), (155, .invokevirtual 205, [], [0, 51, 9, 908, 910, 24, 73, 911]), (158, .goto (5), [], [91]), (161, .bipush (-6), [], [1, 6]), (163, .iload 4, [4], []), (165, .invokevirtual 186, [], [0, 50, 9, 912, 914, 25, 73, 915]), (168, .goto (12), [], [100]), (171, .aload_n 0, [], []), (172, .iload_n 1, [], []), (173, .iload_n 2, [], []), (174, .iload_n 3, [], []), (175, .iload 4, [], []), (177, .invokevirtual 209, [], [0, 54, 9, 920, 922, 27, 73, 923]), (180, .return_, [999], [])]
def rn_q55 : rn_M := (yX9_openOne, cX9_openOne, 6, none, rn_t55, 0, 5, 128, 0)
/-- 56: RecordNichesModel.isOpened(II)Z -/
def rn_t56 : List rn_I := [(0, .aload_n 0, [], []), (1, .iconst (0), [], [0, 0]), (2, .putfield 193, [], [9, 10, 0, 699]), (5, .aload_n 0, [], []), (6, .iconst (0), [], [0, 0]), (7, .putfield 180, [], [9, 15, 0, 704]), (10, .aload_n 0, [], []), (11, .iconst (0), [], [0, 0]), (12, .putfield 183, [], [9, 19, 0, 708]), (15, .aload_n 0, [], []), (16, .iconst (0), [], [0, 0]), (17, .putfield 202, [], [9, 20, 0, 709]), (20, .aload_n 0, [], []), (21, .iload_n 1, [], []), (22, .iconst (0), [], [0, 0]), (23, .iload_n 2, [], []), (24, .ifCond .ge (8), [], [19]), (27, .bipush (-6), [], [1, 6]), (29, .goto (11), [], [24]), (32, .aload_n 0, [], []), (33, .iload_n 2, [], []), (34, .iconst (0), [], [0, 0]), (35, .bipush (-6), [], [1, 6]), (37, .invokevirtual 205, [], [0, 51, 9, 908, 910, 24, 73, 911]), (40, .bipush (-6), [0], [1, 6]), (42, .invokevirtual 186, [], [0, 50, 9, 912, 914, 25, 73, 915]), (45, .aload_n 0, [0], []), (46, .getfield 180, [], [9, 15, 704]), (49, .ifCond .le (29), [], [40]), (52, .aload_n 0, [], []), (53, .getfield 193, [], [9, 10, 699]), (56, .bipush (100), [], [0, 100]), (58, .if_icmp .gt (20), [], [40]), (61, .aload_n 0, [], []), (62, .getfield 202, [], [9, 20, 709]), (65, .sipush (500), [], [0, 500]), (68, .if_icmp .gt (10), [], [40]), (71, .aload_n 0, [], []), (72, .invokevirtual 212, [], [0, 55, 9, 916, 918, 26, 73, 919]), (75, .goto (-30), [], [26]), (78, .aload_n 0, [0], []), (79, .getfield 180, [], [9, 15, 704]), (82, .ifCond .ne (26), [], [53]), (85, .aload_n 0, [], []), (86, .getfield 193, [], [9, 10, 699]), (89, .bipush (100), [], [0, 100]), (91, .if_icmp .gt (17), [], [53]), (94, .aload_n 0, [], []), (95, .getfield 202, [], [9, 20, 709]), (98, .sipush (500), [], [0, 500]), (101, .if_icmp .gt (7), [], [53]), (104, .iconst (1), [], [0, 1]), (105, .goto (4), [], [54]), (108, .iconst (0), [999], [0, 0]), (109, .ireturn, [999], [])]
def rn_q56 : rn_M := (yX9_isOpened, cX9_isOpened, 3, some .boolean, rn_t56, 2, 6, 153, 0)
/-- 57: RecordNichesModel.child(II)I -/
def rn_t57 : List rn_I := [(0, .iload_n 1, [], []), (1, .iconst (1), [], [0, 1]), (2, .iadd, [], []), (3, .istore_n 3, [], []), (4, .iload_n 3, [0, 1, 2, 3], []), (5, .aload_n 0, [], []), (6, .getfield 193, [], [9, 10, 699]), (9, .if_icmp .ge (31), [], [24]), (12, .aload_n 0, [], []), (13, .getfield 25, [], [9, 7, 696]), (16, .iload_n 3, [], []), (17, .iaload, [], []), (18, .iload_n 1, [], []), (19, .if_icmp .ne (15), [], [22]), (22, .aload_n 0, [], []), (23, .getfield 28, [], [9, 8, 697]), (26, .iload_n 3, [], []), (27, .iaload, [], []), (28, .iload_n 2, [], []), (29, .if_icmp .ne (5), [], [22]), (32, .iload_n 3, [], []), (33, .ireturn, [], []), (34, .iinc 3 (1), [0, 1, 2, 3], [0, 1]), (37, .goto (-33), [], [4]), (40, .bipush (-6), [999], [1, 6]), (42, .ireturn, [], [])]
def rn_q57 : rn_M := (yX9_child, cX9_child, 4, some .int, rn_t57, 2, 0, 0, 0)
/-- 58: RecordNichesModel.gap(IIIII)V -/
def rn_t58 : List rn_I := [(0, .aload_n 0, [], []), (1, .getfield 64, [], [9, 24, 713]), (4, .iload_n 1, [], []), (5, .iload_n 2, [], []), (6, .iastore, [], []), (7, .aload_n 0, [], []), (8, .getfield 67, [], [9, 25, 714]), (11, .iload_n 1, [], []), (12, .iload_n 3, [], []), (13, .iastore, [], []), (14, .aload_n 0, [], []), (15, .getfield 70, [], [9, 26, 715]), (18, .iload_n 1, [], []), (19, .iload 4, [], []), (21, .iastore, [], []), (22, .aload_n 0, [], []), (23, .getfield 73, [], [9, 27, 716]), (26, .iload_n 1, [], []), (27, .iload 5, [], []), (29, .iastore, [], []), (30, .return_, [], [])]
def rn_q58 : rn_M := (yX9_gap, cX9_gap, 6, none, rn_t58, 5, 0, 0, 0)
/-- 59: RecordNichesModel.layLeaf(I)V -/
def rn_t59 : List rn_I := [(0, .aload_n 0, [], []), (1, .getfield 19, [], [9, 5, 694]), (4, .iload_n 1, [], []), (5, .iaload, [], []), (6, .ifCond .ne (7), [], [7]), (9, .iconst (0), [], [0, 0]), (10, .goto (37), [], [27]), (13, .aload_n 0, [], []), (14, .getfield 19, [], [9, 5, 694]), (17, .iload_n 1, [], []), (18, .iaload, [], []), (19, .iconst (1), [], [0, 1]), (20, .if_icmp .ne (12), [], [18]), (23, .aload_n 0, [], []), (24, .getfield 22, [], [9, 6, 695]), (27, .iload_n 1, [], []), (28, .iaload, [], []), (29, .goto (18), [], [27]), (32, .aload_n 0, [], []), (33, .getfield 19, [], [9, 5, 694]), (36, .iload_n 1, [], []), (37, .iaload, [], []), (38, .iconst (4), [], [0, 4]), (39, .if_icmp .ne (7), [], [26]), (42, .iconst (4), [], [0, 4]), (43, .goto (4), [], [27]), (46, .iconst (1), [], [0, 1]), (47, .istore_n 2, [0, 1], []), (48, .aload_n 0, [], []), (49, .getfield 55, [], [9, 21, 710]), (52, .iload_n 1, [], []), (53, .iload_n 2, [], []), (54, .iastore, [], []), (55, .aload_n 0, [], []), (56, .getfield 58, [], [9, 22, 711]), (59, .iload_n 1, [], []), (60, .iconst (1), [], [0, 1]), (61, .iload_n 2, [], []), (62, .invokestatic 215, [], [0, 31, 9, 962, 963, 0, 73, 964]), (65, .iastore, [], []), (66, .aload_n 0, [], []), (67, .iload_n 1, [], []), (68, .iconst (0), [], [0, 0]), (69, .iconst (0), [], [0, 0]), (70, .iconst (0), [], [0, 0]), (71, .iconst (0), [], [0, 0]), (72, .invokevirtual 218, [], [0, 58, 9, 965, 967, 36, 73, 968]), (75, .aload_n 0, [], []), (76, .getfield 19, [], [9, 5, 694]), (79, .iload_n 1, [], []), (80, .iaload, [], []), (81, .iconst (2), [], [0, 2]), (82, .if_icmp .ne (14), [], [60]), (85, .aload_n 0, [], []), (86, .iload_n 1, [], []), (87, .iconst (0), [], [0, 0]), (88, .iconst (1), [], [0, 1]), (89, .iconst (2), [], [0, 2]), (90, .sipush (254), [], [0, 254]), (93, .invokevirtual 218, [], [0, 58, 9, 965, 967, 36, 73, 968]), (96, .aload_n 0, [0, 1], []), (97, .getfield 19, [], [9, 5, 694]), (100, .iload_n 1, [], []), (101, .iaload, [], []), (102, .iconst (3), [], [0, 3]), (103, .if_icmp .ne (26), [], [81]), (106, .aload_n 0, [], []), (107, .iload_n 1, [], []), (108, .iconst (0), [], [0, 0]), (109, .iconst (1), [], [0, 1]), (110, .aload_n 0, [], []), (111, .getfield 22, [], [9, 6, 695]), (114, .iload_n 1, [], []), (115, .iaload, [], []), (116, .sipush (256), [], [0, 256]), (119, .aload_n 0, [], []), (120, .getfield 22, [], [9, 6, 695]), (123, .iload_n 1, [], []), (124, .iaload, [], []), (125, .isub, [], []), (126, .invokevirtual 218, [], [0, 58, 9, 965, 967, 36, 73, 968]), (129, .aload_n 0, [0, 1], []), (130, .getfield 19, [], [9, 5, 694]), (133, .iload_n 1, [], []), (134, .iaload, [], []), (135, .iconst (4), [], [0, 4]), (136, .if_icmp .ne (12), [], [94]), (139, .aload_n 0, [], []), (140, .iload_n 1, [], []), (141, .iconst (0), [], [0, 0]), (142, .iconst (4), [], [0, 4]), (143, .iconst (0), [], [0, 0]), (144, .iconst (1), [], [0, 1]), (145, .invokevirtual 218, [], [0, 58, 9, 965, 967, 36, 73, 968]), (148, .return_, [999], [])]
def rn_q59 : rn_M := (yX9_layLeaf, cX9_layLeaf, 3, none, rn_t59, 1, 1, 25, 0)
/-- 60: RecordNichesModel.greatestAlign(I)I -/
def rn_t60 : List rn_I := [(0, .iconst (1), [], [0, 1]), (1, .istore_n 2, [], []), (2, .iconst (0), [], [0, 0]), (3, .istore_n 3, [], []), (4, .iload_n 3, [0, 1, 2, 3], []), (5, .aload_n 0, [], []), (6, .getfield 31, [], [9, 9, 698]), (9, .iload_n 1, [], []), (10, .iaload, [], []), (11, .if_icmp .ge (25), [], [22]), (14, .iload_n 2, [], []), (15, .aload_n 0, [], []), (16, .getfield 58, [], [9, 22, 711]), (19, .aload_n 0, [], []), (20, .iload_n 1, [], []), (21, .iload_n 3, [], []), (22, .invokevirtual 222, [], [0, 57, 9, 951, 953, 34, 73, 954]), (25, .iaload, [], []), (26, .invokestatic 215, [], [0, 31, 9, 962, 963, 0, 73, 964]), (29, .istore_n 2, [], []), (30, .iinc 3 (1), [], [0, 1]), (33, .goto (-29), [], [4]), (36, .iload_n 2, [2], []), (37, .ireturn, [], [])]
def rn_q60 : rn_M := (yX9_greatestAlign, cX9_greatestAlign, 4, some .int, rn_t60, 1, 1, 23, 0)
/-- 61: RecordNichesModel.layFields(III)I -/
def rn_t61 : List rn_I := [(0, .iload_n 3, [], []), (1, .istore 4, [], []), (3, .iconst (0), [], [0, 0]), (4, .istore 5, [], []), (6, .iload 5, [0, 1, 2, 4, 5], []), (8, .aload_n 0, [], []), (9, .getfield 31, [], [9, 9, 698]), (12, .iload_n 1, [], []), (13, .iaload, [], []), (14, .if_icmp .ge (69), [], [45]), (17, .aload_n 0, [], []), (18, .iload_n 1, [], []), (19, .iload 5, [], []), (21, .invokevirtual 222, [], [0, 57, 9, 951, 953, 34, 73, 954]), (24, .istore 6, [], []), (26, .iload_n 2, [], []), (27, .ifCond .eq (14), [], [23]), (30, .aload_n 0, [], []), (31, .getfield 58, [], [9, 22, 711]), (34, .iload 6, [], []), (36, .iaload, [], []), (37, .iload_n 2, [], []), (38, .if_icmp .ne (39), [], [43]), (41, .aload_n 0, [0, 1, 2, 4, 5, 6], []), (42, .getfield 61, [], [9, 23, 712]), (45, .iload 6, [], []), (47, .iload 4, [], []), (49, .aload_n 0, [], []), (50, .getfield 58, [], [9, 22, 711]), (53, .iload 6, [], []), (55, .iaload, [], []), (56, .invokestatic 225, [], [0, 32, 9, 955, 956, 0, 73, 957]), (59, .iastore, [], []), (60, .aload_n 0, [], []), (61, .getfield 61, [], [9, 23, 712]), (64, .iload 6, [], []), (66, .iaload, [], []), (67, .aload_n 0, [], []), (68, .getfield 55, [], [9, 21, 710]), (71, .iload 6, [], []), (73, .iaload, [], []), (74, .iadd, [], []), (75, .istore 4, [], []), (77, .iinc 5 (1), [0, 1, 2, 4, 5], [0, 1]), (80, .goto (-74), [], [4]), (83, .iload 4, [4], []), (85, .ireturn, [], [])]
def rn_q61 : rn_M := (yX9_layFields, cX9_layFields, 7, some .int, rn_t61, 3, 1, 23, 0)
/-- 62: RecordNichesModel.layRecord(I)V -/
def rn_t62 : List rn_I := [(0, .aload_n 0, [], []), (1, .getfield 172, [], [9, 2, 691]), (4, .ifCond .ne (13), [], [9]), (7, .aload_n 0, [], []), (8, .iload_n 1, [], []), (9, .iconst (0), [], [0, 0]), (10, .iconst (0), [], [0, 0]), (11, .invokevirtual 228, [], [0, 61, 9, 947, 949, 33, 73, 950]), (14, .goto (22), [], [22]), (17, .aload_n 0, [], []), (18, .iload_n 1, [], []), (19, .iconst (1), [], [0, 1]), (20, .aload_n 0, [], []), (21, .iload_n 1, [], []), (22, .iconst (2), [], [0, 2]), (23, .aload_n 0, [], []), (24, .iload_n 1, [], []), (25, .iconst (4), [], [0, 4]), (26, .iconst (0), [], [0, 0]), (27, .invokevirtual 228, [], [0, 61, 9, 947, 949, 33, 73, 950]), (30, .invokevirtual 228, [], [0, 61, 9, 947, 949, 33, 73, 950]), (33, .invokevirtual 228, [], [0, 61, 9, 947, 949, 33, 73, 950]), (36, .istore_n 2, [0, 1], []), (37, .aload_n 0, [], []), (38, .getfield 58, [], [9, 22, 711]), (41, .iload_n 1, [], []), (42, .aload_n 0, [], []), (43, .iload_n 1, [], []), (44, .invokevirtual 231, [], [0, 60, 9, 958, 960, 35, 73, 961]), (47, .iastore, [], []), (48, .aload_n 0, [], []), (49, .getfield 55, [], [9, 21, 710]), (52, .iload_n 1, [], []), (53, .iload_n 2, [], []), (54, .aload_n 0, [], []), (55, .getfield 58, [], [9, 22, 711]), (58, .iload_n 1, [], []), (59, .iaload, [], []), (60, .invokestatic 225, [], [0, 32, 9, 955, 956, 0, 73, 957]), (63, .iastore, [], []), (64, .aload_n 0, [], []), (65, .iload_n 1, [], []), (66, .iconst (0), [], [0, 0]), (67, .iconst (0), [], [0, 0]), (68, .iconst (0), [], [0, 0]), (69, .iconst (0), [], [0, 0]), (70, .invokevirtual 218, [], [0, 58, 9, 965, 967, 36, 73, 968]), (73, .iconst (0), [], [0, 0]), (74, .istore_n 3, [], []), (75, .iload_n 3, [0, 1, 3], []), (76, .aload_n 0, [], []), (77, .getfield 31, [], [9, 9, 698]), (80, .iload_n 1, [], []), (81, .iaload, [], []), (82, .if_icmp .ge (127), [], [123]), (85, .aload_n 0, [], []), (86, .iload_n 1, [], []), (87, .iload_n 3, [], []), (88, .invokevirtual 222, [], [0, 57, 9, 951, 953, 34, 73, 954]), (91, .istore 4, [], []), (93, .aload_n 0, [], []), (94, .getfield 61, [], [9, 23, 712]), (97, .iload 4, [], []), (99, .iaload, [], []), (100, .aload_n 0, [], []), (101, .getfield 64, [], [9, 24, 713]), (104, .iload 4, [], []), (106, .iaload, [], []), (107, .iadd, [], []), (108, .istore 5, [], []), (110, .aload_n 0, [], []), (111, .getfield 73, [], [9, 27, 716]), (114, .iload 4, [], []), (116, .iaload, [], []), (117, .aload_n 0, [], []), (118, .getfield 73, [], [9, 27, 716]), (121, .iload_n 1, [], []), (122, .iaload, [], []), (123, .if_icmp .gt (40), [], [99]), (126, .aload_n 0, [], []), (127, .getfield 73, [], [9, 27, 716]), (130, .iload 4, [], []), (132, .iaload, [], []), (133, .aload_n 0, [], []), (134, .getfield 73, [], [9, 27, 716]), (137, .iload_n 1, [], []), (138, .iaload, [], []), (139, .if_icmp .ne (28), [], [101]), (142, .aload_n 0, [], []), (143, .getfield 73, [], [9, 27, 716]), (146, .iload 4, [], []), (148, .iaload, [], []), (149, .ifCond .le (18), [], [101]), (152, .iload 5, [], []), (154, .aload_n 0, [], []), (155, .getfield 64, [], [9, 24, 713]), (158, .iload_n 1, [], []), (159, .iaload, [], []), (160, .if_icmp .ge (7), [], [101]), (163, .iconst (1), [0, 1, 3, 4, 5], [0, 1]), (164, .goto (4), [], [102]), (167, .iconst (0), [0, 1, 3, 4, 5], [0, 0]), (168, .istore 6, [0, 1, 3, 4, 5], []), (170, .iload 6, [], []), (172, .ifCond .eq (31), [], [121]), (175, .aload_n 0, [], []), (176, .iload_n 1, [], []), (177, .iload 5, [], []), (179, .aload_n 0, [], []), (180, .getfield 67, [], [9, 25, 714]), (183, .iload 4, [], []), (185, .iaload, [], []), (186, .aload_n 0, [], []), (187, .getfield 70, [], [9, 26, 715]), (190, .iload 4, [], []), (192, .iaload, [], []), (193, .aload_n 0, [], []), (194, .getfield 73, [], [9, 27, 716]), (197, .iload 4, [], []), (199, .iaload, [], []), (200, .invokevirtual 218, [], [0, 58, 9, 965, 967, 36, 73, 968]), (203, .iinc 3 (1), [0, 1, 3], [0, 1]), (206, .goto (-131), [], [49]), (209, .return_, [999], [])]
def rn_q62 : rn_M := (yX9_layRecord, cX9_layRecord, 7, none, rn_t62, 1, 2, 49, 0)
/-- 63: RecordNichesModel.hostOf(I)I -/
def rn_t63 : List rn_I := [(0, .iconst (0), [], [0, 0]), (1, .istore_n 2, [], []), (2, .iconst (1), [], [0, 1]), (3, .istore_n 3, [], []), (4, .iload_n 3, [0, 1, 2, 3], []), (5, .aload_n 0, [], []), (6, .getfield 31, [], [9, 9, 698]), (9, .iload_n 1, [], []), (10, .iaload, [], []), (11, .if_icmp .ge (40), [], [31]), (14, .aload_n 0, [], []), (15, .getfield 55, [], [9, 21, 710]), (18, .aload_n 0, [], []), (19, .iload_n 1, [], []), (20, .iload_n 3, [], []), (21, .invokevirtual 222, [], [0, 57, 9, 951, 953, 34, 73, 954]), (24, .iaload, [], []), (25, .aload_n 0, [], []), (26, .getfield 55, [], [9, 21, 710]), (29, .aload_n 0, [], []), (30, .iload_n 1, [], []), (31, .iload_n 2, [], []), (32, .invokevirtual 222, [], [0, 57, 9, 951, 953, 34, 73, 954]), (35, .iaload, [], []), (36, .if_icmp .le (7), [], [27]), (39, .iload_n 3, [], []), (40, .goto (4), [], [28]), (43, .iload_n 2, [], []), (44, .istore_n 2, [0, 1, 3], []), (45, .iinc 3 (1), [], [0, 1]), (48, .goto (-44), [], [4]), (51, .iload_n 2, [2], []), (52, .ireturn, [], [])]
def rn_q63 : rn_M := (yX9_hostOf, cX9_hostOf, 4, some .int, rn_t63, 1, 1, 23, 0)
/-- 64: RecordNichesModel.roomFor(II)I -/
def rn_t64 : List rn_I := [(0, .aload_n 0, [], []), (1, .getfield 55, [], [9, 21, 710]), (4, .iload_n 1, [], []), (5, .iaload, [], []), (6, .aload_n 0, [], []), (7, .getfield 64, [], [9, 24, 713]), (10, .iload_n 2, [], []), (11, .iaload, [], []), (12, .if_icmp .gt (5), [], [11]), (15, .iconst (0), [], [0, 0]), (16, .ireturn, [], []), (17, .aload_n 0, [], []), (18, .getfield 64, [], [9, 24, 713]), (21, .iload_n 2, [], []), (22, .iaload, [], []), (23, .aload_n 0, [], []), (24, .getfield 67, [], [9, 25, 714]), (27, .iload_n 2, [], []), (28, .iaload, [], []), (29, .iadd, [], []), (30, .aload_n 0, [], []), (31, .getfield 58, [], [9, 22, 711]), (34, .iload_n 1, [], []), (35, .iaload, [], []), (36, .invokestatic 225, [], [0, 32, 9, 955, 956, 0, 73, 957]), (39, .istore_n 3, [], []), (40, .iload_n 3, [], []), (41, .aload_n 0, [], []), (42, .getfield 55, [], [9, 21, 710]), (45, .iload_n 1, [], []), (46, .iaload, [], []), (47, .iadd, [], []), (48, .aload_n 0, [], []), (49, .getfield 55, [], [9, 21, 710]), (52, .iload_n 2, [], []), (53, .iaload, [], []), (54, .if_icmp .gt (7), [], [39]), (57, .iload_n 3, [], []), (58, .goto (5), [], [40]), (61, .bipush (-6), [], [1, 6]), (63, .ireturn, [999], [])]
def rn_q64 : rn_M := (yX9_roomFor, cX9_roomFor, 4, some .int, rn_t64, 2, 1, 21, 0)
/-- 65: RecordNichesModel.isHidden(II)Z -/
def rn_t65 : List rn_I := [(0, .aload_n 0, [], []), (1, .getfield 73, [], [9, 27, 716]), (4, .iload_n 2, [], []), (5, .iaload, [], []), (6, .aload_n 0, [], []), (7, .getfield 31, [], [9, 9, 698]), (10, .iload_n 1, [], []), (11, .iaload, [], []), (12, .iconst (1), [], [0, 1]), (13, .isub, [], []), (14, .if_icmp .lt (7), [], [13]), (17, .iconst (1), [], [0, 1]), (18, .goto (4), [], [14]), (21, .iconst (0), [], [0, 0]), (22, .istore_n 3, [0, 1, 2], []), (23, .iconst (0), [], [0, 0]), (24, .istore 4, [], []), (26, .iload 4, [0, 1, 2, 3, 4], []), (28, .aload_n 0, [], []), (29, .getfield 31, [], [9, 9, 698]), (32, .iload_n 1, [], []), (33, .iaload, [], []), (34, .if_icmp .ge (44), [], [44]), (37, .aload_n 0, [], []), (38, .iload_n 1, [], []), (39, .iload 4, [], []), (41, .invokevirtual 222, [], [0, 57, 9, 951, 953, 34, 73, 954]), (44, .istore 5, [], []), (46, .iload_n 3, [], []), (47, .ifCond .eq (23), [], [40]), (50, .iload 5, [], []), (52, .iload_n 2, [], []), (53, .if_icmp .eq (13), [], [38]), (56, .aload_n 0, [], []), (57, .iload 5, [], []), (59, .iload_n 2, [], []), (60, .invokevirtual 234, [], [0, 64, 9, 981, 983, 40, 73, 984]), (63, .ifCond .lt (7), [], [40]), (66, .iconst (1), [0, 1, 2, 4], [0, 1]), (67, .goto (4), [], [41]), (70, .iconst (0), [0, 1, 2, 4], [0, 0]), (71, .istore_n 3, [0, 1, 2, 4], []), (72, .iinc 4 (1), [], [0, 1]), (75, .goto (-49), [], [17]), (78, .iload_n 3, [3], []), (79, .ireturn, [], [])]
def rn_q65 : rn_M := (yX9_isHidden, cX9_isHidden, 6, some .boolean, rn_t65, 2, 2, 44, 0)
/-- 66: RecordNichesModel.layHidden(II)V -/
def rn_t66 : List rn_I := [(0, .iconst (0), [], [0, 0]), (1, .istore_n 3, [], []), (2, .iload_n 3, [0, 1, 2, 3], []), (3, .aload_n 0, [], []), (4, .getfield 31, [], [9, 9, 698]), (7, .iload_n 1, [], []), (8, .iaload, [], []), (9, .if_icmp .ge (41), [], [28]), (12, .aload_n 0, [], []), (13, .iload_n 1, [], []), (14, .iload_n 3, [], []), (15, .invokevirtual 222, [], [0, 57, 9, 951, 953, 34, 73, 954]), (18, .istore 4, [], []), (20, .aload_n 0, [], []), (21, .getfield 61, [], [9, 23, 712]), (24, .iload 4, [], []), (26, .iload 4, [], []), (28, .iload_n 2, [], []), (29, .if_icmp .ne (7), [], [21]), (32, .iconst (0), [], [0, 0]), (33, .goto (10), [], [25]), (36, .aload_n 0, [], []), (37, .iload 4, [], []), (39, .iload_n 2, [], []), (40, .invokevirtual 234, [], [0, 64, 9, 981, 983, 40, 73, 984]), (43, .iastore, [0, 1, 2, 3], []), (44, .iinc 3 (1), [], [0, 1]), (47, .goto (-45), [], [2]), (50, .aload_n 0, [0, 1, 2], []), (51, .getfield 31, [], [9, 9, 698]), (54, .iload_n 1, [], []), (55, .iaload, [], []), (56, .iconst (1), [], [0, 1]), (57, .isub, [], []), (58, .istore_n 3, [], []), (59, .aload_n 0, [], []), (60, .getfield 55, [], [9, 21, 710]), (63, .iload_n 1, [], []), (64, .aload_n 0, [], []), (65, .getfield 55, [], [9, 21, 710]), (68, .iload_n 2, [], []), (69, .iaload, [], []), (70, .aload_n 0, [], []), (71, .getfield 58, [], [9, 22, 711]), (74, .iload_n 1, [], []), (75, .iaload, [], []), (76, .invokestatic 225, [], [0, 32, 9, 955, 956, 0, 73, 957]), (79, .iastore, [], []), (80, .aload_n 0, [], []), (81, .iload_n 1, [], []), (82, .aload_n 0, [], []), (83, .getfield 64, [], [9, 24, 713]), (86, .iload_n 2, [], []), (87, .iaload, [], []), (88, .aload_n 0, [], []), (89, .getfield 67, [], [9, 25, 714]), (92, .iload_n 2, [], []), (93, .iaload, [], []), (94, .aload_n 0, [], []), (95, .getfield 70, [], [9, 26, 715]), (98, .iload_n 2, [], []), (99, .iaload, [], []), (100, .iload_n 3, [], []), (101, .iadd, [], []), (102, .aload_n 0, [], []), (103, .getfield 73, [], [9, 27, 716]), (106, .iload_n 2, [], []), (107, .iaload, [], []), (108, .iload_n 3, [], []), (109, .isub, [], []), (110, .invokevirtual 218, [], [0, 58, 9, 965, 967, 36, 73, 968]), (113, .return_, [], [])]
def rn_q66 : rn_M := (yX9_layHidden, cX9_layHidden, 5, none, rn_t66, 2, 2, 44, 0)
/-- 67: RecordNichesModel.layTagged(I)V -/
def rn_t67 : List rn_I := [(0, .iconst (1), [], [0, 1]), (1, .istore_n 2, [], []), (2, .iconst (0), [], [0, 0]), (3, .istore_n 3, [], []), (4, .iload_n 3, [0, 1, 2, 3], []), (5, .aload_n 0, [], []), (6, .getfield 31, [], [9, 9, 698]), (9, .iload_n 1, [], []), (10, .iaload, [], []), (11, .if_icmp .ge (55), [], [39]), (14, .aload_n 0, [], []), (15, .iload_n 1, [], []), (16, .iload_n 3, [], []), (17, .invokevirtual 222, [], [0, 57, 9, 951, 953, 34, 73, 954]), (20, .istore 4, [], []), (22, .aload_n 0, [], []), (23, .getfield 61, [], [9, 23, 712]), (26, .iload 4, [], []), (28, .iconst (1), [], [0, 1]), (29, .aload_n 0, [], []), (30, .getfield 58, [], [9, 22, 711]), (33, .iload 4, [], []), (35, .iaload, [], []), (36, .invokestatic 225, [], [0, 32, 9, 955, 956, 0, 73, 957]), (39, .iastore, [], []), (40, .iload_n 2, [], []), (41, .aload_n 0, [], []), (42, .getfield 61, [], [9, 23, 712]), (45, .iload 4, [], []), (47, .iaload, [], []), (48, .aload_n 0, [], []), (49, .getfield 55, [], [9, 21, 710]), (52, .iload 4, [], []), (54, .iaload, [], []), (55, .iadd, [], []), (56, .invokestatic 215, [], [0, 31, 9, 962, 963, 0, 73, 964]), (59, .istore_n 2, [], []), (60, .iinc 3 (1), [], [0, 1]), (63, .goto (-59), [], [4]), (66, .aload_n 0, [0, 1, 2], []), (67, .getfield 55, [], [9, 21, 710]), (70, .iload_n 1, [], []), (71, .iload_n 2, [], []), (72, .aload_n 0, [], []), (73, .getfield 58, [], [9, 22, 711]), (76, .iload_n 1, [], []), (77, .iaload, [], []), (78, .invokestatic 225, [], [0, 32, 9, 955, 956, 0, 73, 957]), (81, .iastore, [], []), (82, .aload_n 0, [], []), (83, .iload_n 1, [], []), (84, .iconst (0), [], [0, 0]), (85, .iconst (1), [], [0, 1]), (86, .aload_n 0, [], []), (87, .getfield 31, [], [9, 9, 698]), (90, .iload_n 1, [], []), (91, .iaload, [], []), (92, .sipush (256), [], [0, 256]), (95, .aload_n 0, [], []), (96, .getfield 31, [], [9, 9, 698]), (99, .iload_n 1, [], []), (100, .iaload, [], []), (101, .isub, [], []), (102, .invokevirtual 218, [], [0, 58, 9, 965, 967, 36, 73, 968]), (105, .return_, [], [])]
def rn_q67 : rn_M := (yX9_layTagged, cX9_layTagged, 5, none, rn_t67, 1, 1, 25, 0)
/-- 68: RecordNichesModel.layVariant(I)V -/
def rn_t68 : List rn_I := [(0, .aload_n 0, [], []), (1, .getfield 58, [], [9, 22, 711]), (4, .iload_n 1, [], []), (5, .aload_n 0, [], []), (6, .iload_n 1, [], []), (7, .invokevirtual 231, [], [0, 60, 9, 958, 960, 35, 73, 961]), (10, .iastore, [], []), (11, .aload_n 0, [], []), (12, .getfield 79, [], [9, 29, 718]), (15, .iload_n 1, [], []), (16, .aload_n 0, [], []), (17, .iload_n 1, [], []), (18, .invokevirtual 237, [], [0, 63, 9, 973, 975, 38, 73, 976]), (21, .iastore, [], []), (22, .aload_n 0, [], []), (23, .iload_n 1, [], []), (24, .aload_n 0, [], []), (25, .getfield 79, [], [9, 29, 718]), (28, .iload_n 1, [], []), (29, .iaload, [], []), (30, .invokevirtual 222, [], [0, 57, 9, 951, 953, 34, 73, 954]), (33, .istore_n 2, [], []), (34, .aload_n 0, [], []), (35, .getfield 76, [], [9, 28, 717]), (38, .iload_n 1, [], []), (39, .aload_n 0, [], []), (40, .getfield 31, [], [9, 9, 698]), (43, .iload_n 1, [], []), (44, .iaload, [], []), (45, .iconst (1), [], [0, 1]), (46, .if_icmp .ne (7), [], [33]), (49, .iconst (0), [], [0, 0]), (50, .goto (17), [], [41]), (53, .aload_n 0, [], []), (54, .iload_n 1, [], []), (55, .iload_n 2, [], []), (56, .invokevirtual 240, [], [0, 65, 9, 977, 979, 39, 73, 980]), (59, .ifCond .eq (7), [], [40]), (62, .iconst (1), [], [0, 1]), (63, .goto (4), [], [41]), (66, .iconst (2), [], [0, 2]), (67, .iastore, [0, 1, 2], []), (68, .aload_n 0, [], []), (69, .getfield 76, [], [9, 28, 717]), (72, .iload_n 1, [], []), (73, .iaload, [], []), (74, .iconst (2), [], [0, 2]), (75, .if_icmp .ne (11), [], [52]), (78, .aload_n 0, [], []), (79, .iload_n 1, [], []), (80, .invokevirtual 243, [], [0, 67, 9, 985, 987, 41, 73, 988]), (83, .goto (9), [], [56]), (86, .aload_n 0, [], []), (87, .iload_n 1, [], []), (88, .iload_n 2, [], []), (89, .invokevirtual 246, [], [0, 66, 9, 989, 991, 42, 73, 992]), (92, .return_, [999], [])]
def rn_q68 : rn_M := (yX9_layVariant, cX9_layVariant, 3, none, rn_t68, 1, 3, 69, 0)
/-- 69: RecordNichesModel.layOne(I)V -/
def rn_t69 : List rn_I := [(0, .aload_n 0, [], []), (1, .getfield 19, [], [9, 5, 694]), (4, .iload_n 1, [], []), (5, .iaload, [], []), (6, .iconst (5), [], [0, 5]), (7, .if_icmp .ne (11), [], [10]), (10, .aload_n 0, [], []), (11, .iload_n 1, [], []), (12, .invokevirtual 250, [], [0, 62, 9, 943, 945, 32, 73, 946]), (15, .goto (27), [], [23]), (18, .aload_n 0, [], []), (19, .getfield 19, [], [9, 5, 694]), (22, .iload_n 1, [], []), (23, .iaload, [], []), (24, .bipush (6), [], [0, 6]), (26, .if_icmp .ne (11), [], [20]), (29, .aload_n 0, [], []), (30, .iload_n 1, [], []), (31, .invokevirtual 253, [], [0, 68, 9, 969, 971, 37, 73, 972]), (34, .goto (8), [], [23]), (37, .aload_n 0, [], []), (38, .iload_n 1, [], []), (39, .invokevirtual 256, [], [0, 59, 9, 993, 995, 43, 73, 996]), (42, .return_, [999], [])]
def rn_q69 : rn_M := (yX9_layOne, cX9_layOne, 2, none, rn_t69, 1, 4, 91, 0)
/-- 70: RecordNichesModel.isLaid()Z -/
def rn_t70 : List rn_I := [(0, .aload_n 0, [], []), (1, .getfield 61, [], [9, 23, 712]), (4, .iconst (0), [], [0, 0]), (5, .iconst (0), [], [0, 0]), (6, .iastore, [], []), (7, .iconst (1), [], [0, 1]), (8, .istore_n 1, [], []), (9, .aload_n 0, [], []), (10, .getfield 193, [], [9, 10, 699]), (13, .iconst (1), [], [0, 1]), (14, .isub, [], []), (15, .istore_n 2, [], []), (16, .iload_n 2, [0, 1, 2], []), (17, .ifCond .lt (35), [], [31]), (20, .aload_n 0, [], []), (21, .iload_n 2, [], []), (22, .invokevirtual 259, [], [0, 69, 9, 939, 941, 31, 73, 942]), (25, .iload_n 1, [], []), (26, .ifCond .eq (18), [], [27]), (29, .aload_n 0, [], []), (30, .getfield 55, [], [9, 21, 710]), (33, .iload_n 2, [], []), (34, .iaload, [], []), (35, .bipush (64), [], [0, 64]), (37, .if_icmp .gt (7), [], [27]), (40, .iconst (1), [], [0, 1]), (41, .goto (4), [], [28]), (44, .iconst (0), [0, 2], [0, 0]), (45, .istore_n 1, [0, 2], []), (46, .iinc 2 (-1), [], [1, 1]), (49, .goto (-33), [], [12]), (52, .iload_n 1, [1], []), (53, .ireturn, [], [])]
def rn_q70 : rn_M := (yX9_isLaid, cX9_isLaid, 3, some .boolean, rn_t70, 0, 5, 112, 0)
/-- 71: RecordNichesModel.refusal(II)I -/
def rn_t71 : List rn_I := [(0, .aload_n 0, [], []), (1, .iload_n 1, [], []), (2, .iload_n 2, [], []), (3, .invokevirtual 262, [], [0, 48, 9, 896, 898, 21, 73, 899]), (6, .ifCond .ne (6), [], [7]), (9, .bipush (-5), [], [1, 5]), (11, .ireturn, [], []), (12, .aload_n 0, [], []), (13, .iload_n 1, [], []), (14, .iload_n 2, [], []), (15, .invokevirtual 265, [], [0, 56, 9, 904, 906, 23, 73, 907]), (18, .ifCond .eq (15), [], [17]), (21, .aload_n 0, [], []), (22, .invokevirtual 268, [], [0, 70, 9, 935, 937, 30, 73, 938]), (25, .ifCond .eq (8), [], [17]), (28, .bipush (-6), [], [1, 6]), (30, .goto (5), [], [18]), (33, .bipush (-3), [999], [1, 3]), (35, .ireturn, [999], [])]
def rn_q71 : rn_M := (yX9_refusal, cX9_refusal, 3, some .int, rn_t71, 2, 7, 175, 0)
/-- 72: RecordNichesModel.toldOf(I)I -/
def rn_t72 : List rn_I := [(0, .iload_n 1, [], []), (1, .tableswitch (137) (0) (5) #[39, 46, 53, 74, 95, 116], [], [60, 2, 7, 12, 24, 36, 48]), (40, .aload_n 0, [], []), (41, .getfield 55, [], [9, 21, 710]), (44, .iconst (0), [], [0, 0]), (45, .iaload, [], []), (46, .ireturn, [], []), (47, .aload_n 0, [], []), (48, .getfield 58, [], [9, 22, 711]), (51, .iconst (0), [], [0, 0]), (52, .iaload, [], []), (53, .ireturn, [], []), (54, .aload_n 0, [], []), (55, .getfield 73, [], [9, 27, 716]), (58, .iconst (0), [], [0, 0]), (59, .iaload, [], []), (60, .ifCond .ne (8), [], [19]), (63, .bipush (-6), [], [1, 6]), (65, .goto (9), [], [23]), (68, .aload_n 0, [], []), (69, .getfield 64, [], [9, 24, 713]), (72, .iconst (0), [], [0, 0]), (73, .iaload, [], []), (74, .ireturn, [999], []), (75, .aload_n 0, [], []), (76, .getfield 73, [], [9, 27, 716]), (79, .iconst (0), [], [0, 0]), (80, .iaload, [], []), (81, .ifCond .ne (8), [], [31]), (84, .bipush (-6), [], [1, 6]), (86, .goto (9), [], [35]), (89, .aload_n 0, [], []), (90, .getfield 67, [], [9, 25, 714]), (93, .iconst (0), [], [0, 0]), (94, .iaload, [], []), (95, .ireturn, [999], []), (96, .aload_n 0, [], []), (97, .getfield 73, [], [9, 27, 716]), (100, .iconst (0), [], [0, 0]), (101, .iaload, [], []), (102, .ifCond .ne (8), [], [43]), (105, .bipush (-6), [], [1, 6]), (107, .goto (9), [], [47]), (110, .aload_n 0, [], []), (111, .getfield 70, [], [9, 26, 715]), (114, .iconst (0), [], [0, 0]), (115, .iaload, [], []), (116, .ireturn, [999], []), (117, .aload_n 0, [], []), (118, .getfield 73, [], [9, 27, 716]), (121, .iconst (0), [], [0, 0]), (122, .iaload, [], []), (123, .ifCond .ne (8), [], [55]), (126, .bipush (-6), [], [1, 6]), (128, .goto (9), [], [59]), (131, .aload_n 0, [], []), (132, .getfield 73, [], [9, 27, 716]), (135, .iconst (0), [], [0, 0]), (136, .iaload, [], []), (137, .ireturn, [999], []), (138, .aload_n 0, [], []), (139, .getfield 193, [], [9, 10, 699]), (142, .ireturn, [], [])]
def rn_q72 : rn_M := (yX9_toldOf, cX9_toldOf, 2, some .int, rn_t72, 1, 0, 0, 0)
/-- 73: RecordNichesModel.layout(III)I -/
def rn_t73 : List rn_I := [(0, .aload_n 0, [], []), (1, .iload_n 1, [], []), (2, .iload_n 2, [], []), (3, .invokevirtual 272, [], [0, 46, 9, 886, 888, 19, 73, 889]), (6, .ifCond .ne (5), [], [7]), (9, .iconst (-1), [], [1, 1]), (10, .ireturn, [], []), (11, .iload_n 3, [], []), (12, .i2l, [], []), (13, .lconst 0, [], [0, 0]), (14, .ldc2_w 275, [], [0, 6, 891]), (17, .invokestatic 116, [], [0, 29, 9, 827, 828, 0, 73, 829]), (20, .ifCond .ne (6), [], [15]), (23, .bipush (-2), [], [1, 2]), (25, .ireturn, [], []), (26, .aload_n 0, [], []), (27, .iload_n 1, [], []), (28, .iload_n 2, [], []), (29, .invokevirtual 277, [], [0, 71, 9, 892, 894, 20, 73, 895]), (32, .istore 4, [], []), (34, .iload 4, [], []), (36, .bipush (-6), [], [1, 6]), (38, .if_icmp .eq (8), [], [25]), (41, .iload 4, [], []), (43, .goto (8), [], [28]), (46, .aload_n 0, [], []), (47, .iload_n 3, [], []), (48, .invokevirtual 280, [], [0, 72, 9, 997, 999, 44, 73, 1000]), (51, .ireturn, [999], [])]
def rn_q73 : rn_M := (yX9_layout, cX9_layout, 5, some .int, rn_t73, 3, 8, 197, 0)
/-- 74: RecordNichesModel.termTold(II)I -/
def rn_t74 : List rn_I := [(0, .iload_n 2, [], []), (1, .ifCond .ne (12), [], [7]), (4, .aload_n 0, [], []), (5, .getfield 61, [], [9, 23, 712]), (8, .iload_n 1, [], []), (9, .iaload, [], []), (10, .goto (37), [], [27]), (13, .iload_n 2, [], []), (14, .iconst (1), [], [0, 1]), (15, .if_icmp .ne (12), [], [15]), (18, .aload_n 0, [], []), (19, .getfield 55, [], [9, 21, 710]), (22, .iload_n 1, [], []), (23, .iaload, [], []), (24, .goto (23), [], [27]), (27, .iload_n 2, [], []), (28, .iconst (2), [], [0, 2]), (29, .if_icmp .ne (12), [], [23]), (32, .aload_n 0, [], []), (33, .getfield 58, [], [9, 22, 711]), (36, .iload_n 1, [], []), (37, .iaload, [], []), (38, .goto (9), [], [27]), (41, .aload_n 0, [], []), (42, .getfield 19, [], [9, 5, 694]), (45, .iload_n 1, [], []), (46, .iaload, [], []), (47, .ireturn, [999], [])]
def rn_q74 : rn_M := (yX9_termTold, cX9_termTold, 3, some .int, rn_t74, 2, 0, 0, 0)
/-- 75: RecordNichesModel.term(IIII)I -/
def rn_t75 : List rn_I := [(0, .aload_n 0, [], []), (1, .iload_n 1, [], []), (2, .iload_n 2, [], []), (3, .invokevirtual 272, [], [0, 46, 9, 886, 888, 19, 73, 889]), (6, .ifCond .ne (5), [], [7]), (9, .iconst (-1), [], [1, 1]), (10, .ireturn, [], []), (11, .iload 4, [], []), (13, .i2l, [], []), (14, .lconst 0, [], [0, 0]), (15, .ldc2_w 283, [], [0, 3, 1005]), (18, .invokestatic 116, [], [0, 29, 9, 827, 828, 0, 73, 829]), (21, .ifCond .ne (6), [], [15]), (24, .bipush (-2), [], [1, 2]), (26, .ireturn, [], []), (27, .aload_n 0, [], []), (28, .iload_n 1, [], []), (29, .iload_n 2, [], []), (30, .invokevirtual 277, [], [0, 71, 9, 892, 894, 20, 73, 895]), (33, .istore 5, [], []), (35, .iload 5, [], []), (37, .bipush (-6), [], [1, 6]), (39, .if_icmp .eq (6), [], [25]), (42, .iload 5, [], []), (44, .ireturn, [], []), (45, .aload_n 0, [], []), (46, .getfield 19, [], [9, 5, 694]), (49, .iconst (0), [], [0, 0]), (50, .iaload, [], []), (51, .iconst (5), [], [0, 5]), (52, .if_icmp .lt (12), [], [36]), (55, .aload_n 0, [], []), (56, .iconst (0), [], [0, 0]), (57, .iload_n 3, [], []), (58, .invokevirtual 222, [], [0, 57, 9, 951, 953, 34, 73, 954]), (61, .goto (5), [], [37]), (64, .bipush (-6), [], [1, 6]), (66, .istore 6, [0, 4], []), (68, .iload 6, [], []), (70, .ifCond .ge (8), [], [42]), (73, .bipush (-6), [], [1, 6]), (75, .goto (11), [], [46]), (78, .aload_n 0, [], []), (79, .iload 6, [], []), (81, .iload 4, [], []), (83, .invokevirtual 285, [], [0, 74, 9, 1006, 1008, 45, 73, 1009]), (86, .ireturn, [999], [])]
def rn_q75 : rn_M := (yX9_term, cX9_term, 7, some .int, rn_t75, 4, 8, 197, 0)
/-- 76: RecordNichesModel.variant(III)I -/
def rn_t76 : List rn_I := [(0, .aload_n 0, [], []), (1, .iload_n 1, [], []), (2, .iload_n 2, [], []), (3, .invokevirtual 272, [], [0, 46, 9, 886, 888, 19, 73, 889]), (6, .ifCond .ne (5), [], [7]), (9, .iconst (-1), [], [1, 1]), (10, .ireturn, [], []), (11, .iload_n 3, [], []), (12, .i2l, [], []), (13, .lconst 0, [], [0, 0]), (14, .lconst 1, [], [0, 1]), (15, .invokestatic 116, [], [0, 29, 9, 827, 828, 0, 73, 829]), (18, .ifCond .ne (6), [], [15]), (21, .bipush (-2), [], [1, 2]), (23, .ireturn, [], []), (24, .aload_n 0, [], []), (25, .iload_n 1, [], []), (26, .iload_n 2, [], []), (27, .invokevirtual 277, [], [0, 71, 9, 892, 894, 20, 73, 895]), (30, .istore 4, [], []), (32, .iload 4, [], []), (34, .bipush (-6), [], [1, 6]), (36, .if_icmp .eq (6), [], [25]), (39, .iload 4, [], []), (41, .ireturn, [], []), (42, .aload_n 0, [], []), (43, .getfield 19, [], [9, 5, 694]), (46, .iconst (0), [], [0, 0]), (47, .iaload, [], []), (48, .bipush (6), [], [0, 6]), (50, .if_icmp .eq (8), [], [33]), (53, .bipush (-6), [], [1, 6]), (55, .goto (37), [], [52]), (58, .iload_n 3, [], []), (59, .ifCond .ne (12), [], [40]), (62, .aload_n 0, [], []), (63, .getfield 76, [], [9, 28, 717]), (66, .iconst (0), [], [0, 0]), (67, .iaload, [], []), (68, .goto (24), [], [52]), (71, .aload_n 0, [], []), (72, .getfield 76, [], [9, 28, 717]), (75, .iconst (0), [], [0, 0]), (76, .iaload, [], []), (77, .iconst (1), [], [0, 1]), (78, .if_icmp .ne (12), [], [51]), (81, .aload_n 0, [], []), (82, .getfield 79, [], [9, 29, 718]), (85, .iconst (0), [], [0, 0]), (86, .iaload, [], []), (87, .goto (5), [], [52]), (90, .bipush (-6), [], [1, 6]), (92, .ireturn, [999], [])]
def rn_q76 : rn_M := (yX9_variant, cX9_variant, 5, some .int, rn_t76, 3, 8, 197, 0)
/-- 77: RecordNichesModel.patternOf(II)I -/
def rn_t77 : List rn_I := [(0, .aload_n 0, [], []), (1, .getfield 70, [], [9, 26, 715]), (4, .aload_n 0, [], []), (5, .iload_n 1, [], []), (6, .aload_n 0, [], []), (7, .getfield 79, [], [9, 29, 718]), (10, .iload_n 1, [], []), (11, .iaload, [], []), (12, .invokevirtual 222, [], [0, 57, 9, 951, 953, 34, 73, 954]), (15, .iaload, [], []), (16, .iload_n 2, [], []), (17, .iadd, [], []), (18, .iload_n 2, [], []), (19, .aload_n 0, [], []), (20, .getfield 79, [], [9, 29, 718]), (23, .iload_n 1, [], []), (24, .iaload, [], []), (25, .if_icmp .le (7), [], [20]), (28, .iconst (1), [], [0, 1]), (29, .goto (4), [], [21]), (32, .iconst (0), [], [0, 0]), (33, .isub, [999], []), (34, .ireturn, [], [])]
def rn_q77 : rn_M := (yX9_patternOf, cX9_patternOf, 3, some .int, rn_t77, 2, 1, 23, 0)
/-- 78: RecordNichesModel.pattern(III)I -/
def rn_t78 : List rn_I := [(0, .aload_n 0, [], []), (1, .iload_n 1, [], []), (2, .iload_n 2, [], []), (3, .invokevirtual 272, [], [0, 46, 9, 886, 888, 19, 73, 889]), (6, .ifCond .ne (5), [], [7]), (9, .iconst (-1), [], [1, 1]), (10, .ireturn, [], []), (11, .aload_n 0, [], []), (12, .iload_n 1, [], []), (13, .iload_n 2, [], []), (14, .invokevirtual 277, [], [0, 71, 9, 892, 894, 20, 73, 895]), (17, .istore 4, [], []), (19, .iload 4, [], []), (21, .bipush (-6), [], [1, 6]), (23, .if_icmp .eq (6), [], [17]), (26, .iload 4, [], []), (28, .ireturn, [], []), (29, .aload_n 0, [], []), (30, .getfield 19, [], [9, 5, 694]), (33, .iconst (0), [], [0, 0]), (34, .iaload, [], []), (35, .bipush (6), [], [0, 6]), (37, .if_icmp .ne (30), [], [40]), (40, .aload_n 0, [], []), (41, .getfield 76, [], [9, 28, 717]), (44, .iconst (0), [], [0, 0]), (45, .iaload, [], []), (46, .ifCond .eq (21), [], [40]), (49, .iload_n 3, [], []), (50, .i2l, [], []), (51, .lconst 0, [], [0, 0]), (52, .aload_n 0, [], []), (53, .getfield 31, [], [9, 9, 698]), (56, .iconst (0), [], [0, 0]), (57, .iaload, [], []), (58, .iconst (1), [], [0, 1]), (59, .isub, [], []), (60, .i2l, [], []), (61, .invokestatic 116, [], [0, 29, 9, 827, 828, 0, 73, 829]), (64, .ifCond .ne (6), [], [42]), (67, .bipush (-6), [999], [1, 6]), (69, .ireturn, [], []), (70, .aload_n 0, [], []), (71, .getfield 76, [], [9, 28, 717]), (74, .iconst (0), [], [0, 0]), (75, .iaload, [], []), (76, .iconst (2), [], [0, 2]), (77, .if_icmp .ne (7), [], [50]), (80, .iload_n 3, [], []), (81, .goto (24), [], [62]), (84, .iload_n 3, [], []), (85, .aload_n 0, [], []), (86, .getfield 79, [], [9, 29, 718]), (89, .iconst (0), [], [0, 0]), (90, .iaload, [], []), (91, .if_icmp .ne (8), [], [58]), (94, .bipush (-6), [], [1, 6]), (96, .goto (9), [], [62]), (99, .aload_n 0, [], []), (100, .iconst (0), [], [0, 0]), (101, .iload_n 3, [], []), (102, .invokevirtual 288, [], [0, 77, 9, 1018, 1020, 46, 73, 1021]), (105, .ireturn, [999], [])]
def rn_q78 : rn_M := (yX9_pattern, cX9_pattern, 5, some .int, rn_t78, 3, 8, 197, 0)
/-- 79: RecordNichesModel.leastEnd()I -/
def rn_t79 : List rn_I := [(0, .iconst (1), [], [0, 1]), (1, .istore_n 1, [], []), (2, .iload_n 1, [0, 1], []), (3, .iconst (1), [], [0, 1]), (4, .aload_n 0, [], []), (5, .getfield 31, [], [9, 9, 698]), (8, .iconst (0), [], [0, 0]), (9, .iaload, [], []), (10, .ishl, [], []), (11, .if_icmp .ge (115), [], [77]), (14, .aload_n 0, [], []), (15, .getfield 82, [], [9, 30, 719]), (18, .iload_n 1, [], []), (19, .sipush (1000), [], [0, 1000]), (22, .iastore, [], []), (23, .iconst (0), [], [0, 0]), (24, .istore_n 2, [], []), (25, .iload_n 2, [0, 1, 2], []), (26, .aload_n 0, [], []), (27, .getfield 31, [], [9, 9, 698]), (30, .iconst (0), [], [0, 0]), (31, .iaload, [], []), (32, .if_icmp .ge (88), [], [75]), (35, .aload_n 0, [], []), (36, .iconst (0), [], [0, 0]), (37, .iload_n 2, [], []), (38, .invokevirtual 222, [], [0, 57, 9, 951, 953, 34, 73, 954]), (41, .istore_n 3, [], []), (42, .iload_n 1, [], []), (43, .iload_n 2, [], []), (44, .ishr, [], []), (45, .iconst (1), [], [0, 1]), (46, .iand, [], []), (47, .ifCond .ne (9), [], [36]), (50, .sipush (1000), [], [0, 1000]), (53, .goto (31), [], [56]), (56, .aload_n 0, [], []), (57, .getfield 82, [], [9, 30, 719]), (60, .iload_n 1, [], []), (61, .iconst (1), [], [0, 1]), (62, .iload_n 2, [], []), (63, .ishl, [], []), (64, .iconst (-1), [], [1, 1]), (65, .ixor, [], []), (66, .iand, [], []), (67, .iaload, [], []), (68, .aload_n 0, [], []), (69, .getfield 58, [], [9, 22, 711]), (72, .iload_n 3, [], []), (73, .iaload, [], []), (74, .invokestatic 225, [], [0, 32, 9, 955, 956, 0, 73, 957]), (77, .aload_n 0, [], []), (78, .getfield 55, [], [9, 21, 710]), (81, .iload_n 3, [], []), (82, .iaload, [], []), (83, .iadd, [], []), (84, .istore 4, [0, 1, 2], []), (86, .aload_n 0, [], []), (87, .getfield 82, [], [9, 30, 719]), (90, .iload_n 1, [], []), (91, .iload 4, [], []), (93, .aload_n 0, [], []), (94, .getfield 82, [], [9, 30, 719]), (97, .iload_n 1, [], []), (98, .iaload, [], []), (99, .if_icmp .ge (8), [], [68]), (102, .iload 4, [], []), (104, .goto (9), [], [72]), (107, .aload_n 0, [], []), (108, .getfield 82, [], [9, 30, 719]), (111, .iload_n 1, [], []), (112, .iaload, [], []), (113, .iastore, [0, 1, 2], []), (114, .iinc 2 (1), [], [0, 1]), (117, .goto (-92), [], [17]), (120, .iinc 1 (1), [0, 1], [0, 1]), (123, .goto (-121), [], [2]), (126, .aload_n 0, [0], []), (127, .getfield 82, [], [9, 30, 719]), (130, .iconst (1), [], [0, 1]), (131, .aload_n 0, [], []), (132, .getfield 31, [], [9, 9, 698]), (135, .iconst (0), [], [0, 0]), (136, .iaload, [], []), (137, .ishl, [], []), (138, .iconst (1), [], [0, 1]), (139, .isub, [], []), (140, .iaload, [], []), (141, .ireturn, [], [])]
def rn_q79 : rn_M := (yX9_leastEnd, cX9_leastEnd, 5, some .int, rn_t79, 0, 1, 23, 0)
/-- 80: RecordNichesModel.least(II)I -/
def rn_t80 : List rn_I := [(0, .aload_n 0, [], []), (1, .iload_n 1, [], []), (2, .iload_n 2, [], []), (3, .invokevirtual 272, [], [0, 46, 9, 886, 888, 19, 73, 889]), (6, .ifCond .ne (5), [], [7]), (9, .iconst (-1), [], [1, 1]), (10, .ireturn, [], []), (11, .aload_n 0, [], []), (12, .iload_n 1, [], []), (13, .iload_n 2, [], []), (14, .invokevirtual 277, [], [0, 71, 9, 892, 894, 20, 73, 895]), (17, .istore_n 3, [], []), (18, .iload_n 3, [], []), (19, .bipush (-6), [], [1, 6]), (21, .if_icmp .eq (5), [], [17]), (24, .iload_n 3, [], []), (25, .ireturn, [], []), (26, .aload_n 0, [], []), (27, .getfield 19, [], [9, 5, 694]), (30, .iconst (0), [], [0, 0]), (31, .iaload, [], []), (32, .iconst (5), [], [0, 5]), (33, .if_icmp .ne (19), [], [31]), (36, .aload_n 0, [], []), (37, .invokevirtual 291, [], [0, 79, 9, 1026, 1028, 47, 73, 1029]), (40, .aload_n 0, [], []), (41, .getfield 58, [], [9, 22, 711]), (44, .iconst (0), [], [0, 0]), (45, .iaload, [], []), (46, .invokestatic 225, [], [0, 32, 9, 955, 956, 0, 73, 957]), (49, .goto (5), [], [32]), (52, .bipush (-6), [], [1, 6]), (54, .ireturn, [999], [])]
def rn_q80 : rn_M := (yX9_least, cX9_least, 4, some .int, rn_t80, 2, 8, 197, 0)
/-- 81: RecordNichesModel.placeOf(I)I -/
def rn_t81 : List rn_I := [(0, .iconst (0), [], [0, 0]), (1, .istore_n 2, [], []), (2, .iload_n 1, [], []), (3, .istore_n 3, [], []), (4, .iload_n 3, [0, 2, 3], []), (5, .ifCond .le (22), [], [19]), (8, .iload_n 2, [], []), (9, .aload_n 0, [], []), (10, .getfield 61, [], [9, 23, 712]), (13, .iload_n 3, [], []), (14, .iaload, [], []), (15, .iadd, [], []), (16, .istore_n 2, [], []), (17, .aload_n 0, [], []), (18, .getfield 25, [], [9, 7, 696]), (21, .iload_n 3, [], []), (22, .iaload, [], []), (23, .istore_n 3, [], []), (24, .goto (-20), [], [4]), (27, .iload_n 2, [2], []), (28, .ireturn, [], [])]
def rn_q81 : rn_M := (yX9_placeOf, cX9_placeOf, 4, some .int, rn_t81, 1, 0, 0, 0)
/-- 82: RecordNichesModel.coverOne(I)V -/
def rn_t82 : List rn_I := [(0, .aload_n 0, [], []), (1, .getfield 19, [], [9, 5, 694]), (4, .iload_n 1, [], []), (5, .iaload, [], []), (6, .iconst (5), [], [0, 5]), (7, .if_icmp .ge (12), [], [11]), (10, .aload_n 0, [], []), (11, .getfield 55, [], [9, 21, 710]), (14, .iload_n 1, [], []), (15, .iaload, [], []), (16, .goto (29), [], [26]), (19, .aload_n 0, [], []), (20, .getfield 19, [], [9, 5, 694]), (23, .iload_n 1, [], []), (24, .iaload, [], []), (25, .bipush (6), [], [0, 6]), (27, .if_icmp .ne (17), [], [25]), (30, .aload_n 0, [], []), (31, .getfield 76, [], [9, 28, 717]), (34, .iload_n 1, [], []), (35, .iaload, [], []), (36, .iconst (2), [], [0, 2]), (37, .if_icmp .ne (7), [], [25]), (40, .iconst (1), [], [0, 1]), (41, .goto (4), [], [26]), (44, .iconst (0), [0, 1], [0, 0]), (45, .istore_n 2, [0, 1], []), (46, .iconst (0), [], [0, 0]), (47, .istore_n 3, [], []), (48, .iload_n 3, [0, 1, 2, 3], []), (49, .iload_n 2, [], []), (50, .if_icmp .ge (22), [], [43]), (53, .aload_n 0, [], []), (54, .getfield 85, [], [9, 31, 720]), (57, .aload_n 0, [], []), (58, .iload_n 1, [], []), (59, .invokevirtual 295, [], [0, 81, 9, 1038, 1040, 49, 73, 1041]), (62, .iload_n 3, [], []), (63, .iadd, [], []), (64, .iconst (1), [], [0, 1]), (65, .bastore, [], []), (66, .iinc 3 (1), [], [0, 1]), (69, .goto (-21), [], [29]), (72, .return_, [999], [])]
def rn_q82 : rn_M := (yX9_coverOne, cX9_coverOne, 4, none, rn_t82, 1, 1, 23, 0)
/-- 83: RecordNichesModel.idle(II)I -/
def rn_t83 : List rn_I := [(0, .aload_n 0, [], []), (1, .iload_n 1, [], []), (2, .iload_n 2, [], []), (3, .invokevirtual 272, [], [0, 46, 9, 886, 888, 19, 73, 889]), (6, .ifCond .ne (5), [], [7]), (9, .iconst (-1), [], [1, 1]), (10, .ireturn, [], []), (11, .aload_n 0, [], []), (12, .iload_n 1, [], []), (13, .iload_n 2, [], []), (14, .invokevirtual 277, [], [0, 71, 9, 892, 894, 20, 73, 895]), (17, .istore_n 3, [], []), (18, .iload_n 3, [], []), (19, .bipush (-6), [], [1, 6]), (21, .if_icmp .eq (5), [], [17]), (24, .iload_n 3, [], []), (25, .ireturn, [], []), (26, .iconst (0), [], [0, 0]), (27, .istore 4, [], []), (29, .iload 4, [0, 4], []), (31, .bipush (64), [], [0, 64]), (33, .if_icmp .ge (17), [], [29]), (36, .aload_n 0, [], []), (37, .getfield 85, [], [9, 31, 720]), (40, .iload 4, [], []), (42, .iconst (0), [], [0, 0]), (43, .bastore, [], []), (44, .iinc 4 (1), [], [0, 1]), (47, .goto (-18), [], [19]), (50, .iconst (0), [0], [0, 0]), (51, .istore 4, [], []), (53, .iload 4, [0, 4], []), (55, .aload_n 0, [], []), (56, .getfield 193, [], [9, 10, 699]), (59, .if_icmp .ge (15), [], [40]), (62, .aload_n 0, [], []), (63, .iload 4, [], []), (65, .invokevirtual 298, [], [0, 82, 9, 1034, 1036, 48, 73, 1037]), (68, .iinc 4 (1), [], [0, 1]), (71, .goto (-18), [], [31]), (74, .iconst (0), [0], [0, 0]), (75, .istore 4, [], []), (77, .iconst (0), [], [0, 0]), (78, .istore 5, [], []), (80, .iload 5, [0, 4, 5], []), (82, .aload_n 0, [], []), (83, .getfield 55, [], [9, 21, 710]), (86, .iconst (0), [], [0, 0]), (87, .iaload, [], []), (88, .if_icmp .ge (29), [], [63]), (91, .iload 4, [], []), (93, .aload_n 0, [], []), (94, .getfield 85, [], [9, 31, 720]), (97, .iload 5, [], []), (99, .baload, [], []), (100, .ifCond .eq (7), [], [58]), (103, .iconst (0), [], [0, 0]), (104, .goto (4), [], [59]), (107, .iconst (1), [], [0, 1]), (108, .iadd, [0, 5], []), (109, .istore 4, [], []), (111, .iinc 5 (1), [], [0, 1]), (114, .goto (-34), [], [44]), (117, .iload 4, [4], []), (119, .ireturn, [], [])]
def rn_q83 : rn_M := (yX9_idle, cX9_idle, 6, some .int, rn_t83, 2, 8, 197, 0)
/-- 84: RecordNichesModel.give(J)I -/
def rn_t84 : List rn_I := [(0, .lload_n 1, [], []), (1, .lconst 0, [], [0, 0]), (2, .ldc2_w 301, [], [0, 4294967295, 1046]), (5, .invokestatic 116, [], [0, 29, 9, 827, 828, 0, 73, 829]), (8, .ifCond .ne (6), [], [7]), (11, .bipush (-2), [], [1, 2]), (13, .ireturn, [], []), (14, .aload_n 0, [], []), (15, .getfield 303, [], [9, 33, 722]), (18, .bipush (60), [], [0, 60]), (20, .if_icmp .ne (6), [], [13]), (23, .bipush (-4), [], [1, 4]), (25, .ireturn, [], []), (26, .aload_n 0, [], []), (27, .getfield 89, [], [9, 32, 721]), (30, .aload_n 0, [], []), (31, .getfield 303, [], [9, 33, 722]), (34, .lload_n 1, [], []), (35, .lastore, [], []), (36, .aload_n 0, [], []), (37, .dup, [], []), (38, .getfield 303, [], [9, 33, 722]), (41, .iconst (1), [], [0, 1]), (42, .iadd, [], []), (43, .putfield 303, [], [9, 33, 0, 722]), (46, .aload_n 0, [], []), (47, .getfield 303, [], [9, 33, 722]), (50, .ireturn, [], [])]
def rn_q84 : rn_M := (yX9_give, cX9_give, 3, some .int, rn_t84, 1, 1, 25, 0)
/-- 85: RecordNichesModel.drop()I -/
def rn_t85 : List rn_I := [(0, .aload_n 0, [], []), (1, .getfield 303, [], [9, 33, 722]), (4, .istore_n 1, [], []), (5, .aload_n 0, [], []), (6, .iconst (0), [], [0, 0]), (7, .putfield 303, [], [9, 33, 0, 722]), (10, .iload_n 1, [], []), (11, .ireturn, [], [])]
def rn_q85 : rn_M := (yX9_drop, cX9_drop, 2, some .int, rn_t85, 0, 0, 0, 0)
/-- 86: RecordNichesModel.given(I)J -/
def rn_t86 : List rn_I := [(0, .iload_n 1, [], []), (1, .iconst (-1), [], [1, 1]), (2, .if_icmp .ne (11), [], [7]), (5, .aload_n 0, [], []), (6, .getfield 303, [], [9, 33, 722]), (9, .i2l, [], []), (10, .goto (31), [], [23]), (13, .iload_n 1, [], []), (14, .i2l, [], []), (15, .lconst 0, [], [0, 0]), (16, .aload_n 0, [], []), (17, .getfield 303, [], [9, 33, 722]), (20, .iconst (1), [], [0, 1]), (21, .isub, [], []), (22, .i2l, [], []), (23, .invokestatic 116, [], [0, 29, 9, 827, 828, 0, 73, 829]), (26, .ifCond .eq (12), [], [22]), (29, .aload_n 0, [], []), (30, .getfield 89, [], [9, 32, 721]), (33, .iload_n 1, [], []), (34, .laload, [], []), (35, .goto (6), [], [23]), (38, .ldc2_w 306, [], [1, 6, 1055]), (41, .lreturn, [999], [])]
def rn_q86 : rn_M := (yX9_given, cX9_given, 2, some .long, rn_t86, 1, 1, 25, 0)
/-- 87: RecordNichesModel.isThereNow(I)Z -/
def rn_t87 : List rn_I := [(0, .aload_n 0, [], []), (1, .getfield 25, [], [9, 7, 696]), (4, .iload_n 1, [], []), (5, .iaload, [], []), (6, .istore_n 2, [], []), (7, .iload_n 2, [], []), (8, .ifCond .lt (38), [], [27]), (11, .aload_n 0, [], []), (12, .getfield 96, [], [9, 35, 724]), (15, .iload_n 2, [], []), (16, .baload, [], []), (17, .ifCond .eq (33), [], [29]), (20, .aload_n 0, [], []), (21, .getfield 19, [], [9, 5, 694]), (24, .iload_n 2, [], []), (25, .iaload, [], []), (26, .bipush (6), [], [0, 6]), (28, .if_icmp .ne (18), [], [27]), (31, .aload_n 0, [], []), (32, .getfield 99, [], [9, 36, 725]), (35, .iload_n 2, [], []), (36, .iaload, [], []), (37, .aload_n 0, [], []), (38, .getfield 28, [], [9, 8, 697]), (41, .iload_n 1, [], []), (42, .iaload, [], []), (43, .if_icmp .ne (7), [], [29]), (46, .iconst (1), [999], [0, 1]), (47, .goto (4), [], [30]), (50, .iconst (0), [999], [0, 0]), (51, .ireturn, [999], [])]
def rn_q87 : rn_M := (yX9_isThereNow, cX9_isThereNow, 3, some .boolean, rn_t87, 1, 0, 0, 0)
/-- 88: RecordNichesModel.hasNumber(I)Z -/
def rn_t88 : List rn_I := [(0, .aload_n 0, [], []), (1, .getfield 19, [], [9, 5, 694]), (4, .iload_n 1, [], []), (5, .iaload, [], []), (6, .ifCond .eq (17), [], [13]), (9, .aload_n 0, [], []), (10, .getfield 19, [], [9, 5, 694]), (13, .iload_n 1, [], []), (14, .iaload, [], []), (15, .iconst (5), [], [0, 5]), (16, .if_icmp .eq (7), [], [13]), (19, .iconst (1), [], [0, 1]), (20, .goto (4), [], [14]), (23, .iconst (0), [999], [0, 0]), (24, .ireturn, [999], [])]
def rn_q88 : rn_M := (yX9_hasNumber, cX9_hasNumber, 2, some .boolean, rn_t88, 1, 0, 0, 0)
/-- 89: RecordNichesModel.isNumber(IJ)Z -/
def rn_t89 : List rn_I := [(0, .aload_n 0, [], []), (1, .getfield 19, [], [9, 5, 694]), (4, .iload_n 1, [], []), (5, .iaload, [], []), (6, .tableswitch (96) (1) (4) #[30, 52, 66, 84], [], [48, 5, 20, 28, 40]), (36, .lload_n 2, [], []), (37, .lconst 1, [], [0, 1]), (38, .bipush (8), [], [0, 8]), (40, .aload_n 0, [], []), (41, .getfield 22, [], [9, 6, 695]), (44, .iload_n 1, [], []), (45, .iaload, [], []), (46, .imul, [], []), (47, .lshl, [], []), (48, .lcmp, [], []), (49, .ifCond .ge (7), [], [18]), (52, .iconst (1), [], [0, 1]), (53, .goto (4), [], [19]), (56, .iconst (0), [], [0, 0]), (57, .ireturn, [999], []), (58, .lload_n 2, [], []), (59, .ldc2_w 308, [], [0, 2, 1080]), (62, .lcmp, [], []), (63, .ifCond .ge (7), [], [26]), (66, .iconst (1), [], [0, 1]), (67, .goto (4), [], [27]), (70, .iconst (0), [], [0, 0]), (71, .ireturn, [999], []), (72, .lload_n 2, [], []), (73, .aload_n 0, [], []), (74, .getfield 22, [], [9, 6, 695]), (77, .iload_n 1, [], []), (78, .iaload, [], []), (79, .i2l, [], []), (80, .lcmp, [], []), (81, .ifCond .ge (7), [], [38]), (84, .iconst (1), [], [0, 1]), (85, .goto (4), [], [39]), (88, .iconst (0), [], [0, 0]), (89, .ireturn, [999], []), (90, .lload_n 2, [], []), (91, .lconst 0, [], [0, 0]), (92, .lcmp, [], []), (93, .ifCond .le (7), [], [46]), (96, .iconst (1), [], [0, 1]), (97, .goto (4), [], [47]), (100, .iconst (0), [], [0, 0]), (101, .ireturn, [999], []), (102, .lload_n 2, [], []), (103, .aload_n 0, [], []), (104, .getfield 31, [], [9, 9, 698]), (107, .iload_n 1, [], []), (108, .iaload, [], []), (109, .i2l, [], []), (110, .lcmp, [], []), (111, .ifCond .ge (7), [], [58]), (114, .iconst (1), [], [0, 1]), (115, .goto (4), [], [59]), (118, .iconst (0), [], [0, 0]), (119, .ireturn, [999], [])]
def rn_q89 : rn_M := (yX9_isNumber, cX9_isNumber, 4, some .boolean, rn_t89, 2, 0, 0, 0)
/-- 90: RecordNichesModel.isValue()Z -/
def rn_t90 : List rn_I := [(0, .iconst (0), [], [0, 0]), (1, .istore_n 1, [], []), (2, .iconst (1), [], [0, 1]), (3, .istore_n 2, [], []), (4, .iconst (0), [], [0, 0]), (5, .istore_n 3, [], []), (6, .iload_n 3, [0, 1, 2, 3], []), (7, .aload_n 0, [], []), (8, .getfield 193, [], [9, 10, 699]), (11, .if_icmp .ge (113), [], [72]), (14, .aload_n 0, [], []), (15, .getfield 96, [], [9, 35, 724]), (18, .iload_n 3, [], []), (19, .iload_n 2, [], []), (20, .ifCond .eq (15), [], [21]), (23, .aload_n 0, [], []), (24, .iload_n 3, [], []), (25, .invokevirtual 310, [], [0, 87, 9, 1068, 1070, 52, 73, 1071]), (28, .ifCond .eq (7), [], [21]), (31, .iconst (1), [], [0, 1]), (32, .goto (4), [], [22]), (35, .iconst (0), [0, 1, 2, 3], [0, 0]), (36, .bastore, [0, 1, 2, 3], []), (37, .aload_n 0, [], []), (38, .getfield 96, [], [9, 35, 724]), (41, .iload_n 3, [], []), (42, .baload, [], []), (43, .ifCond .eq (75), [], [70]), (46, .aload_n 0, [], []), (47, .iload_n 3, [], []), (48, .invokevirtual 313, [], [0, 88, 9, 1072, 1074, 53, 73, 1075]), (51, .ifCond .eq (67), [], [70]), (54, .iload_n 1, [], []), (55, .aload_n 0, [], []), (56, .getfield 303, [], [9, 33, 722]), (59, .if_icmp .ge (21), [], [46]), (62, .aload_n 0, [], []), (63, .iload_n 3, [], []), (64, .aload_n 0, [], []), (65, .getfield 89, [], [9, 32, 721]), (68, .iload_n 1, [], []), (69, .laload, [], []), (70, .invokevirtual 316, [], [0, 89, 9, 1076, 1078, 54, 73, 1079]), (73, .ifCond .eq (7), [], [46]), (76, .iconst (1), [], [0, 1]), (77, .goto (4), [], [47]), (80, .iconst (0), [0, 1, 3], [0, 0]), (81, .istore_n 2, [0, 1, 3], []), (82, .aload_n 0, [], []), (83, .getfield 102, [], [9, 37, 726]), (86, .iload_n 3, [], []), (87, .iload_n 2, [], []), (88, .ifCond .eq (12), [], [58]), (91, .aload_n 0, [], []), (92, .getfield 89, [], [9, 32, 721]), (95, .iload_n 1, [], []), (96, .laload, [], []), (97, .goto (4), [], [59]), (100, .lconst 0, [], [0, 0]), (101, .lastore, [0, 1, 2, 3], []), (102, .aload_n 0, [], []), (103, .getfield 99, [], [9, 36, 725]), (106, .iload_n 3, [], []), (107, .aload_n 0, [], []), (108, .getfield 102, [], [9, 37, 726]), (111, .iload_n 3, [], []), (112, .laload, [], []), (113, .l2i, [], []), (114, .iastore, [], []), (115, .iinc 1 (1), [], [0, 1]), (118, .iinc 3 (1), [0, 1, 2, 3], [0, 1]), (121, .goto (-115), [], [6]), (124, .iload_n 2, [0, 1, 2], []), (125, .ifCond .eq (15), [], [80]), (128, .iload_n 1, [], []), (129, .aload_n 0, [], []), (130, .getfield 303, [], [9, 33, 722]), (133, .if_icmp .ne (7), [], [80]), (136, .iconst (1), [], [0, 1]), (137, .goto (4), [], [81]), (140, .iconst (0), [999], [0, 0]), (141, .ireturn, [999], [])]
def rn_q90 : rn_M := (yX9_isValue, cX9_isValue, 4, some .boolean, rn_t90, 0, 1, 23, 0)
/-- 91: RecordNichesModel.lay(IIJ)V -/
def rn_t91 : List rn_I := [(0, .iconst (0), [], [0, 0]), (1, .istore 5, [], []), (3, .iload 5, [0, 1, 2, 3, 5], []), (5, .iload_n 2, [], []), (6, .if_icmp .ge (30), [], [21]), (9, .aload_n 0, [], []), (10, .getfield 93, [], [9, 34, 723]), (13, .iload_n 1, [], []), (14, .iload 5, [], []), (16, .iadd, [], []), (17, .lload_n 3, [], []), (18, .bipush (8), [], [0, 8]), (20, .iload 5, [], []), (22, .imul, [], []), (23, .lshr, [], []), (24, .ldc2_w 320, [], [0, 255, 1089]), (27, .land, [], []), (28, .l2i, [], []), (29, .iastore, [], []), (30, .iinc 5 (1), [], [0, 1]), (33, .goto (-30), [], [2]), (36, .return_, [999], [])]
def rn_q91 : rn_M := (yX9_lay, cX9_lay, 6, none, rn_t91, 3, 0, 0, 0)
/-- 92: RecordNichesModel.layValue(I)V -/
def rn_t92 : List rn_I := [(0, .iconst (0), [], [0, 0]), (1, .istore_n 2, [], []), (2, .iload_n 2, [0, 1, 2], []), (3, .aload_n 0, [], []), (4, .getfield 55, [], [9, 21, 710]), (7, .iconst (0), [], [0, 0]), (8, .iaload, [], []), (9, .if_icmp .ge (18), [], [17]), (12, .aload_n 0, [], []), (13, .getfield 93, [], [9, 34, 723]), (16, .iload_n 1, [], []), (17, .iload_n 2, [], []), (18, .iadd, [], []), (19, .iconst (0), [], [0, 0]), (20, .iastore, [], []), (21, .iinc 2 (1), [], [0, 1]), (24, .goto (-22), [], [2]), (27, .iconst (0), [0, 1], [0, 0]), (28, .istore_n 2, [], []), (29, .iload_n 2, [0, 1, 2], []), (30, .aload_n 0, [], []), (31, .getfield 193, [], [9, 10, 699]), (34, .if_icmp .ge (186), [], [133]), (37, .iload_n 1, [], []), (38, .aload_n 0, [], []), (39, .iload_n 2, [], []), (40, .invokevirtual 295, [], [0, 81, 9, 1038, 1040, 49, 73, 1041]), (43, .iadd, [], []), (44, .istore_n 3, [], []), (45, .aload_n 0, [], []), (46, .getfield 96, [], [9, 35, 724]), (49, .iload_n 2, [], []), (50, .baload, [], []), (51, .ifCond .eq (30), [], [51]), (54, .aload_n 0, [], []), (55, .getfield 19, [], [9, 5, 694]), (58, .iload_n 2, [], []), (59, .iaload, [], []), (60, .iconst (5), [], [0, 5]), (61, .if_icmp .ge (20), [], [51]), (64, .aload_n 0, [], []), (65, .iload_n 3, [], []), (66, .aload_n 0, [], []), (67, .getfield 55, [], [9, 21, 710]), (70, .iload_n 2, [], []), (71, .iaload, [], []), (72, .aload_n 0, [], []), (73, .getfield 102, [], [9, 37, 726]), (76, .iload_n 2, [], []), (77, .laload, [], []), (78, .invokevirtual 322, [], [0, 91, 9, 1085, 1087, 56, 73, 1088]), (81, .aload_n 0, [0, 1, 2, 3], []), (82, .getfield 96, [], [9, 35, 724]), (85, .iload_n 2, [], []), (86, .baload, [], []), (87, .ifCond .eq (37), [], [77]), (90, .aload_n 0, [], []), (91, .getfield 19, [], [9, 5, 694]), (94, .iload_n 2, [], []), (95, .iaload, [], []), (96, .bipush (6), [], [0, 6]), (98, .if_icmp .ne (26), [], [77]), (101, .aload_n 0, [], []), (102, .getfield 76, [], [9, 28, 717]), (105, .iload_n 2, [], []), (106, .iaload, [], []), (107, .iconst (2), [], [0, 2]), (108, .if_icmp .ne (16), [], [77]), (111, .aload_n 0, [], []), (112, .iload_n 3, [], []), (113, .iconst (1), [], [0, 1]), (114, .aload_n 0, [], []), (115, .getfield 99, [], [9, 36, 725]), (118, .iload_n 2, [], []), (119, .iaload, [], []), (120, .i2l, [], []), (121, .invokevirtual 322, [], [0, 91, 9, 1085, 1087, 56, 73, 1088]), (124, .aload_n 0, [0, 1, 2, 3], []), (125, .getfield 96, [], [9, 35, 724]), (128, .iload_n 2, [], []), (129, .baload, [], []), (130, .ifCond .eq (84), [], [131]), (133, .aload_n 0, [], []), (134, .getfield 19, [], [9, 5, 694]), (137, .iload_n 2, [], []), (138, .iaload, [], []), (139, .bipush (6), [], [0, 6]), (141, .if_icmp .ne (73), [], [131]), (144, .aload_n 0, [], []), (145, .getfield 76, [], [9, 28, 717]), (148, .iload_n 2, [], []), (149, .iaload, [], []), (150, .iconst (1), [], [0, 1]), (151, .if_icmp .ne (63), [], [131]), (154, .aload_n 0, [], []), (155, .getfield 99, [], [9, 36, 725]), (158, .iload_n 2, [], []), (159, .iaload, [], []), (160, .aload_n 0, [], []), (161, .getfield 79, [], [9, 29, 718]), (164, .iload_n 2, [], []), (165, .iaload, [], []), (166, .if_icmp .eq (48), [], [131]), (169, .aload_n 0, [], []), (170, .iload_n 2, [], []), (171, .aload_n 0, [], []), (172, .getfield 79, [], [9, 29, 718]), (175, .iload_n 2, [], []), (176, .iaload, [], []), (177, .invokevirtual 222, [], [0, 57, 9, 951, 953, 34, 73, 954]), (180, .istore 4, [], []), (182, .aload_n 0, [], []), (183, .iload_n 3, [], []), (184, .aload_n 0, [], []), (185, .getfield 64, [], [9, 24, 713]), (188, .iload 4, [], []), (190, .iaload, [], []), (191, .iadd, [], []), (192, .aload_n 0, [], []), (193, .getfield 67, [], [9, 25, 714]), (196, .iload 4, [], []), (198, .iaload, [], []), (199, .aload_n 0, [], []), (200, .iload_n 2, [], []), (201, .aload_n 0, [], []), (202, .getfield 99, [], [9, 36, 725]), (205, .iload_n 2, [], []), (206, .iaload, [], []), (207, .invokevirtual 288, [], [0, 77, 9, 1018, 1020, 46, 73, 1021]), (210, .i2l, [], []), (211, .invokevirtual 322, [], [0, 91, 9, 1085, 1087, 56, 73, 1088]), (214, .iinc 2 (1), [0, 1, 2], [0, 1]), (217, .goto (-188), [], [19]), (220, .return_, [999], [])]
def rn_q92 : rn_M := (yX9_layValue, cX9_layValue, 5, none, rn_t92, 1, 2, 45, 0)
/-- 93: RecordNichesModel.refusalAt(III)I -/
def rn_t93 : List rn_I := [(0, .aload_n 0, [], []), (1, .iload_n 1, [], []), (2, .iload_n 2, [], []), (3, .invokevirtual 277, [], [0, 71, 9, 892, 894, 20, 73, 895]), (6, .istore 4, [], []), (8, .iload 4, [], []), (10, .bipush (-6), [], [1, 6]), (12, .if_icmp .eq (6), [], [10]), (15, .iload 4, [], []), (17, .ireturn, [], []), (18, .iload_n 3, [], []), (19, .ifCond .lt (33), [], [30]), (22, .iload_n 3, [], []), (23, .bipush (96), [], [0, 96]), (25, .if_icmp .gt (27), [], [30]), (28, .iload_n 3, [], []), (29, .aload_n 0, [], []), (30, .getfield 58, [], [9, 22, 711]), (33, .iconst (0), [], [0, 0]), (34, .iaload, [], []), (35, .irem, [], []), (36, .ifCond .ne (16), [], [30]), (39, .iload_n 3, [], []), (40, .aload_n 0, [], []), (41, .getfield 55, [], [9, 21, 710]), (44, .iconst (0), [], [0, 0]), (45, .iaload, [], []), (46, .iadd, [], []), (47, .bipush (96), [], [0, 96]), (49, .if_icmp .le (8), [], [32]), (52, .bipush (-2), [999], [1, 2]), (54, .goto (5), [], [33]), (57, .bipush (-6), [], [1, 6]), (59, .ireturn, [999], [])]
def rn_q93 : rn_M := (yX9_refusalAt, cX9_refusalAt, 5, some .int, rn_t93, 3, 8, 197, 0)
/-- 94: RecordNichesModel.write(III)I -/
def rn_t94 : List rn_I := [(0, .aload_n 0, [], []), (1, .iload_n 1, [], []), (2, .iload_n 2, [], []), (3, .invokevirtual 272, [], [0, 46, 9, 886, 888, 19, 73, 889]), (6, .ifCond .ne (5), [], [7]), (9, .iconst (-1), [], [1, 1]), (10, .ireturn, [], []), (11, .aload_n 0, [], []), (12, .iload_n 1, [], []), (13, .iload_n 2, [], []), (14, .iload_n 3, [], []), (15, .invokevirtual 326, [], [0, 93, 9, 1060, 1062, 50, 73, 1063]), (18, .istore 4, [], []), (20, .iload 4, [], []), (22, .bipush (-6), [], [1, 6]), (24, .if_icmp .eq (6), [], [18]), (27, .iload 4, [], []), (29, .ireturn, [], []), (30, .aload_n 0, [], []), (31, .invokevirtual 329, [], [0, 90, 9, 1064, 1066, 51, 73, 1067]), (34, .ifCond .ne (6), [], [23]), (37, .bipush (-3), [], [1, 3]), (39, .ireturn, [], []), (40, .aload_n 0, [], []), (41, .iload_n 3, [], []), (42, .invokevirtual 332, [], [0, 92, 9, 1081, 1083, 55, 73, 1084]), (45, .aload_n 0, [], []), (46, .getfield 55, [], [9, 21, 710]), (49, .iconst (0), [], [0, 0]), (50, .iaload, [], []), (51, .ireturn, [], [])]
def rn_q94 : rn_M := (yX9_write, cX9_write, 5, some .int, rn_t94, 3, 9, 221, 0)
/-- 95: RecordNichesModel.lies(II)J -/
def rn_t95 : List rn_I := [(0, .lconst 0, [], [0, 0]), (1, .lstore_n 3, [], []), (2, .iload_n 2, [], []), (3, .iconst (1), [], [0, 1]), (4, .isub, [], []), (5, .istore 5, [], []), (7, .iload 5, [0, 1, 3, 5], []), (9, .ifCond .lt (25), [], [22]), (12, .lload_n 3, [], []), (13, .bipush (8), [], [0, 8]), (15, .lshl, [], []), (16, .aload_n 0, [], []), (17, .getfield 93, [], [9, 34, 723]), (20, .iload_n 1, [], []), (21, .iload 5, [], []), (23, .iadd, [], []), (24, .iaload, [], []), (25, .i2l, [], []), (26, .lor, [], []), (27, .lstore_n 3, [], []), (28, .iinc 5 (-1), [], [1, 1]), (31, .goto (-24), [], [6]), (34, .lload_n 3, [3], []), (35, .lreturn, [], [])]
def rn_q95 : rn_M := (yX9_lies, cX9_lies, 6, some .long, rn_t95, 2, 0, 0, 0)
/-- 96: RecordNichesModel.hiddenAt(II)J -/
def rn_t96 : List rn_I := [(0, .aload_n 0, [], []), (1, .iload_n 1, [], []), (2, .aload_n 0, [], []), (3, .getfield 79, [], [9, 29, 718]), (6, .iload_n 1, [], []), (7, .iaload, [], []), (8, .invokevirtual 222, [], [0, 57, 9, 951, 953, 34, 73, 954]), (11, .istore_n 3, [], []), (12, .aload_n 0, [], []), (13, .iload_n 2, [], []), (14, .aload_n 0, [], []), (15, .getfield 64, [], [9, 24, 713]), (18, .iload_n 3, [], []), (19, .iaload, [], []), (20, .iadd, [], []), (21, .aload_n 0, [], []), (22, .getfield 67, [], [9, 25, 714]), (25, .iload_n 3, [], []), (26, .iaload, [], []), (27, .invokevirtual 335, [], [0, 95, 9, 1102, 1104, 59, 73, 1105]), (30, .aload_n 0, [], []), (31, .getfield 70, [], [9, 26, 715]), (34, .iload_n 3, [], []), (35, .iaload, [], []), (36, .i2l, [], []), (37, .lsub, [], []), (38, .lstore 4, [], []), (40, .lload 4, [], []), (42, .lconst 0, [], [0, 0]), (43, .aload_n 0, [], []), (44, .getfield 31, [], [9, 9, 698]), (47, .iload_n 1, [], []), (48, .iaload, [], []), (49, .iconst (2), [], [0, 2]), (50, .isub, [], []), (51, .i2l, [], []), (52, .invokestatic 116, [], [0, 29, 9, 827, 828, 0, 73, 829]), (55, .ifCond .ne (11), [], [44]), (58, .aload_n 0, [], []), (59, .getfield 79, [], [9, 29, 718]), (62, .iload_n 1, [], []), (63, .iaload, [], []), (64, .i2l, [], []), (65, .lreturn, [], []), (66, .lload 4, [], []), (68, .aload_n 0, [], []), (69, .getfield 79, [], [9, 29, 718]), (72, .iload_n 1, [], []), (73, .iaload, [], []), (74, .i2l, [], []), (75, .lcmp, [], []), (76, .ifCond .ge (8), [], [54]), (79, .lload 4, [], []), (81, .goto (7), [], [57]), (84, .lload 4, [], []), (86, .lconst 1, [], [0, 1]), (87, .ladd, [], []), (88, .lreturn, [999], [])]
def rn_q96 : rn_M := (yX9_hiddenAt, cX9_hiddenAt, 6, some .long, rn_t96, 2, 1, 25, 0)
/-- 97: RecordNichesModel.numberAt(II)J -/
def rn_t97 : List rn_I := [(0, .iload_n 2, [], []), (1, .aload_n 0, [], []), (2, .iload_n 1, [], []), (3, .invokevirtual 295, [], [0, 81, 9, 1038, 1040, 49, 73, 1041]), (6, .iadd, [], []), (7, .istore_n 3, [], []), (8, .aload_n 0, [], []), (9, .getfield 19, [], [9, 5, 694]), (12, .iload_n 1, [], []), (13, .iaload, [], []), (14, .bipush (6), [], [0, 6]), (16, .if_icmp .eq (15), [], [20]), (19, .aload_n 0, [], []), (20, .iload_n 3, [], []), (21, .aload_n 0, [], []), (22, .getfield 55, [], [9, 21, 710]), (25, .iload_n 1, [], []), (26, .iaload, [], []), (27, .invokevirtual 335, [], [0, 95, 9, 1102, 1104, 59, 73, 1105]), (30, .lreturn, [], []), (31, .aload_n 0, [], []), (32, .getfield 76, [], [9, 28, 717]), (35, .iload_n 1, [], []), (36, .iaload, [], []), (37, .ifCond .ne (7), [], [27]), (40, .lconst 0, [], [0, 0]), (41, .goto (29), [], [43]), (44, .aload_n 0, [], []), (45, .getfield 76, [], [9, 28, 717]), (48, .iload_n 1, [], []), (49, .iaload, [], []), (50, .iconst (2), [], [0, 2]), (51, .if_icmp .ne (13), [], [39]), (54, .aload_n 0, [], []), (55, .getfield 93, [], [9, 34, 723]), (58, .iload_n 3, [], []), (59, .iaload, [], []), (60, .i2l, [], []), (61, .goto (9), [], [43]), (64, .aload_n 0, [], []), (65, .iload_n 1, [], []), (66, .iload_n 3, [], []), (67, .invokevirtual 339, [], [0, 96, 9, 1106, 1108, 60, 73, 1109]), (70, .lreturn, [999], [])]
def rn_q97 : rn_M := (yX9_numberAt, cX9_numberAt, 4, some .long, rn_t97, 2, 2, 50, 0)
/-- 98: RecordNichesModel.valueAt(I)I -/
def rn_t98 : List rn_I := [(0, .iconst (0), [], [0, 0]), (1, .istore_n 2, [], []), (2, .iconst (0), [], [0, 0]), (3, .istore_n 3, [], []), (4, .iload_n 3, [0, 1, 2, 3], []), (5, .aload_n 0, [], []), (6, .getfield 193, [], [9, 10, 699]), (9, .if_icmp .ge (82), [], [54]), (12, .aload_n 0, [], []), (13, .getfield 96, [], [9, 35, 724]), (16, .iload_n 3, [], []), (17, .aload_n 0, [], []), (18, .iload_n 3, [], []), (19, .invokevirtual 310, [], [0, 87, 9, 1068, 1070, 52, 73, 1071]), (22, .bastore, [], []), (23, .aload_n 0, [], []), (24, .getfield 96, [], [9, 35, 724]), (27, .iload_n 3, [], []), (28, .baload, [], []), (29, .ifCond .eq (56), [], [52]), (32, .aload_n 0, [], []), (33, .iload_n 3, [], []), (34, .invokevirtual 313, [], [0, 88, 9, 1072, 1074, 53, 73, 1075]), (37, .ifCond .eq (48), [], [52]), (40, .aload_n 0, [], []), (41, .getfield 102, [], [9, 37, 726]), (44, .iload_n 3, [], []), (45, .aload_n 0, [], []), (46, .iload_n 3, [], []), (47, .iload_n 1, [], []), (48, .invokevirtual 342, [], [0, 97, 9, 1098, 1100, 58, 73, 1101]), (51, .lastore, [], []), (52, .aload_n 0, [], []), (53, .getfield 99, [], [9, 36, 725]), (56, .iload_n 3, [], []), (57, .aload_n 0, [], []), (58, .getfield 102, [], [9, 37, 726]), (61, .iload_n 3, [], []), (62, .laload, [], []), (63, .l2i, [], []), (64, .iastore, [], []), (65, .aload_n 0, [], []), (66, .iload_n 3, [], []), (67, .aload_n 0, [], []), (68, .getfield 102, [], [9, 37, 726]), (71, .iload_n 3, [], []), (72, .laload, [], []), (73, .invokevirtual 316, [], [0, 89, 9, 1076, 1078, 54, 73, 1079]), (76, .ifCond .ne (6), [], [51]), (79, .bipush (-3), [], [1, 3]), (81, .ireturn, [], []), (82, .iinc 2 (1), [], [0, 1]), (85, .iinc 3 (1), [0, 1, 2, 3], [0, 1]), (88, .goto (-84), [], [4]), (91, .iload_n 2, [2], []), (92, .ireturn, [], [])]
def rn_q98 : rn_M := (yX9_valueAt, cX9_valueAt, 4, some .int, rn_t98, 1, 3, 73, 0)
/-- 99: RecordNichesModel.read(III)I -/
def rn_t99 : List rn_I := [(0, .aload_n 0, [], []), (1, .iload_n 1, [], []), (2, .iload_n 2, [], []), (3, .invokevirtual 272, [], [0, 46, 9, 886, 888, 19, 73, 889]), (6, .ifCond .ne (5), [], [7]), (9, .iconst (-1), [], [1, 1]), (10, .ireturn, [], []), (11, .aload_n 0, [], []), (12, .iload_n 1, [], []), (13, .iload_n 2, [], []), (14, .iload_n 3, [], []), (15, .invokevirtual 326, [], [0, 93, 9, 1060, 1062, 50, 73, 1063]), (18, .istore 4, [], []), (20, .iload 4, [], []), (22, .bipush (-6), [], [1, 6]), (24, .if_icmp .eq (6), [], [18]), (27, .iload 4, [], []), (29, .ireturn, [], []), (30, .aload_n 0, [], []), (31, .iload_n 3, [], []), (32, .invokevirtual 345, [], [0, 98, 9, 1094, 1096, 57, 73, 1097]), (35, .istore 5, [], []), (37, .iload 5, [], []), (39, .ifCond .lt (10), [], [27]), (42, .iload 5, [], []), (44, .bipush (60), [], [0, 60]), (46, .if_icmp .le (16), [], [33]), (49, .iload 5, [5], []), (51, .ifCond .ge (8), [], [31]), (54, .iload 5, [], []), (56, .goto (5), [], [32]), (59, .bipush (-4), [], [1, 4]), (61, .ireturn, [999], []), (62, .aload_n 0, [], []), (63, .iconst (0), [], [0, 0]), (64, .putfield 303, [], [9, 33, 0, 722]), (67, .iconst (0), [], [0, 0]), (68, .istore 6, [], []), (70, .iload 6, [0, 5, 6], []), (72, .aload_n 0, [], []), (73, .getfield 193, [], [9, 10, 699]), (76, .if_icmp .ge (54), [], [68]), (79, .aload_n 0, [], []), (80, .getfield 96, [], [9, 35, 724]), (83, .iload 6, [], []), (85, .baload, [], []), (86, .ifCond .eq (38), [], [66]), (89, .aload_n 0, [], []), (90, .iload 6, [], []), (92, .invokevirtual 313, [], [0, 88, 9, 1072, 1074, 53, 73, 1075]), (95, .ifCond .eq (29), [], [66]), (98, .aload_n 0, [], []), (99, .getfield 89, [], [9, 32, 721]), (102, .aload_n 0, [], []), (103, .getfield 303, [], [9, 33, 722]), (106, .aload_n 0, [], []), (107, .getfield 102, [], [9, 37, 726]), (110, .iload 6, [], []), (112, .laload, [], []), (113, .lastore, [], []), (114, .aload_n 0, [], []), (115, .dup, [], []), (116, .getfield 303, [], [9, 33, 722]), (119, .iconst (1), [], [0, 1]), (120, .iadd, [], []), (121, .putfield 303, [], [9, 33, 0, 722]), (124, .iinc 6 (1), [0, 5, 6], [0, 1]), (127, .goto (-57), [], [38]), (130, .iload 5, [5], []), (132, .ireturn, [], [])]
def rn_q99 : rn_M := (yX9_read, cX9_read, 7, some .int, rn_t99, 3, 9, 221, 0)
/-- 100: RecordNichesModel.which(III)I -/
def rn_t100 : List rn_I := [(0, .aload_n 0, [], []), (1, .iload_n 1, [], []), (2, .iload_n 2, [], []), (3, .invokevirtual 272, [], [0, 46, 9, 886, 888, 19, 73, 889]), (6, .ifCond .ne (5), [], [7]), (9, .iconst (-1), [], [1, 1]), (10, .ireturn, [], []), (11, .aload_n 0, [], []), (12, .iload_n 1, [], []), (13, .iload_n 2, [], []), (14, .iload_n 3, [], []), (15, .invokevirtual 326, [], [0, 93, 9, 1060, 1062, 50, 73, 1063]), (18, .istore 4, [], []), (20, .iload 4, [], []), (22, .bipush (-6), [], [1, 6]), (24, .if_icmp .ne (14), [], [22]), (27, .aload_n 0, [], []), (28, .getfield 19, [], [9, 5, 694]), (31, .iconst (0), [], [0, 0]), (32, .iaload, [], []), (33, .bipush (6), [], [0, 6]), (35, .if_icmp .eq (6), [], [24]), (38, .iload 4, [4], []), (40, .ireturn, [], []), (41, .aload_n 0, [], []), (42, .iconst (0), [], [0, 0]), (43, .iload_n 3, [], []), (44, .invokevirtual 342, [], [0, 97, 9, 1098, 1100, 58, 73, 1101]), (47, .l2i, [], []), (48, .istore 5, [], []), (50, .iload 5, [], []), (52, .aload_n 0, [], []), (53, .getfield 31, [], [9, 9, 698]), (56, .iconst (0), [], [0, 0]), (57, .iaload, [], []), (58, .if_icmp .ge (8), [], [38]), (61, .iload 5, [], []), (63, .goto (5), [], [39]), (66, .bipush (-3), [], [1, 3]), (68, .ireturn, [999], [])]
def rn_q100 : rn_M := (yX9_which, cX9_which, 6, some .int, rn_t100, 3, 9, 221, 0)
/-- 101: RecordNichesModel.poke(II)I -/
def rn_t101 : List rn_I := [(0, .iload_n 1, [], []), (1, .i2l, [], []), (2, .lconst 0, [], [0, 0]), (3, .ldc2_w 348, [], [0, 95, 1118]), (6, .invokestatic 116, [], [0, 29, 9, 827, 828, 0, 73, 829]), (9, .ifCond .eq (15), [], [12]), (12, .iload_n 2, [], []), (13, .i2l, [], []), (14, .lconst 0, [], [0, 0]), (15, .ldc2_w 320, [], [0, 255, 1089]), (18, .invokestatic 116, [], [0, 29, 9, 827, 828, 0, 73, 829]), (21, .ifCond .ne (6), [], [14]), (24, .bipush (-2), [999], [1, 2]), (26, .ireturn, [], []), (27, .aload_n 0, [], []), (28, .getfield 93, [], [9, 34, 723]), (31, .iload_n 1, [], []), (32, .iaload, [], []), (33, .istore_n 3, [], []), (34, .aload_n 0, [], []), (35, .getfield 93, [], [9, 34, 723]), (38, .iload_n 1, [], []), (39, .iload_n 2, [], []), (40, .iastore, [], []), (41, .iload_n 3, [], []), (42, .ireturn, [], [])]
def rn_q101 : rn_M := (yX9_poke, cX9_poke, 4, some .int, rn_t101, 2, 1, 25, 0)
/-- 102: RecordNichesModel.peek(I)I -/
def rn_t102 : List rn_I := [(0, .iload_n 1, [], []), (1, .i2l, [], []), (2, .lconst 0, [], [0, 0]), (3, .ldc2_w 348, [], [0, 95, 1118]), (6, .invokestatic 116, [], [0, 29, 9, 827, 828, 0, 73, 829]), (9, .ifCond .eq (12), [], [11]), (12, .aload_n 0, [], []), (13, .getfield 93, [], [9, 34, 723]), (16, .iload_n 1, [], []), (17, .iaload, [], []), (18, .goto (5), [], [12]), (21, .bipush (-2), [], [1, 2]), (23, .ireturn, [999], [])]
def rn_q102 : rn_M := (yX9_peek, cX9_peek, 2, some .int, rn_t102, 1, 1, 25, 0)
/-- 103: RecordNichesModel.pass(I)I -/
def rn_t103 : List rn_I := [(0, .aload_n 0, [], []), (1, .getfield 350, [], [9, 42, 731]), (4, .ifCond .eq (7), [], [5]), (7, .iload_n 1, [], []), (8, .goto (12), [], [10]), (11, .aload_n 0, [], []), (12, .getfield 105, [], [9, 38, 727]), (15, .aload_n 0, [], []), (16, .getfield 354, [], [9, 41, 730]), (19, .iaload, [], []), (20, .istore_n 2, [0], []), (21, .aload_n 0, [], []), (22, .getfield 105, [], [9, 38, 727]), (25, .aload_n 0, [], []), (26, .getfield 354, [], [9, 41, 730]), (29, .iload_n 2, [], []), (30, .iastore, [], []), (31, .aload_n 0, [], []), (32, .dup, [], []), (33, .getfield 354, [], [9, 41, 730]), (36, .iconst (1), [], [0, 1]), (37, .iadd, [], []), (38, .putfield 354, [], [9, 41, 0, 730]), (41, .iload_n 2, [], []), (42, .ireturn, [], [])]
def rn_q103 : rn_M := (yX9_pass, cX9_pass, 3, some .int, rn_t103, 1, 0, 0, 0)
/-- 104: RecordNichesModel.passRow([II)V -/
def rn_t104 : List rn_I := [(0, .iconst (0), [], [0, 0]), (1, .istore_n 3, [], []), (2, .iload_n 3, [0, 1, 2, 3], []), (3, .iload_n 2, [], []), (4, .if_icmp .ge (19), [], [15]), (7, .aload_n 1, [], []), (8, .iload_n 3, [], []), (9, .aload_n 0, [], []), (10, .aload_n 1, [], []), (11, .iload_n 3, [], []), (12, .iaload, [], []), (13, .invokevirtual 357, [], [0, 103, 9, 1131, 1133, 62, 73, 1134]), (16, .iastore, [], []), (17, .iinc 3 (1), [], [0, 1]), (20, .goto (-18), [], [2]), (23, .return_, [999], [])]
def rn_q104 : rn_M := (yX9_passRow, cX9_passRow, 4, none, rn_t104, 2, 1, 22, 0)
/-- 105: RecordNichesModel.passAll(I)V -/
def rn_t105 : List rn_I := [(0, .aload_n 0, [], []), (1, .sipush (426), [], [0, 426]), (4, .iload_n 1, [], []), (5, .imul, [], []), (6, .putfield 354, [], [9, 41, 0, 730]), (9, .aload_n 0, [], []), (10, .aload_n 0, [], []), (11, .aload_n 0, [], []), (12, .getfield 172, [], [9, 2, 691]), (15, .invokevirtual 357, [], [0, 103, 9, 1131, 1133, 62, 73, 1134]), (18, .putfield 172, [], [9, 2, 0, 691]), (21, .aload_n 0, [], []), (22, .aload_n 0, [], []), (23, .aload_n 0, [], []), (24, .getfield 303, [], [9, 33, 722]), (27, .invokevirtual 357, [], [0, 103, 9, 1131, 1133, 62, 73, 1134]), (30, .putfield 303, [], [9, 33, 0, 722]), (33, .aload_n 0, [], []), (34, .aload_n 0, [], []), (35, .getfield 7, [], [9, 0, 689]), (38, .sipush (320), [], [0, 320]), (41, .invokevirtual 360, [], [0, 104, 9, 1135, 1137, 63, 73, 1138]), (44, .aload_n 0, [], []), (45, .aload_n 0, [], []), (46, .getfield 13, [], [9, 1, 690]), (49, .bipush (8), [], [0, 8]), (51, .invokevirtual 360, [], [0, 104, 9, 1135, 1137, 63, 73, 1138]), (54, .aload_n 0, [], []), (55, .aload_n 0, [], []), (56, .getfield 93, [], [9, 34, 723]), (59, .bipush (96), [], [0, 96]), (61, .invokevirtual 360, [], [0, 104, 9, 1135, 1137, 63, 73, 1138]), (64, .iconst (0), [], [0, 0]), (65, .istore_n 2, [], []), (66, .iload_n 2, [0, 1, 2], []), (67, .bipush (60), [], [0, 60]), (69, .if_icmp .ge (59), [], [71]), (72, .aload_n 0, [], []), (73, .getfield 89, [], [9, 32, 721]), (76, .iload_n 2, [], []), (77, .aload_n 0, [], []), (78, .getfield 350, [], [9, 42, 731]), (81, .ifCond .eq (12), [], [48]), (84, .aload_n 0, [], []), (85, .getfield 89, [], [9, 32, 721]), (88, .iload_n 2, [], []), (89, .laload, [], []), (90, .goto (14), [], [56]), (93, .aload_n 0, [], []), (94, .getfield 108, [], [9, 39, 728]), (97, .bipush (60), [], [0, 60]), (99, .iload_n 1, [], []), (100, .imul, [], []), (101, .iload_n 2, [], []), (102, .iadd, [], []), (103, .laload, [], []), (104, .lastore, [0, 1, 2], []), (105, .aload_n 0, [], []), (106, .getfield 108, [], [9, 39, 728]), (109, .bipush (60), [], [0, 60]), (111, .iload_n 1, [], []), (112, .imul, [], []), (113, .iload_n 2, [], []), (114, .iadd, [], []), (115, .aload_n 0, [], []), (116, .getfield 89, [], [9, 32, 721]), (119, .iload_n 2, [], []), (120, .laload, [], []), (121, .lastore, [], []), (122, .iinc 2 (1), [], [0, 1]), (125, .goto (-59), [], [34]), (128, .return_, [999], [])]
def rn_q105 : rn_M := (yX9_passAll, cX9_passAll, 3, none, rn_t105, 1, 2, 45, 0)
/-- 106: RecordNichesModel.image(I)I -/
def rn_t106 : List rn_I := [(0, .iload_n 1, [], []), (1, .i2l, [], []), (2, .lconst 0, [], [0, 0]), (3, .lconst 1, [], [0, 1]), (4, .invokestatic 116, [], [0, 29, 9, 827, 828, 0, 73, 829]), (7, .ifCond .ne (6), [], [8]), (10, .bipush (-2), [], [1, 2]), (12, .ireturn, [], []), (13, .aload_n 0, [], []), (14, .iconst (1), [], [0, 1]), (15, .putfield 350, [], [9, 42, 1, 731]), (18, .aload_n 0, [], []), (19, .iload_n 1, [], []), (20, .invokevirtual 364, [], [0, 105, 9, 1127, 1129, 61, 73, 1130]), (23, .aload_n 0, [], []), (24, .getfield 111, [], [9, 40, 729]), (27, .iload_n 1, [], []), (28, .iconst (1), [], [0, 1]), (29, .bastore, [], []), (30, .iconst (1), [], [0, 1]), (31, .ireturn, [], [])]
def rn_q106 : rn_M := (yX9_image, cX9_image, 2, some .int, rn_t106, 1, 3, 67, 0)
/-- 107: RecordNichesModel.restore(I)I -/
def rn_t107 : List rn_I := [(0, .iload_n 1, [], []), (1, .i2l, [], []), (2, .lconst 0, [], [0, 0]), (3, .lconst 1, [], [0, 1]), (4, .invokestatic 116, [], [0, 29, 9, 827, 828, 0, 73, 829]), (7, .ifCond .ne (6), [], [8]), (10, .bipush (-2), [], [1, 2]), (12, .ireturn, [], []), (13, .aload_n 0, [], []), (14, .getfield 111, [], [9, 40, 729]), (17, .iload_n 1, [], []), (18, .baload, [], []), (19, .ifCond .ne (6), [], [15]), (22, .bipush (-3), [], [1, 3]), (24, .ireturn, [], []), (25, .aload_n 0, [], []), (26, .iconst (0), [], [0, 0]), (27, .putfield 350, [], [9, 42, 1, 731]), (30, .aload_n 0, [], []), (31, .iload_n 1, [], []), (32, .invokevirtual 364, [], [0, 105, 9, 1127, 1129, 61, 73, 1130]), (35, .iconst (1), [], [0, 1]), (36, .ireturn, [], [])]
def rn_q107 : rn_M := (yX9_restore, cX9_restore, 2, some .int, rn_t107, 1, 3, 67, 0)
/-- 108: RecordNichesModel.told(I)I -/
def rn_t108 : List rn_I := [(0, .iload_n 1, [], []), (1, .i2l, [], []), (2, .ldc2_w 367, [], [0, 100, 1147]), (5, .ldc2_w 369, [], [0, 899, 1148]), (8, .invokestatic 116, [], [0, 29, 9, 827, 828, 0, 73, 829]), (11, .ifCond .eq (38), [], [29]), (14, .iload_n 1, [], []), (15, .bipush (100), [], [0, 100]), (17, .idiv, [], []), (18, .iconst (1), [], [0, 1]), (19, .isub, [], []), (20, .istore_n 2, [], []), (21, .iload_n 1, [], []), (22, .bipush (100), [], [0, 100]), (24, .irem, [], []), (25, .aload_n 0, [], []), (26, .getfield 13, [], [9, 1, 690]), (29, .iload_n 2, [], []), (30, .iaload, [], []), (31, .if_icmp .ge (15), [], [27]), (34, .aload_n 0, [], []), (35, .iload_n 2, [], []), (36, .iload_n 1, [], []), (37, .bipush (100), [], [0, 100]), (39, .irem, [], []), (40, .invokevirtual 128, [], [0, 33, 9, 848, 850, 14, 73, 851]), (43, .goto (5), [], [28]), (46, .bipush (-2), [], [1, 2]), (48, .ireturn, [999], []), (49, .iload_n 1, [], []), (50, .i2l, [], []), (51, .ldc2_w 371, [], [0, 10, 1149]), (54, .ldc2_w 373, [], [0, 17, 1150]), (57, .invokestatic 116, [], [0, 29, 9, 827, 828, 0, 73, 829]), (60, .ifCond .eq (13), [], [42]), (63, .aload_n 0, [], []), (64, .getfield 13, [], [9, 1, 690]), (67, .iload_n 1, [], []), (68, .bipush (10), [], [0, 10]), (70, .isub, [], []), (71, .iaload, [], []), (72, .ireturn, [], []), (73, .iload_n 1, [], []), (74, .i2l, [], []), (75, .ldc2_w 375, [], [0, 20, 1151]), (78, .ldc2_w 377, [], [0, 27, 1152]), (81, .invokestatic 116, [], [0, 29, 9, 827, 828, 0, 73, 829]), (84, .ifCond .eq (20), [], [58]), (87, .aload_n 0, [], []), (88, .iload_n 1, [], []), (89, .bipush (20), [], [0, 20]), (91, .isub, [], []), (92, .invokevirtual 147, [], [0, 36, 9, 869, 871, 18, 73, 872]), (95, .ifCond .eq (7), [], [56]), (98, .iconst (1), [], [0, 1]), (99, .goto (4), [], [57]), (102, .iconst (0), [], [0, 0]), (103, .ireturn, [999], []), (104, .iload_n 1, [], []), (105, .ifCond .ne (10), [], [63]), (108, .aload_n 0, [], []), (109, .getfield 172, [], [9, 2, 691]), (112, .goto (17), [], [70]), (115, .iload_n 1, [], []), (116, .iconst (1), [], [0, 1]), (117, .if_icmp .ne (10), [], [69]), (120, .aload_n 0, [], []), (121, .getfield 303, [], [9, 33, 722]), (124, .goto (5), [], [70]), (127, .bipush (-2), [], [1, 2]), (129, .ireturn, [999], [])]
def rn_q108 : rn_M := (yX9_told, cX9_told, 3, some .int, rn_t108, 1, 2, 45, 0)
/-- 109: RecordNiches$Grammar.<init>()V -/
def rn_t109 : List rn_I := [(0, .aload_n 0, [], []), (1, .invokespecial 3, [], [3, 141, 83, 84]), (4, .aload_n 0, [], []), (5, .bipush (8), [], [0, 8]), (7, .anewarray 9, [], [5, 4, 142]), (10, .putfield 11, [], [0, 0, 2, 171]), (13, .aload_n 0, [], []), (14, .bipush (8), [], [0, 8]), (16, .newarray .boolean, [], [2, 170]), (18, .putfield 17, [], [0, 1, 2, 173]), (21, .iconst (0), [], [0, 0]), (22, .istore_n 1, [], []), (23, .iload_n 1, [0, 1], []), (24, .bipush (8), [], [0, 8]), (26, .if_icmp .ge (22), [], [24]), (29, .aload_n 0, [], []), (30, .getfield 11, [], [0, 0, 171]), (33, .iload_n 1, [], []), (34, .new 9, [], [4, 6, 142, 144, 69]), (37, .dup, [], []), (38, .invokespecial 21, [], [4, 133, 4, 1, 146, 0, 69, 147]), (41, .aastore, [], [5, 4]), (42, .iinc 1 (1), [], [0, 1]), (45, .goto (-22), [], [12]), (48, .return_, [999], [])]
def rn_q109 : rn_M := (yX0_init, cX0_init, 2, none, rn_t109, 0, 2, 40, 1)
/-- 110: RecordNiches$Grammar.isWell(LRecordNiches$Holding;II)Z -/
def rn_t110 : List rn_I := [(0, .iconst (0), [], [0, 0]), (1, .istore 4, [], []), (3, .iload 4, [0, 1, 2, 3, 4], []), (5, .bipush (8), [], [0, 8]), (7, .if_icmp .ge (33), [], [20]), (10, .aload_n 0, [], []), (11, .getfield 17, [], [0, 1, 173]), (14, .iload 4, [], []), (16, .iload 4, [], []), (18, .iload_n 2, [], []), (19, .if_icmp .eq (9), [], [14]), (22, .iload 4, [], []), (24, .iload_n 3, [], []), (25, .if_icmp .ne (7), [], [16]), (28, .iconst (1), [0, 1, 2, 3, 4], [0, 1]), (29, .goto (4), [], [17]), (32, .iconst (0), [], [0, 0]), (33, .bastore, [0, 1, 2, 3, 4], []), (34, .iinc 4 (1), [], [0, 1]), (37, .goto (-34), [], [2]), (40, .bipush (7), [0, 1], [0, 7]), (42, .istore 4, [], []), (44, .iload 4, [0, 1, 4], []), (46, .ifCond .lt (94), [], [69]), (49, .aload_n 0, [], []), (50, .getfield 17, [], [0, 1, 173]), (53, .iload 4, [], []), (55, .baload, [], []), (56, .ifCond .ne (6), [], [30]), (59, .goto (75), [], [67]), (62, .aload_n 0, [], []), (63, .getfield 11, [], [0, 0, 171]), (66, .iload 4, [], []), (68, .aaload, [], [5]), (69, .aload_n 1, [], []), (70, .iload 4, [], []), (72, .invokevirtual 22, [], [0, 134, 4, 440, 392, 393, 69, 394]), (75, .aload_n 0, [], []), (76, .getfield 11, [], [0, 0, 171]), (79, .iload 4, [], []), (81, .aaload, [], [5]), (82, .getfield 26, [], [4, 0, 150]), (85, .bipush (-6), [], [1, 6]), (87, .if_icmp .eq (5), [], [46]), (90, .iconst (0), [], [0, 0]), (91, .ireturn, [], []), (92, .iconst (0), [], [0, 0]), (93, .istore 5, [], []), (95, .iload 5, [0, 1, 4, 5], []), (97, .iload 4, [], []), (99, .if_icmp .ge (35), [], [67]), (102, .aload_n 1, [], []), (103, .getfield 30, [], [1, 0, 113]), (106, .iload 4, [], []), (108, .aaload, [], [6]), (109, .bipush (65), [], [0, 65]), (111, .iload 5, [], []), (113, .iadd, [], []), (114, .invokevirtual 36, [], [0, 142, 5, 441, 407, 408, 67, 409]), (117, .ifCond .eq (11), [], [65]), (120, .aload_n 0, [], []), (121, .getfield 17, [], [0, 1, 173]), (124, .iload 5, [], []), (126, .iconst (1), [], [0, 1]), (127, .bastore, [], []), (128, .iinc 5 (1), [0, 1, 4, 5], [0, 1]), (131, .goto (-36), [], [48]), (134, .iinc 4 (-1), [0, 1, 4], [1, 1]), (137, .goto (-93), [], [22]), (140, .iconst (1), [999], [0, 1]), (141, .ireturn, [], [])]
def rn_q110 : rn_M := (yX0_isWell, cX0_isWell, 6, some .boolean, rn_t110, 3, 4, 96, 0)
/-- 111: RecordNiches$Grammar.behind(II)I -/
def rn_t111 : List rn_I := [(0, .iload_n 1, [], []), (1, .invokestatic 42, [], [4, 22, 8, 7, 377, 0, 65, 378]), (4, .ifCond .eq (16), [], [10]), (7, .aload_n 0, [], []), (8, .getfield 11, [], [0, 0, 171]), (11, .iload_n 1, [], []), (12, .aaload, [], [5]), (13, .iload_n 2, [], []), (14, .invokevirtual 45, [], [0, 135, 4, 493, 494, 495, 69, 496]), (17, .goto (5), [], [11]), (20, .bipush (40), [], [0, 40]), (22, .ireturn, [999], [])]
def rn_q111 : rn_M := (yX0_behind, cX0_behind, 3, some .int, rn_t111, 2, 1, 21, 0)
/-- 112: RecordNiches$Holding.<init>()V -/
def rn_t112 : List rn_I := [(0, .aload_n 0, [], []), (1, .invokespecial 3, [], [3, 90, 83, 84]), (4, .aload_n 0, [], []), (5, .bipush (8), [], [0, 8]), (7, .anewarray 9, [], [6, 5, 91]), (10, .putfield 11, [], [1, 0, 2, 110]), (13, .aload_n 0, [], []), (14, .bipush (60), [], [0, 60]), (16, .newarray .long, [], [1, 108]), (18, .putfield 17, [], [1, 1, 2, 114]), (21, .aload_n 0, [], []), (22, .bipush (96), [], [0, 96]), (24, .newarray .int, [], [0, 109]), (26, .putfield 21, [], [1, 2, 2, 117]), (29, .iconst (0), [], [0, 0]), (30, .istore_n 1, [], []), (31, .iload_n 1, [0, 1], []), (32, .bipush (8), [], [0, 8]), (34, .if_icmp .ge (22), [], [28]), (37, .aload_n 0, [], []), (38, .getfield 11, [], [1, 0, 110]), (41, .iload_n 1, [], []), (42, .new 9, [], [5, 2, 91, 93, 67]), (45, .dup, [], []), (46, .invokespecial 25, [], [4, 139, 5, 0, 95, 0, 67, 96]), (49, .aastore, [], [6, 5]), (50, .iinc 1 (1), [], [0, 1]), (53, .goto (-22), [], [16]), (56, .return_, [999], [])]
def rn_q112 : rn_M := (yX1_init, cX1_init, 2, none, rn_t112, 0, 2, 40, 1)
/-- 113: RecordNiches$Holding.copyFrom(LRecordNiches$Holding;)V -/
def rn_t113 : List rn_I := [(0, .iconst (0), [], [0, 0]), (1, .istore_n 2, [], []), (2, .iload_n 2, [0, 1, 2], []), (3, .bipush (8), [], [0, 8]), (5, .if_icmp .ge (24), [], [16]), (8, .aload_n 0, [], []), (9, .getfield 11, [], [1, 0, 110]), (12, .iload_n 2, [], []), (13, .aaload, [], [6]), (14, .aload_n 1, [], []), (15, .getfield 11, [], [1, 0, 110]), (18, .iload_n 2, [], []), (19, .aaload, [], [6]), (20, .invokevirtual 26, [], [0, 143, 5, 666, 667, 668, 67, 669]), (23, .iinc 2 (1), [], [0, 1]), (26, .goto (-24), [], [2]), (29, .aload_n 1, [0, 1], []), (30, .getfield 17, [], [1, 1, 114]), (33, .iconst (0), [], [0, 0]), (34, .aload_n 0, [], []), (35, .getfield 17, [], [1, 1, 114]), (38, .iconst (0), [], [0, 0]), (39, .bipush (60), [], [0, 60]), (41, .invokestatic 30, [], [1, 1, 673, 672, 671, 76]), (44, .aload_n 1, [], []), (45, .getfield 21, [], [1, 2, 117]), (48, .iconst (0), [], [0, 0]), (49, .aload_n 0, [], []), (50, .getfield 21, [], [1, 2, 117]), (53, .iconst (0), [], [0, 0]), (54, .bipush (96), [], [0, 96]), (56, .invokestatic 30, [], [1, 0, 673, 672, 671, 76]), (59, .aload_n 0, [], []), (60, .aload_n 1, [], []), (61, .getfield 36, [], [1, 3, 120]), (64, .putfield 36, [], [1, 3, 0, 120]), (67, .aload_n 0, [], []), (68, .aload_n 1, [], []), (69, .getfield 40, [], [1, 4, 122]), (72, .putfield 40, [], [1, 4, 0, 122]), (75, .return_, [], [])]
def rn_q113 : rn_M := (yX1_copyFrom, cX1_copyFrom, 3, none, rn_t113, 1, 2, 47, 0)
/-- 114: RecordNiches$Holding.isOpen(I)Z -/
def rn_t114 : List rn_I := [(0, .iload_n 1, [], []), (1, .invokestatic 43, [], [4, 22, 8, 5, 377, 0, 65, 378]), (4, .ifCond .eq (21), [], [12]), (7, .aload_n 0, [], []), (8, .getfield 11, [], [1, 0, 110]), (11, .iload_n 1, [], []), (12, .aaload, [], [6]), (13, .bipush (120), [], [0, 120]), (15, .invokevirtual 47, [], [0, 142, 5, 431, 407, 408, 67, 409]), (18, .ifCond .eq (7), [], [12]), (21, .iconst (1), [], [0, 1]), (22, .goto (4), [], [13]), (25, .iconst (0), [999], [0, 0]), (26, .ireturn, [999], [])]
def rn_q114 : rn_M := (yX1_isOpen, cX1_isOpen, 2, some .boolean, rn_t114, 1, 1, 22, 0)
/-- 115: RecordNiches$Holding.signAt(II)I -/
def rn_t115 : List rn_I := [(0, .iload_n 1, [], []), (1, .invokestatic 43, [], [4, 22, 8, 5, 377, 0, 65, 378]), (4, .ifCond .eq (16), [], [10]), (7, .aload_n 0, [], []), (8, .getfield 11, [], [1, 0, 110]), (11, .iload_n 1, [], []), (12, .aaload, [], [6]), (13, .iload_n 2, [], []), (14, .invokevirtual 50, [], [0, 141, 5, 466, 467, 468, 67, 469]), (17, .goto (4), [], [11]), (20, .iconst (0), [], [0, 0]), (21, .ireturn, [999], [])]
def rn_q115 : rn_M := (yX1_signAt, cX1_signAt, 3, some .int, rn_t115, 2, 1, 21, 0)
/-- 116: RecordNiches$Holding.putNumber(IIJ)V -/
def rn_t116 : List rn_I := [(0, .iconst (0), [], [0, 0]), (1, .istore 5, [], []), (3, .iload 5, [0, 1, 2, 3, 5], []), (5, .iload_n 2, [], []), (6, .if_icmp .ge (46), [], [28]), (9, .iload_n 1, [], []), (10, .iload 5, [], []), (12, .iadd, [], []), (13, .istore 6, [], []), (15, .iload 6, [], []), (17, .ifCond .lt (29), [], [26]), (20, .iload 6, [], []), (22, .bipush (96), [], [0, 96]), (24, .if_icmp .ge (22), [], [26]), (27, .aload_n 0, [], []), (28, .getfield 21, [], [1, 2, 117]), (31, .iload 6, [], []), (33, .lload_n 3, [], []), (34, .bipush (8), [], [0, 8]), (36, .iload 5, [], []), (38, .imul, [], []), (39, .lshr, [], []), (40, .l2i, [], []), (41, .sipush (255), [], [0, 255]), (44, .iand, [], []), (45, .iastore, [], []), (46, .iinc 5 (1), [0, 1, 2, 3, 5], [0, 1]), (49, .goto (-46), [], [2]), (52, .return_, [999], [])]
def rn_q116 : rn_M := (yX1_putNumber, cX1_putNumber, 7, none, rn_t116, 3, 0, 0, 0)
/-- 117: RecordNiches$Holding.numberAt(II)J -/
def rn_t117 : List rn_I := [(0, .lconst 0, [], [0, 0]), (1, .lstore_n 3, [], []), (2, .iconst (0), [], [0, 0]), (3, .istore 5, [], []), (5, .iload 5, [0, 1, 2, 3, 5], []), (7, .iload_n 2, [], []), (8, .if_icmp .ge (44), [], [30]), (11, .iload_n 1, [], []), (12, .iload 5, [], []), (14, .iadd, [], []), (15, .istore 6, [], []), (17, .iload 6, [], []), (19, .ifCond .lt (27), [], [28]), (22, .iload 6, [], []), (24, .bipush (96), [], [0, 96]), (26, .if_icmp .ge (20), [], [28]), (29, .lload_n 3, [], []), (30, .aload_n 0, [], []), (31, .getfield 21, [], [1, 2, 117]), (34, .iload 6, [], []), (36, .iaload, [], []), (37, .i2l, [], []), (38, .bipush (8), [], [0, 8]), (40, .iload 5, [], []), (42, .imul, [], []), (43, .lshl, [], []), (44, .lor, [], []), (45, .lstore_n 3, [], []), (46, .iinc 5 (1), [0, 1, 2, 3, 5], [0, 1]), (49, .goto (-44), [], [4]), (52, .lload_n 3, [3], []), (53, .lreturn, [], [])]
def rn_q117 : rn_M := (yX1_numberAt, cX1_numberAt, 7, some .long, rn_t117, 2, 0, 0, 0)
/-- 118: RecordNiches$Lay.fields(LRecordNiches$Node;I)V -/
def rn_t118 : List rn_I := [(0, .aload_n 0, [], []), (1, .aload_n 0, [], []), (2, .invokestatic 9, [], [0, 120, 2, 504, 505, 0, 74, 506]), (5, .putfield 15, [], [3, 6, 0, 215]), (8, .iconst (0), [], [0, 0]), (9, .istore_n 2, [], []), (10, .iload_n 1, [], []), (11, .ifCond .ne (13), [], [14]), (14, .aload_n 0, [], []), (15, .iload_n 2, [], []), (16, .iconst (0), [], [0, 0]), (17, .invokestatic 21, [], [0, 121, 2, 510, 511, 0, 74, 512]), (20, .istore_n 2, [], []), (21, .goto (23), [], [28]), (24, .iconst (4), [], [0, 4]), (25, .istore_n 3, [], []), (26, .iload_n 3, [0, 2, 3], []), (27, .ifCond .le (17), [], [28]), (30, .aload_n 0, [], []), (31, .iload_n 2, [], []), (32, .iload_n 3, [], []), (33, .invokestatic 21, [], [0, 121, 2, 510, 511, 0, 74, 512]), (36, .istore_n 2, [], []), (37, .iload_n 3, [], []), (38, .iconst (1), [], [0, 1]), (39, .ishr, [], []), (40, .istore_n 3, [], []), (41, .goto (-15), [], [16]), (44, .aload_n 0, [0, 2], []), (45, .iload_n 2, [], []), (46, .aload_n 0, [], []), (47, .getfield 15, [], [3, 6, 215]), (50, .invokestatic 25, [], [4, 26, 8, 8, 514, 0, 65, 515]), (53, .putfield 29, [], [3, 5, 0, 210]), (56, .aload_n 0, [], []), (57, .iconst (0), [], [0, 0]), (58, .iconst (0), [], [0, 0]), (59, .iconst (0), [], [0, 0]), (60, .iconst (0), [], [0, 0]), (61, .invokevirtual 32, [], [0, 130, 3, 516, 481, 482, 71, 483]), (64, .iconst (0), [], [0, 0]), (65, .istore_n 3, [], []), (66, .iload_n 3, [0, 3], []), (67, .aload_n 0, [], []), (68, .getfield 36, [], [3, 1, 198]), (71, .if_icmp .ge (19), [], [54]), (74, .aload_n 0, [], []), (75, .aload_n 0, [], []), (76, .getfield 39, [], [3, 0, 194]), (79, .iload_n 3, [], []), (80, .aaload, [], [4]), (81, .invokestatic 43, [], [0, 122, 2, 517, 518, 0, 74, 519]), (84, .iinc 3 (1), [], [0, 1]), (87, .goto (-21), [], [42]), (90, .return_, [999], [])]
def rn_q118 : rn_M := (yX2_fields, cX2_fields, 4, none, rn_t118, 2, 2, 47, 0)
/-- 119: RecordNiches$Lay.choices(LRecordNiches$Node;)V -/
def rn_t119 : List rn_I := [(0, .aload_n 0, [], []), (1, .aload_n 0, [], []), (2, .invokestatic 9, [], [0, 120, 2, 504, 505, 0, 74, 506]), (5, .putfield 15, [], [3, 6, 0, 215]), (8, .aload_n 0, [], []), (9, .getfield 36, [], [3, 1, 198]), (12, .iconst (1), [], [0, 1]), (13, .if_icmp .ne (14), [], [15]), (16, .aload_n 0, [], []), (17, .aload_n 0, [], []), (18, .getfield 39, [], [3, 0, 194]), (21, .iconst (0), [], [0, 0]), (22, .aaload, [], [4]), (23, .invokestatic 47, [], [0, 123, 2, 523, 524, 0, 74, 525]), (26, .return_, [], []), (27, .iconst (0), [], [0, 0]), (28, .istore_n 1, [], []), (29, .iconst (1), [], [0, 1]), (30, .istore_n 2, [], []), (31, .iload_n 2, [0, 1, 2], []), (32, .aload_n 0, [], []), (33, .getfield 36, [], [3, 1, 198]), (36, .if_icmp .ge (32), [], [38]), (39, .aload_n 0, [], []), (40, .getfield 39, [], [3, 0, 194]), (43, .iload_n 2, [], []), (44, .aaload, [], [4]), (45, .getfield 29, [], [3, 5, 210]), (48, .aload_n 0, [], []), (49, .getfield 39, [], [3, 0, 194]), (52, .iload_n 1, [], []), (53, .aaload, [], [4]), (54, .getfield 29, [], [3, 5, 210]), (57, .if_icmp .le (5), [], [36]), (60, .iload_n 2, [], []), (61, .istore_n 1, [], []), (62, .iinc 2 (1), [0, 1, 2], [0, 1]), (65, .goto (-34), [], [19]), (68, .aload_n 0, [0, 1], []), (69, .iload_n 1, [], []), (70, .invokestatic 50, [], [0, 124, 2, 526, 527, 0, 74, 528]), (73, .ifCond .eq (11), [], [46]), (76, .aload_n 0, [], []), (77, .iload_n 1, [], []), (78, .invokestatic 54, [], [0, 125, 2, 529, 530, 0, 74, 531]), (81, .goto (7), [], [48]), (84, .aload_n 0, [], []), (85, .invokestatic 58, [], [0, 126, 2, 532, 533, 0, 74, 534]), (88, .return_, [999], [])]
def rn_q119 : rn_M := (yX2_choices, cX2_choices, 3, none, rn_t119, 1, 2, 48, 0)
/-- 120: RecordNiches$Lay.greatestAlign(LRecordNiches$Node;)I -/
def rn_t120 : List rn_I := [(0, .iconst (1), [], [0, 1]), (1, .istore_n 1, [], []), (2, .iconst (0), [], [0, 0]), (3, .istore_n 2, [], []), (4, .iload_n 2, [0, 1, 2], []), (5, .aload_n 0, [], []), (6, .getfield 36, [], [3, 1, 198]), (9, .if_icmp .ge (23), [], [18]), (12, .iload_n 1, [], []), (13, .aload_n 0, [], []), (14, .getfield 39, [], [3, 0, 194]), (17, .iload_n 2, [], []), (18, .aaload, [], [4]), (19, .getfield 15, [], [3, 6, 215]), (22, .invokestatic 62, [], [2, 507, 508, 75, 509]), (25, .istore_n 1, [], []), (26, .iinc 2 (1), [], [0, 1]), (29, .goto (-25), [], [4]), (32, .iload_n 1, [1], []), (33, .ireturn, [], [])]
def rn_q120 : rn_M := (yX2_greatestAlign, cX2_greatestAlign, 3, some .int, rn_t120, 1, 1, 21, 0)
/-- 121: RecordNiches$Lay.inLine(LRecordNiches$Node;II)I -/
def rn_t121 : List rn_I := [(0, .iload_n 1, [], []), (1, .istore_n 3, [], []), (2, .iconst (0), [], [0, 0]), (3, .istore 4, [], []), (5, .iload 4, [0, 2, 3, 4], []), (7, .aload_n 0, [], []), (8, .getfield 36, [], [3, 1, 198]), (11, .if_icmp .ge (60), [], [34]), (14, .aload_n 0, [], []), (15, .getfield 39, [], [3, 0, 194]), (18, .iload 4, [], []), (20, .aaload, [], [4]), (21, .astore 5, [], []), (23, .iload_n 2, [], []), (24, .ifCond .eq (15), [], [20]), (27, .aload 5, [], []), (29, .getfield 15, [], [3, 6, 215]), (32, .iload_n 2, [], []), (33, .if_icmp .eq (6), [], [20]), (36, .goto (29), [], [32]), (39, .aload 5, [0, 2, 3, 4, 5], []), (41, .iload_n 3, [], []), (42, .aload 5, [], []), (44, .getfield 15, [], [3, 6, 215]), (47, .invokestatic 25, [], [4, 26, 8, 8, 514, 0, 65, 515]), (50, .putfield 67, [], [3, 7, 0, 218]), (53, .aload 5, [], []), (55, .getfield 67, [], [3, 7, 218]), (58, .aload 5, [], []), (60, .getfield 29, [], [3, 5, 210]), (63, .iadd, [], []), (64, .istore_n 3, [], []), (65, .iinc 4 (1), [0, 2, 3, 4], [0, 1]), (68, .goto (-63), [], [4]), (71, .iload_n 3, [3], []), (72, .ireturn, [], [])]
def rn_q121 : rn_M := (yX2_inLine, cX2_inLine, 6, some .int, rn_t121, 3, 1, 21, 0)
/-- 122: RecordNiches$Lay.takeGreaterGap(LRecordNiches$Node;LRecordNiches$Node;)V -/
def rn_t122 : List rn_I := [(0, .aload_n 1, [], []), (1, .getfield 67, [], [3, 7, 218]), (4, .aload_n 1, [], []), (5, .getfield 70, [], [3, 8, 223]), (8, .iadd, [], []), (9, .istore_n 2, [], []), (10, .aload_n 1, [], []), (11, .getfield 73, [], [3, 11, 233]), (14, .aload_n 0, [], []), (15, .getfield 73, [], [3, 11, 233]), (18, .if_icmp .ne (15), [], [17]), (21, .iload_n 2, [], []), (22, .aload_n 0, [], []), (23, .getfield 70, [], [3, 8, 223]), (26, .if_icmp .ge (7), [], [17]), (29, .iconst (1), [], [0, 1]), (30, .goto (4), [], [18]), (33, .iconst (0), [0, 1, 2], [0, 0]), (34, .istore_n 3, [0, 1, 2], []), (35, .aload_n 1, [], []), (36, .getfield 73, [], [3, 11, 233]), (39, .aload_n 0, [], []), (40, .getfield 73, [], [3, 11, 233]), (43, .if_icmp .gt (7), [], [26]), (46, .iload_n 3, [], []), (47, .ifCond .eq (20), [], [35]), (50, .aload_n 0, [0, 1, 2], []), (51, .iload_n 2, [], []), (52, .aload_n 1, [], []), (53, .getfield 76, [], [3, 9, 227]), (56, .aload_n 1, [], []), (57, .getfield 79, [], [3, 10, 230]), (60, .aload_n 1, [], []), (61, .getfield 73, [], [3, 11, 233]), (64, .invokevirtual 32, [], [0, 130, 3, 516, 481, 482, 71, 483]), (67, .return_, [999], [])]
def rn_q122 : rn_M := (yX2_takeGreaterGap, cX2_takeGreaterGap, 4, none, rn_t122, 2, 1, 24, 0)
/-- 123: RecordNiches$Lay.alone(LRecordNiches$Node;LRecordNiches$Node;)V -/
def rn_t123 : List rn_I := [(0, .aload_n 0, [], []), (1, .iconst (0), [], [0, 0]), (2, .putfield 82, [], [3, 12, 0, 236]), (5, .aload_n 1, [], []), (6, .iconst (0), [], [0, 0]), (7, .putfield 67, [], [3, 7, 0, 218]), (10, .aload_n 0, [], []), (11, .aload_n 1, [], []), (12, .getfield 29, [], [3, 5, 210]), (15, .putfield 29, [], [3, 5, 0, 210]), (18, .aload_n 0, [], []), (19, .aload_n 1, [], []), (20, .getfield 70, [], [3, 8, 223]), (23, .aload_n 1, [], []), (24, .getfield 76, [], [3, 9, 227]), (27, .aload_n 1, [], []), (28, .getfield 79, [], [3, 10, 230]), (31, .aload_n 1, [], []), (32, .getfield 73, [], [3, 11, 233]), (35, .invokevirtual 32, [], [0, 130, 3, 516, 481, 482, 71, 483]), (38, .return_, [], [])]
def rn_q123 : rn_M := (yX2_alone, cX2_alone, 2, none, rn_t123, 2, 1, 24, 0)
/-- 124: RecordNiches$Lay.findsRoom(LRecordNiches$Node;I)Z -/
def rn_t124 : List rn_I := [(0, .aload_n 0, [], []), (1, .getfield 39, [], [3, 0, 194]), (4, .iload_n 1, [], []), (5, .aaload, [], [4]), (6, .astore_n 2, [], []), (7, .aload_n 2, [], []), (8, .getfield 73, [], [3, 11, 233]), (11, .ifCond .eq (16), [], [15]), (14, .aload_n 2, [], []), (15, .getfield 73, [], [3, 11, 233]), (18, .aload_n 0, [], []), (19, .getfield 36, [], [3, 1, 198]), (22, .iconst (1), [], [0, 1]), (23, .isub, [], []), (24, .if_icmp .ge (5), [], [17]), (27, .iconst (0), [999], [0, 0]), (28, .ireturn, [], []), (29, .iconst (0), [], [0, 0]), (30, .istore_n 3, [], []), (31, .iload_n 3, [0, 1, 2, 3], []), (32, .aload_n 0, [], []), (33, .getfield 36, [], [3, 1, 198]), (36, .if_icmp .ge (85), [], [62]), (39, .aload_n 0, [], []), (40, .getfield 39, [], [3, 0, 194]), (43, .iload_n 3, [], []), (44, .aaload, [], [4]), (45, .astore 4, [], []), (47, .iload_n 3, [], []), (48, .iload_n 1, [], []), (49, .if_icmp .eq (15), [], [36]), (52, .aload 4, [], []), (54, .getfield 29, [], [3, 5, 210]), (57, .aload_n 2, [], []), (58, .getfield 70, [], [3, 8, 223]), (61, .if_icmp .gt (12), [], [40]), (64, .aload 4, [0, 1, 2, 3, 4], []), (66, .iconst (0), [], [0, 0]), (67, .putfield 67, [], [3, 7, 0, 218]), (70, .goto (45), [], [60]), (73, .aload 4, [], []), (75, .aload_n 2, [], []), (76, .getfield 70, [], [3, 8, 223]), (79, .aload_n 2, [], []), (80, .getfield 76, [], [3, 9, 227]), (83, .iadd, [], []), (84, .aload 4, [], []), (86, .getfield 15, [], [3, 6, 215]), (89, .invokestatic 25, [], [4, 26, 8, 8, 514, 0, 65, 515]), (92, .putfield 67, [], [3, 7, 0, 218]), (95, .aload 4, [], []), (97, .getfield 67, [], [3, 7, 218]), (100, .aload 4, [], []), (102, .getfield 29, [], [3, 5, 210]), (105, .iadd, [], []), (106, .aload_n 2, [], []), (107, .getfield 29, [], [3, 5, 210]), (110, .if_icmp .le (5), [], [60]), (113, .iconst (0), [], [0, 0]), (114, .ireturn, [], []), (115, .iinc 3 (1), [0, 1, 2, 3], [0, 1]), (118, .goto (-87), [], [19]), (121, .iconst (1), [999], [0, 1]), (122, .ireturn, [], [])]
def rn_q124 : rn_M := (yX2_findsRoom, cX2_findsRoom, 5, some .boolean, rn_t124, 2, 1, 21, 0)
/-- 125: RecordNiches$Lay.hide(LRecordNiches$Node;I)V -/
def rn_t125 : List rn_I := [(0, .aload_n 0, [], []), (1, .getfield 39, [], [3, 0, 194]), (4, .iload_n 1, [], []), (5, .aaload, [], [4]), (6, .astore_n 2, [], []), (7, .aload_n 0, [], []), (8, .iconst (1), [], [0, 1]), (9, .putfield 82, [], [3, 12, 0, 236]), (12, .aload_n 0, [], []), (13, .iload_n 1, [], []), (14, .putfield 85, [], [3, 13, 0, 241]), (17, .aload_n 0, [], []), (18, .aload_n 2, [], []), (19, .getfield 29, [], [3, 5, 210]), (22, .aload_n 0, [], []), (23, .getfield 15, [], [3, 6, 215]), (26, .invokestatic 25, [], [4, 26, 8, 8, 514, 0, 65, 515]), (29, .putfield 29, [], [3, 5, 0, 210]), (32, .aload_n 2, [], []), (33, .getfield 79, [], [3, 10, 230]), (36, .istore_n 3, [], []), (37, .iconst (0), [], [0, 0]), (38, .istore 4, [], []), (40, .iload 4, [0, 1, 2, 3, 4], []), (42, .aload_n 0, [], []), (43, .getfield 36, [], [3, 1, 198]), (46, .if_icmp .ge (32), [], [40]), (49, .iload 4, [], []), (51, .iload_n 1, [], []), (52, .if_icmp .ne (6), [], [31]), (55, .goto (17), [], [38]), (58, .aload_n 0, [], []), (59, .getfield 39, [], [3, 0, 194]), (62, .iload 4, [], []), (64, .aaload, [], [4]), (65, .iload_n 3, [], []), (66, .putfield 88, [], [3, 14, 0, 244]), (69, .iinc 3 (1), [], [0, 1]), (72, .iinc 4 (1), [0, 1, 2, 3, 4], [0, 1]), (75, .goto (-35), [], [23]), (78, .aload_n 0, [0, 2, 3], []), (79, .aload_n 2, [], []), (80, .getfield 70, [], [3, 8, 223]), (83, .aload_n 2, [], []), (84, .getfield 76, [], [3, 9, 227]), (87, .iload_n 3, [], []), (88, .aload_n 2, [], []), (89, .getfield 73, [], [3, 11, 233]), (92, .aload_n 0, [], []), (93, .getfield 36, [], [3, 1, 198]), (96, .iconst (1), [], [0, 1]), (97, .isub, [], []), (98, .isub, [], []), (99, .invokevirtual 32, [], [0, 130, 3, 516, 481, 482, 71, 483]), (102, .return_, [], [])]
def rn_q125 : rn_M := (yX2_hide, cX2_hide, 5, none, rn_t125, 2, 1, 24, 0)
/-- 126: RecordNiches$Lay.tag(LRecordNiches$Node;)V -/
def rn_t126 : List rn_I := [(0, .aload_n 0, [], []), (1, .iconst (2), [], [0, 2]), (2, .putfield 82, [], [3, 12, 0, 236]), (5, .iconst (1), [], [0, 1]), (6, .istore_n 1, [], []), (7, .iconst (0), [], [0, 0]), (8, .istore_n 2, [], []), (9, .iload_n 2, [0, 1, 2], []), (10, .aload_n 0, [], []), (11, .getfield 36, [], [3, 1, 198]), (14, .if_icmp .ge (47), [], [35]), (17, .aload_n 0, [], []), (18, .getfield 39, [], [3, 0, 194]), (21, .iload_n 2, [], []), (22, .aaload, [], [4]), (23, .astore_n 3, [], []), (24, .aload_n 3, [], []), (25, .iload_n 2, [], []), (26, .putfield 88, [], [3, 14, 0, 244]), (29, .aload_n 3, [], []), (30, .iconst (1), [], [0, 1]), (31, .aload_n 3, [], []), (32, .getfield 15, [], [3, 6, 215]), (35, .invokestatic 25, [], [4, 26, 8, 8, 514, 0, 65, 515]), (38, .putfield 67, [], [3, 7, 0, 218]), (41, .iload_n 1, [], []), (42, .aload_n 3, [], []), (43, .getfield 67, [], [3, 7, 218]), (46, .aload_n 3, [], []), (47, .getfield 29, [], [3, 5, 210]), (50, .iadd, [], []), (51, .invokestatic 62, [], [2, 507, 508, 75, 509]), (54, .istore_n 1, [], []), (55, .iinc 2 (1), [], [0, 1]), (58, .goto (-49), [], [7]), (61, .aload_n 0, [0, 1], []), (62, .iload_n 1, [], []), (63, .aload_n 0, [], []), (64, .getfield 15, [], [3, 6, 215]), (67, .invokestatic 25, [], [4, 26, 8, 8, 514, 0, 65, 515]), (70, .putfield 29, [], [3, 5, 0, 210]), (73, .aload_n 0, [], []), (74, .iconst (0), [], [0, 0]), (75, .iconst (1), [], [0, 1]), (76, .aload_n 0, [], []), (77, .getfield 36, [], [3, 1, 198]), (80, .sipush (256), [], [0, 256]), (83, .aload_n 0, [], []), (84, .getfield 36, [], [3, 1, 198]), (87, .isub, [], []), (88, .invokevirtual 32, [], [0, 130, 3, 516, 481, 482, 71, 483]), (91, .return_, [], [])]
def rn_q126 : rn_M := (yX2_tag, cX2_tag, 4, none, rn_t126, 1, 1, 24, 0)
/-- 127: RecordNiches$Node.<init>()V -/
def rn_t127 : List rn_I := [(0, .aload_n 0, [], []), (1, .invokespecial 3, [], [3, 191, 83, 84]), (4, .aload_n 0, [], []), (5, .bipush (6), [], [0, 6]), (7, .anewarray 9, [], [4, 3, 192]), (10, .putfield 11, [], [3, 0, 2, 193]), (13, .return_, [], [])]
def rn_q127 : rn_M := (yX3_init, cX3_init, 1, none, rn_t127, 0, 1, 20, 1)
/-- 128: RecordNiches$Node.reset(LRecordNiches$Node;)V -/
def rn_t128 : List rn_I := [(0, .aload_n 0, [], []), (1, .iconst (0), [], [0, 0]), (2, .putfield 15, [], [3, 1, 0, 197]), (5, .aload_n 0, [], []), (6, .aload_n 1, [], []), (7, .putfield 19, [], [3, 2, 2, 201]), (10, .aload_n 0, [], []), (11, .bipush (-6), [], [1, 6]), (13, .putfield 23, [], [3, 14, 0, 242]), (16, .aload_n 1, [], []), (17, .ifnull (12), [], [15]), (20, .aload_n 1, [], []), (21, .getfield 15, [], [3, 1, 197]), (24, .bipush (6), [], [0, 6]), (26, .if_icmp .lt (4), [], [16]), (29, .return_, [999], []), (30, .aload_n 0, [], []), (31, .aload_n 1, [], []), (32, .getfield 15, [], [3, 1, 197]), (35, .putfield 26, [], [3, 3, 0, 204]), (38, .aload_n 1, [], []), (39, .getfield 11, [], [3, 0, 193]), (42, .aload_n 0, [], []), (43, .getfield 26, [], [3, 3, 204]), (46, .aload_n 0, [], []), (47, .aastore, [], [4, 3]), (48, .aload_n 1, [], []), (49, .dup, [], []), (50, .getfield 15, [], [3, 1, 197]), (53, .iconst (1), [], [0, 1]), (54, .iadd, [], []), (55, .putfield 15, [], [3, 1, 0, 197]), (58, .return_, [], [])]
def rn_q128 : rn_M := (yX3_reset, cX3_reset, 2, none, rn_t128, 1, 0, 0, 0)
/-- 129: RecordNiches$Node.be(II)V -/
def rn_t129 : List rn_I := [(0, .aload_n 0, [], []), (1, .iload_n 1, [], []), (2, .putfield 29, [], [3, 4, 0, 206]), (5, .aload_n 0, [], []), (6, .iload_n 2, [], []), (7, .putfield 32, [], [3, 5, 0, 212]), (10, .aload_n 0, [], []), (11, .iload_n 2, [], []), (12, .ifCond .ne (7), [], [11]), (15, .iconst (1), [], [0, 1]), (16, .goto (4), [], [12]), (19, .iload_n 2, [], []), (20, .putfield 35, [0], [3, 6, 0, 216]), (23, .aload_n 0, [], []), (24, .iconst (0), [], [0, 0]), (25, .iconst (0), [], [0, 0]), (26, .iconst (0), [], [0, 0]), (27, .iconst (0), [], [0, 0]), (28, .invokevirtual 38, [], [0, 130, 3, 480, 481, 482, 71, 483]), (31, .return_, [], [])]
def rn_q129 : rn_M := (yX3_be, cX3_be, 3, none, rn_t129, 2, 1, 24, 0)
/-- 130: RecordNiches$Node.setGap(IIII)V -/
def rn_t130 : List rn_I := [(0, .aload_n 0, [], []), (1, .iload_n 1, [], []), (2, .putfield 42, [], [3, 8, 0, 221]), (5, .aload_n 0, [], []), (6, .iload_n 2, [], []), (7, .putfield 45, [], [3, 9, 0, 225]), (10, .aload_n 0, [], []), (11, .iload_n 3, [], []), (12, .putfield 48, [], [3, 10, 0, 229]), (15, .aload_n 0, [], []), (16, .iload 4, [], []), (18, .putfield 51, [], [3, 11, 0, 232]), (21, .return_, [], [])]
def rn_q130 : rn_M := (yX3_setGap, cX3_setGap, 5, none, rn_t130, 4, 0, 0, 0)
/-- 131: RecordNiches$Node.isNumber()Z -/
def rn_t131 : List rn_I := [(0, .aload_n 0, [], []), (1, .getfield 29, [], [3, 4, 206]), (4, .iconst (1), [], [0, 1]), (5, .if_icmp .eq (27), [], [16]), (8, .aload_n 0, [], []), (9, .getfield 29, [], [3, 4, 206]), (12, .iconst (2), [], [0, 2]), (13, .if_icmp .eq (19), [], [16]), (16, .aload_n 0, [], []), (17, .getfield 29, [], [3, 4, 206]), (20, .iconst (3), [], [0, 3]), (21, .if_icmp .eq (11), [], [16]), (24, .aload_n 0, [], []), (25, .getfield 29, [], [3, 4, 206]), (28, .iconst (4), [], [0, 4]), (29, .if_icmp .ne (7), [], [18]), (32, .iconst (1), [999], [0, 1]), (33, .goto (4), [], [19]), (36, .iconst (0), [], [0, 0]), (37, .ireturn, [999], [])]
def rn_q131 : rn_M := (yX3_isNumber, cX3_isNumber, 1, some .boolean, rn_t131, 0, 0, 0, 0)
/-- 132: RecordNiches$Node.admits(J)Z -/
def rn_t132 : List rn_I := [(0, .aload_n 0, [], []), (1, .getfield 29, [], [3, 4, 206]), (4, .bipush (6), [], [0, 6]), (6, .if_icmp .ne (25), [], [18]), (9, .lload_n 1, [], []), (10, .lconst 0, [], [0, 0]), (11, .lcmp, [], []), (12, .ifCond .lt (17), [], [16]), (15, .lload_n 1, [], []), (16, .aload_n 0, [], []), (17, .getfield 15, [], [3, 1, 197]), (20, .i2l, [], []), (21, .lcmp, [], []), (22, .ifCond .ge (7), [], [16]), (25, .iconst (1), [], [0, 1]), (26, .goto (4), [], [17]), (29, .iconst (0), [999], [0, 0]), (30, .ireturn, [999], []), (31, .aload_n 0, [], []), (32, .getfield 29, [], [3, 4, 206]), (35, .iconst (4), [], [0, 4]), (36, .if_icmp .ne (23), [], [34]), (39, .lload_n 1, [], []), (40, .lconst 1, [], [0, 1]), (41, .lcmp, [], []), (42, .ifCond .lt (15), [], [32]), (45, .lload_n 1, [], []), (46, .ldc2_w 54, [], [0, 4294967295, 613]), (49, .lcmp, [], []), (50, .ifCond .gt (7), [], [32]), (53, .iconst (1), [], [0, 1]), (54, .goto (4), [], [33]), (57, .iconst (0), [999], [0, 0]), (58, .ireturn, [999], []), (59, .aload_n 0, [], []), (60, .getfield 29, [], [3, 4, 206]), (63, .iconst (2), [], [0, 2]), (64, .if_icmp .eq (11), [], [42]), (67, .aload_n 0, [], []), (68, .getfield 29, [], [3, 4, 206]), (71, .iconst (3), [], [0, 3]), (72, .if_icmp .ne (25), [], [56]), (75, .lload_n 1, [0, 1], []), (76, .lconst 0, [], [0, 0]), (77, .lcmp, [], []), (78, .ifCond .lt (17), [], [54]), (81, .lload_n 1, [], []), (82, .aload_n 0, [], []), (83, .getfield 48, [], [3, 10, 229]), (86, .i2l, [], []), (87, .lcmp, [], []), (88, .ifCond .ge (7), [], [54]), (91, .iconst (1), [], [0, 1]), (92, .goto (4), [], [55]), (95, .iconst (0), [999], [0, 0]), (96, .ireturn, [999], []), (97, .lload_n 1, [], []), (98, .lconst 0, [], [0, 0]), (99, .lcmp, [], []), (100, .ifCond .lt (21), [], [71]), (103, .lload_n 1, [], []), (104, .lconst 1, [], [0, 1]), (105, .bipush (8), [], [0, 8]), (107, .aload_n 0, [], []), (108, .getfield 32, [], [3, 5, 212]), (111, .imul, [], []), (112, .lshl, [], []), (113, .lcmp, [], []), (114, .ifCond .ge (7), [], [71]), (117, .iconst (1), [], [0, 1]), (118, .goto (4), [], [72]), (121, .iconst (0), [999], [0, 0]), (122, .ireturn, [999], [])]
def rn_q132 : rn_M := (yX3_admits, cX3_admits, 3, some .boolean, rn_t132, 1, 0, 0, 0)
/-- 133: RecordNiches$Scan.<init>()V -/
def rn_t133 : List rn_I := [(0, .aload_n 0, [], []), (1, .invokespecial 3, [], [3, 148, 83, 84]), (4, .aload_n 0, [], []), (5, .bipush (40), [], [0, 40]), (7, .newarray .int, [], [0, 109]), (9, .putfield 9, [], [4, 1, 2, 152]), (12, .aload_n 0, [], []), (13, .bipush (40), [], [0, 40]), (15, .newarray .int, [], [0, 109]), (17, .putfield 15, [], [4, 2, 2, 153]), (20, .aload_n 0, [], []), (21, .bipush (40), [], [0, 40]), (23, .newarray .int, [], [0, 109]), (25, .putfield 18, [], [4, 3, 2, 154]), (28, .aload_n 0, [], []), (29, .bipush (40), [], [0, 40]), (31, .newarray .int, [], [0, 109]), (33, .putfield 21, [], [4, 4, 2, 155]), (36, .return_, [], [])]
def rn_q133 : rn_M := (yX4_init, cX4_init, 1, none, rn_t133, 0, 1, 20, 1)
/-- 134: RecordNiches$Scan.run(LRecordNiches$Holding;I)V -/
def rn_t134 : List rn_I := [(0, .aload_n 1, [], []), (1, .getfield 24, [], [1, 0, 111]), (4, .iload_n 2, [], []), (5, .aaload, [], [6]), (6, .astore_n 3, [], []), (7, .aload_n 0, [], []), (8, .iconst (0), [], [0, 0]), (9, .putfield 30, [], [4, 5, 0, 156]), (12, .iconst (0), [], [0, 0]), (13, .istore 4, [], []), (15, .iload 4, [0, 1, 2, 3, 4], []), (17, .aload_n 3, [], []), (18, .getfield 34, [], [5, 1, 101]), (21, .if_icmp .ge (52), [], [40]), (24, .aload_n 0, [], []), (25, .aload_n 1, [], []), (26, .iload_n 2, [], []), (27, .iload 4, [], []), (29, .aload_n 3, [], []), (30, .getfield 39, [], [5, 0, 99]), (33, .iload 4, [], []), (35, .iaload, [], []), (36, .invokevirtual 42, [], [0, 136, 4, 395, 397, 0, 69, 398]), (39, .istore 5, [], []), (41, .iload 5, [], []), (43, .ifCond .ne (10), [], [30]), (46, .aload_n 0, [], []), (47, .iload 4, [], []), (49, .putfield 46, [], [4, 0, 0, 149]), (52, .return_, [], []), (53, .iload 5, [], []), (55, .iconst (2), [], [0, 2]), (56, .if_icmp .ne (11), [], [38]), (59, .aload_n 0, [], []), (60, .iload 4, [], []), (62, .iconst (1), [], [0, 1]), (63, .iadd, [], []), (64, .invokevirtual 49, [], [0, 138, 4, 410, 412, 2, 69, 413]), (67, .iinc 4 (1), [0, 1, 2, 3, 4], [0, 1]), (70, .goto (-55), [], [10]), (73, .aload_n 0, [0, 3], []), (74, .aload_n 3, [], []), (75, .getfield 34, [], [5, 1, 101]), (78, .ifCond .le (15), [], [49]), (81, .aload_n 0, [], []), (82, .getfield 30, [], [4, 5, 156]), (85, .ifCond .ne (8), [], [49]), (88, .bipush (-6), [], [1, 6]), (90, .goto (7), [], [51]), (93, .aload_n 3, [3], []), (94, .getfield 34, [], [5, 1, 101]), (97, .putfield 46, [999], [4, 0, 0, 149]), (100, .return_, [], [])]
def rn_q134 : rn_M := (yX4_run, cX4_run, 6, none, rn_t134, 2, 3, 71, 0)
/-- 135: RecordNiches$Scan.behind(I)I -/
def rn_t135 : List rn_I := [(0, .iload_n 1, [], []), (1, .ifCond .lt (18), [], [10]), (4, .iload_n 1, [], []), (5, .bipush (40), [], [0, 40]), (7, .if_icmp .ge (12), [], [10]), (10, .aload_n 0, [], []), (11, .getfield 9, [], [4, 1, 152]), (14, .iload_n 1, [], []), (15, .iaload, [], []), (16, .goto (5), [], [11]), (19, .bipush (40), [999], [0, 40]), (21, .ireturn, [999], [])]
def rn_q135 : rn_M := (yX4_behind, cX4_behind, 2, some .int, rn_t135, 1, 0, 0, 0)
/-- 136: RecordNiches$Scan.take(LRecordNiches$Holding;III)I -/
def rn_t136 : List rn_I := [(0, .aload_n 0, [], []), (1, .getfield 30, [], [4, 5, 156]), (4, .ifCond .ne (21), [], [14]), (7, .iload_n 3, [], []), (8, .ifCond .ne (15), [], [12]), (11, .aload_n 0, [], []), (12, .aload_n 1, [], []), (13, .iload_n 2, [], []), (14, .iload_n 3, [], []), (15, .iload 4, [], []), (17, .invokevirtual 53, [], [0, 137, 4, 399, 401, 1, 69, 402]), (20, .goto (4), [], [13]), (23, .iconst (0), [], [0, 0]), (24, .ireturn, [999], []), (25, .aload_n 0, [], []), (26, .getfield 15, [], [4, 2, 153]), (29, .aload_n 0, [], []), (30, .getfield 30, [], [4, 5, 156]), (33, .iconst (1), [], [0, 1]), (34, .isub, [], []), (35, .iaload, [], []), (36, .istore 5, [], []), (38, .iload 5, [], []), (40, .bipush (101), [], [0, 101]), (42, .if_icmp .ne (23), [], [35]), (45, .iload 4, [], []), (47, .bipush (50), [], [0, 50]), (49, .if_icmp .lt (14), [], [33]), (52, .iload 4, [], []), (54, .bipush (57), [], [0, 57]), (56, .if_icmp .gt (7), [], [33]), (59, .iconst (2), [], [0, 2]), (60, .goto (4), [], [34]), (63, .iconst (0), [999], [0, 0]), (64, .ireturn, [999], []), (65, .iload 5, [], []), (67, .invokestatic 56, [], [4, 27, 8, 4, 404, 0, 65, 405]), (70, .ifCond .eq (13), [], [45]), (73, .aload_n 0, [], []), (74, .aload_n 1, [], []), (75, .iload_n 2, [], []), (76, .iload_n 3, [], []), (77, .iload 4, [], []), (79, .invokevirtual 53, [], [0, 137, 4, 399, 401, 1, 69, 402]), (82, .ireturn, [], []), (83, .iload 4, [], []), (85, .iload 5, [], []), (87, .bipush (40), [], [0, 40]), (89, .if_icmp .ne (8), [], [51]), (92, .bipush (41), [], [0, 41]), (94, .goto (5), [], [52]), (97, .bipush (93), [], [0, 93]), (99, .if_icmp .ne (23), [0, 1, 2, 3, 4], [65]), (102, .aload_n 0, [], []), (103, .getfield 21, [], [4, 4, 155]), (106, .aload_n 0, [], []), (107, .getfield 30, [], [4, 5, 156]), (110, .iconst (1), [], [0, 1]), (111, .isub, [], []), (112, .iaload, [], []), (113, .ifCond .le (7), [], [63]), (116, .iconst (2), [], [0, 2]), (117, .goto (4), [], [64]), (120, .iconst (0), [], [0, 0]), (121, .ireturn, [999], []), (122, .aload_n 0, [], []), (123, .getfield 21, [], [4, 4, 155]), (126, .aload_n 0, [], []), (127, .getfield 30, [], [4, 5, 156]), (130, .iconst (1), [], [0, 1]), (131, .isub, [], []), (132, .iaload, [], []), (133, .bipush (6), [], [0, 6]), (135, .if_icmp .ge (15), [], [81]), (138, .aload_n 0, [], []), (139, .aload_n 1, [], []), (140, .iload_n 2, [], []), (141, .iload_n 3, [], []), (142, .iload 4, [], []), (144, .invokevirtual 53, [], [0, 137, 4, 399, 401, 1, 69, 402]), (147, .goto (4), [], [82]), (150, .iconst (0), [], [0, 0]), (151, .ireturn, [999], [])]
def rn_q136 : rn_M := (yX4_take, cX4_take, 6, some .int, rn_t136, 4, 2, 46, 0)
/-- 137: RecordNiches$Scan.begin(LRecordNiches$Holding;III)I -/
def rn_t137 : List rn_I := [(0, .aload_n 0, [], []), (1, .getfield 30, [], [4, 5, 156]), (4, .bipush (40), [], [0, 40]), (6, .if_icmp .lt (5), [], [6]), (9, .iconst (0), [], [0, 0]), (10, .ireturn, [], []), (11, .aload_n 0, [], []), (12, .getfield 15, [], [4, 2, 153]), (15, .aload_n 0, [], []), (16, .getfield 30, [], [4, 5, 156]), (19, .iload 4, [], []), (21, .iastore, [], []), (22, .aload_n 0, [], []), (23, .getfield 18, [], [4, 3, 154]), (26, .aload_n 0, [], []), (27, .getfield 30, [], [4, 5, 156]), (30, .iload_n 3, [], []), (31, .iastore, [], []), (32, .aload_n 0, [], []), (33, .getfield 21, [], [4, 4, 155]), (36, .aload_n 0, [], []), (37, .getfield 30, [], [4, 5, 156]), (40, .iconst (0), [], [0, 0]), (41, .iastore, [], []), (42, .aload_n 0, [], []), (43, .dup, [], []), (44, .getfield 30, [], [4, 5, 156]), (47, .iconst (1), [], [0, 1]), (48, .iadd, [], []), (49, .putfield 30, [], [4, 5, 0, 156]), (52, .iload 4, [], []), (54, .lookupswitch (94) #[(40, 92), (48, 90), (49, 90), (50, 90), (52, 90), (91, 92), (98, 90), (101, 92), (112, 90), (120, 90)], [], [36, 34, 32, 32, 32, 32, 34, 32, 34, 32, 32]), (144, .iconst (2), [], [0, 2]), (145, .ireturn, [], []), (146, .iconst (1), [], [0, 1]), (147, .ireturn, [], []), (148, .iload 4, [], []), (150, .invokestatic 56, [], [4, 27, 8, 4, 404, 0, 65, 405]), (153, .ifCond .eq (12), [], [44]), (156, .iload 4, [], []), (158, .bipush (65), [], [0, 65]), (160, .isub, [], []), (161, .iload_n 2, [], []), (162, .if_icmp .lt (5), [], [46]), (165, .iconst (0), [999], [0, 0]), (166, .ireturn, [], []), (167, .aload_n 1, [], []), (168, .getfield 24, [], [1, 0, 111]), (171, .iload 4, [], []), (173, .bipush (65), [], [0, 65]), (175, .isub, [], []), (176, .aaload, [], [6]), (177, .bipush (120), [], [0, 120]), (179, .invokevirtual 60, [], [0, 142, 5, 406, 407, 408, 67, 409]), (182, .ifCond .eq (7), [], [57]), (185, .iconst (1), [], [0, 1]), (186, .goto (4), [], [58]), (189, .iconst (2), [], [0, 2]), (190, .ireturn, [999], [])]
def rn_q137 : rn_M := (yX4_begin, cX4_begin, 5, some .int, rn_t137, 4, 1, 22, 0)
/-- 138: RecordNiches$Scan.endTerms(I)V -/
def rn_t138 : List rn_I := [(0, .aload_n 0, [], []), (1, .getfield 30, [], [4, 5, 156]), (4, .ifCond .ne (4), [], [4]), (7, .return_, [], []), (8, .aload_n 0, [], []), (9, .dup, [], []), (10, .getfield 30, [], [4, 5, 156]), (13, .iconst (1), [], [0, 1]), (14, .isub, [], []), (15, .putfield 30, [], [4, 5, 0, 156]), (18, .aload_n 0, [], []), (19, .getfield 9, [], [4, 1, 152]), (22, .aload_n 0, [], []), (23, .getfield 18, [], [4, 3, 154]), (26, .aload_n 0, [], []), (27, .getfield 30, [], [4, 5, 156]), (30, .iaload, [], []), (31, .iload_n 1, [], []), (32, .iastore, [], []), (33, .aload_n 0, [0, 1], []), (34, .getfield 30, [], [4, 5, 156]), (37, .ifCond .le (48), [], [47]), (40, .aload_n 0, [], []), (41, .getfield 15, [], [4, 2, 153]), (44, .aload_n 0, [], []), (45, .getfield 30, [], [4, 5, 156]), (48, .iconst (1), [], [0, 1]), (49, .isub, [], []), (50, .iaload, [], []), (51, .invokestatic 56, [], [4, 27, 8, 4, 404, 0, 65, 405]), (54, .ifCond .eq (31), [], [47]), (57, .aload_n 0, [], []), (58, .dup, [], []), (59, .getfield 30, [], [4, 5, 156]), (62, .iconst (1), [], [0, 1]), (63, .isub, [], []), (64, .putfield 30, [], [4, 5, 0, 156]), (67, .aload_n 0, [], []), (68, .getfield 9, [], [4, 1, 152]), (71, .aload_n 0, [], []), (72, .getfield 18, [], [4, 3, 154]), (75, .aload_n 0, [], []), (76, .getfield 30, [], [4, 5, 156]), (79, .iaload, [], []), (80, .iload_n 1, [], []), (81, .iastore, [], []), (82, .goto (-49), [], [19]), (85, .aload_n 0, [0], []), (86, .getfield 30, [], [4, 5, 156]), (89, .ifCond .le (18), [], [61]), (92, .aload_n 0, [], []), (93, .getfield 21, [], [4, 4, 155]), (96, .aload_n 0, [], []), (97, .getfield 30, [], [4, 5, 156]), (100, .iconst (1), [], [0, 1]), (101, .isub, [], []), (102, .dup2, [], []), (103, .iaload, [], []), (104, .iconst (1), [], [0, 1]), (105, .iadd, [], []), (106, .iastore, [], []), (107, .return_, [999], [])]
def rn_q138 : rn_M := (yX4_endTerms, cX4_endTerms, 2, none, rn_t138, 1, 1, 20, 0)
/-- 139: RecordNiches$Text.<init>()V -/
def rn_t139 : List rn_I := [(0, .aload_n 0, [], []), (1, .invokespecial 3, [], [3, 97, 83, 84]), (4, .aload_n 0, [], []), (5, .bipush (40), [], [0, 40]), (7, .newarray .int, [], [0, 109]), (9, .putfield 9, [], [5, 0, 2, 98]), (12, .return_, [], [])]
def rn_q139 : rn_M := (yX5_init, cX5_init, 1, none, rn_t139, 0, 1, 20, 1)
/-- 140: RecordNiches$Text.append(I)V -/
def rn_t140 : List rn_I := [(0, .aload_n 0, [], []), (1, .getfield 15, [], [5, 1, 100]), (4, .bipush (40), [], [0, 40]), (6, .if_icmp .lt (4), [], [5]), (9, .return_, [], []), (10, .aload_n 0, [], []), (11, .getfield 9, [], [5, 0, 98]), (14, .aload_n 0, [], []), (15, .getfield 15, [], [5, 1, 100]), (18, .iload_n 1, [], []), (19, .iastore, [], []), (20, .aload_n 0, [], []), (21, .dup, [], []), (22, .getfield 15, [], [5, 1, 100]), (25, .iconst (1), [], [0, 1]), (26, .iadd, [], []), (27, .putfield 15, [], [5, 1, 0, 100]), (30, .return_, [], [])]
def rn_q140 : rn_M := (yX5_append, cX5_append, 2, none, rn_t140, 1, 0, 0, 0)
/-- 141: RecordNiches$Text.signAt(I)I -/
def rn_t141 : List rn_I := [(0, .iload_n 1, [], []), (1, .ifCond .lt (20), [], [11]), (4, .iload_n 1, [], []), (5, .aload_n 0, [], []), (6, .getfield 15, [], [5, 1, 100]), (9, .if_icmp .ge (12), [], [11]), (12, .aload_n 0, [], []), (13, .getfield 9, [], [5, 0, 98]), (16, .iload_n 1, [], []), (17, .iaload, [], []), (18, .goto (4), [], [12]), (21, .iconst (0), [999], [0, 0]), (22, .ireturn, [999], [])]
def rn_q141 : rn_M := (yX5_signAt, cX5_signAt, 2, some .int, rn_t141, 1, 0, 0, 0)
/-- 142: RecordNiches$Text.holds(I)Z -/
def rn_t142 : List rn_I := [(0, .iconst (0), [], [0, 0]), (1, .istore_n 2, [], []), (2, .iload_n 2, [0, 1, 2], []), (3, .aload_n 0, [], []), (4, .getfield 15, [], [5, 1, 100]), (7, .if_icmp .ge (21), [], [16]), (10, .aload_n 0, [], []), (11, .getfield 9, [], [5, 0, 98]), (14, .iload_n 2, [], []), (15, .iaload, [], []), (16, .iload_n 1, [], []), (17, .if_icmp .ne (5), [], [14]), (20, .iconst (1), [], [0, 1]), (21, .ireturn, [], []), (22, .iinc 2 (1), [], [0, 1]), (25, .goto (-23), [], [2]), (28, .iconst (0), [999], [0, 0]), (29, .ireturn, [], [])]
def rn_q142 : rn_M := (yX5_holds, cX5_holds, 3, some .boolean, rn_t142, 1, 0, 0, 0)
/-- 143: RecordNiches$Text.copyFrom(LRecordNiches$Text;)V -/
def rn_t143 : List rn_I := [(0, .aload_n 1, [], []), (1, .getfield 9, [], [5, 0, 98]), (4, .iconst (0), [], [0, 0]), (5, .aload_n 0, [], []), (6, .getfield 9, [], [5, 0, 98]), (9, .iconst (0), [], [0, 0]), (10, .bipush (40), [], [0, 40]), (12, .invokestatic 19, [], [1, 0, 670, 672, 671, 76]), (15, .aload_n 0, [], []), (16, .aload_n 1, [], []), (17, .getfield 15, [], [5, 1, 100]), (20, .putfield 15, [], [5, 1, 0, 100]), (23, .return_, [], [])]
def rn_q143 : rn_M := (yX5_copyFrom, cX5_copyFrom, 2, none, rn_t143, 1, 1, 26, 0)
/-- 144: RecordNiches$Transfer.<init>()V -/
def rn_t144 : List rn_I := [(0, .aload_n 0, [], []), (1, .invokespecial 3, [], [3, 343, 83, 84]), (4, .aload_n 0, [], []), (5, .bipush (100), [], [0, 100]), (7, .newarray .long, [], [1, 108]), (9, .putfield 9, [], [6, 0, 2, 344]), (12, .return_, [], [])]
def rn_q144 : rn_M := (yX6_init, cX6_init, 1, none, rn_t144, 0, 1, 20, 1)
/-- 145: RecordNiches$Transfer.accepts(LRecordNiches$Tree;LRecordNiches$Holding;)Z -/
def rn_t145 : List rn_I := [(0, .aload_n 0, [], []), (1, .iconst (0), [], [0, 0]), (2, .putfield 15, [], [6, 1, 0, 346]), (5, .iconst (0), [], [0, 0]), (6, .istore_n 3, [], []), (7, .iload_n 3, [0, 1, 2, 3], []), (8, .aload_n 1, [], []), (9, .getfield 19, [], [7, 0, 287]), (12, .if_icmp .ge (90), [], [49]), (15, .aload_n 1, [], []), (16, .iload_n 3, [], []), (17, .invokevirtual 22, [], [0, 155, 7, 598, 599, 600, 70, 601]), (20, .astore 4, [], []), (22, .aload 4, [], []), (24, .aload 4, [], []), (26, .invokestatic 26, [], [0, 150, 6, 602, 603, 0, 72, 604]), (29, .putfield 30, [], [3, 17, 1, 249]), (32, .aload 4, [], []), (34, .getfield 30, [], [3, 17, 249]), (37, .ifCond .eq (59), [], [47]), (40, .aload 4, [], []), (42, .invokestatic 36, [], [0, 151, 6, 605, 606, 0, 72, 607]), (45, .ifCond .ne (6), [], [24]), (48, .goto (48), [], [47]), (51, .aload_n 0, [], []), (52, .getfield 15, [], [6, 1, 346]), (55, .aload_n 2, [], []), (56, .getfield 39, [], [1, 3, 119]), (59, .if_icmp .ge (20), [], [37]), (62, .aload 4, [], []), (64, .aload_n 2, [], []), (65, .getfield 44, [], [1, 1, 115]), (68, .aload_n 0, [], []), (69, .getfield 15, [], [6, 1, 346]), (72, .laload, [], []), (73, .invokevirtual 47, [], [0, 132, 3, 609, 610, 611, 71, 612]), (76, .ifCond .ne (5), [], [39]), (79, .iconst (0), [999], [0, 0]), (80, .ireturn, [], []), (81, .aload_n 0, [], []), (82, .aload 4, [], []), (84, .aload_n 2, [], []), (85, .getfield 44, [], [1, 1, 115]), (88, .aload_n 0, [], []), (89, .getfield 15, [], [6, 1, 346]), (92, .laload, [], []), (93, .invokevirtual 51, [], [0, 152, 6, 614, 616, 11, 72, 617]), (96, .iinc 3 (1), [0, 1, 2, 3], [0, 1]), (99, .goto (-92), [], [5]), (102, .aload_n 0, [0, 2], []), (103, .getfield 15, [], [6, 1, 346]), (106, .aload_n 2, [], []), (107, .getfield 39, [], [1, 3, 119]), (110, .if_icmp .ne (7), [], [56]), (113, .iconst (1), [], [0, 1]), (114, .goto (4), [], [57]), (117, .iconst (0), [], [0, 0]), (118, .ireturn, [999], [])]
def rn_q145 : rn_M := (yX6_accepts, cX6_accepts, 5, some .boolean, rn_t145, 2, 2, 40, 0)
/-- 146: RecordNiches$Transfer.store(LRecordNiches$Tree;LRecordNiches$Holding;I)V -/
def rn_t146 : List rn_I := [(0, .aload_n 2, [], []), (1, .iload_n 3, [], []), (2, .aload_n 1, [], []), (3, .invokevirtual 55, [], [0, 154, 7, 622, 536, 537, 70, 538]), (6, .getfield 59, [], [3, 5, 211]), (9, .lconst 0, [], [0, 0]), (10, .invokevirtual 62, [], [0, 116, 1, 623, 624, 625, 66, 626]), (13, .iconst (0), [], [0, 0]), (14, .istore 4, [], []), (16, .iconst (0), [], [0, 0]), (17, .istore 5, [], []), (19, .iload 5, [0, 1, 2, 3, 4, 5], []), (21, .aload_n 1, [], []), (22, .getfield 19, [], [7, 0, 287]), (25, .if_icmp .ge (97), [], [57]), (28, .iload 4, [], []), (30, .aload_n 0, [], []), (31, .getfield 15, [], [6, 1, 346]), (34, .if_icmp .ge (88), [], [57]), (37, .aload_n 1, [], []), (38, .iload 5, [], []), (40, .invokevirtual 22, [], [0, 155, 7, 598, 599, 600, 70, 601]), (43, .astore 6, [], []), (45, .aload 6, [], []), (47, .getfield 30, [], [3, 17, 249]), (50, .ifCond .eq (66), [], [55]), (53, .aload 6, [], []), (55, .invokestatic 36, [], [0, 151, 6, 605, 606, 0, 72, 607]), (58, .ifCond .ne (6), [], [30]), (61, .goto (55), [], [55]), (64, .aload 6, [], []), (66, .getfield 66, [], [3, 4, 207]), (69, .bipush (6), [], [0, 6]), (71, .if_icmp .ne (19), [], [42]), (74, .aload 6, [], []), (76, .aload_n 2, [], []), (77, .iload_n 3, [], []), (78, .aload 6, [], []), (80, .getfield 69, [], [3, 15, 246]), (83, .iadd, [], []), (84, .invokestatic 72, [], [0, 149, 6, 627, 628, 0, 72, 629]), (87, .goto (26), [], [54]), (90, .aload_n 2, [], []), (91, .iload_n 3, [], []), (92, .aload 6, [], []), (94, .getfield 69, [], [3, 15, 246]), (97, .iadd, [], []), (98, .aload 6, [], []), (100, .getfield 59, [], [3, 5, 211]), (103, .aload_n 0, [], []), (104, .getfield 9, [], [6, 0, 344]), (107, .iload 4, [], []), (109, .laload, [], []), (110, .invokevirtual 62, [], [0, 116, 1, 623, 624, 625, 66, 626]), (113, .iinc 4 (1), [0, 1, 2, 3, 4, 5], [0, 1]), (116, .iinc 5 (1), [0, 1, 2, 3, 4, 5], [0, 1]), (119, .goto (-100), [], [11]), (122, .return_, [999], [])]
def rn_q146 : rn_M := (yX6_store, cX6_store, 7, none, rn_t146, 3, 2, 50, 0)
/-- 147: RecordNiches$Transfer.load(LRecordNiches$Tree;LRecordNiches$Holding;I)Z -/
def rn_t147 : List rn_I := [(0, .aload_n 0, [], []), (1, .iconst (0), [], [0, 0]), (2, .putfield 15, [], [6, 1, 0, 346]), (5, .iconst (0), [], [0, 0]), (6, .istore 4, [], []), (8, .iload 4, [0, 1, 2, 3, 4], []), (10, .aload_n 1, [], []), (11, .getfield 19, [], [7, 0, 287]), (14, .if_icmp .ge (110), [], [57]), (17, .aload_n 1, [], []), (18, .iload 4, [], []), (20, .invokevirtual 22, [], [0, 155, 7, 598, 599, 600, 70, 601]), (23, .astore 5, [], []), (25, .aload 5, [], []), (27, .aload 5, [], []), (29, .invokestatic 26, [], [0, 150, 6, 602, 603, 0, 72, 604]), (32, .putfield 30, [], [3, 17, 1, 249]), (35, .aload 5, [], []), (37, .getfield 30, [], [3, 17, 249]), (40, .ifCond .eq (78), [], [55]), (43, .aload 5, [], []), (45, .invokestatic 36, [], [0, 151, 6, 605, 606, 0, 72, 607]), (48, .ifCond .ne (6), [], [24]), (51, .goto (67), [], [55]), (54, .iload_n 3, [], []), (55, .aload 5, [], []), (57, .getfield 69, [], [3, 15, 246]), (60, .iadd, [], []), (61, .istore 6, [], []), (63, .aload 5, [], []), (65, .getfield 66, [], [3, 4, 207]), (68, .bipush (6), [], [0, 6]), (70, .if_icmp .ne (15), [], [39]), (73, .aload 5, [], []), (75, .aload_n 2, [], []), (76, .iload 6, [], []), (78, .invokestatic 76, [], [0, 148, 6, 638, 639, 0, 72, 640]), (81, .i2l, [], []), (82, .goto (14), [], [44]), (85, .aload_n 2, [], []), (86, .iload 6, [], []), (88, .aload 5, [], []), (90, .getfield 59, [], [3, 5, 211]), (93, .invokevirtual 80, [], [0, 117, 1, 641, 642, 643, 66, 644]), (96, .lstore 7, [0, 1, 2, 3, 4, 5], []), (98, .aload 5, [], []), (100, .lload 7, [], []), (102, .invokevirtual 47, [], [0, 132, 3, 609, 610, 611, 71, 612]), (105, .ifCond .ne (5), [], [51]), (108, .iconst (0), [], [0, 0]), (109, .ireturn, [], []), (110, .aload_n 0, [], []), (111, .aload 5, [], []), (113, .lload 7, [], []), (115, .invokevirtual 51, [], [0, 152, 6, 614, 616, 11, 72, 617]), (118, .iinc 4 (1), [0, 1, 2, 3, 4], [0, 1]), (121, .goto (-113), [], [5]), (124, .iconst (1), [999], [0, 1]), (125, .ireturn, [], [])]
def rn_q147 : rn_M := (yX6_load, cX6_load, 9, some .boolean, rn_t147, 3, 2, 52, 0)
/-- 148: RecordNiches$Transfer.chosenAt(LRecordNiches$Node;LRecordNiches$Holding;I)I -/
def rn_t148 : List rn_I := [(0, .aload_n 0, [], []), (1, .getfield 84, [], [3, 12, 235]), (4, .ifCond .ne (5), [], [5]), (7, .iconst (0), [], [0, 0]), (8, .ireturn, [], []), (9, .aload_n 0, [], []), (10, .getfield 84, [], [3, 12, 235]), (13, .iconst (2), [], [0, 2]), (14, .if_icmp .ne (25), [], [23]), (17, .aload_n 1, [], []), (18, .iload_n 2, [], []), (19, .iconst (1), [], [0, 1]), (20, .invokevirtual 80, [], [0, 117, 1, 641, 642, 643, 66, 644]), (23, .l2i, [], []), (24, .istore_n 3, [], []), (25, .iload_n 3, [], []), (26, .aload_n 0, [], []), (27, .getfield 87, [], [3, 1, 199]), (30, .if_icmp .ge (7), [], [21]), (33, .iload_n 3, [], []), (34, .goto (4), [], [22]), (37, .iconst (-1), [], [1, 1]), (38, .ireturn, [999], []), (39, .aload_n 0, [], []), (40, .getfield 88, [], [3, 0, 195]), (43, .aload_n 0, [], []), (44, .getfield 92, [], [3, 13, 239]), (47, .aaload, [], [4]), (48, .astore_n 3, [], []), (49, .aload_n 1, [], []), (50, .iload_n 2, [], []), (51, .aload_n 3, [], []), (52, .getfield 95, [], [3, 8, 222]), (55, .iadd, [], []), (56, .aload_n 3, [], []), (57, .getfield 98, [], [3, 9, 226]), (60, .invokevirtual 80, [], [0, 117, 1, 641, 642, 643, 66, 644]), (63, .lstore 4, [], []), (65, .iconst (0), [], [0, 0]), (66, .istore 6, [], []), (68, .iload 6, [0, 4, 6], []), (70, .aload_n 0, [], []), (71, .getfield 87, [], [3, 1, 199]), (74, .if_icmp .ge (38), [], [61]), (77, .iload 6, [], []), (79, .aload_n 0, [], []), (80, .getfield 92, [], [3, 13, 239]), (83, .if_icmp .eq (23), [], [59]), (86, .aload_n 0, [], []), (87, .getfield 88, [], [3, 0, 195]), (90, .iload 6, [], []), (92, .aaload, [], [4]), (93, .getfield 101, [], [3, 14, 243]), (96, .i2l, [], []), (97, .lload 4, [], []), (99, .lcmp, [], []), (100, .ifCond .ne (6), [], [59]), (103, .iload 6, [], []), (105, .ireturn, [], []), (106, .iinc 6 (1), [0, 4, 6], [0, 1]), (109, .goto (-41), [], [40]), (112, .aload_n 0, [0], []), (113, .getfield 92, [], [3, 13, 239]), (116, .ireturn, [], [])]
def rn_q148 : rn_M := (yX6_chosenAt, cX6_chosenAt, 7, some .int, rn_t148, 3, 1, 26, 0)
/-- 149: RecordNiches$Transfer.storeMark(LRecordNiches$Node;LRecordNiches$Holding;I)V -/
def rn_t149 : List rn_I := [(0, .aload_n 0, [], []), (1, .getfield 88, [], [3, 0, 195]), (4, .aload_n 0, [], []), (5, .getfield 104, [], [3, 16, 248]), (8, .aaload, [], [4]), (9, .getfield 101, [], [3, 14, 243]), (12, .istore_n 3, [], []), (13, .iload_n 3, [], []), (14, .bipush (-6), [], [1, 6]), (16, .if_icmp .ne (4), [], [11]), (19, .return_, [], []), (20, .aload_n 0, [], []), (21, .getfield 84, [], [3, 12, 235]), (24, .iconst (2), [], [0, 2]), (25, .if_icmp .ne (14), [], [22]), (28, .aload_n 1, [], []), (29, .iload_n 2, [], []), (30, .iconst (1), [], [0, 1]), (31, .iload_n 3, [], []), (32, .i2l, [], []), (33, .invokevirtual 62, [], [0, 116, 1, 623, 624, 625, 66, 626]), (36, .goto (32), [], [38]), (39, .aload_n 0, [], []), (40, .getfield 88, [], [3, 0, 195]), (43, .aload_n 0, [], []), (44, .getfield 92, [], [3, 13, 239]), (47, .aaload, [], [4]), (48, .astore 4, [], []), (50, .aload_n 1, [], []), (51, .iload_n 2, [], []), (52, .aload 4, [], []), (54, .getfield 95, [], [3, 8, 222]), (57, .iadd, [], []), (58, .aload 4, [], []), (60, .getfield 98, [], [3, 9, 226]), (63, .iload_n 3, [], []), (64, .i2l, [], []), (65, .invokevirtual 62, [], [0, 116, 1, 623, 624, 625, 66, 626]), (68, .return_, [999], [])]
def rn_q149 : rn_M := (yX6_storeMark, cX6_storeMark, 5, none, rn_t149, 3, 1, 26, 0)
/-- 150: RecordNiches$Transfer.isLive(LRecordNiches$Node;)Z -/
def rn_t150 : List rn_I := [(0, .aload_n 0, [], []), (1, .getfield 107, [], [3, 2, 202]), (4, .astore_n 1, [], []), (5, .aload_n 1, [], []), (6, .ifnonnull (5), [], [7]), (9, .iconst (1), [], [0, 1]), (10, .ireturn, [], []), (11, .aload_n 1, [], []), (12, .getfield 30, [], [3, 17, 249]), (15, .ifCond .eq (27), [], [21]), (18, .aload_n 1, [], []), (19, .getfield 66, [], [3, 4, 207]), (22, .bipush (6), [], [0, 6]), (24, .if_icmp .ne (14), [], [19]), (27, .aload_n 1, [], []), (28, .getfield 104, [], [3, 16, 248]), (31, .aload_n 0, [], []), (32, .getfield 111, [], [3, 3, 205]), (35, .if_icmp .ne (7), [], [21]), (38, .iconst (1), [999], [0, 1]), (39, .goto (4), [], [22]), (42, .iconst (0), [999], [0, 0]), (43, .ireturn, [999], [])]
def rn_q150 : rn_M := (yX6_isLive, cX6_isLive, 2, some .boolean, rn_t150, 1, 0, 0, 0)
/-- 151: RecordNiches$Transfer.hasNumber(LRecordNiches$Node;)Z -/
def rn_t151 : List rn_I := [(0, .aload_n 0, [], []), (1, .getfield 66, [], [3, 4, 207]), (4, .bipush (6), [], [0, 6]), (6, .if_icmp .eq (10), [], [7]), (9, .aload_n 0, [], []), (10, .invokevirtual 114, [], [0, 131, 3, 608, 565, 566, 71, 567]), (13, .ifCond .eq (7), [], [9]), (16, .iconst (1), [999], [0, 1]), (17, .goto (4), [], [10]), (20, .iconst (0), [], [0, 0]), (21, .ireturn, [999], [])]
def rn_q151 : rn_M := (yX6_hasNumber, cX6_hasNumber, 1, some .boolean, rn_t151, 1, 1, 20, 0)
/-- 152: RecordNiches$Transfer.keep(LRecordNiches$Node;J)V -/
def rn_t152 : List rn_I := [(0, .aload_n 0, [], []), (1, .getfield 15, [], [6, 1, 346]), (4, .bipush (100), [], [0, 100]), (6, .if_icmp .lt (4), [], [5]), (9, .return_, [], []), (10, .aload_n 0, [], []), (11, .getfield 9, [], [6, 0, 344]), (14, .aload_n 0, [], []), (15, .getfield 15, [], [6, 1, 346]), (18, .lload_n 2, [], []), (19, .lastore, [], []), (20, .aload_n 0, [], []), (21, .dup, [], []), (22, .getfield 15, [], [6, 1, 346]), (25, .iconst (1), [], [0, 1]), (26, .iadd, [], []), (27, .putfield 15, [], [6, 1, 0, 346]), (30, .aload_n 1, [], []), (31, .getfield 66, [], [3, 4, 207]), (34, .bipush (6), [], [0, 6]), (36, .if_icmp .ne (9), [], [25]), (39, .aload_n 1, [], []), (40, .lload_n 2, [], []), (41, .l2i, [], []), (42, .putfield 104, [], [3, 16, 0, 248]), (45, .return_, [999], [])]
def rn_q152 : rn_M := (yX6_keep, cX6_keep, 4, none, rn_t152, 2, 0, 0, 0)
/-- 153: RecordNiches$Tree.<init>()V -/
def rn_t153 : List rn_I := [(0, .aload_n 0, [], []), (1, .invokespecial 3, [], [3, 184, 83, 84]), (4, .aload_n 0, [], []), (5, .bipush (100), [], [0, 100]), (7, .anewarray 9, [], [4, 3, 185]), (10, .putfield 11, [], [7, 1, 2, 290]), (13, .aload_n 0, [], []), (14, .bipush (64), [], [0, 64]), (16, .newarray .boolean, [], [2, 170]), (18, .putfield 17, [], [7, 2, 2, 291]), (21, .aload_n 0, [], []), (22, .sipush (501), [], [0, 501]), (25, .newarray .int, [], [0, 109]), (27, .putfield 21, [], [7, 7, 2, 296]), (30, .aload_n 0, [], []), (31, .sipush (501), [], [0, 501]), (34, .newarray .int, [], [0, 109]), (36, .putfield 25, [], [7, 8, 2, 297]), (39, .aload_n 0, [], []), (40, .sipush (501), [], [0, 501]), (43, .newarray .int, [], [0, 109]), (45, .putfield 28, [], [7, 9, 2, 298]), (48, .aload_n 0, [], []), (49, .bipush (100), [], [0, 100]), (51, .anewarray 9, [], [4, 3, 185]), (54, .putfield 31, [], [7, 11, 2, 300]), (57, .aload_n 0, [], []), (58, .bipush (100), [], [0, 100]), (60, .newarray .int, [], [0, 109]), (62, .putfield 34, [], [7, 12, 2, 301]), (65, .aload_n 0, [], []), (66, .bipush (100), [], [0, 100]), (68, .newarray .int, [], [0, 109]), (70, .putfield 37, [], [7, 13, 2, 302]), (73, .aload_n 0, [], []), (74, .bipush (100), [], [0, 100]), (76, .newarray .int, [], [0, 109]), (78, .putfield 40, [], [7, 14, 2, 303]), (81, .iconst (0), [], [0, 0]), (82, .istore_n 1, [], []), (83, .iload_n 1, [0, 1], []), (84, .bipush (100), [], [0, 100]), (86, .if_icmp .ge (22), [], [52]), (89, .aload_n 0, [], []), (90, .getfield 11, [], [7, 1, 290]), (93, .iload_n 1, [], []), (94, .new 9, [], [3, 18, 185, 187, 71]), (97, .dup, [], []), (98, .invokespecial 43, [], [4, 127, 3, 2, 189, 0, 71, 190]), (101, .aastore, [], [4, 3]), (102, .iinc 1 (1), [], [0, 1]), (105, .goto (-22), [], [40]), (108, .return_, [999], [])]
def rn_q153 : rn_M := (yX7_init, cX7_init, 2, none, rn_t153, 0, 2, 40, 1)
/-- 154: RecordNiches$Tree.root()LRecordNiches$Node; -/
def rn_t154 : List rn_I := [(0, .aload_n 0, [], []), (1, .getfield 11, [], [7, 1, 290]), (4, .iconst (0), [], [0, 0]), (5, .aaload, [], [4]), (6, .areturn, [], [])]
def rn_q154 : rn_M := (yX7_root, cX7_root, 1, some (.object "RecordNiches$Node"), rn_t154, 0, 0, 0, 0)
/-- 155: RecordNiches$Tree.part(I)LRecordNiches$Node; -/
def rn_t155 : List rn_I := [(0, .aload_n 0, [], []), (1, .getfield 11, [], [7, 1, 290]), (4, .iload_n 1, [], []), (5, .aaload, [], [4]), (6, .areturn, [], [])]
def rn_q155 : rn_M := (yX7_part, cX7_part, 2, some (.object "RecordNiches$Node"), rn_t155, 1, 0, 0, 0)
/-- 156: RecordNiches$Tree.build(LRecordNiches$Holding;LRecordNiches$Grammar;II)Z -/
def rn_t156 : List rn_I := [(0, .aload_n 0, [], []), (1, .iconst (0), [], [0, 0]), (2, .putfield 44, [], [7, 0, 0, 288]), (5, .aload_n 0, [], []), (6, .iconst (0), [], [0, 0]), (7, .putfield 48, [], [7, 6, 0, 295]), (10, .aload_n 0, [], []), (11, .iconst (0), [], [0, 0]), (12, .putfield 51, [], [7, 10, 0, 299]), (15, .aload_n 0, [], []), (16, .iconst (0), [], [0, 0]), (17, .putfield 54, [], [7, 15, 0, 304]), (20, .aload_n 0, [], []), (21, .iload_n 3, [], []), (22, .iconst (0), [], [0, 0]), (23, .iload 4, [], []), (25, .ifCond .ge (7), [], [19]), (28, .iconst (-1), [], [1, 1]), (29, .goto (11), [], [24]), (32, .aload_n 0, [], []), (33, .iload 4, [], []), (35, .iconst (0), [], [0, 0]), (36, .iconst (-1), [], [1, 1]), (37, .invokevirtual 57, [], [0, 158, 7, 446, 448, 5, 70, 449]), (40, .invokevirtual 61, [0, 1, 2], [0, 157, 7, 450, 452, 6, 70, 453]), (43, .aload_n 0, [], []), (44, .aload_n 1, [], []), (45, .aconst_null, [], []), (46, .invokevirtual 65, [], [0, 159, 7, 454, 456, 7, 70, 457]), (49, .ifCond .ne (5), [], [32]), (52, .iconst (0), [], [0, 0]), (53, .ireturn, [], []), (54, .iconst (0), [], [0, 0]), (55, .istore 5, [], []), (57, .iload 5, [0, 1, 2, 5], []), (59, .sipush (200), [], [0, 200]), (62, .if_icmp .ge (132), [], [105]), (65, .aload_n 0, [], []), (66, .getfield 54, [], [7, 15, 304]), (69, .ifCond .le (125), [], [105]), (72, .aload_n 0, [], []), (73, .getfield 54, [], [7, 15, 304]), (76, .iconst (1), [], [0, 1]), (77, .isub, [], []), (78, .istore 6, [], []), (80, .aload_n 1, [], []), (81, .aload_n 0, [], []), (82, .getfield 34, [], [7, 12, 301]), (85, .iload 6, [], []), (87, .iaload, [], []), (88, .aload_n 0, [], []), (89, .getfield 37, [], [7, 13, 302]), (92, .iload 6, [], []), (94, .iaload, [], []), (95, .invokevirtual 69, [], [0, 115, 1, 462, 463, 464, 66, 465]), (98, .istore 7, [], []), (100, .iload 7, [], []), (102, .bipush (41), [], [0, 41]), (104, .if_icmp .eq (10), [], [62]), (107, .iload 7, [], []), (109, .bipush (93), [], [0, 93]), (111, .if_icmp .ne (16), [], [69]), (114, .aload_n 0, [0, 1, 2, 5], []), (115, .dup, [], []), (116, .getfield 54, [], [7, 15, 304]), (119, .iconst (1), [], [0, 1]), (120, .isub, [], []), (121, .putfield 54, [], [7, 15, 0, 304]), (124, .goto (64), [], [103]), (127, .aload_n 0, [], []), (128, .aload_n 0, [], []), (129, .getfield 34, [], [7, 12, 301]), (132, .iload 6, [], []), (134, .iaload, [], []), (135, .aload_n 0, [], []), (136, .getfield 37, [], [7, 13, 302]), (139, .iload 6, [], []), (141, .iaload, [], []), (142, .aload_n 0, [], []), (143, .getfield 40, [], [7, 14, 303]), (146, .iload 6, [], []), (148, .iaload, [], []), (149, .invokevirtual 61, [], [0, 157, 7, 450, 452, 6, 70, 453]), (152, .aload_n 0, [], []), (153, .getfield 37, [], [7, 13, 302]), (156, .iload 6, [], []), (158, .aload_n 2, [], []), (159, .aload_n 0, [], []), (160, .getfield 75, [], [7, 3, 292]), (163, .aload_n 0, [], []), (164, .getfield 78, [], [7, 4, 293]), (167, .invokevirtual 81, [], [0, 111, 0, 488, 489, 490, 68, 491]), (170, .iastore, [], []), (171, .aload_n 0, [], []), (172, .aload_n 1, [], []), (173, .aload_n 0, [], []), (174, .getfield 31, [], [7, 11, 300]), (177, .iload 6, [], []), (179, .aaload, [], [4]), (180, .invokevirtual 65, [], [0, 159, 7, 454, 456, 7, 70, 457]), (183, .ifCond .ne (5), [], [103]), (186, .iconst (0), [], [0, 0]), (187, .ireturn, [], []), (188, .iinc 5 (1), [0, 1, 2, 5], [0, 1]), (191, .goto (-134), [], [34]), (194, .aload_n 0, [0], []), (195, .getfield 54, [], [7, 15, 304]), (198, .ifCond .ne (7), [], [110]), (201, .iconst (1), [], [0, 1]), (202, .goto (4), [], [111]), (205, .iconst (0), [], [0, 0]), (206, .ireturn, [999], [])]
def rn_q156 : rn_M := (yX7_build, cX7_build, 8, some .boolean, rn_t156, 4, 4, 92, 0)
/-- 157: RecordNiches$Tree.goTo(III)V -/
def rn_t157 : List rn_I := [(0, .aload_n 0, [], []), (1, .iload_n 1, [], []), (2, .putfield 75, [], [7, 3, 0, 292]), (5, .aload_n 0, [], []), (6, .iload_n 2, [], []), (7, .putfield 78, [], [7, 4, 0, 293]), (10, .aload_n 0, [], []), (11, .iload_n 3, [], []), (12, .putfield 86, [], [7, 5, 0, 294]), (15, .return_, [], [])]
def rn_q157 : rn_M := (yX7_goTo, cX7_goTo, 4, none, rn_t157, 3, 0, 0, 0)
/-- 158: RecordNiches$Tree.keepArgument(III)I -/
def rn_t158 : List rn_I := [(0, .aload_n 0, [], []), (1, .getfield 51, [], [7, 10, 299]), (4, .sipush (500), [], [0, 500]), (7, .if_icmp .le (5), [], [6]), (10, .iconst (-1), [], [1, 1]), (11, .ireturn, [], []), (12, .aload_n 0, [], []), (13, .getfield 21, [], [7, 7, 296]), (16, .aload_n 0, [], []), (17, .getfield 51, [], [7, 10, 299]), (20, .iload_n 1, [], []), (21, .iastore, [], []), (22, .aload_n 0, [], []), (23, .getfield 25, [], [7, 8, 297]), (26, .aload_n 0, [], []), (27, .getfield 51, [], [7, 10, 299]), (30, .iload_n 2, [], []), (31, .iastore, [], []), (32, .aload_n 0, [], []), (33, .getfield 28, [], [7, 9, 298]), (36, .aload_n 0, [], []), (37, .getfield 51, [], [7, 10, 299]), (40, .iload_n 3, [], []), (41, .iastore, [], []), (42, .aload_n 0, [], []), (43, .dup, [], []), (44, .getfield 51, [], [7, 10, 299]), (47, .iconst (1), [], [0, 1]), (48, .iadd, [], []), (49, .putfield 51, [], [7, 10, 0, 299]), (52, .aload_n 0, [], []), (53, .getfield 51, [], [7, 10, 299]), (56, .iconst (1), [], [0, 1]), (57, .isub, [], []), (58, .ireturn, [], [])]
def rn_q158 : rn_M := (yX7_keepArgument, cX7_keepArgument, 4, some .int, rn_t158, 3, 0, 0, 0)
/-- 159: RecordNiches$Tree.grow(LRecordNiches$Holding;LRecordNiches$Node;)Z -/
def rn_t159 : List rn_I := [(0, .aload_n 0, [], []), (1, .aload_n 1, [], []), (2, .invokevirtual 89, [], [0, 160, 7, 458, 460, 8, 70, 461]), (5, .ifCond .eq (12), [], [8]), (8, .aload_n 0, [], []), (9, .getfield 44, [], [7, 0, 288]), (12, .bipush (100), [], [0, 100]), (14, .if_icmp .lt (5), [], [10]), (17, .iconst (0), [999], [0, 0]), (18, .ireturn, [], []), (19, .aload_n 0, [], []), (20, .getfield 11, [], [7, 1, 290]), (23, .aload_n 0, [], []), (24, .getfield 44, [], [7, 0, 288]), (27, .aaload, [], [4]), (28, .astore_n 3, [], []), (29, .aload_n 0, [], []), (30, .dup, [], []), (31, .getfield 44, [], [7, 0, 288]), (34, .iconst (1), [], [0, 1]), (35, .iadd, [], []), (36, .putfield 44, [], [7, 0, 0, 288]), (39, .aload_n 3, [], []), (40, .aload_n 2, [], []), (41, .invokevirtual 93, [], [0, 128, 3, 472, 473, 474, 71, 475]), (44, .aload_n 1, [], []), (45, .aload_n 0, [], []), (46, .getfield 75, [], [7, 3, 292]), (49, .aload_n 0, [], []), (50, .getfield 78, [], [7, 4, 293]), (53, .invokevirtual 69, [], [0, 115, 1, 462, 463, 464, 66, 465]), (56, .istore 4, [], []), (58, .iload 4, [], []), (60, .bipush (40), [], [0, 40]), (62, .if_icmp .eq (10), [], [38]), (65, .iload 4, [], []), (67, .bipush (91), [], [0, 91]), (69, .if_icmp .ne (84), [], [84]), (72, .aload_n 3, [0, 3, 4], []), (73, .iload 4, [], []), (75, .bipush (40), [], [0, 40]), (77, .if_icmp .ne (7), [], [44]), (80, .iconst (5), [], [0, 5]), (81, .goto (5), [], [45]), (84, .bipush (6), [], [0, 6]), (86, .iconst (0), [0, 3], [0, 0]), (87, .invokevirtual 97, [], [0, 129, 3, 476, 477, 478, 71, 479]), (90, .aload_n 0, [], []), (91, .getfield 31, [], [7, 11, 300]), (94, .aload_n 0, [], []), (95, .getfield 54, [], [7, 15, 304]), (98, .aload_n 3, [], []), (99, .aastore, [], [4, 3]), (100, .aload_n 0, [], []), (101, .getfield 34, [], [7, 12, 301]), (104, .aload_n 0, [], []), (105, .getfield 54, [], [7, 15, 304]), (108, .aload_n 0, [], []), (109, .getfield 75, [], [7, 3, 292]), (112, .iastore, [], []), (113, .aload_n 0, [], []), (114, .getfield 37, [], [7, 13, 302]), (117, .aload_n 0, [], []), (118, .getfield 54, [], [7, 15, 304]), (121, .aload_n 0, [], []), (122, .getfield 78, [], [7, 4, 293]), (125, .iconst (1), [], [0, 1]), (126, .iadd, [], []), (127, .iastore, [], []), (128, .aload_n 0, [], []), (129, .getfield 40, [], [7, 14, 303]), (132, .aload_n 0, [], []), (133, .getfield 54, [], [7, 15, 304]), (136, .aload_n 0, [], []), (137, .getfield 86, [], [7, 5, 294]), (140, .iastore, [], []), (141, .aload_n 0, [], []), (142, .dup, [], []), (143, .getfield 54, [], [7, 15, 304]), (146, .iconst (1), [], [0, 1]), (147, .iadd, [], []), (148, .putfield 54, [], [7, 15, 0, 304]), (151, .iconst (1), [], [0, 1]), (152, .ireturn, [], []), (153, .aload_n 3, [], []), (154, .iload 4, [], []), (156, .aload_n 1, [], []), (157, .aload_n 0, [], []), (158, .getfield 75, [], [7, 3, 292]), (161, .aload_n 0, [], []), (162, .getfield 78, [], [7, 4, 293]), (165, .iconst (1), [], [0, 1]), (166, .iadd, [], []), (167, .invokevirtual 69, [], [0, 115, 1, 462, 463, 464, 66, 465]), (170, .invokestatic 101, [], [0, 161, 7, 484, 485, 0, 70, 486]), (173, .ireturn, [], [])]
def rn_q159 : rn_M := (yX7_grow, cX7_grow, 5, some .boolean, rn_t159, 2, 3, 68, 0)
/-- 160: RecordNiches$Tree.goThroughLetters(LRecordNiches$Holding;)Z -/
def rn_t160 : List rn_I := [(0, .iconst (0), [], [0, 0]), (1, .istore_n 2, [], []), (2, .iload_n 2, [0, 1, 2], []), (3, .sipush (500), [], [0, 500]), (6, .if_icmp .gt (165), [], [91]), (9, .aload_n 1, [], []), (10, .aload_n 0, [], []), (11, .getfield 75, [], [7, 3, 292]), (14, .aload_n 0, [], []), (15, .getfield 78, [], [7, 4, 293]), (18, .invokevirtual 69, [], [0, 115, 1, 462, 463, 464, 66, 465]), (21, .istore_n 3, [], []), (22, .iload_n 3, [], []), (23, .bipush (120), [], [0, 120]), (25, .if_icmp .eq (12), [], [20]), (28, .iload_n 3, [], []), (29, .invokestatic 105, [], [4, 27, 8, 6, 404, 0, 65, 405]), (32, .ifCond .ne (5), [], [20]), (35, .iconst (1), [], [0, 1]), (36, .ireturn, [], []), (37, .aload_n 0, [0, 1, 2, 3], []), (38, .getfield 48, [], [7, 6, 295]), (41, .sipush (500), [], [0, 500]), (44, .if_icmp .lt (5), [], [26]), (47, .iconst (0), [], [0, 0]), (48, .ireturn, [], []), (49, .aload_n 0, [], []), (50, .dup, [], []), (51, .getfield 48, [], [7, 6, 295]), (54, .iconst (1), [], [0, 1]), (55, .iadd, [], []), (56, .putfield 48, [], [7, 6, 0, 295]), (59, .iload_n 3, [], []), (60, .bipush (120), [], [0, 120]), (62, .if_icmp .ne (57), [], [63]), (65, .aload_n 0, [], []), (66, .getfield 86, [], [7, 5, 294]), (69, .ifCond .lt (14), [], [43]), (72, .aload_n 0, [], []), (73, .getfield 86, [], [7, 5, 294]), (76, .aload_n 0, [], []), (77, .getfield 51, [], [7, 10, 299]), (80, .if_icmp .lt (5), [], [45]), (83, .iconst (0), [999], [0, 0]), (84, .ireturn, [], []), (85, .aload_n 0, [], []), (86, .aload_n 0, [], []), (87, .getfield 21, [], [7, 7, 296]), (90, .aload_n 0, [], []), (91, .getfield 86, [], [7, 5, 294]), (94, .iaload, [], []), (95, .aload_n 0, [], []), (96, .getfield 25, [], [7, 8, 297]), (99, .aload_n 0, [], []), (100, .getfield 86, [], [7, 5, 294]), (103, .iaload, [], []), (104, .aload_n 0, [], []), (105, .getfield 28, [], [7, 9, 298]), (108, .aload_n 0, [], []), (109, .getfield 86, [], [7, 5, 294]), (112, .iaload, [], []), (113, .invokevirtual 61, [], [0, 157, 7, 450, 452, 6, 70, 453]), (116, .goto (49), [], [89]), (119, .aload_n 1, [], []), (120, .iload_n 3, [], []), (121, .bipush (65), [], [0, 65]), (123, .isub, [], []), (124, .invokevirtual 109, [], [0, 114, 1, 471, 427, 428, 66, 429]), (127, .istore 4, [], []), (129, .aload_n 0, [], []), (130, .iload_n 3, [], []), (131, .bipush (65), [], [0, 65]), (133, .isub, [], []), (134, .iconst (0), [], [0, 0]), (135, .iload 4, [], []), (137, .ifCond .eq (24), [], [87]), (140, .aload_n 0, [], []), (141, .aload_n 0, [], []), (142, .getfield 75, [], [7, 3, 292]), (145, .aload_n 0, [], []), (146, .getfield 78, [], [7, 4, 293]), (149, .iconst (1), [], [0, 1]), (150, .iadd, [], []), (151, .aload_n 0, [], []), (152, .getfield 86, [], [7, 5, 294]), (155, .invokevirtual 57, [], [0, 158, 7, 446, 448, 5, 70, 449]), (158, .goto (4), [], [88]), (161, .iconst (-1), [], [1, 1]), (162, .invokevirtual 61, [0, 1, 2], [0, 157, 7, 450, 452, 6, 70, 453]), (165, .iinc 2 (1), [0, 1, 2], [0, 1]), (168, .goto (-166), [], [2]), (171, .iconst (0), [999], [0, 0]), (172, .ireturn, [], [])]
def rn_q160 : rn_M := (yX7_goThroughLetters, cX7_goThroughLetters, 5, some .boolean, rn_t160, 1, 2, 43, 0)
/-- 161: RecordNiches$Tree.makeLeaf(LRecordNiches$Node;II)Z -/
def rn_t161 : List rn_I := [(0, .iload_n 1, [], []), (1, .lookupswitch (146) #[(48, 67), (49, 75), (50, 75), (52, 75), (98, 86), (101, 104), (112, 130)], [], [58, 2, 8, 8, 8, 16, 28, 46]), (68, .aload_n 0, [], []), (69, .iconst (0), [], [0, 0]), (70, .iconst (0), [], [0, 0]), (71, .invokevirtual 97, [], [0, 129, 3, 476, 477, 478, 71, 479]), (74, .iconst (1), [], [0, 1]), (75, .ireturn, [], []), (76, .aload_n 0, [], []), (77, .iconst (1), [], [0, 1]), (78, .iload_n 1, [], []), (79, .bipush (48), [], [0, 48]), (81, .isub, [], []), (82, .invokevirtual 97, [], [0, 129, 3, 476, 477, 478, 71, 479]), (85, .iconst (1), [], [0, 1]), (86, .ireturn, [], []), (87, .aload_n 0, [], []), (88, .iconst (2), [], [0, 2]), (89, .iconst (1), [], [0, 1]), (90, .invokevirtual 97, [], [0, 129, 3, 476, 477, 478, 71, 479]), (93, .aload_n 0, [], []), (94, .iconst (0), [], [0, 0]), (95, .iconst (1), [], [0, 1]), (96, .iconst (2), [], [0, 2]), (97, .sipush (254), [], [0, 254]), (100, .invokevirtual 112, [], [0, 130, 3, 487, 481, 482, 71, 483]), (103, .iconst (1), [], [0, 1]), (104, .ireturn, [], []), (105, .aload_n 0, [], []), (106, .iconst (3), [], [0, 3]), (107, .iconst (1), [], [0, 1]), (108, .invokevirtual 97, [], [0, 129, 3, 476, 477, 478, 71, 479]), (111, .aload_n 0, [], []), (112, .iconst (0), [], [0, 0]), (113, .iconst (1), [], [0, 1]), (114, .iload_n 2, [], []), (115, .bipush (48), [], [0, 48]), (117, .isub, [], []), (118, .sipush (256), [], [0, 256]), (121, .iload_n 2, [], []), (122, .bipush (48), [], [0, 48]), (124, .isub, [], []), (125, .isub, [], []), (126, .invokevirtual 112, [], [0, 130, 3, 487, 481, 482, 71, 483]), (129, .iconst (1), [], [0, 1]), (130, .ireturn, [], []), (131, .aload_n 0, [], []), (132, .iconst (4), [], [0, 4]), (133, .iconst (4), [], [0, 4]), (134, .invokevirtual 97, [], [0, 129, 3, 476, 477, 478, 71, 479]), (137, .aload_n 0, [], []), (138, .iconst (0), [], [0, 0]), (139, .iconst (4), [], [0, 4]), (140, .iconst (0), [], [0, 0]), (141, .iconst (1), [], [0, 1]), (142, .invokevirtual 112, [], [0, 130, 3, 487, 481, 482, 71, 483]), (145, .iconst (1), [], [0, 1]), (146, .ireturn, [], []), (147, .iconst (0), [], [0, 0]), (148, .ireturn, [], [])]
def rn_q161 : rn_M := (yX7_makeLeaf, cX7_makeLeaf, 3, some .boolean, rn_t161, 3, 2, 46, 0)
/-- 162: RecordNiches$Tree.settle(I)Z -/
def rn_t162 : List rn_I := [(0, .aload_n 0, [], []), (1, .getfield 44, [], [7, 0, 288]), (4, .iconst (1), [], [0, 1]), (5, .isub, [], []), (6, .istore_n 2, [], []), (7, .iload_n 2, [0, 1, 2], []), (8, .ifCond .lt (53), [], [33]), (11, .aload_n 0, [], []), (12, .getfield 11, [], [7, 1, 290]), (15, .iload_n 2, [], []), (16, .aaload, [], [4]), (17, .astore_n 3, [], []), (18, .aload_n 3, [], []), (19, .getfield 116, [], [3, 4, 209]), (22, .iconst (5), [], [0, 5]), (23, .if_icmp .ne (8), [], [19]), (26, .aload_n 3, [], []), (27, .iload_n 1, [], []), (28, .invokestatic 119, [], [0, 118, 2, 501, 502, 0, 74, 503]), (31, .aload_n 3, [0, 1, 2, 3], []), (32, .getfield 116, [], [3, 4, 209]), (35, .bipush (6), [], [0, 6]), (37, .if_icmp .ne (7), [], [25]), (40, .aload_n 3, [], []), (41, .invokestatic 125, [], [0, 119, 2, 520, 521, 0, 74, 522]), (44, .aload_n 3, [0, 1, 2, 3], []), (45, .getfield 128, [], [3, 5, 214]), (48, .bipush (64), [], [0, 64]), (50, .if_icmp .le (5), [], [31]), (53, .iconst (0), [], [0, 0]), (54, .ireturn, [], []), (55, .iinc 2 (-1), [], [1, 1]), (58, .goto (-51), [], [5]), (61, .iconst (0), [0], [0, 0]), (62, .istore_n 2, [], []), (63, .iload_n 2, [0, 2], []), (64, .aload_n 0, [], []), (65, .getfield 44, [], [7, 0, 288]), (68, .if_icmp .ge (39), [], [57]), (71, .aload_n 0, [], []), (72, .getfield 11, [], [7, 1, 290]), (75, .iload_n 2, [], []), (76, .aaload, [], [4]), (77, .astore_n 3, [], []), (78, .aload_n 3, [], []), (79, .getfield 131, [], [3, 2, 203]), (82, .ifnull (19), [], [55]), (85, .aload_n 3, [], []), (86, .aload_n 3, [], []), (87, .getfield 131, [], [3, 2, 203]), (90, .getfield 135, [], [3, 15, 247]), (93, .aload_n 3, [], []), (94, .getfield 138, [], [3, 7, 220]), (97, .iadd, [], []), (98, .putfield 135, [], [3, 15, 0, 247]), (101, .iinc 2 (1), [0, 2], [0, 1]), (104, .goto (-41), [], [35]), (107, .iconst (1), [999], [0, 1]), (108, .ireturn, [], [])]
def rn_q162 : rn_M := (yX7_settle, cX7_settle, 4, some .boolean, rn_t162, 1, 3, 70, 0)
/-- 163: RecordNiches$Tree.unusedBytes()I -/
def rn_t163 : List rn_I := [(0, .iconst (0), [], [0, 0]), (1, .istore_n 1, [], []), (2, .iload_n 1, [0, 1], []), (3, .bipush (64), [], [0, 64]), (5, .if_icmp .ge (16), [], [12]), (8, .aload_n 0, [], []), (9, .getfield 17, [], [7, 2, 291]), (12, .iload_n 1, [], []), (13, .iconst (0), [], [0, 0]), (14, .bastore, [], []), (15, .iinc 1 (1), [], [0, 1]), (18, .goto (-16), [], [2]), (21, .iconst (0), [0], [0, 0]), (22, .istore_n 1, [], []), (23, .iload_n 1, [0, 1], []), (24, .aload_n 0, [], []), (25, .getfield 44, [], [7, 0, 288]), (28, .if_icmp .ge (61), [], [47]), (31, .aload_n 0, [], []), (32, .getfield 11, [], [7, 1, 290]), (35, .iload_n 1, [], []), (36, .aaload, [], [4]), (37, .astore_n 2, [], []), (38, .aload_n 2, [], []), (39, .invokevirtual 141, [], [0, 131, 3, 564, 565, 566, 71, 567]), (42, .ifCond .eq (15), [], [32]), (45, .aload_n 0, [], []), (46, .aload_n 2, [], []), (47, .getfield 135, [], [3, 15, 247]), (50, .aload_n 2, [], []), (51, .getfield 128, [], [3, 5, 214]), (54, .invokevirtual 145, [], [0, 164, 7, 568, 570, 9, 70, 571]), (57, .aload_n 2, [0, 1, 2], []), (58, .getfield 116, [], [3, 4, 209]), (61, .bipush (6), [], [0, 6]), (63, .if_icmp .ne (20), [], [45]), (66, .aload_n 2, [], []), (67, .getfield 148, [], [3, 12, 238]), (70, .iconst (2), [], [0, 2]), (71, .if_icmp .ne (12), [], [45]), (74, .aload_n 0, [], []), (75, .aload_n 2, [], []), (76, .getfield 135, [], [3, 15, 247]), (79, .iconst (1), [], [0, 1]), (80, .invokevirtual 145, [], [0, 164, 7, 568, 570, 9, 70, 571]), (83, .iinc 1 (1), [0, 1], [0, 1]), (86, .goto (-63), [], [14]), (89, .iconst (0), [0], [0, 0]), (90, .istore_n 1, [], []), (91, .iconst (0), [], [0, 0]), (92, .istore_n 2, [], []), (93, .iload_n 2, [0, 1, 2], []), (94, .bipush (64), [], [0, 64]), (96, .if_icmp .ge (34), [], [69]), (99, .iload_n 2, [], []), (100, .aload_n 0, [], []), (101, .getfield 11, [], [7, 1, 290]), (104, .iconst (0), [], [0, 0]), (105, .aaload, [], [4]), (106, .getfield 128, [], [3, 5, 214]), (109, .if_icmp .ge (21), [], [69]), (112, .aload_n 0, [], []), (113, .getfield 17, [], [7, 2, 291]), (116, .iload_n 2, [], []), (117, .baload, [], []), (118, .ifCond .ne (6), [], [67]), (121, .iinc 1 (1), [], [0, 1]), (124, .iinc 2 (1), [0, 1, 2], [0, 1]), (127, .goto (-34), [], [51]), (130, .iload_n 1, [1], []), (131, .ireturn, [], [])]
def rn_q163 : rn_M := (yX7_unusedBytes, cX7_unusedBytes, 3, some .int, rn_t163, 0, 1, 23, 0)
/-- 164: RecordNiches$Tree.use(II)V -/
def rn_t164 : List rn_I := [(0, .iload_n 1, [], []), (1, .istore_n 3, [], []), (2, .iload_n 3, [0, 1, 2, 3], []), (3, .iload_n 1, [], []), (4, .iload_n 2, [], []), (5, .iadd, [], []), (6, .if_icmp .ge (26), [], [19]), (9, .iload_n 3, [], []), (10, .ifCond .lt (16), [], [17]), (13, .iload_n 3, [], []), (14, .bipush (64), [], [0, 64]), (16, .if_icmp .ge (10), [], [17]), (19, .aload_n 0, [], []), (20, .getfield 17, [], [7, 2, 291]), (23, .iload_n 3, [], []), (24, .iconst (1), [], [0, 1]), (25, .bastore, [], []), (26, .iinc 3 (1), [0, 1, 2, 3], [0, 1]), (29, .goto (-27), [], [2]), (32, .return_, [999], [])]
def rn_q164 : rn_M := (yX7_use, cX7_use, 4, none, rn_t164, 2, 0, 0, 0)
/-- 165: RecordNichesLaw.law([I)Z -/
def rn_t165_0 : List rn_I := [(0, .new 7, [], [8, 6, 77, 78, 65]), (3, .dup, [], []), (4, .invokespecial 9, [], [0, 0, 8, 79, 80, 0, 65, 81]), (7, .astore_n 1, [], []), (8, .new 10, [], [9, 43, 683, 684, 73]), (11, .dup, [], []), (12, .invokespecial 12, [], [0, 28, 9, 685, 686, 0, 73, 687]), (15, .astore_n 2, [], []), (16, .iconst (0), [], [0, 0]), (17, .istore_n 3, [], []), (18, .iload_n 3, [0, 1, 2, 3], []), (19, .aload_n 0, [], []), (20, .arraylength, [], []), (21, .iconst (5), [], [0, 5]), (22, .isub, [], []), (23, .if_icmp .gt (809), [], [586]), (26, .aload_n 0, [], []), (27, .iload_n 3, [], []), (28, .iaload, [], [1]), (29, .bipush (31), [], [0, 31]), (31, .iand, [], []), (32, .tableswitch (794) (0) (20) #[100, 133, 156, 179, 202, 245, 298, 341, 384, 417, 450, 503, 516, 540, 583, 626, 669, 702, 725, 748, 771], [], [584, 22, 49, 66, 83, 100, 137, 184, 221, 258, 285, 312, 353, 360, 378, 415, 452, 489, 516, 533, 550, 567]), (132, .aload_n 1, [], []), (133, .aload_n 0, [], []), (134, .iload_n 3, [], []), (135, .iconst (1), [], [0, 1]), (136, .iadd, [], []), (137, .iaload, [], [1]), (138, .aload_n 0, [], []), (139, .iload_n 3, [], []), (140, .iconst (2), [], [0, 2]), (141, .iadd, [], []), (142, .iaload, [], [1]), (143, .invokevirtual 13, [], [0, 1, 8, 372, 373, 374, 65, 375]), (146, .aload_n 2, [], []), (147, .aload_n 0, [], []), (148, .iload_n 3, [], []), (149, .iconst (1), [], [0, 1]), (150, .iadd, [], []), (151, .iaload, [], [1]), (152, .aload_n 0, [], []), (153, .iload_n 3, [], []), (154, .iconst (2), [], [0, 2]), (155, .iadd, [], []), (156, .iaload, [], [1]), (157, .invokevirtual 17, [], [0, 34, 9, 819, 820, 821, 73, 822]), (160, .if_icmp .eq (666), [], [584]), (163, .iconst (0), [], [0, 0]), (164, .ireturn, [], []), (165, .aload_n 1, [], []), (166, .aload_n 0, [], []), (167, .iload_n 3, [], []), (168, .iconst (1), [], [0, 1]), (169, .iadd, [], []), (170, .iaload, [], [1]), (171, .invokevirtual 18, [], [0, 2, 8, 383, 384, 385, 65, 386]), (174, .aload_n 2, [], []), (175, .aload_n 0, [], []), (176, .iload_n 3, [], []), (177, .iconst (1), [], [0, 1])]
def rn_t165_1 : List rn_I := [(178, .iadd, [], []), (179, .iaload, [], [1]), (180, .invokevirtual 22, [], [0, 35, 9, 832, 833, 834, 73, 835]), (183, .if_icmp .eq (643), [], [584]), (186, .iconst (0), [], [0, 0]), (187, .ireturn, [], []), (188, .aload_n 1, [], []), (189, .aload_n 0, [], []), (190, .iload_n 3, [], []), (191, .iconst (1), [], [0, 1]), (192, .iadd, [], []), (193, .iaload, [], [1]), (194, .invokevirtual 23, [], [0, 3, 8, 387, 388, 389, 65, 390]), (197, .aload_n 2, [], []), (198, .aload_n 0, [], []), (199, .iload_n 3, [], []), (200, .iconst (1), [], [0, 1]), (201, .iadd, [], []), (202, .iaload, [], [1]), (203, .invokevirtual 26, [], [0, 44, 9, 836, 837, 838, 73, 839]), (206, .if_icmp .eq (620), [], [584]), (209, .iconst (0), [], [0, 0]), (210, .ireturn, [], []), (211, .aload_n 1, [], []), (212, .aload_n 0, [], []), (213, .iload_n 3, [], []), (214, .iconst (1), [], [0, 1]), (215, .iadd, [], []), (216, .iaload, [], [1]), (217, .invokevirtual 27, [], [0, 4, 8, 414, 415, 416, 65, 417]), (220, .aload_n 2, [], []), (221, .aload_n 0, [], []), (222, .iload_n 3, [], []), (223, .iconst (1), [], [0, 1]), (224, .iadd, [], []), (225, .iaload, [], [1]), (226, .invokevirtual 30, [], [0, 45, 9, 878, 879, 880, 73, 881]), (229, .if_icmp .eq (597), [], [584]), (232, .iconst (0), [], [0, 0]), (233, .ireturn, [], []), (234, .aload_n 1, [], []), (235, .aload_n 0, [], []), (236, .iload_n 3, [], []), (237, .iconst (1), [], [0, 1]), (238, .iadd, [], []), (239, .iaload, [], [1]), (240, .aload_n 0, [], []), (241, .iload_n 3, [], []), (242, .iconst (2), [], [0, 2]), (243, .iadd, [], []), (244, .iaload, [], [1]), (245, .aload_n 0, [], []), (246, .iload_n 3, [], []), (247, .iconst (3), [], [0, 3]), (248, .iadd, [], []), (249, .iaload, [], [1]), (250, .invokevirtual 31, [], [0, 5, 8, 418, 419, 420, 65, 421]), (253, .aload_n 2, [], []), (254, .aload_n 0, [], []), (255, .iload_n 3, [], [])]
def rn_t165_2 : List rn_I := [(256, .iconst (1), [], [0, 1]), (257, .iadd, [], []), (258, .iaload, [], [1]), (259, .aload_n 0, [], []), (260, .iload_n 3, [], []), (261, .iconst (2), [], [0, 2]), (262, .iadd, [], []), (263, .iaload, [], [1]), (264, .aload_n 0, [], []), (265, .iload_n 3, [], []), (266, .iconst (3), [], [0, 3]), (267, .iadd, [], []), (268, .iaload, [], [1]), (269, .invokevirtual 35, [], [0, 73, 9, 882, 883, 884, 73, 885]), (272, .if_icmp .eq (554), [], [584]), (275, .iconst (0), [], [0, 0]), (276, .ireturn, [], []), (277, .aload_n 1, [], []), (278, .aload_n 0, [], []), (279, .iload_n 3, [], []), (280, .iconst (1), [], [0, 1]), (281, .iadd, [], []), (282, .iaload, [], [1]), (283, .aload_n 0, [], []), (284, .iload_n 3, [], []), (285, .iconst (2), [], [0, 2]), (286, .iadd, [], []), (287, .iaload, [], [1]), (288, .aload_n 0, [], []), (289, .iload_n 3, [], []), (290, .iconst (3), [], [0, 3]), (291, .iadd, [], []), (292, .iaload, [], [1]), (293, .aload_n 0, [], []), (294, .iload_n 3, [], []), (295, .iconst (4), [], [0, 4]), (296, .iadd, [], []), (297, .iaload, [], [1]), (298, .invokevirtual 36, [], [0, 6, 8, 539, 540, 541, 65, 542]), (301, .aload_n 2, [], []), (302, .aload_n 0, [], []), (303, .iload_n 3, [], []), (304, .iconst (1), [], [0, 1]), (305, .iadd, [], []), (306, .iaload, [], [1]), (307, .aload_n 0, [], []), (308, .iload_n 3, [], []), (309, .iconst (2), [], [0, 2]), (310, .iadd, [], []), (311, .iaload, [], [1]), (312, .aload_n 0, [], []), (313, .iload_n 3, [], []), (314, .iconst (3), [], [0, 3]), (315, .iadd, [], []), (316, .iaload, [], [1]), (317, .aload_n 0, [], []), (318, .iload_n 3, [], []), (319, .iconst (4), [], [0, 4]), (320, .iadd, [], []), (321, .iaload, [], [1])]
def rn_t165_3 : List rn_I := [(322, .invokevirtual 40, [], [0, 75, 9, 1001, 1002, 1003, 73, 1004]), (325, .if_icmp .eq (501), [], [584]), (328, .iconst (0), [], [0, 0]), (329, .ireturn, [], []), (330, .aload_n 1, [], []), (331, .aload_n 0, [], []), (332, .iload_n 3, [], []), (333, .iconst (1), [], [0, 1]), (334, .iadd, [], []), (335, .iaload, [], [1]), (336, .aload_n 0, [], []), (337, .iload_n 3, [], []), (338, .iconst (2), [], [0, 2]), (339, .iadd, [], []), (340, .iaload, [], [1]), (341, .aload_n 0, [], []), (342, .iload_n 3, [], []), (343, .iconst (3), [], [0, 3]), (344, .iadd, [], []), (345, .iaload, [], [1]), (346, .invokevirtual 41, [], [0, 7, 8, 543, 544, 545, 65, 546]), (349, .aload_n 2, [], []), (350, .aload_n 0, [], []), (351, .iload_n 3, [], []), (352, .iconst (1), [], [0, 1]), (353, .iadd, [], []), (354, .iaload, [], [1]), (355, .aload_n 0, [], []), (356, .iload_n 3, [], []), (357, .iconst (2), [], [0, 2]), (358, .iadd, [], []), (359, .iaload, [], [1]), (360, .aload_n 0, [], []), (361, .iload_n 3, [], []), (362, .iconst (3), [], [0, 3]), (363, .iadd, [], []), (364, .iaload, [], [1]), (365, .invokevirtual 44, [], [0, 76, 9, 1010, 1011, 1012, 73, 1013]), (368, .if_icmp .eq (458), [], [584]), (371, .iconst (0), [], [0, 0]), (372, .ireturn, [], []), (373, .aload_n 1, [], []), (374, .aload_n 0, [], []), (375, .iload_n 3, [], []), (376, .iconst (1), [], [0, 1]), (377, .iadd, [], []), (378, .iaload, [], [1]), (379, .aload_n 0, [], []), (380, .iload_n 3, [], []), (381, .iconst (2), [], [0, 2]), (382, .iadd, [], []), (383, .iaload, [], [1]), (384, .aload_n 0, [], []), (385, .iload_n 3, [], []), (386, .iconst (3), [], [0, 3]), (387, .iadd, [], []), (388, .iaload, [], [1]), (389, .invokevirtual 45, [], [0, 8, 8, 547, 548, 549, 65, 550]), (392, .aload_n 2, [], []), (393, .aload_n 0, [], [])]
def rn_t165_4 : List rn_I := [(394, .iload_n 3, [], []), (395, .iconst (1), [], [0, 1]), (396, .iadd, [], []), (397, .iaload, [], [1]), (398, .aload_n 0, [], []), (399, .iload_n 3, [], []), (400, .iconst (2), [], [0, 2]), (401, .iadd, [], []), (402, .iaload, [], [1]), (403, .aload_n 0, [], []), (404, .iload_n 3, [], []), (405, .iconst (3), [], [0, 3]), (406, .iadd, [], []), (407, .iaload, [], [1]), (408, .invokevirtual 48, [], [0, 78, 9, 1014, 1015, 1016, 73, 1017]), (411, .if_icmp .eq (415), [], [584]), (414, .iconst (0), [], [0, 0]), (415, .ireturn, [], []), (416, .aload_n 1, [], []), (417, .aload_n 0, [], []), (418, .iload_n 3, [], []), (419, .iconst (1), [], [0, 1]), (420, .iadd, [], []), (421, .iaload, [], [1]), (422, .aload_n 0, [], []), (423, .iload_n 3, [], []), (424, .iconst (2), [], [0, 2]), (425, .iadd, [], []), (426, .iaload, [], [1]), (427, .invokevirtual 49, [], [0, 9, 8, 551, 552, 553, 65, 554]), (430, .aload_n 2, [], []), (431, .aload_n 0, [], []), (432, .iload_n 3, [], []), (433, .iconst (1), [], [0, 1]), (434, .iadd, [], []), (435, .iaload, [], [1]), (436, .aload_n 0, [], []), (437, .iload_n 3, [], []), (438, .iconst (2), [], [0, 2]), (439, .iadd, [], []), (440, .iaload, [], [1]), (441, .invokevirtual 52, [], [0, 80, 9, 1022, 1023, 1024, 73, 1025]), (444, .if_icmp .eq (382), [], [584]), (447, .iconst (0), [], [0, 0]), (448, .ireturn, [], []), (449, .aload_n 1, [], []), (450, .aload_n 0, [], []), (451, .iload_n 3, [], []), (452, .iconst (1), [], [0, 1]), (453, .iadd, [], []), (454, .iaload, [], [1]), (455, .aload_n 0, [], []), (456, .iload_n 3, [], []), (457, .iconst (2), [], [0, 2]), (458, .iadd, [], []), (459, .iaload, [], [1]), (460, .invokevirtual 53, [], [0, 10, 8, 556, 557, 558, 65, 559]), (463, .aload_n 2, [], []), (464, .aload_n 0, [], []), (465, .iload_n 3, [], [])]
def rn_t165_5 : List rn_I := [(466, .iconst (1), [], [0, 1]), (467, .iadd, [], []), (468, .iaload, [], [1]), (469, .aload_n 0, [], []), (470, .iload_n 3, [], []), (471, .iconst (2), [], [0, 2]), (472, .iadd, [], []), (473, .iaload, [], [1]), (474, .invokevirtual 56, [], [0, 83, 9, 1030, 1031, 1032, 73, 1033]), (477, .if_icmp .eq (349), [], [584]), (480, .iconst (0), [], [0, 0]), (481, .ireturn, [], []), (482, .aload_n 1, [], []), (483, .aload_n 0, [], []), (484, .iload_n 3, [], []), (485, .iconst (1), [], [0, 1]), (486, .iadd, [], []), (487, .iaload, [], [1]), (488, .i2l, [], []), (489, .bipush (32), [], [0, 32]), (491, .lshl, [], []), (492, .aload_n 0, [], []), (493, .iload_n 3, [], []), (494, .iconst (2), [], [0, 2]), (495, .iadd, [], []), (496, .iaload, [], [1]), (497, .i2l, [], []), (498, .ldc2_w 57, [], [0, 4294967295, 1153]), (501, .land, [], []), (502, .lor, [], []), (503, .invokevirtual 59, [], [0, 11, 8, 572, 573, 574, 65, 575]), (506, .aload_n 2, [], []), (507, .aload_n 0, [], []), (508, .iload_n 3, [], []), (509, .iconst (1), [], [0, 1]), (510, .iadd, [], []), (511, .iaload, [], [1]), (512, .i2l, [], []), (513, .bipush (32), [], [0, 32]), (515, .lshl, [], []), (516, .aload_n 0, [], []), (517, .iload_n 3, [], []), (518, .iconst (2), [], [0, 2]), (519, .iadd, [], []), (520, .iaload, [], [1]), (521, .i2l, [], []), (522, .ldc2_w 57, [], [0, 4294967295, 1153]), (525, .land, [], []), (526, .lor, [], []), (527, .invokevirtual 63, [], [0, 84, 9, 1042, 1043, 1044, 73, 1045]), (530, .if_icmp .eq (296), [], [584]), (533, .iconst (0), [], [0, 0]), (534, .ireturn, [], []), (535, .aload_n 1, [], []), (536, .invokevirtual 64, [], [0, 12, 8, 577, 578, 579, 65, 580]), (539, .aload_n 2, [], []), (540, .invokevirtual 68, [], [0, 85, 9, 1047, 1048, 1049, 73, 1050]), (543, .if_icmp .eq (283), [], [584]), (546, .iconst (0), [], [0, 0]), (547, .ireturn, [], [])]
def rn_t165_6 : List rn_I := [(548, .aload_n 1, [], []), (549, .aload_n 0, [], []), (550, .iload_n 3, [], []), (551, .iconst (1), [], [0, 1]), (552, .iadd, [], []), (553, .iaload, [], [1]), (554, .invokevirtual 69, [], [0, 13, 8, 581, 582, 583, 65, 584]), (557, .aload_n 2, [], []), (558, .aload_n 0, [], []), (559, .iload_n 3, [], []), (560, .iconst (1), [], [0, 1]), (561, .iadd, [], []), (562, .iaload, [], [1]), (563, .invokevirtual 73, [], [0, 86, 9, 1051, 1052, 1053, 73, 1054]), (566, .lcmp, [], []), (567, .ifCond .eq (259), [], [584]), (570, .iconst (0), [], [0, 0]), (571, .ireturn, [], []), (572, .aload_n 1, [], []), (573, .aload_n 0, [], []), (574, .iload_n 3, [], []), (575, .iconst (1), [], [0, 1]), (576, .iadd, [], []), (577, .iaload, [], [1]), (578, .aload_n 0, [], []), (579, .iload_n 3, [], []), (580, .iconst (2), [], [0, 2]), (581, .iadd, [], []), (582, .iaload, [], [1]), (583, .aload_n 0, [], []), (584, .iload_n 3, [], []), (585, .iconst (3), [], [0, 3]), (586, .iadd, [], []), (587, .iaload, [], [1]), (588, .invokevirtual 74, [], [0, 14, 8, 586, 587, 588, 65, 589]), (591, .aload_n 2, [], []), (592, .aload_n 0, [], []), (593, .iload_n 3, [], []), (594, .iconst (1), [], [0, 1]), (595, .iadd, [], []), (596, .iaload, [], [1]), (597, .aload_n 0, [], []), (598, .iload_n 3, [], []), (599, .iconst (2), [], [0, 2]), (600, .iadd, [], []), (601, .iaload, [], [1]), (602, .aload_n 0, [], []), (603, .iload_n 3, [], []), (604, .iconst (3), [], [0, 3]), (605, .iadd, [], []), (606, .iaload, [], [1]), (607, .invokevirtual 77, [], [0, 94, 9, 1056, 1057, 1058, 73, 1059]), (610, .if_icmp .eq (216), [], [584]), (613, .iconst (0), [], [0, 0]), (614, .ireturn, [], []), (615, .aload_n 1, [], []), (616, .aload_n 0, [], []), (617, .iload_n 3, [], []), (618, .iconst (1), [], [0, 1]), (619, .iadd, [], [])]
def rn_t165_7 : List rn_I := [(620, .iaload, [], [1]), (621, .aload_n 0, [], []), (622, .iload_n 3, [], []), (623, .iconst (2), [], [0, 2]), (624, .iadd, [], []), (625, .iaload, [], [1]), (626, .aload_n 0, [], []), (627, .iload_n 3, [], []), (628, .iconst (3), [], [0, 3]), (629, .iadd, [], []), (630, .iaload, [], [1]), (631, .invokevirtual 78, [], [0, 15, 8, 630, 631, 632, 65, 633]), (634, .aload_n 2, [], []), (635, .aload_n 0, [], []), (636, .iload_n 3, [], []), (637, .iconst (1), [], [0, 1]), (638, .iadd, [], []), (639, .iaload, [], [1]), (640, .aload_n 0, [], []), (641, .iload_n 3, [], []), (642, .iconst (2), [], [0, 2]), (643, .iadd, [], []), (644, .iaload, [], [1]), (645, .aload_n 0, [], []), (646, .iload_n 3, [], []), (647, .iconst (3), [], [0, 3]), (648, .iadd, [], []), (649, .iaload, [], [1]), (650, .invokevirtual 81, [], [0, 99, 9, 1090, 1091, 1092, 73, 1093]), (653, .if_icmp .eq (173), [], [584]), (656, .iconst (0), [], [0, 0]), (657, .ireturn, [], []), (658, .aload_n 1, [], []), (659, .aload_n 0, [], []), (660, .iload_n 3, [], []), (661, .iconst (1), [], [0, 1]), (662, .iadd, [], []), (663, .iaload, [], [1]), (664, .aload_n 0, [], []), (665, .iload_n 3, [], []), (666, .iconst (2), [], [0, 2]), (667, .iadd, [], []), (668, .iaload, [], [1]), (669, .aload_n 0, [], []), (670, .iload_n 3, [], []), (671, .iconst (3), [], [0, 3]), (672, .iadd, [], []), (673, .iaload, [], [1]), (674, .invokevirtual 82, [], [0, 16, 8, 645, 646, 647, 65, 648]), (677, .aload_n 2, [], []), (678, .aload_n 0, [], []), (679, .iload_n 3, [], []), (680, .iconst (1), [], [0, 1]), (681, .iadd, [], []), (682, .iaload, [], [1]), (683, .aload_n 0, [], []), (684, .iload_n 3, [], []), (685, .iconst (2), [], [0, 2]), (686, .iadd, [], []), (687, .iaload, [], [1])]
def rn_t165_8 : List rn_I := [(688, .aload_n 0, [], []), (689, .iload_n 3, [], []), (690, .iconst (3), [], [0, 3]), (691, .iadd, [], []), (692, .iaload, [], [1]), (693, .invokevirtual 85, [], [0, 100, 9, 1110, 1111, 1112, 73, 1113]), (696, .if_icmp .eq (130), [], [584]), (699, .iconst (0), [], [0, 0]), (700, .ireturn, [], []), (701, .aload_n 1, [], []), (702, .aload_n 0, [], []), (703, .iload_n 3, [], []), (704, .iconst (1), [], [0, 1]), (705, .iadd, [], []), (706, .iaload, [], [1]), (707, .aload_n 0, [], []), (708, .iload_n 3, [], []), (709, .iconst (2), [], [0, 2]), (710, .iadd, [], []), (711, .iaload, [], [1]), (712, .invokevirtual 86, [], [0, 17, 8, 650, 651, 652, 65, 653]), (715, .aload_n 2, [], []), (716, .aload_n 0, [], []), (717, .iload_n 3, [], []), (718, .iconst (1), [], [0, 1]), (719, .iadd, [], []), (720, .iaload, [], [1]), (721, .aload_n 0, [], []), (722, .iload_n 3, [], []), (723, .iconst (2), [], [0, 2]), (724, .iadd, [], []), (725, .iaload, [], [1]), (726, .invokevirtual 89, [], [0, 101, 9, 1114, 1115, 1116, 73, 1117]), (729, .if_icmp .eq (97), [], [584]), (732, .iconst (0), [], [0, 0]), (733, .ireturn, [], []), (734, .aload_n 1, [], []), (735, .aload_n 0, [], []), (736, .iload_n 3, [], []), (737, .iconst (1), [], [0, 1]), (738, .iadd, [], []), (739, .iaload, [], [1]), (740, .invokevirtual 90, [], [0, 18, 8, 654, 655, 656, 65, 657]), (743, .aload_n 2, [], []), (744, .aload_n 0, [], []), (745, .iload_n 3, [], []), (746, .iconst (1), [], [0, 1]), (747, .iadd, [], []), (748, .iaload, [], [1]), (749, .invokevirtual 93, [], [0, 102, 9, 1119, 1120, 1121, 73, 1122]), (752, .if_icmp .eq (74), [], [584]), (755, .iconst (0), [], [0, 0]), (756, .ireturn, [], []), (757, .aload_n 1, [], []), (758, .aload_n 0, [], []), (759, .iload_n 3, [], []), (760, .iconst (1), [], [0, 1]), (761, .iadd, [], []), (762, .iaload, [], [1]), (763, .invokevirtual 94, [], [0, 19, 8, 658, 659, 660, 65, 661])]
def rn_t165_9 : List rn_I := [(766, .aload_n 2, [], []), (767, .aload_n 0, [], []), (768, .iload_n 3, [], []), (769, .iconst (1), [], [0, 1]), (770, .iadd, [], []), (771, .iaload, [], [1]), (772, .invokevirtual 97, [], [0, 106, 9, 1123, 1124, 1125, 73, 1126]), (775, .if_icmp .eq (51), [], [584]), (778, .iconst (0), [], [0, 0]), (779, .ireturn, [], []), (780, .aload_n 1, [], []), (781, .aload_n 0, [], []), (782, .iload_n 3, [], []), (783, .iconst (1), [], [0, 1]), (784, .iadd, [], []), (785, .iaload, [], [1]), (786, .invokevirtual 98, [], [0, 20, 8, 674, 675, 676, 65, 677]), (789, .aload_n 2, [], []), (790, .aload_n 0, [], []), (791, .iload_n 3, [], []), (792, .iconst (1), [], [0, 1]), (793, .iadd, [], []), (794, .iaload, [], [1]), (795, .invokevirtual 101, [], [0, 107, 9, 1139, 1140, 1141, 73, 1142]), (798, .if_icmp .eq (28), [], [584]), (801, .iconst (0), [], [0, 0]), (802, .ireturn, [], []), (803, .aload_n 1, [], []), (804, .aload_n 0, [], []), (805, .iload_n 3, [], []), (806, .iconst (1), [], [0, 1]), (807, .iadd, [], []), (808, .iaload, [], [1]), (809, .invokevirtual 102, [], [0, 21, 8, 678, 679, 680, 65, 681]), (812, .aload_n 2, [], []), (813, .aload_n 0, [], []), (814, .iload_n 3, [], []), (815, .iconst (1), [], [0, 1]), (816, .iadd, [], []), (817, .iaload, [], [1]), (818, .invokevirtual 105, [], [0, 108, 9, 1143, 1144, 1145, 73, 1146]), (821, .if_icmp .eq (5), [], [584]), (824, .iconst (0), [], [0, 0]), (825, .ireturn, [], []), (826, .iinc 3 (5), [0, 1, 2, 3], [0, 5]), (829, .goto (-811), [], [10]), (832, .iconst (1), [999], [0, 1]), (833, .ireturn, [], [])]
def rn_t165 : List rn_I := rn_t165_0 ++ (rn_t165_1 ++ (rn_t165_2 ++ (rn_t165_3 ++ (rn_t165_4 ++ (rn_t165_5 ++ (rn_t165_6 ++ (rn_t165_7 ++ (rn_t165_8 ++ (rn_t165_9)))))))))
def rn_q165 : rn_M := (yL_law, cL_law, 4, some .boolean, rn_t165, 1, 10, 247, 0)
def rn_ml0 : List rn_M := [rn_q0, rn_q1, rn_q2, rn_q3, rn_q4, rn_q5, rn_q6, rn_q7, rn_q8, rn_q9, rn_q10, rn_q11, rn_q12, rn_q13, rn_q14, rn_q15, rn_q16, rn_q17, rn_q18, rn_q19]
def rn_ml1 : List rn_M := [rn_q20, rn_q21, rn_q22, rn_q23, rn_q24, rn_q25, rn_q26, rn_q27, rn_q28, rn_q29, rn_q30, rn_q31, rn_q32, rn_q33, rn_q34, rn_q35, rn_q36, rn_q37, rn_q38, rn_q39]
def rn_ml2 : List rn_M := [rn_q40, rn_q41, rn_q42, rn_q43, rn_q44, rn_q45, rn_q46, rn_q47, rn_q48, rn_q49, rn_q50, rn_q51, rn_q52, rn_q53, rn_q54, rn_q55, rn_q56, rn_q57, rn_q58, rn_q59]
def rn_ml3 : List rn_M := [rn_q60, rn_q61, rn_q62, rn_q63, rn_q64, rn_q65, rn_q66, rn_q67, rn_q68, rn_q69, rn_q70, rn_q71, rn_q72, rn_q73, rn_q74, rn_q75, rn_q76, rn_q77, rn_q78, rn_q79]
def rn_ml4 : List rn_M := [rn_q80, rn_q81, rn_q82, rn_q83, rn_q84, rn_q85, rn_q86, rn_q87, rn_q88, rn_q89, rn_q90, rn_q91, rn_q92, rn_q93, rn_q94, rn_q95, rn_q96, rn_q97, rn_q98, rn_q99]
def rn_ml5 : List rn_M := [rn_q100, rn_q101, rn_q102, rn_q103, rn_q104, rn_q105, rn_q106, rn_q107, rn_q108, rn_q109, rn_q110, rn_q111, rn_q112, rn_q113, rn_q114, rn_q115, rn_q116, rn_q117, rn_q118, rn_q119]
def rn_ml6 : List rn_M := [rn_q120, rn_q121, rn_q122, rn_q123, rn_q124, rn_q125, rn_q126, rn_q127, rn_q128, rn_q129, rn_q130, rn_q131, rn_q132, rn_q133, rn_q134, rn_q135, rn_q136, rn_q137, rn_q138, rn_q139]
def rn_ml7 : List rn_M := [rn_q140, rn_q141, rn_q142, rn_q143, rn_q144, rn_q145, rn_q146, rn_q147, rn_q148, rn_q149, rn_q150, rn_q151, rn_q152, rn_q153, rn_q154, rn_q155, rn_q156, rn_q157, rn_q158, rn_q159]
def rn_ml8 : List rn_M := [rn_q160, rn_q161, rn_q162, rn_q163, rn_q164, rn_q165]
def rn_ml : List rn_M := rn_ml0 ++ (rn_ml1 ++ (rn_ml2 ++ (rn_ml3 ++ (rn_ml4 ++ (rn_ml5 ++ (rn_ml6 ++ (rn_ml7 ++ (rn_ml8))))))))
def rn_ms (y : Nat) : Option rn_M := rn_ml[y]?
end
section
/-! checks -/
theorem rn_k0 : rn_oM rn_ms rn_q0 = true := by decide +kernel
theorem rn_k1 : rn_oM rn_ms rn_q1 = true := by decide +kernel
theorem rn_k2 : rn_oM rn_ms rn_q2 = true := by decide +kernel
theorem rn_k3 : rn_oM rn_ms rn_q3 = true := by decide +kernel
theorem rn_k4 : rn_oM rn_ms rn_q4 = true := by decide +kernel
theorem rn_k5 : rn_oM rn_ms rn_q5 = true := by decide +kernel
theorem rn_k6 : rn_oM rn_ms rn_q6 = true := by decide +kernel
theorem rn_k7 : rn_oM rn_ms rn_q7 = true := by decide +kernel
theorem rn_k8 : rn_oM rn_ms rn_q8 = true := by decide +kernel
theorem rn_k9 : rn_oM rn_ms rn_q9 = true := by decide +kernel
theorem rn_k10 : rn_oM rn_ms rn_q10 = true := by decide +kernel
theorem rn_k11 : rn_oM rn_ms rn_q11 = true := by decide +kernel
theorem rn_k12 : rn_oM rn_ms rn_q12 = true := by decide +kernel
theorem rn_k13 : rn_oM rn_ms rn_q13 = true := by decide +kernel
theorem rn_k14 : rn_oM rn_ms rn_q14 = true := by decide +kernel
theorem rn_k15 : rn_oM rn_ms rn_q15 = true := by decide +kernel
theorem rn_k16 : rn_oM rn_ms rn_q16 = true := by decide +kernel
theorem rn_k17 : rn_oM rn_ms rn_q17 = true := by decide +kernel
theorem rn_k18 : rn_oM rn_ms rn_q18 = true := by decide +kernel
theorem rn_k19 : rn_oM rn_ms rn_q19 = true := by decide +kernel
theorem rn_k20 : rn_oM rn_ms rn_q20 = true := by decide +kernel
theorem rn_k21 : rn_oM rn_ms rn_q21 = true := by decide +kernel
theorem rn_k22 : rn_oM rn_ms rn_q22 = true := by decide +kernel
theorem rn_k23 : rn_oM rn_ms rn_q23 = true := by decide +kernel
theorem rn_k24 : rn_oM rn_ms rn_q24 = true := by decide +kernel
theorem rn_k25 : rn_oM rn_ms rn_q25 = true := by decide +kernel
theorem rn_k26 : rn_oM rn_ms rn_q26 = true := by decide +kernel
theorem rn_k27 : rn_oM rn_ms rn_q27 = true := by decide +kernel
theorem rn_k28 : rn_oM rn_ms rn_q28 = true := by decide +kernel
theorem rn_k29 : rn_oM rn_ms rn_q29 = true := by decide +kernel
theorem rn_k30 : rn_oM rn_ms rn_q30 = true := by decide +kernel
theorem rn_k31 : rn_oM rn_ms rn_q31 = true := by decide +kernel
theorem rn_k32 : rn_oM rn_ms rn_q32 = true := by decide +kernel
theorem rn_k33 : rn_oM rn_ms rn_q33 = true := by decide +kernel
theorem rn_k34 : rn_oM rn_ms rn_q34 = true := by decide +kernel
theorem rn_k35 : rn_oM rn_ms rn_q35 = true := by decide +kernel
theorem rn_k36 : rn_oM rn_ms rn_q36 = true := by decide +kernel
theorem rn_k37 : rn_oM rn_ms rn_q37 = true := by decide +kernel
theorem rn_k38 : rn_oM rn_ms rn_q38 = true := by decide +kernel
theorem rn_k39 : rn_oM rn_ms rn_q39 = true := by decide +kernel
theorem rn_k40 : rn_oM rn_ms rn_q40 = true := by decide +kernel
theorem rn_k41 : rn_oM rn_ms rn_q41 = true := by decide +kernel
theorem rn_k42 : rn_oM rn_ms rn_q42 = true := by decide +kernel
theorem rn_k43 : rn_oM rn_ms rn_q43 = true := by decide +kernel
theorem rn_k44 : rn_oM rn_ms rn_q44 = true := by decide +kernel
theorem rn_k45 : rn_oM rn_ms rn_q45 = true := by decide +kernel
theorem rn_k46 : rn_oM rn_ms rn_q46 = true := by decide +kernel
theorem rn_k47 : rn_oM rn_ms rn_q47 = true := by decide +kernel
theorem rn_k48 : rn_oM rn_ms rn_q48 = true := by decide +kernel
theorem rn_k49 : rn_oM rn_ms rn_q49 = true := by decide +kernel
theorem rn_k50 : rn_oM rn_ms rn_q50 = true := by decide +kernel
theorem rn_k51 : rn_oM rn_ms rn_q51 = true := by decide +kernel
theorem rn_k52 : rn_oM rn_ms rn_q52 = true := by decide +kernel
theorem rn_k53 : rn_oM rn_ms rn_q53 = true := by decide +kernel
theorem rn_k54 : rn_oM rn_ms rn_q54 = true := by decide +kernel
theorem rn_k55 : rn_oM rn_ms rn_q55 = true := by decide +kernel
theorem rn_k56 : rn_oM rn_ms rn_q56 = true := by decide +kernel
theorem rn_k57 : rn_oM rn_ms rn_q57 = true := by decide +kernel
theorem rn_k58 : rn_oM rn_ms rn_q58 = true := by decide +kernel
theorem rn_k59 : rn_oM rn_ms rn_q59 = true := by decide +kernel
theorem rn_k60 : rn_oM rn_ms rn_q60 = true := by decide +kernel
theorem rn_k61 : rn_oM rn_ms rn_q61 = true := by decide +kernel
theorem rn_k62 : rn_oM rn_ms rn_q62 = true := by decide +kernel
theorem rn_k63 : rn_oM rn_ms rn_q63 = true := by decide +kernel
theorem rn_k64 : rn_oM rn_ms rn_q64 = true := by decide +kernel
theorem rn_k65 : rn_oM rn_ms rn_q65 = true := by decide +kernel
theorem rn_k66 : rn_oM rn_ms rn_q66 = true := by decide +kernel
theorem rn_k67 : rn_oM rn_ms rn_q67 = true := by decide +kernel
theorem rn_k68 : rn_oM rn_ms rn_q68 = true := by decide +kernel
theorem rn_k69 : rn_oM rn_ms rn_q69 = true := by decide +kernel
theorem rn_k70 : rn_oM rn_ms rn_q70 = true := by decide +kernel
theorem rn_k71 : rn_oM rn_ms rn_q71 = true := by decide +kernel
theorem rn_k72 : rn_oM rn_ms rn_q72 = true := by decide +kernel
theorem rn_k73 : rn_oM rn_ms rn_q73 = true := by decide +kernel
theorem rn_k74 : rn_oM rn_ms rn_q74 = true := by decide +kernel
theorem rn_k75 : rn_oM rn_ms rn_q75 = true := by decide +kernel
theorem rn_k76 : rn_oM rn_ms rn_q76 = true := by decide +kernel
theorem rn_k77 : rn_oM rn_ms rn_q77 = true := by decide +kernel
theorem rn_k78 : rn_oM rn_ms rn_q78 = true := by decide +kernel
theorem rn_k79 : rn_oM rn_ms rn_q79 = true := by decide +kernel
theorem rn_k80 : rn_oM rn_ms rn_q80 = true := by decide +kernel
theorem rn_k81 : rn_oM rn_ms rn_q81 = true := by decide +kernel
theorem rn_k82 : rn_oM rn_ms rn_q82 = true := by decide +kernel
theorem rn_k83 : rn_oM rn_ms rn_q83 = true := by decide +kernel
theorem rn_k84 : rn_oM rn_ms rn_q84 = true := by decide +kernel
theorem rn_k85 : rn_oM rn_ms rn_q85 = true := by decide +kernel
theorem rn_k86 : rn_oM rn_ms rn_q86 = true := by decide +kernel
theorem rn_k87 : rn_oM rn_ms rn_q87 = true := by decide +kernel
theorem rn_k88 : rn_oM rn_ms rn_q88 = true := by decide +kernel
theorem rn_k89 : rn_oM rn_ms rn_q89 = true := by decide +kernel
theorem rn_k90 : rn_oM rn_ms rn_q90 = true := by decide +kernel
theorem rn_k91 : rn_oM rn_ms rn_q91 = true := by decide +kernel
theorem rn_k92 : rn_oM rn_ms rn_q92 = true := by decide +kernel
theorem rn_k93 : rn_oM rn_ms rn_q93 = true := by decide +kernel
theorem rn_k94 : rn_oM rn_ms rn_q94 = true := by decide +kernel
theorem rn_k95 : rn_oM rn_ms rn_q95 = true := by decide +kernel
theorem rn_k96 : rn_oM rn_ms rn_q96 = true := by decide +kernel
theorem rn_k97 : rn_oM rn_ms rn_q97 = true := by decide +kernel
theorem rn_k98 : rn_oM rn_ms rn_q98 = true := by decide +kernel
theorem rn_k99 : rn_oM rn_ms rn_q99 = true := by decide +kernel
theorem rn_k100 : rn_oM rn_ms rn_q100 = true := by decide +kernel
theorem rn_k101 : rn_oM rn_ms rn_q101 = true := by decide +kernel
theorem rn_k102 : rn_oM rn_ms rn_q102 = true := by decide +kernel
theorem rn_k103 : rn_oM rn_ms rn_q103 = true := by decide +kernel
theorem rn_k104 : rn_oM rn_ms rn_q104 = true := by decide +kernel
theorem rn_k105 : rn_oM rn_ms rn_q105 = true := by decide +kernel
theorem rn_k106 : rn_oM rn_ms rn_q106 = true := by decide +kernel
theorem rn_k107 : rn_oM rn_ms rn_q107 = true := by decide +kernel
theorem rn_k108 : rn_oM rn_ms rn_q108 = true := by decide +kernel
theorem rn_k109 : rn_oM rn_ms rn_q109 = true := by decide +kernel
theorem rn_k110 : rn_oM rn_ms rn_q110 = true := by decide +kernel
theorem rn_k111 : rn_oM rn_ms rn_q111 = true := by decide +kernel
theorem rn_k112 : rn_oM rn_ms rn_q112 = true := by decide +kernel
theorem rn_k113 : rn_oM rn_ms rn_q113 = true := by decide +kernel
theorem rn_k114 : rn_oM rn_ms rn_q114 = true := by decide +kernel
theorem rn_k115 : rn_oM rn_ms rn_q115 = true := by decide +kernel
theorem rn_k116 : rn_oM rn_ms rn_q116 = true := by decide +kernel
theorem rn_k117 : rn_oM rn_ms rn_q117 = true := by decide +kernel
theorem rn_k118 : rn_oM rn_ms rn_q118 = true := by decide +kernel
theorem rn_k119 : rn_oM rn_ms rn_q119 = true := by decide +kernel
theorem rn_k120 : rn_oM rn_ms rn_q120 = true := by decide +kernel
theorem rn_k121 : rn_oM rn_ms rn_q121 = true := by decide +kernel
theorem rn_k122 : rn_oM rn_ms rn_q122 = true := by decide +kernel
theorem rn_k123 : rn_oM rn_ms rn_q123 = true := by decide +kernel
theorem rn_k124 : rn_oM rn_ms rn_q124 = true := by decide +kernel
theorem rn_k125 : rn_oM rn_ms rn_q125 = true := by decide +kernel
theorem rn_k126 : rn_oM rn_ms rn_q126 = true := by decide +kernel
theorem rn_k127 : rn_oM rn_ms rn_q127 = true := by decide +kernel
theorem rn_k128 : rn_oM rn_ms rn_q128 = true := by decide +kernel
theorem rn_k129 : rn_oM rn_ms rn_q129 = true := by decide +kernel
theorem rn_k130 : rn_oM rn_ms rn_q130 = true := by decide +kernel
theorem rn_k131 : rn_oM rn_ms rn_q131 = true := by decide +kernel
theorem rn_k132 : rn_oM rn_ms rn_q132 = true := by decide +kernel
theorem rn_k133 : rn_oM rn_ms rn_q133 = true := by decide +kernel
theorem rn_k134 : rn_oM rn_ms rn_q134 = true := by decide +kernel
theorem rn_k135 : rn_oM rn_ms rn_q135 = true := by decide +kernel
theorem rn_k136 : rn_oM rn_ms rn_q136 = true := by decide +kernel
theorem rn_k137 : rn_oM rn_ms rn_q137 = true := by decide +kernel
theorem rn_k138 : rn_oM rn_ms rn_q138 = true := by decide +kernel
theorem rn_k139 : rn_oM rn_ms rn_q139 = true := by decide +kernel
theorem rn_k140 : rn_oM rn_ms rn_q140 = true := by decide +kernel
theorem rn_k141 : rn_oM rn_ms rn_q141 = true := by decide +kernel
theorem rn_k142 : rn_oM rn_ms rn_q142 = true := by decide +kernel
theorem rn_k143 : rn_oM rn_ms rn_q143 = true := by decide +kernel
theorem rn_k144 : rn_oM rn_ms rn_q144 = true := by decide +kernel
theorem rn_k145 : rn_oM rn_ms rn_q145 = true := by decide +kernel
theorem rn_k146 : rn_oM rn_ms rn_q146 = true := by decide +kernel
theorem rn_k147 : rn_oM rn_ms rn_q147 = true := by decide +kernel
theorem rn_k148 : rn_oM rn_ms rn_q148 = true := by decide +kernel
theorem rn_k149 : rn_oM rn_ms rn_q149 = true := by decide +kernel
theorem rn_k150 : rn_oM rn_ms rn_q150 = true := by decide +kernel
theorem rn_k151 : rn_oM rn_ms rn_q151 = true := by decide +kernel
theorem rn_k152 : rn_oM rn_ms rn_q152 = true := by decide +kernel
theorem rn_k153 : rn_oM rn_ms rn_q153 = true := by decide +kernel
theorem rn_k154 : rn_oM rn_ms rn_q154 = true := by decide +kernel
theorem rn_k155 : rn_oM rn_ms rn_q155 = true := by decide +kernel
theorem rn_k156 : rn_oM rn_ms rn_q156 = true := by decide +kernel
theorem rn_k157 : rn_oM rn_ms rn_q157 = true := by decide +kernel
theorem rn_k158 : rn_oM rn_ms rn_q158 = true := by decide +kernel
theorem rn_k159 : rn_oM rn_ms rn_q159 = true := by decide +kernel
theorem rn_k160 : rn_oM rn_ms rn_q160 = true := by decide +kernel
theorem rn_k161 : rn_oM rn_ms rn_q161 = true := by decide +kernel
theorem rn_k162 : rn_oM rn_ms rn_q162 = true := by decide +kernel
theorem rn_k163 : rn_oM rn_ms rn_q163 = true := by decide +kernel
theorem rn_k164 : rn_oM rn_ms rn_q164 = true := by decide +kernel
theorem rn_k165_0 : rn_oT rn_ms rn_q165.1 rn_q165.2.1 rn_q165.2.2.1 rn_t165 rn_q165.2.2.2.2.2.2.1 rn_q165.2.2.2.2.2.2.2.1 rn_q165.2.2.2.2.2.2.2.2 0 rn_t165_0 = true := by decide +kernel
theorem rn_k165_1 : rn_oT rn_ms rn_q165.1 rn_q165.2.1 rn_q165.2.2.1 rn_t165 rn_q165.2.2.2.2.2.2.1 rn_q165.2.2.2.2.2.2.2.1 rn_q165.2.2.2.2.2.2.2.2 60 rn_t165_1 = true := by decide +kernel
theorem rn_k165_2 : rn_oT rn_ms rn_q165.1 rn_q165.2.1 rn_q165.2.2.1 rn_t165 rn_q165.2.2.2.2.2.2.1 rn_q165.2.2.2.2.2.2.2.1 rn_q165.2.2.2.2.2.2.2.2 120 rn_t165_2 = true := by decide +kernel
theorem rn_k165_3 : rn_oT rn_ms rn_q165.1 rn_q165.2.1 rn_q165.2.2.1 rn_t165 rn_q165.2.2.2.2.2.2.1 rn_q165.2.2.2.2.2.2.2.1 rn_q165.2.2.2.2.2.2.2.2 180 rn_t165_3 = true := by decide +kernel
theorem rn_k165_4 : rn_oT rn_ms rn_q165.1 rn_q165.2.1 rn_q165.2.2.1 rn_t165 rn_q165.2.2.2.2.2.2.1 rn_q165.2.2.2.2.2.2.2.1 rn_q165.2.2.2.2.2.2.2.2 240 rn_t165_4 = true := by decide +kernel
theorem rn_k165_5 : rn_oT rn_ms rn_q165.1 rn_q165.2.1 rn_q165.2.2.1 rn_t165 rn_q165.2.2.2.2.2.2.1 rn_q165.2.2.2.2.2.2.2.1 rn_q165.2.2.2.2.2.2.2.2 300 rn_t165_5 = true := by decide +kernel
theorem rn_k165_6 : rn_oT rn_ms rn_q165.1 rn_q165.2.1 rn_q165.2.2.1 rn_t165 rn_q165.2.2.2.2.2.2.1 rn_q165.2.2.2.2.2.2.2.1 rn_q165.2.2.2.2.2.2.2.2 360 rn_t165_6 = true := by decide +kernel
theorem rn_k165_7 : rn_oT rn_ms rn_q165.1 rn_q165.2.1 rn_q165.2.2.1 rn_t165 rn_q165.2.2.2.2.2.2.1 rn_q165.2.2.2.2.2.2.2.1 rn_q165.2.2.2.2.2.2.2.2 420 rn_t165_7 = true := by decide +kernel
theorem rn_k165_8 : rn_oT rn_ms rn_q165.1 rn_q165.2.1 rn_q165.2.2.1 rn_t165 rn_q165.2.2.2.2.2.2.1 rn_q165.2.2.2.2.2.2.2.1 rn_q165.2.2.2.2.2.2.2.2 480 rn_t165_8 = true := by decide +kernel
theorem rn_k165_9 : rn_oT rn_ms rn_q165.1 rn_q165.2.1 rn_q165.2.2.1 rn_t165 rn_q165.2.2.2.2.2.2.1 rn_q165.2.2.2.2.2.2.2.1 rn_q165.2.2.2.2.2.2.2.2 540 rn_t165_9 = true := by decide +kernel
theorem rn_k165_r : ((!(Nat.beq rn_q165.2.2.2.2.2.2.2.2 1) || decide (rn_q165.1.name = "<init>")) && plainName rn_q165.1.cls && rn_at rn_t165 0 0) = true := by decide +kernel
theorem rn_k165 : rn_oM rn_ms rn_q165 = true := by
  have h : rn_oT rn_ms rn_q165.1 rn_q165.2.1 rn_q165.2.2.1 rn_t165 rn_q165.2.2.2.2.2.2.1 rn_q165.2.2.2.2.2.2.2.1 rn_q165.2.2.2.2.2.2.2.2 0 rn_t165 = true := (rn_oT_app _ _ _ rn_k165_0 (rn_oT_app _ _ _ rn_k165_1 (rn_oT_app _ _ _ rn_k165_2 (rn_oT_app _ _ _ rn_k165_3 (rn_oT_app _ _ _ rn_k165_4 (rn_oT_app _ _ _ rn_k165_5 (rn_oT_app _ _ _ rn_k165_6 (rn_oT_app _ _ _ rn_k165_7 (rn_oT_app _ _ _ rn_k165_8 rn_k165_9)))))))))
  have h2 := rn_k165_r
  rw [Bool.and_eq_true, Bool.and_eq_true] at h2
  show (rn_oT rn_ms rn_q165.1 rn_q165.2.1 rn_q165.2.2.1 rn_t165 rn_q165.2.2.2.2.2.2.1 rn_q165.2.2.2.2.2.2.2.1 rn_q165.2.2.2.2.2.2.2.2 0 rn_t165 && _ && _ && _) = true
  rw [h, Bool.true_and, Bool.and_eq_true, Bool.and_eq_true]
  exact h2
theorem rn_kk0 : ∀ x ∈ rn_ml0, rn_oM rn_ms x = true := List.forall_mem_cons.mpr ⟨rn_k0, List.forall_mem_cons.mpr ⟨rn_k1, List.forall_mem_cons.mpr ⟨rn_k2, List.forall_mem_cons.mpr ⟨rn_k3, List.forall_mem_cons.mpr ⟨rn_k4, List.forall_mem_cons.mpr ⟨rn_k5, List.forall_mem_cons.mpr ⟨rn_k6, List.forall_mem_cons.mpr ⟨rn_k7, List.forall_mem_cons.mpr ⟨rn_k8, List.forall_mem_cons.mpr ⟨rn_k9, List.forall_mem_cons.mpr ⟨rn_k10, List.forall_mem_cons.mpr ⟨rn_k11, List.forall_mem_cons.mpr ⟨rn_k12, List.forall_mem_cons.mpr ⟨rn_k13, List.forall_mem_cons.mpr ⟨rn_k14, List.forall_mem_cons.mpr ⟨rn_k15, List.forall_mem_cons.mpr ⟨rn_k16, List.forall_mem_cons.mpr ⟨rn_k17, List.forall_mem_cons.mpr ⟨rn_k18, List.forall_mem_cons.mpr ⟨rn_k19, fun _ h => absurd h List.not_mem_nil⟩⟩⟩⟩⟩⟩⟩⟩⟩⟩⟩⟩⟩⟩⟩⟩⟩⟩⟩⟩
theorem rn_kk1 : ∀ x ∈ rn_ml1, rn_oM rn_ms x = true := List.forall_mem_cons.mpr ⟨rn_k20, List.forall_mem_cons.mpr ⟨rn_k21, List.forall_mem_cons.mpr ⟨rn_k22, List.forall_mem_cons.mpr ⟨rn_k23, List.forall_mem_cons.mpr ⟨rn_k24, List.forall_mem_cons.mpr ⟨rn_k25, List.forall_mem_cons.mpr ⟨rn_k26, List.forall_mem_cons.mpr ⟨rn_k27, List.forall_mem_cons.mpr ⟨rn_k28, List.forall_mem_cons.mpr ⟨rn_k29, List.forall_mem_cons.mpr ⟨rn_k30, List.forall_mem_cons.mpr ⟨rn_k31, List.forall_mem_cons.mpr ⟨rn_k32, List.forall_mem_cons.mpr ⟨rn_k33, List.forall_mem_cons.mpr ⟨rn_k34, List.forall_mem_cons.mpr ⟨rn_k35, List.forall_mem_cons.mpr ⟨rn_k36, List.forall_mem_cons.mpr ⟨rn_k37, List.forall_mem_cons.mpr ⟨rn_k38, List.forall_mem_cons.mpr ⟨rn_k39, fun _ h => absurd h List.not_mem_nil⟩⟩⟩⟩⟩⟩⟩⟩⟩⟩⟩⟩⟩⟩⟩⟩⟩⟩⟩⟩
theorem rn_kk2 : ∀ x ∈ rn_ml2, rn_oM rn_ms x = true := List.forall_mem_cons.mpr ⟨rn_k40, List.forall_mem_cons.mpr ⟨rn_k41, List.forall_mem_cons.mpr ⟨rn_k42, List.forall_mem_cons.mpr ⟨rn_k43, List.forall_mem_cons.mpr ⟨rn_k44, List.forall_mem_cons.mpr ⟨rn_k45, List.forall_mem_cons.mpr ⟨rn_k46, List.forall_mem_cons.mpr ⟨rn_k47, List.forall_mem_cons.mpr ⟨rn_k48, List.forall_mem_cons.mpr ⟨rn_k49, List.forall_mem_cons.mpr ⟨rn_k50, List.forall_mem_cons.mpr ⟨rn_k51, List.forall_mem_cons.mpr ⟨rn_k52, List.forall_mem_cons.mpr ⟨rn_k53, List.forall_mem_cons.mpr ⟨rn_k54, List.forall_mem_cons.mpr ⟨rn_k55, List.forall_mem_cons.mpr ⟨rn_k56, List.forall_mem_cons.mpr ⟨rn_k57, List.forall_mem_cons.mpr ⟨rn_k58, List.forall_mem_cons.mpr ⟨rn_k59, fun _ h => absurd h List.not_mem_nil⟩⟩⟩⟩⟩⟩⟩⟩⟩⟩⟩⟩⟩⟩⟩⟩⟩⟩⟩⟩
theorem rn_kk3 : ∀ x ∈ rn_ml3, rn_oM rn_ms x = true := List.forall_mem_cons.mpr ⟨rn_k60, List.forall_mem_cons.mpr ⟨rn_k61, List.forall_mem_cons.mpr ⟨rn_k62, List.forall_mem_cons.mpr ⟨rn_k63, List.forall_mem_cons.mpr ⟨rn_k64, List.forall_mem_cons.mpr ⟨rn_k65, List.forall_mem_cons.mpr ⟨rn_k66, List.forall_mem_cons.mpr ⟨rn_k67, List.forall_mem_cons.mpr ⟨rn_k68, List.forall_mem_cons.mpr ⟨rn_k69, List.forall_mem_cons.mpr ⟨rn_k70, List.forall_mem_cons.mpr ⟨rn_k71, List.forall_mem_cons.mpr ⟨rn_k72, List.forall_mem_cons.mpr ⟨rn_k73, List.forall_mem_cons.mpr ⟨rn_k74, List.forall_mem_cons.mpr ⟨rn_k75, List.forall_mem_cons.mpr ⟨rn_k76, List.forall_mem_cons.mpr ⟨rn_k77, List.forall_mem_cons.mpr ⟨rn_k78, List.forall_mem_cons.mpr ⟨rn_k79, fun _ h => absurd h List.not_mem_nil⟩⟩⟩⟩⟩⟩⟩⟩⟩⟩⟩⟩⟩⟩⟩⟩⟩⟩⟩⟩
theorem rn_kk4 : ∀ x ∈ rn_ml4, rn_oM rn_ms x = true := List.forall_mem_cons.mpr ⟨rn_k80, List.forall_mem_cons.mpr ⟨rn_k81, List.forall_mem_cons.mpr ⟨rn_k82, List.forall_mem_cons.mpr ⟨rn_k83, List.forall_mem_cons.mpr ⟨rn_k84, List.forall_mem_cons.mpr ⟨rn_k85, List.forall_mem_cons.mpr ⟨rn_k86, List.forall_mem_cons.mpr ⟨rn_k87, List.forall_mem_cons.mpr ⟨rn_k88, List.forall_mem_cons.mpr ⟨rn_k89, List.forall_mem_cons.mpr ⟨rn_k90, List.forall_mem_cons.mpr ⟨rn_k91, List.forall_mem_cons.mpr ⟨rn_k92, List.forall_mem_cons.mpr ⟨rn_k93, List.forall_mem_cons.mpr ⟨rn_k94, List.forall_mem_cons.mpr ⟨rn_k95, List.forall_mem_cons.mpr ⟨rn_k96, List.forall_mem_cons.mpr ⟨rn_k97, List.forall_mem_cons.mpr ⟨rn_k98, List.forall_mem_cons.mpr ⟨rn_k99, fun _ h => absurd h List.not_mem_nil⟩⟩⟩⟩⟩⟩⟩⟩⟩⟩⟩⟩⟩⟩⟩⟩⟩⟩⟩⟩
theorem rn_kk5 : ∀ x ∈ rn_ml5, rn_oM rn_ms x = true := List.forall_mem_cons.mpr ⟨rn_k100, List.forall_mem_cons.mpr ⟨rn_k101, List.forall_mem_cons.mpr ⟨rn_k102, List.forall_mem_cons.mpr ⟨rn_k103, List.forall_mem_cons.mpr ⟨rn_k104, List.forall_mem_cons.mpr ⟨rn_k105, List.forall_mem_cons.mpr ⟨rn_k106, List.forall_mem_cons.mpr ⟨rn_k107, List.forall_mem_cons.mpr ⟨rn_k108, List.forall_mem_cons.mpr ⟨rn_k109, List.forall_mem_cons.mpr ⟨rn_k110, List.forall_mem_cons.mpr ⟨rn_k111, List.forall_mem_cons.mpr ⟨rn_k112, List.forall_mem_cons.mpr ⟨rn_k113, List.forall_mem_cons.mpr ⟨rn_k114, List.forall_mem_cons.mpr ⟨rn_k115, List.forall_mem_cons.mpr ⟨rn_k116, List.forall_mem_cons.mpr ⟨rn_k117, List.forall_mem_cons.mpr ⟨rn_k118, List.forall_mem_cons.mpr ⟨rn_k119, fun _ h => absurd h List.not_mem_nil⟩⟩⟩⟩⟩⟩⟩⟩⟩⟩⟩⟩⟩⟩⟩⟩⟩⟩⟩⟩
theorem rn_kk6 : ∀ x ∈ rn_ml6, rn_oM rn_ms x = true := List.forall_mem_cons.mpr ⟨rn_k120, List.forall_mem_cons.mpr ⟨rn_k121, List.forall_mem_cons.mpr ⟨rn_k122, List.forall_mem_cons.mpr ⟨rn_k123, List.forall_mem_cons.mpr ⟨rn_k124, List.forall_mem_cons.mpr ⟨rn_k125, List.forall_mem_cons.mpr ⟨rn_k126, List.forall_mem_cons.mpr ⟨rn_k127, List.forall_mem_cons.mpr ⟨rn_k128, List.forall_mem_cons.mpr ⟨rn_k129, List.forall_mem_cons.mpr ⟨rn_k130, List.forall_mem_cons.mpr ⟨rn_k131, List.forall_mem_cons.mpr ⟨rn_k132, List.forall_mem_cons.mpr ⟨rn_k133, List.forall_mem_cons.mpr ⟨rn_k134, List.forall_mem_cons.mpr ⟨rn_k135, List.forall_mem_cons.mpr ⟨rn_k136, List.forall_mem_cons.mpr ⟨rn_k137, List.forall_mem_cons.mpr ⟨rn_k138, List.forall_mem_cons.mpr ⟨rn_k139, fun _ h => absurd h List.not_mem_nil⟩⟩⟩⟩⟩⟩⟩⟩⟩⟩⟩⟩⟩⟩⟩⟩⟩⟩⟩⟩
theorem rn_kk7 : ∀ x ∈ rn_ml7, rn_oM rn_ms x = true := List.forall_mem_cons.mpr ⟨rn_k140, List.forall_mem_cons.mpr ⟨rn_k141, List.forall_mem_cons.mpr ⟨rn_k142, List.forall_mem_cons.mpr ⟨rn_k143, List.forall_mem_cons.mpr ⟨rn_k144, List.forall_mem_cons.mpr ⟨rn_k145, List.forall_mem_cons.mpr ⟨rn_k146, List.forall_mem_cons.mpr ⟨rn_k147, List.forall_mem_cons.mpr ⟨rn_k148, List.forall_mem_cons.mpr ⟨rn_k149, List.forall_mem_cons.mpr ⟨rn_k150, List.forall_mem_cons.mpr ⟨rn_k151, List.forall_mem_cons.mpr ⟨rn_k152, List.forall_mem_cons.mpr ⟨rn_k153, List.forall_mem_cons.mpr ⟨rn_k154, List.forall_mem_cons.mpr ⟨rn_k155, List.forall_mem_cons.mpr ⟨rn_k156, List.forall_mem_cons.mpr ⟨rn_k157, List.forall_mem_cons.mpr ⟨rn_k158, List.forall_mem_cons.mpr ⟨rn_k159, fun _ h => absurd h List.not_mem_nil⟩⟩⟩⟩⟩⟩⟩⟩⟩⟩⟩⟩⟩⟩⟩⟩⟩⟩⟩⟩
theorem rn_kk8 : ∀ x ∈ rn_ml8, rn_oM rn_ms x = true := List.forall_mem_cons.mpr ⟨rn_k160, List.forall_mem_cons.mpr ⟨rn_k161, List.forall_mem_cons.mpr ⟨rn_k162, List.forall_mem_cons.mpr ⟨rn_k163, List.forall_mem_cons.mpr ⟨rn_k164, List.forall_mem_cons.mpr ⟨rn_k165, fun _ h => absurd h List.not_mem_nil⟩⟩⟩⟩⟩⟩
theorem rn_hms : ∀ (y : Nat) (q : rn_M), rn_ms y = some q → rn_oM rn_ms q = true := by
  intro y q h
  have hm : q ∈ rn_ml := List.mem_of_getElem? h
  have hall : ∀ x ∈ rn_ml, rn_oM rn_ms x = true := List.forall_mem_append.mpr ⟨rn_kk0, List.forall_mem_append.mpr ⟨rn_kk1, List.forall_mem_append.mpr ⟨rn_kk2, List.forall_mem_append.mpr ⟨rn_kk3, List.forall_mem_append.mpr ⟨rn_kk4, List.forall_mem_append.mpr ⟨rn_kk5, List.forall_mem_append.mpr ⟨rn_kk6, List.forall_mem_append.mpr ⟨rn_kk7, rn_kk8⟩⟩⟩⟩⟩⟩⟩⟩
  exact hall q hm
end
section
/-! THE CLAIM OUT OF ONE WALK OF THE LAW'S BODY. Your part is whole_start (and what it stands on); all else here is the same for every law, but numbers. -/
def R_law : String := "RecordNichesLaw"
def lw_P (b : Addr) (xs : List Int32) (args : Array Value) (s : State) : Prop := args = #[.ref b] ∧ s.IntsAt b xs ∧ xs.length ≤ 2560 ∧ (Jvm.Cond.and given_1 narrow_1).before args s = true
def lw_Q (_ : Array Value) (s : State) (o : Outcome) (t : State) : Prop := o = .returned (some (.int 1)) ∧ Framed s o t [] 600000 7302250
def lw_Z (below : List Frame) (a : Array Value) (s : State) : State → Prop := fun t => ∃ o, t.status = .running ∧ Ended t below o ∧ lw_Q a s o t
/-- the law's own end, with 1 on the stack, nothing written that was there before, its room as the claim has it -/
theorem lw_ret {p : Program} {l : Launch} {e : Env} {s : State} {m : MethodId} {below : List Frame} {meth : Method} {c : Code} {b : Nat} (hx : p.tables.exec = Jvm.exec) (hb : c.code = code) (hr : meth.sig.returnType = ret) (hlocks : meth.locks = false) {pc : Nat} {H : Heap} {ls : Array Slot} (hdg : decode code pc = .ok (.ireturn, 1)) : W p l e room_1 s m #[Value.ref b] below meth c H [] 600000 7302250 (lw_Z below #[Value.ref b] s) (F0 m pc ls [.int 1]) := by
  intro T hT X
  obtain ⟨fs, hret, hrun, hended, hW, hframe⟩ := X.leave (v := some (.int 1)) (hlocks := hlocks) (fun h => by rw [hr] at h; cases h)
  have hmeth' : T.vm.method? m = some meth := X.method'
  refine ⟨T.setFrames fs, ?_, .returned (some (.int 1)), hrun, hended, rfl, ⟨_, rfl⟩, hW, hframe⟩
  jvm_step X.here [X.here.top, hx, hb, hdg, hmeth', hr, ret, narrow_b1]
  (try refine ⟨rfl, ?_⟩); (try refine ⟨rfl, ?_⟩)
  first | (intro acts; rw [hret _ acts rfl rfl rfl]) | rw [hret _ _ rfl rfl rfl]
  exact Steps.refl _
/-- what holds at the law's entry: the machine, the code, the tables' words (any of lw_tbl by 'hts w (by decide +kernel)'), the script of L ints xs at the cell b, what the Statement gives of the start (any of its parts by flat_of_before) -/
def lw_At (p : Program) (s : State) (m : MethodId) (meth : Method) (c : Code) (b L : Nat) (xs : Nat → Int32) : Prop :=
  p.tables.exec = Jvm.exec ∧ c.code = code ∧ meth.sig.returnType = ret ∧ c.maxLocals = 4 ∧ s.vm.findClass R_law = some m.cls ∧ (∀ w ∈ lw_tbl, w.before #[Value.ref b] s = true) ∧ va_X b L xs s s.heap ∧ b < s.heap.size ∧ meth.locks = false ∧ (Jvm.Cond.and given_1 narrow_1).before #[Value.ref b] s = true
theorem rn_gw_sub : ∀ w ∈ rn_gw, w ∈ lw_tbl := fun w h => (List.mem_filter.mp h).1
theorem rn_is0 : Cond.instantiable RX0 2 ∈ lw_tbl := by decide +kernel
theorem rn_is1 : Cond.instantiable RX1 5 ∈ lw_tbl := by decide +kernel
theorem rn_is3 : Cond.instantiable RX3 18 ∈ lw_tbl := by decide +kernel
theorem rn_is4 : Cond.instantiable RX4 6 ∈ lw_tbl := by decide +kernel
theorem rn_is5 : Cond.instantiable RX5 2 ∈ lw_tbl := by decide +kernel
theorem rn_is6 : Cond.instantiable RX6 2 ∈ lw_tbl := by decide +kernel
theorem rn_is7 : Cond.instantiable RX7 16 ∈ lw_tbl := by decide +kernel
theorem rn_is8 : Cond.instantiable RX8 6 ∈ lw_tbl := by decide +kernel
theorem rn_is9 : Cond.instantiable RX9 43 ∈ lw_tbl := by decide +kernel
theorem rn_is : ∀ (c : Nat) (q : vw_C), rn_cls[c]? = some q → ∃ n, Cond.instantiable q.1 n ∈ lw_tbl := by
  intro c q h
  match c, h with
  | 0, h => cases h; exact ⟨_, rn_is0⟩
  | 1, h => cases h; exact ⟨_, rn_is1⟩
  | 2, h => cases h; exact ⟨_, rn_is0⟩
  | 3, h => cases h; exact ⟨_, rn_is3⟩
  | 4, h => cases h; exact ⟨_, rn_is4⟩
  | 5, h => cases h; exact ⟨_, rn_is5⟩
  | 6, h => cases h; exact ⟨_, rn_is6⟩
  | 7, h => cases h; exact ⟨_, rn_is7⟩
  | 8, h => cases h; exact ⟨_, rn_is8⟩
  | 9, h => cases h; exact ⟨_, rn_is9⟩
  | c + 10, h => simp [rn_cls] at h
def rn_fw (ty : FieldType) : Cond := match ty with
  | .object C => .arrayOver (.object C)
  | ty => .arrayClass ty
theorem rn_fw_in : ∀ ty ∈ rn_ft, rn_fw ty ∈ lw_tbl := by decide +kernel
theorem rn_nest_in : ∀ x ∈ rn_nest, Cond.methodLinkNest x.1 x.2.1 x.2.2.1 x.2.2.2 ∈ lw_tbl := by decide +kernel
theorem rn_fk_prim {ty : FieldType} {A : Array Value} {s : State} (hn : ∀ C, ty ≠ .object C) (h : (Cond.arrayClass ty).before A s = true) : ∃ cA : ClassId, ArrOfT s cA ty ∧ va_RA s cA ty := by
  obtain ⟨cA, kA, comp, h1, h2, h3⟩ := Cond.arrayClass_spec h
  refine ⟨cA, fun n z => ⟨fun k h => (by cases h), kA, h2, comp, h3⟩, ?_⟩
  cases ty with
  | object C => exact absurd rfl (hn C)
  | _ => exact h1
theorem rn_fk {s : State} {A : Array Value} (hts : ∀ w ∈ lw_tbl, w.before A s = true) {ty : FieldType} (h : ty ∈ rn_ft) : ∃ cA : ClassId, ArrOfT s cA ty ∧ va_RA s cA ty := by
  have hw := hts _ (rn_fw_in ty h)
  cases ty with
  | object C =>
    obtain ⟨comp, c, k, h1, h2, h3, h4, h5⟩ := Cond.arrayOver_spec hw
    exact ⟨c, fun n z => ⟨fun k h => (by cases h), k, h3, comp, h4⟩, k, comp, h3, h4, h1, h5⟩
  | _ => exact rn_fk_prim (fun C h => by cases h) hw
theorem rn_Kn_of {s : State} {A : Array Value} (hts : ∀ w ∈ lw_tbl, w.before A s = true) : ∃ (D : va_G) (cA : Nat → ClassId), rn_Kn D cA s := by
  have h1 : ∀ c : Nat, ∃ x : ClassId × (Nat → Nat), ∀ q : vw_C, rn_cls[c]? = some q → u_Kn s q.1 q.2.1 q.2.2 x.1 x.2 := by
    intro c
    cases hc : rn_cls[c]? with
    | none => exact ⟨(0, fun _ => 0), fun q h => by cases h⟩
    | some q =>
      obtain ⟨n, hi⟩ := rn_is c q hc
      obtain ⟨cC, iS, hk⟩ := u_known (C := q.1) (T := q.2.1) (N := q.2.2) (n := n) hts (fun w hw => rn_gw_sub w ((rn_cf_all c q hc).1 w hw)) (hts _ hi)
      exact ⟨(cC, iS), fun q2 h => by cases h; exact hk⟩
  have h2 : ∀ t : Nat, ∃ cA : ClassId, ∀ ty, rn_ft[t]? = some ty → ArrOfT s cA ty ∧ va_RA s cA ty := by
    intro t
    cases ht : rn_ft[t]? with
    | none => exact ⟨0, fun q h => by cases h⟩
    | some ty =>
      obtain ⟨cA, h3⟩ := rn_fk hts (List.mem_of_getElem? ht)
      exact ⟨cA, fun q h => by cases h; exact h3⟩
  obtain ⟨f, hf⟩ := Classical.axiomOfChoice h1
  obtain ⟨g, hg⟩ := Classical.axiomOfChoice h2
  refine ⟨(fun c => (f c).1, fun c => (f c).2), g, ⟨fun c q hq => hf c q hq, fun k q hq => ?_⟩, fun x hx => va_Nw.of rfl (hts _ (rn_nest_in x hx)), fun C hC => va_AO.of (hts _ (rn_fw_in _ hC))⟩
  unfold rn_tys at hq
  rw [List.getElem?_map] at hq
  cases hr : (List.range rn_ft.length)[k]? with
  | none => rw [hr] at hq; cases hq
  | some t =>
    rw [hr] at hq
    have ht : t < rn_ft.length := List.mem_range.mp (List.mem_of_getElem? hr)
    cases hq
    refine hg t _ ?_
    show rn_ft[t]? = some (rn_ft.getD t FieldType.int)
    rw [List.getD_eq_getElem?_getD, List.getElem?_eq_getElem ht]
    rfl
def rn_h0 : rn_H := fun _ => .inr (999999, [])
/-- the law, from its entry, out of a run of the abstract machine that answers 1 -/
theorem rn_law {p : Program} {e : Env} {s : State} {m : MethodId} {below : List Frame} {meth : Method} {c : Code} (l : Launch) {b L : Nat} {xs : Nat → Int32} (C0 : lw_At p s m meth c b L xs) {f y : Nat} {q : rn_M} (hy : rn_ms y = some q) (hq1 : q.1.cls = R_law) (hq2 : q.2.1 = code) (hq3 : q.2.2.1 = 4) (hq4 : q.2.2.2.1 = some .boolean) (hq5 : Nat.ble q.2.2.2.2.2.2.1 12 = true) (hq6 : Nat.ble q.2.2.2.2.2.2.2.1 494 = true) (hqn : ¬ q.1.name = "<init>") {N1 sl1 : Nat} {h1 : rn_H} (hr : rn_x (L, xs) rn_dv rn_ms f y (0, [(0, .ref 1000000)], [], 0, 0, rn_h0) = some (some (.int 1), N1, sl1, h1)) (hN : N1 ≤ 600000) (hsl : sl1 ≤ 7302250) : W p l e room_1 s m #[Value.ref b] below meth c s.heap [] 0 0 (lw_Z below #[Value.ref b] s) (entryFrame m ([Value.ref b] : List Value).toArray 4) := by
  obtain ⟨hx, hb, hrt, hml, hown, hts, hX, hbl, hlocks, hgv⟩ := id C0
  obtain ⟨D, cA, hKn⟩ := rn_Kn_of hts
  have hl := lv_entry ([.ref b]) (n := 4) (Nat.le_of_ble_eq_true rfl)
  rw [lg_entry_eq]
  generalize (lg_sl ([.ref b]) ++ List.replicate (4 - (lg_sl ([.ref b])).length) Slot.unset).toArray = ls at hl ⊢
  have hl : lv_has ls q.2.2.1 (rn_vl (fun _ => b) [(0, .ref 1000000)]) := by rw [hq3]; exact hl
  have hM := rn_hms y q hy
  unfold rn_oM at hM
  simp only [Bool.and_eq_true] at hM
  obtain ⟨e0, g1, g2⟩ := rn_at_some hM.2
  have hpc : e0.1 = 0 := by omega
  have hbA : ¬ (fun q : Nat => s.heap.size ≤ q) b := Nat.not_le.mpr hbl
  have hwl : rn_wl cA (fun _ => b) 0 rn_h0 = [] := rfl
  have := rn_snd (X := (L, xs)) rn_hms (D := D) (cA := cA) (b := b) f y 0 _ _ _ _ _ _ _ _ _ hr q hy (p := p) (l := l) (e := e) (R := room_1) (s := s) (m := m) (args := #[Value.ref b]) (below := below) (meth := meth) (c := c) (Q := lw_Z below #[Value.ref b] s) hx (hb.trans hq2.symm) (hml.trans hq3.symm) (fun w hw => hts w (rn_gw_sub w hw)) (by rw [hq1]; exact hown) (fun g => absurd g hqn) hKn hX hbl (Nat.le_of_ble_eq_true hq5) (Nat.le_of_ble_eq_true hq6) (ad := fun _ => b) (A := fun q : Nat => s.heap.size ≤ q) (H := s.heap) (locs := []) (ls := ls) (cells := 0) (slots := 0) (by rw [hwl]; exact fun k q h => by simp at h) (by rw [hwl]; exact ⟨fun i j p q h => by simp at h, fun k q h => by simp at h⟩) va_S.rf (fun _ h => h) hbA rfl hl (fun q hq => by
      rw [List.mem_singleton] at hq
      subst hq
      exact rn_cv_ref.mpr (Or.inr rfl)) (fun w hw => by cases hw) ⟨fun k hk => absurd hk (Nat.not_lt_zero k), rfl, Nat.zero_le _⟩ (by show 0 + (N1 - 0) ≤ 600000; omega) (by show 0 + (sl1 - 0) ≤ 7302250; omega) (fun ad2 H1 locs1 ls1 e1 st1 k0 k1 k2 k3 k4 k5 k6 k7 => by
        rcases rn_rt_inv k6 with ⟨-, -, -, h⟩ | ⟨x, hi, -, rfl, hv⟩ | ⟨x, -, -, -, h⟩ | ⟨x, C, -, -, -, h⟩
        · cases h
        · cases hv
          rw [hi] at k7
          refine va_forget (fun q hq => k3.2.2 q hq) ?_
          refine W.widen (k := 600000) (n := 7302250) (by omega) (by omega) ?_
          rw [hq2] at k7
          exact lw_ret hx hb hrt hlocks k7
        · cases h
        · cases h) e0 g1
  rw [hpc] at this
  exact this
end
section
/-! runs of the abstract machine, row by row -/
theorem rn_x_up {X : rn_X} {dv : Nat → List Value} {ms : Nat → Option rn_M} : ∀ (f y : Nat) (s : rn_S) (out : Option Value × Nat × Nat × rn_H), rn_x X dv ms f y s = some out → ∀ g, f ≤ g → rn_x X dv ms g y s = some out := by
  intro f
  induction f with
  | zero => intro y s out hr; cases hr
  | succ f ih =>
    intro y s out hr g hg
    obtain ⟨g, rfl⟩ : ∃ g2, g = g2 + 1 := ⟨g - 1, by omega⟩
    obtain ⟨k, lv, st, N, sl, h⟩ := s
    unfold rn_x at hr ⊢
    cases hq : ms y with
    | none => rw [hq] at hr; cases hr
    | some q =>
      obtain ⟨nm, b, mL, rt, T, n, fr, lo, ini⟩ := q
      rw [hq] at hr
      simp only at hr ⊢
      cases he : T[k]? with
      | none => rw [he] at hr; cases hr
      | some e =>
        rw [he] at hr
        simp only at hr ⊢
        cases hs : rn_sp X dv e (k, rn_kp e.2.2.1 lv, st, N, sl, h) with
        | some s2 =>
          rw [hs] at hr
          simp only at hr ⊢
          exact ih _ _ _ hr g (by omega)
        | none =>
          rw [hs] at hr
          simp only at hr ⊢
          cases hv : rn_rt e.2.1 rt st with
          | some v =>
            rw [hv] at hr
            simp only at hr ⊢
            exact hr
          | none =>
            rw [hv] at hr
            simp only at hr ⊢
            cases hc : rn_cc e.2.1 e.2.2.2 with
            | none => rw [hc] at hr; cases hr
            | some zc =>
              obtain ⟨z, bb, c⟩ := zc
              rw [hc] at hr
              simp only at hr ⊢
              cases hz : ms z with
              | none => rw [hz] at hr; cases hr
              | some q2 =>
                obtain ⟨nm2, b2, mL2, rt2, T2, n2, fr2, lo2, ini2⟩ := q2
                rw [hz] at hr
                simp only at hr ⊢
                split at hr
                · cases hr
                · next hck =>
                  split at hr
                  · cases hr
                  · next v2 N2 sl2 h2 hzr =>
                    simp only [ih _ _ _ hzr g (by omega)]
                    exact ih _ _ _ hr g (by omega)
/-- the run from a state of method y comes to an end with that -/
def rn_rv (X : rn_X) (y : Nat) (s : rn_S) (out : Option Value × Nat × Nat × rn_H) : Prop := ∃ f, rn_x X rn_dv rn_ms f y s = some out
abbrev rn_tb (q : rn_M) : List rn_I := q.2.2.2.2.1
def rn_g1 (X : rn_X) (T : List rn_I) (s : rn_S) : Option rn_S := match T[s.1]? with
  | some e => rn_sp X rn_dv e (s.1, rn_kp e.2.2.1 s.2.1, s.2.2)
  | none => none
def rn_go (X : rn_X) (T : List rn_I) : Nat → rn_S → Option rn_S
  | 0, s => some s
  | n + 1, s => match rn_g1 X T s with
    | some s2 => rn_go X T n s2
    | none => none
section EV
variable {X : rn_X} {y k N sl : Nat} {q : rn_M} {lv : rn_L} {st : List Value} {h : rn_H} {out : Option Value × Nat × Nat × rn_H}
theorem rn_e1 (hq : rn_ms y = some q) {s s2 : rn_S} (hs : rn_g1 X (rn_tb q) s = some s2) (hn : rn_rv X y s2 out) : rn_rv X y s out := by
  obtain ⟨f, hf⟩ := hn
  obtain ⟨nm, b, mL, rt, T, n, fr, lo, ini⟩ := q
  refine ⟨f + 1, ?_⟩
  obtain ⟨k, lv, st, N, sl, h⟩ := s
  unfold rn_g1 at hs
  split at hs
  · next e he =>
    unfold rn_x
    rw [hq]
    simp only at he hs ⊢
    rw [he]
    simp only [hs]
    exact hf
  · cases hs
theorem rn_eg (hq : rn_ms y = some q) : ∀ (n : Nat) {s s2 : rn_S}, rn_go X (rn_tb q) n s = some s2 → rn_rv X y s2 out → rn_rv X y s out
  | 0, s, s2, hs, hn => by cases hs; exact hn
  | n + 1, s, s2, hs, hn => by
    unfold rn_go at hs
    split at hs
    · next s3 h3 => exact rn_e1 hq h3 (rn_eg hq n hs hn)
    · cases hs
theorem rn_ite {c : Prop} [Decidable c] {a b : Nat} {r : rn_L × List Value × Nat × Nat × rn_H} (ht : c → rn_rv X y (a, r) out) (hf : ¬ c → rn_rv X y (b, r) out) : rn_rv X y (if c then a else b, r) out := by
  by_cases hc : c
  · rw [if_pos hc]; exact ht hc
  · rw [if_neg hc]; exact hf hc
theorem rn_er (hq : rn_ms y = some q) {e : rn_I} (he : (rn_tb q)[k]? = some e) (hs : rn_sp X rn_dv e (k, rn_kp e.2.2.1 lv, st, N, sl, h) = none) {v : Option Value} (hr : rn_rt e.2.1 q.2.2.2.1 st = some v) : rn_rv X y (k, lv, st, N, sl, h) (v, N, sl, h) := by
  obtain ⟨nm, b, mL, rt, T, n, fr, lo, ini⟩ := q
  refine ⟨1, ?_⟩
  unfold rn_x
  rw [hq]
  simp only at he hr ⊢
  rw [he]
  simp only [hs, hr]
theorem rn_ec (hq : rn_ms y = some q) {e : rn_I} (he : (rn_tb q)[k]? = some e) (hs : rn_sp X rn_dv e (k, rn_kp e.2.2.1 lv, st, N, sl, h) = none) (hr : rn_rt e.2.1 q.2.2.2.1 st = none) {z c : Nat} {b : Bool} (hc : rn_cc e.2.1 e.2.2.2 = some (z, b, c)) {q2 : rn_M} (hz : rn_ms z = some q2) {as rest : List Value} (has : (st.take (q2.2.2.2.2.2.1 + (bif b then 1 else 0))).reverse = as) (hre : st.drop (q2.2.2.2.2.2.1 + (bif b then 1 else 0)) = rest)
    (hck : (Nat.ble (q2.2.2.2.2.2.2.1 + 1) q.2.2.2.2.2.2.1 && Nat.ble (19 + q2.2.2.1 + q2.2.2.2.2.2.2.2.1) q.2.2.2.2.2.2.2.1 && Nat.ble (q2.2.2.2.2.2.1 + (bif b then 1 else 0)) st.length && Nat.ble (rn_cs rest) 8 && Nat.ble (rn_cs as) q2.2.2.1) = true) (hrc : b = true → rn_rc h c as = true)
    {v : Option Value} {N1 sl1 : Nat} {h1 : rn_H} (hev : rn_rv X z (0, lv_args 0 as, [], N, sl, h) (v, N1, sl1, h1)) (hn : rn_rv X y (k + 1, rn_kp e.2.2.1 lv, v.toList ++ rest, N1, sl1, h1) out) : rn_rv X y (k, lv, st, N, sl, h) out := by
  obtain ⟨f1, hf1⟩ := hev
  obtain ⟨f2, hf2⟩ := hn
  obtain ⟨nm, bc, mL, rt, T, n, fr, lo, ini⟩ := q
  obtain ⟨nm2, b2, mL2, rt2, T2, n2, fr2, lo2, ini2⟩ := q2
  refine ⟨f1 + f2 + 1, ?_⟩
  unfold rn_x
  rw [hq]
  simp only at he hr has hre hck ⊢
  rw [he]
  simp only [hs, hr, hc, hz]
  have hrc2 : (!b || rn_rc h c (st.take (n2 + 1)).reverse) = true := by
    cases b with
    | false => rfl
    | true =>
      rw [Bool.not_true, Bool.false_or]
      have := hrc rfl
      rw [← has] at this
      exact this
  subst has
  subst hre
  have hck2 : (Nat.ble (fr2 + 1) fr && Nat.ble (19 + mL2 + lo2) lo && Nat.ble (n2 + (bif b then 1 else 0)) st.length && Nat.ble (rn_cs (st.drop (n2 + (bif b then 1 else 0)))) 8 && Nat.ble (rn_cs (st.take (n2 + (bif b then 1 else 0)))) mL2 && (!b || rn_rc h c (st.take (n2 + 1)).reverse)) = true := by
    rw [hrc2, Bool.and_true]
    rw [rn_cs_rev] at hck
    exact hck
  simp only [hck2]
  rw [rn_x_up _ _ _ _ hf1 (f1 + f2) (by omega)]
  exact rn_x_up _ _ _ _ hf2 (f1 + f2) (by omega)
end EV
/-! one row for each instruction that looks into entries, divides, or writes -/
abbrev rn_ob (i : Int32) (n : Nat) : Prop := i < 0 ∨ n ≤ i.toNatClampNeg
section EVR
variable {X : rn_X} {pc k N sl n : Nat} {T : List rn_I} {lv lv2 : rn_L} {st : List Value} {h h2 : rn_H} {kp : List Nat} {qa : Nat} {i : Int32}
theorem rn_g1_of {e : rn_I} {s2 : rn_S} (he : T[k]? = some e) (hl : rn_kp e.2.2.1 lv = lv2) (hs : rn_sp X rn_dv e (k, lv2, st, N, sl, h) = some s2) : rn_g1 X T (k, lv, st, N, sl, h) = some s2 := by
  unfold rn_g1
  rw [he]
  subst hl
  exact hs
theorem rn_g_iald {f : Nat → Int32} (he : T[k]? = some (pc, .iaload, kp, [])) (hl : rn_kp kp lv = lv2) (hq : h qa = .inl (0, n, .inl f)) (hin : ¬ rn_ob i n) : rn_g1 X T (k, lv, .int i :: .ref qa :: st, N, sl, h) = some (k + 1, lv2, .int (f i.toNatClampNeg) :: st, N, sl, h) := by
  refine rn_g1_of he hl ?_
  have : rn_ai 0 h (.int i :: .ref qa :: st) = some (.int (f i.toNatClampNeg) :: st) := by
    simp only [rn_ai, hq]
    exact if_neg hin
  simp only [rn_sp, rn_p, this]
theorem rn_g_bald {f : Nat → Int32} (he : T[k]? = some (pc, .baload, kp, [])) (hl : rn_kp kp lv = lv2) (hq : h qa = .inl (2, n, .inl f)) (hin : ¬ rn_ob i n) : rn_g1 X T (k, lv, .int i :: .ref qa :: st, N, sl, h) = some (k + 1, lv2, .int (f i.toNatClampNeg) :: st, N, sl, h) := by
  refine rn_g1_of he hl ?_
  have : rn_ai 2 h (.int i :: .ref qa :: st) = some (.int (f i.toNatClampNeg) :: st) := by
    simp only [rn_ai, hq]
    exact if_neg hin
  simp only [rn_sp, rn_p, this]
theorem rn_g_lald {f : Nat → Int64} (he : T[k]? = some (pc, .laload, kp, [])) (hl : rn_kp kp lv = lv2) (hq : h qa = .inl (1, n, .inr (.inl f))) (hin : ¬ rn_ob i n) : rn_g1 X T (k, lv, .int i :: .ref qa :: st, N, sl, h) = some (k + 1, lv2, .long (f i.toNatClampNeg) :: st, N, sl, h) := by
  refine rn_g1_of he hl ?_
  have : rn_aj h (.int i :: .ref qa :: st) = some (.long (f i.toNatClampNeg) :: st) := by
    simp only [rn_aj, hq, if_neg hin]
  simp only [rn_sp, rn_p, this]
theorem rn_g_aald {t : Nat} {f : Nat → Option Nat} {r : Option Nat} (he : T[k]? = some (pc, .aaload, kp, [t])) (hl : rn_kp kp lv = lv2) (hq : h qa = .inl (t, n, .inr (.inr (.inr (.inr f))))) (hin : ¬ rn_ob i n) (hv : f i.toNatClampNeg = r) : rn_g1 X T (k, lv, .int i :: .ref qa :: st, N, sl, h) = some (k + 1, lv2, va_rf r :: st, N, sl, h) := by
  refine rn_g1_of he hl ?_
  have hb : Nat.beq t t = true := by simp
  have : rn_aa t h (.int i :: .ref qa :: st) = some (va_rf r :: st) := by
    simp only [rn_aa, hq, hb, if_neg hin, hv]
  simp only [rn_sp, rn_p, this]
theorem rn_g_getf {c kf w idx : Nat} {fs : List Value} {v : Value} (he : T[k]? = some (pc, .getfield idx, kp, [c, kf, w])) (hl : rn_kp kp lv = lv2) (hq : h qa = .inr (c, fs)) (hv : fs[kf]? = some v) : rn_g1 X T (k, lv, .ref qa :: st, N, sl, h) = some (k + 1, lv2, v :: st, N, sl, h) := by
  refine rn_g1_of he hl ?_
  have hb : Nat.beq c c = true := by simp
  have : rn_gf c kf h (.ref qa :: st) = some (v :: st) := by
    simp only [rn_gf, hq, hb, hv]
  simp only [rn_sp, rn_p, this]
theorem rn_g_putf {c kf w idx ty : Nat} {fs fs2 : List Value} {v : Value} (he : T[k]? = some (pc, .putfield idx, kp, [c, kf, ty, w])) (hl : rn_kp kp lv = lv2) (hq : h qa = .inr (c, fs)) (hty : rn_ty ty v = true) (hk : Nat.blt kf fs.length = true) (hfs : fs.set kf v = fs2) (hh : rn_up h qa (.inr (c, fs2)) = h2) : rn_g1 X T (k, lv, v :: .ref qa :: st, N, sl, h) = some (k + 1, lv2, st, N, sl, h2) := by
  refine rn_g1_of he hl ?_
  have hb : Nat.beq c c = true := by simp
  have : rn_w (.putfield idx) [c, kf, ty, w] (v :: .ref qa :: st) h = some (st, h2) := by
    simp only [rn_w, hq, hb, hty, hk, hfs, hh]
  simp only [rn_sp]
  rw [show rn_p X (.putfield idx) [c, kf, ty, w] lv2 (v :: .ref qa :: st) h = none from rfl, show rn_b (.putfield idx) [c, kf, ty, w] (k + 1) (v :: .ref qa :: st) = none from rfl, show rn_l (.putfield idx) [c, kf, ty, w] lv2 (v :: .ref qa :: st) = none from rfl]
  simp only [this]
theorem rn_g_iast {f : Nat → Int32} {x : Int32} (he : T[k]? = some (pc, .iastore, kp, [])) (hl : rn_kp kp lv = lv2) (hq : h qa = .inl (0, n, .inl f)) (hin : ¬ rn_ob i n) (hh : rn_up h qa (.inl (0, n, .inl (upd f i.toNatClampNeg x))) = h2) : rn_g1 X T (k, lv, .int x :: .int i :: .ref qa :: st, N, sl, h) = some (k + 1, lv2, st, N, sl, h2) := by
  refine rn_g1_of he hl ?_
  have : rn_w .iastore [] (.int x :: .int i :: .ref qa :: st) h = some (st, h2) := by
    simp only [rn_w, hq, if_neg hin, hh]
  simp only [rn_sp]
  rw [show rn_p X .iastore [] lv2 (.int x :: .int i :: .ref qa :: st) h = none from rfl, show rn_b .iastore [] (k + 1) (.int x :: .int i :: .ref qa :: st) = none from rfl, show rn_l .iastore [] lv2 (.int x :: .int i :: .ref qa :: st) = none from rfl]
  simp only [this]
theorem rn_g_bast {f : Nat → Int32} {x : Int32} (he : T[k]? = some (pc, .bastore, kp, [])) (hl : rn_kp kp lv = lv2) (hq : h qa = .inl (2, n, .inl f)) (hin : ¬ rn_ob i n) (h01 : x = 0 ∨ x = 1) (hh : rn_up h qa (.inl (2, n, .inl (upd f i.toNatClampNeg x))) = h2) : rn_g1 X T (k, lv, .int x :: .int i :: .ref qa :: st, N, sl, h) = some (k + 1, lv2, st, N, sl, h2) := by
  refine rn_g1_of he hl ?_
  have : rn_w .bastore [] (.int x :: .int i :: .ref qa :: st) h = some (st, h2) := by
    simp only [rn_w, hq, if_neg hin, if_pos h01, hh]
  simp only [rn_sp]
  rw [show rn_p X .bastore [] lv2 (.int x :: .int i :: .ref qa :: st) h = none from rfl, show rn_b .bastore [] (k + 1) (.int x :: .int i :: .ref qa :: st) = none from rfl, show rn_l .bastore [] lv2 (.int x :: .int i :: .ref qa :: st) = none from rfl]
  simp only [this]
theorem rn_g_last {f : Nat → Int64} {x : Int64} (he : T[k]? = some (pc, .lastore, kp, [])) (hl : rn_kp kp lv = lv2) (hq : h qa = .inl (1, n, .inr (.inl f))) (hin : ¬ rn_ob i n) (hh : rn_up h qa (.inl (1, n, .inr (.inl (vp_updL f i.toNatClampNeg x)))) = h2) : rn_g1 X T (k, lv, .long x :: .int i :: .ref qa :: st, N, sl, h) = some (k + 1, lv2, st, N, sl, h2) := by
  refine rn_g1_of he hl ?_
  have : rn_w .lastore [] (.long x :: .int i :: .ref qa :: st) h = some (st, h2) := by
    simp only [rn_w, hq, if_neg hin, hh]
  simp only [rn_sp]
  rw [show rn_p X .lastore [] lv2 (.long x :: .int i :: .ref qa :: st) h = none from rfl, show rn_b .lastore [] (k + 1) (.long x :: .int i :: .ref qa :: st) = none from rfl, show rn_l .lastore [] lv2 (.long x :: .int i :: .ref qa :: st) = none from rfl]
  simp only [this]
theorem rn_g_aast {t c v : Nat} {f : Nat → Option Nat} {vs : List Value} (he : T[k]? = some (pc, .aastore, kp, [t, c])) (hl : rn_kp kp lv = lv2) (hq : h qa = .inl (t, n, .inr (.inr (.inr (.inr f))))) (hv : h v = .inr (c, vs)) (hin : ¬ rn_ob i n) (hh : rn_up h qa (.inl (t, n, .inr (.inr (.inr (.inr (va_up f i.toNatClampNeg (some v))))))) = h2) : rn_g1 X T (k, lv, .ref v :: .int i :: .ref qa :: st, N, sl, h) = some (k + 1, lv2, st, N, sl, h2) := by
  refine rn_g1_of he hl ?_
  have hb : Nat.beq c c = true := by simp
  have hb2 : Nat.beq t t = true := by simp
  have : rn_w .aastore [t, c] (.ref v :: .int i :: .ref qa :: st) h = some (st, h2) := by
    simp only [rn_w, hq, hb, hb2, hv, if_neg hin, hh]
  simp only [rn_sp]
  rw [show rn_p X .aastore [t, c] lv2 (.ref v :: .int i :: .ref qa :: st) h = none from rfl, show rn_b .aastore [t, c] (k + 1) (.ref v :: .int i :: .ref qa :: st) = none from rfl, show rn_l .aastore [t, c] lv2 (.ref v :: .int i :: .ref qa :: st) = none from rfl]
  simp only [this]
theorem rn_g_idiv {x z : Int32} (he : T[k]? = some (pc, .idiv, kp, [])) (hl : rn_kp kp lv = lv2) (hz : ¬ z = 0) : rn_g1 X T (k, lv, .int z :: .int x :: st, N, sl, h) = some (k + 1, lv2, .int (x / z) :: st, N, sl, h) := by
  refine rn_g1_of he hl ?_
  simp only [rn_sp, rn_p, rn_id, if_neg hz]
theorem rn_g_irem {x z : Int32} (he : T[k]? = some (pc, .irem, kp, [])) (hl : rn_kp kp lv = lv2) (hz : ¬ z = 0) : rn_g1 X T (k, lv, .int z :: .int x :: st, N, sl, h) = some (k + 1, lv2, .int (x - x / z * z) :: st, N, sl, h) := by
  refine rn_g1_of he hl ?_
  simp only [rn_sp, rn_p, rn_id, if_neg hz]
theorem rn_g_sald (he : T[k]? = some (pc, .iaload, kp, [1])) (hl : rn_kp kp lv = lv2) (hin : ¬ rn_ob i X.1) : rn_g1 X T (k, lv, .int i :: .ref 1000000 :: st, N, sl, h) = some (k + 1, lv2, .int (X.2 i.toNatClampNeg) :: st, N, sl, h) := by
  refine rn_g1_of he hl ?_
  have : rn_sl X (.int i :: .ref 1000000 :: st) = some (.int (X.2 i.toNatClampNeg) :: st) := by
    simp only [rn_sl, if_neg hin]
  simp only [rn_sp, rn_p, this]
end EVR
end
section
/-! THE HEAP WITH ITS SHAPE: entries 0 to 317 the class, 318 to 352 the reference -/
/-- what can change: fields of ints, int (and truth) arrays, long arrays, parents, arrays of references -/
abbrev rn_T : Type := (Nat → Nat → Int32) × (Nat → Nat → Int32) × (Nat → Nat → Int64) × (Nat → Option Nat) × (Nat → Nat → Option Nat)
def rI (S : rn_T) (q : Nat) : Nat → Int32 := S.1 q
def rA (S : rn_T) (q : Nat) : Nat → Int32 := S.2.1 q
def rL (S : rn_T) (q : Nat) : Nat → Int64 := S.2.2.1 q
def rR (S : rn_T) (q : Nat) : Option Nat := S.2.2.2.1 q
def rP (S : rn_T) (q : Nat) : Nat → Option Nat := S.2.2.2.2 q
def wI (S : rn_T) (q k : Nat) (v : Int32) : rn_T := (va_up S.1 q (va_up (S.1 q) k v), S.2)
def wA (S : rn_T) (q k : Nat) (v : Int32) : rn_T := (S.1, va_up S.2.1 q (upd (S.2.1 q) k v), S.2.2)
def wL (S : rn_T) (q k : Nat) (v : Int64) : rn_T := (S.1, S.2.1, va_up S.2.2.1 q (vp_updL (S.2.2.1 q) k v), S.2.2.2)
def wR (S : rn_T) (q : Nat) (v : Option Nat) : rn_T := (S.1, S.2.1, S.2.2.1, va_up S.2.2.2.1 q v, S.2.2.2.2)
def wP (S : rn_T) (q k : Nat) (v : Option Nat) : rn_T := (S.1, S.2.1, S.2.2.1, S.2.2.2.1, va_up S.2.2.2.2 q (va_up (S.2.2.2.2 q) k v))
def wAc (S : rn_T) (q : Nat) (f : Nat → Int32) : rn_T := (S.1, va_up S.2.1 q f, S.2.2)
def wLc (S : rn_T) (q : Nat) (f : Nat → Int64) : rn_T := (S.1, S.2.1, va_up S.2.2.1 q f, S.2.2.2)
def rn_ka : List Nat := [8, 1, 20, 11, 10, 5, 10, 5, 10, 5, 10, 5, 10, 5, 10, 5, 10, 5, 10, 5, 10, 21, 12, 0, 22, 12, 4, 10, 10, 10, 10, 4, 10, 10, 10, 10, 4, 10, 10, 10, 10, 4, 10, 10, 10, 10, 4, 10, 10, 10, 10, 4, 10, 10, 10, 10, 4, 10, 10, 10, 10, 4, 10, 10, 10, 10, 7, 23, 12, 10, 10, 10, 14, 10, 10, 10]
def rn_kb : List Nat := [6, 11, 1, 20, 11, 10, 5, 10, 5, 10, 5, 10, 5, 10, 5, 10, 5, 10, 5, 10, 5, 10, 1, 20, 11, 10, 5, 10, 5, 10, 5, 10, 5, 10, 5, 10, 5, 10, 5, 10, 5, 10, 9, 10, 10, 10, 10, 10, 10, 10, 10, 10, 10, 10, 10, 10, 10, 10, 10, 10, 10, 10, 10, 10, 10, 10, 10, 10, 12, 11, 10, 12, 10, 11, 10, 11, 12]
def rn_la_ : List Nat := [0, 0, 8, 60, 96, 0, 40, 0, 40, 0, 40, 0, 40, 0, 40, 0, 40, 0, 40, 0, 40, 2, 2, 0, 8, 8, 0, 40, 40, 40, 40, 0, 40, 40, 40, 40, 0, 40, 40, 40, 40, 0, 40, 40, 40, 40, 0, 40, 40, 40, 40, 0, 40, 40, 40, 40, 0, 40, 40, 40, 40, 0, 40, 40, 40, 40, 0, 100, 64, 501, 501, 501, 100, 100, 100, 100]
def rn_lb_ : List Nat := [0, 100, 0, 8, 60, 96, 0, 40, 0, 40, 0, 40, 0, 40, 0, 40, 0, 40, 0, 40, 0, 40, 0, 8, 60, 96, 0, 40, 0, 40, 0, 40, 0, 40, 0, 40, 0, 40, 0, 40, 0, 40, 0, 320, 8, 60, 101, 101, 101, 101, 101, 640, 640, 640, 640, 520, 520, 520, 101, 101, 101, 101, 101, 101, 101, 101, 101, 64, 64, 60, 96, 101, 101, 101, 852, 120, 2]
def rn_kd (q : Nat) : Nat := match Nat.blt q 76 with
  | true => rn_ka.getD q 99
  | false => match Nat.blt q 276 with
    | true => match q % 2 with
      | 0 => 3
      | _ => 14
    | false => rn_kb.getD (q - 276) 99
def rn_ln_ (q : Nat) : Nat := match Nat.blt q 76 with
  | true => rn_la_.getD q 0
  | false => match Nat.blt q 276 with
    | true => 6
    | false => rn_lb_.getD (q - 276) 0
def rn_cr (n b s : Nat) : Nat → Option Nat := fun i => if i < n then some (b + s * i) else none
def rn_e0 (kd q n : Nat) (I : Nat → Int32) (A : Nat → Int32) (L : Nat → Int64) (R : Option Nat) (P : Nat → Option Nat) : rn_E := match kd with
  | 0 => .inr (0, [.ref (q + 1), .ref (q + 2)])
  | 1 => .inr (1, [.ref (q + 1), .ref (q + 2), .ref (q + 3), .int (I 3), .int (I 4)])
  | 3 => .inr (3, [.ref (q + 1), .int (I 1), va_rf (R), .int (I 3), .int (I 4), .int (I 5), .int (I 6), .int (I 7), .int (I 8), .int (I 9), .int (I 10), .int (I 11), .int (I 12), .int (I 13), .int (I 14), .int (I 15), .int (I 16), .int (I 17)])
  | 4 => .inr (4, [.int (I 0), .ref (q + 1), .ref (q + 2), .ref (q + 3), .ref (q + 4), .int (I 5)])
  | 5 => .inr (5, [.ref (q + 1), .int (I 1)])
  | 6 => .inr (6, [.ref (q + 1), .int (I 1)])
  | 7 => .inr (7, [.int (I 0), .ref (q + 1), .ref (q + 2), .int (I 3), .int (I 4), .int (I 5), .int (I 6), .ref (q + 3), .ref (q + 4), .ref (q + 5), .int (I 10), .ref (q + 6), .ref (q + 7), .ref (q + 8), .ref (q + 9), .int (I 15)])
  | 8 => .inr (8, [.ref (q + 1), .ref (q + 21), .ref (q + 22), .ref (q + 23), .ref (q + 66), .ref (q + 276)])
  | 9 => .inr (9, [.ref (q + 1), .ref (q + 2), .int (I 2), .ref (q + 3), .int (I 4), .ref (q + 4), .ref (q + 5), .ref (q + 6), .ref (q + 7), .ref (q + 8), .int (I 10), .ref (q + 9), .ref (q + 10), .ref (q + 11), .ref (q + 12), .int (I 15), .ref (q + 13), .ref (q + 14), .ref (q + 15), .int (I 19), .int (I 20), .ref (q + 16), .ref (q + 17), .ref (q + 18), .ref (q + 19), .ref (q + 20), .ref (q + 21), .ref (q + 22), .ref (q + 23), .ref (q + 24), .ref (q + 25), .ref (q + 26), .ref (q + 27), .int (I 33), .ref (q + 28), .ref (q + 29), .ref (q + 30), .ref (q + 31), .ref (q + 32), .ref (q + 33), .ref (q + 34), .int (I 41), .int (I 42)])
  | 10 => .inl (0, n, .inl A)
  | 11 => .inl (1, n, .inr (.inl L))
  | 12 => .inl (2, n, .inl A)
  | 14 => .inl (4, n, .inr (.inr (.inr (.inr P))))
  | 20 => .inl (6, 8, .inr (.inr (.inr (.inr (rn_cr 8 (q + 3) 2)))))
  | 21 => .inl (3, 2, .inr (.inr (.inr (.inr (rn_cr 2 (q + 257) 20)))))
  | 22 => .inl (5, 8, .inr (.inr (.inr (.inr (rn_cr 8 (q + 2) 5)))))
  | 23 => .inl (4, 100, .inr (.inr (.inr (.inr (rn_cr 100 (q + 9) 2)))))
  | _ => .inr (999999, [])
def rn_en (S : rn_T) (q : Nat) : rn_E := rn_e0 (rn_kd q) q (rn_ln_ q) (S.1 q) (S.2.1 q) (S.2.2.1 q) (S.2.2.2.1 q) (S.2.2.2.2 q)
def rn_hp (S M : rn_T) : rn_H := fun q => match Nat.blt q 318 with
  | true => rn_en S q
  | false => rn_en M q
theorem rn_blt {a b : Nat} (h : a < b) : Nat.blt a b = true := Nat.ble_eq.mpr h
theorem rn_nblt {a b : Nat} (h : b ≤ a) : Nat.blt a b = false := by
  cases hb : Nat.blt a b with
  | false => rfl
  | true => have := Nat.le_of_ble_eq_true hb; omega
theorem rn_hp_x {S M : rn_T} {q : Nat} (h : q < 318) : rn_hp S M q = rn_en S q := by simp only [rn_hp, rn_blt h]
theorem rn_hp_m {S M : rn_T} {q : Nat} (h : 318 ≤ q) : rn_hp S M q = rn_en M q := by simp only [rn_hp, rn_nblt h]
theorem rn_kd_big {q : Nat} (h : 353 ≤ q) : rn_kd q = 99 := by
  unfold rn_kd
  rw [rn_nblt (show 76 ≤ q by omega), rn_nblt (show 276 ≤ q by omega)]
  simp only
  rw [List.getD_eq_getElem?_getD, List.getElem?_eq_none (by have e : rn_kb.length = 77 := rfl; omega)]
  rfl
theorem rn_up_eq {h h2 : rn_H} {q : Nat} {e : rn_E} (hq : h2 q = e) (ho : ∀ j, j ≠ q → h2 j = h j) : rn_up h q e = h2 := by
  funext j
  by_cases hj : j = q
  · subst hj; rw [rn_up_s, hq]
  · rw [rn_up_n hj, ho j hj]
theorem rn_vs {α : Type} {f : Nat → α} {q : Nat} {v : α} : va_up f q v q = v := if_pos rfl
theorem rn_vn {α : Type} {f : Nat → α} {q j : Nat} {v : α} (h : j ≠ q) : va_up f q v j = f j := if_neg h
theorem rn_en_wI {S : rn_T} {q j : Nat} {k : Nat} {v : Int32} (h : j ≠ q) : rn_en (wI S q k v) j = rn_en S j := by simp only [rn_en, wI, rn_vn h]
theorem rn_en_sI {S : rn_T} {q : Nat} {k : Nat} {v : Int32} : rn_en (wI S q k v) q = rn_e0 (rn_kd q) q (rn_ln_ q) (va_up (S.1 q) k v) (S.2.1 q) (S.2.2.1 q) (S.2.2.2.1 q) (S.2.2.2.2 q) := by simp only [rn_en, wI, rn_vs]
theorem rn_hx_I {S M : rn_T} {q : Nat} {k : Nat} {v : Int32} {e : rn_E} (hq : q < 318) (he : rn_e0 (rn_kd q) q (rn_ln_ q) (va_up (S.1 q) k v) (S.2.1 q) (S.2.2.1 q) (S.2.2.2.1 q) (S.2.2.2.2 q) = e) : rn_up (rn_hp S M) q e = rn_hp (wI S q k v) M := by
  refine rn_up_eq ?_ (fun j hj => ?_)
  · rw [rn_hp_x hq, rn_en_sI]; exact he
  · unfold rn_hp
    rw [rn_en_wI hj]
theorem rn_hm_I {S M : rn_T} {q : Nat} {k : Nat} {v : Int32} {e : rn_E} (hq : 318 ≤ q) (he : rn_e0 (rn_kd q) q (rn_ln_ q) (va_up (S.1 q) k v) (S.2.1 q) (S.2.2.1 q) (S.2.2.2.1 q) (S.2.2.2.2 q) = e) : rn_up (rn_hp M S) q e = rn_hp M (wI S q k v) := by
  refine rn_up_eq ?_ (fun j hj => ?_)
  · rw [rn_hp_m hq, rn_en_sI]; exact he
  · unfold rn_hp
    rw [rn_en_wI hj]
theorem rn_en_wA {S : rn_T} {q j : Nat} {k : Nat} {v : Int32} (h : j ≠ q) : rn_en (wA S q k v) j = rn_en S j := by simp only [rn_en, wA, rn_vn h]
theorem rn_en_sA {S : rn_T} {q : Nat} {k : Nat} {v : Int32} : rn_en (wA S q k v) q = rn_e0 (rn_kd q) q (rn_ln_ q) (S.1 q) (upd (S.2.1 q) k v) (S.2.2.1 q) (S.2.2.2.1 q) (S.2.2.2.2 q) := by simp only [rn_en, wA, rn_vs]
theorem rn_hx_A {S M : rn_T} {q : Nat} {k : Nat} {v : Int32} {e : rn_E} (hq : q < 318) (he : rn_e0 (rn_kd q) q (rn_ln_ q) (S.1 q) (upd (S.2.1 q) k v) (S.2.2.1 q) (S.2.2.2.1 q) (S.2.2.2.2 q) = e) : rn_up (rn_hp S M) q e = rn_hp (wA S q k v) M := by
  refine rn_up_eq ?_ (fun j hj => ?_)
  · rw [rn_hp_x hq, rn_en_sA]; exact he
  · unfold rn_hp
    rw [rn_en_wA hj]
theorem rn_hm_A {S M : rn_T} {q : Nat} {k : Nat} {v : Int32} {e : rn_E} (hq : 318 ≤ q) (he : rn_e0 (rn_kd q) q (rn_ln_ q) (S.1 q) (upd (S.2.1 q) k v) (S.2.2.1 q) (S.2.2.2.1 q) (S.2.2.2.2 q) = e) : rn_up (rn_hp M S) q e = rn_hp M (wA S q k v) := by
  refine rn_up_eq ?_ (fun j hj => ?_)
  · rw [rn_hp_m hq, rn_en_sA]; exact he
  · unfold rn_hp
    rw [rn_en_wA hj]
theorem rn_en_wL {S : rn_T} {q j : Nat} {k : Nat} {v : Int64} (h : j ≠ q) : rn_en (wL S q k v) j = rn_en S j := by simp only [rn_en, wL, rn_vn h]
theorem rn_en_sL {S : rn_T} {q : Nat} {k : Nat} {v : Int64} : rn_en (wL S q k v) q = rn_e0 (rn_kd q) q (rn_ln_ q) (S.1 q) (S.2.1 q) (vp_updL (S.2.2.1 q) k v) (S.2.2.2.1 q) (S.2.2.2.2 q) := by simp only [rn_en, wL, rn_vs]
theorem rn_hx_L {S M : rn_T} {q : Nat} {k : Nat} {v : Int64} {e : rn_E} (hq : q < 318) (he : rn_e0 (rn_kd q) q (rn_ln_ q) (S.1 q) (S.2.1 q) (vp_updL (S.2.2.1 q) k v) (S.2.2.2.1 q) (S.2.2.2.2 q) = e) : rn_up (rn_hp S M) q e = rn_hp (wL S q k v) M := by
  refine rn_up_eq ?_ (fun j hj => ?_)
  · rw [rn_hp_x hq, rn_en_sL]; exact he
  · unfold rn_hp
    rw [rn_en_wL hj]
theorem rn_hm_L {S M : rn_T} {q : Nat} {k : Nat} {v : Int64} {e : rn_E} (hq : 318 ≤ q) (he : rn_e0 (rn_kd q) q (rn_ln_ q) (S.1 q) (S.2.1 q) (vp_updL (S.2.2.1 q) k v) (S.2.2.2.1 q) (S.2.2.2.2 q) = e) : rn_up (rn_hp M S) q e = rn_hp M (wL S q k v) := by
  refine rn_up_eq ?_ (fun j hj => ?_)
  · rw [rn_hp_m hq, rn_en_sL]; exact he
  · unfold rn_hp
    rw [rn_en_wL hj]
theorem rn_en_wR {S : rn_T} {q j : Nat} {k : Nat} {v : Option Nat} (h : j ≠ q) : rn_en (wR S q v) j = rn_en S j := by simp only [rn_en, wR, rn_vn h]
theorem rn_en_sR {S : rn_T} {q : Nat} {k : Nat} {v : Option Nat} : rn_en (wR S q v) q = rn_e0 (rn_kd q) q (rn_ln_ q) (S.1 q) (S.2.1 q) (S.2.2.1 q) v (S.2.2.2.2 q) := by simp only [rn_en, wR, rn_vs]
theorem rn_hx_R {S M : rn_T} {q : Nat} {k : Nat} {v : Option Nat} {e : rn_E} (hq : q < 318) (he : rn_e0 (rn_kd q) q (rn_ln_ q) (S.1 q) (S.2.1 q) (S.2.2.1 q) v (S.2.2.2.2 q) = e) : rn_up (rn_hp S M) q e = rn_hp (wR S q v) M := by
  refine rn_up_eq ?_ (fun j hj => ?_)
  · rw [rn_hp_x hq, rn_en_sR (k := k)]; exact he
  · unfold rn_hp
    rw [rn_en_wR (k := k) hj]
theorem rn_hm_R {S M : rn_T} {q : Nat} {k : Nat} {v : Option Nat} {e : rn_E} (hq : 318 ≤ q) (he : rn_e0 (rn_kd q) q (rn_ln_ q) (S.1 q) (S.2.1 q) (S.2.2.1 q) v (S.2.2.2.2 q) = e) : rn_up (rn_hp M S) q e = rn_hp M (wR S q v) := by
  refine rn_up_eq ?_ (fun j hj => ?_)
  · rw [rn_hp_m hq, rn_en_sR (k := k)]; exact he
  · unfold rn_hp
    rw [rn_en_wR (k := k) hj]
theorem rn_en_wP {S : rn_T} {q j : Nat} {k : Nat} {v : Option Nat} (h : j ≠ q) : rn_en (wP S q k v) j = rn_en S j := by simp only [rn_en, wP, rn_vn h]
theorem rn_en_sP {S : rn_T} {q : Nat} {k : Nat} {v : Option Nat} : rn_en (wP S q k v) q = rn_e0 (rn_kd q) q (rn_ln_ q) (S.1 q) (S.2.1 q) (S.2.2.1 q) (S.2.2.2.1 q) (va_up (S.2.2.2.2 q) k v) := by simp only [rn_en, wP, rn_vs]
theorem rn_hx_P {S M : rn_T} {q : Nat} {k : Nat} {v : Option Nat} {e : rn_E} (hq : q < 318) (he : rn_e0 (rn_kd q) q (rn_ln_ q) (S.1 q) (S.2.1 q) (S.2.2.1 q) (S.2.2.2.1 q) (va_up (S.2.2.2.2 q) k v) = e) : rn_up (rn_hp S M) q e = rn_hp (wP S q k v) M := by
  refine rn_up_eq ?_ (fun j hj => ?_)
  · rw [rn_hp_x hq, rn_en_sP]; exact he
  · unfold rn_hp
    rw [rn_en_wP hj]
theorem rn_hm_P {S M : rn_T} {q : Nat} {k : Nat} {v : Option Nat} {e : rn_E} (hq : 318 ≤ q) (he : rn_e0 (rn_kd q) q (rn_ln_ q) (S.1 q) (S.2.1 q) (S.2.2.1 q) (S.2.2.2.1 q) (va_up (S.2.2.2.2 q) k v) = e) : rn_up (rn_hp M S) q e = rn_hp M (wP S q k v) := by
  refine rn_up_eq ?_ (fun j hj => ?_)
  · rw [rn_hp_m hq, rn_en_sP]; exact he
  · unfold rn_hp
    rw [rn_en_wP hj]
theorem rn_en_wAc {S : rn_T} {q j : Nat} {k : Nat} {v : Nat → Int32} (h : j ≠ q) : rn_en (wAc S q v) j = rn_en S j := by simp only [rn_en, wAc, rn_vn h]
theorem rn_en_sAc {S : rn_T} {q : Nat} {k : Nat} {v : Nat → Int32} : rn_en (wAc S q v) q = rn_e0 (rn_kd q) q (rn_ln_ q) (S.1 q) v (S.2.2.1 q) (S.2.2.2.1 q) (S.2.2.2.2 q) := by simp only [rn_en, wAc, rn_vs]
theorem rn_hx_Ac {S M : rn_T} {q : Nat} {k : Nat} {v : Nat → Int32} {e : rn_E} (hq : q < 318) (he : rn_e0 (rn_kd q) q (rn_ln_ q) (S.1 q) v (S.2.2.1 q) (S.2.2.2.1 q) (S.2.2.2.2 q) = e) : rn_up (rn_hp S M) q e = rn_hp (wAc S q v) M := by
  refine rn_up_eq ?_ (fun j hj => ?_)
  · rw [rn_hp_x hq, rn_en_sAc (k := k)]; exact he
  · unfold rn_hp
    rw [rn_en_wAc (k := k) hj]
theorem rn_hm_Ac {S M : rn_T} {q : Nat} {k : Nat} {v : Nat → Int32} {e : rn_E} (hq : 318 ≤ q) (he : rn_e0 (rn_kd q) q (rn_ln_ q) (S.1 q) v (S.2.2.1 q) (S.2.2.2.1 q) (S.2.2.2.2 q) = e) : rn_up (rn_hp M S) q e = rn_hp M (wAc S q v) := by
  refine rn_up_eq ?_ (fun j hj => ?_)
  · rw [rn_hp_m hq, rn_en_sAc (k := k)]; exact he
  · unfold rn_hp
    rw [rn_en_wAc (k := k) hj]
theorem rn_en_wLc {S : rn_T} {q j : Nat} {k : Nat} {v : Nat → Int64} (h : j ≠ q) : rn_en (wLc S q v) j = rn_en S j := by simp only [rn_en, wLc, rn_vn h]
theorem rn_en_sLc {S : rn_T} {q : Nat} {k : Nat} {v : Nat → Int64} : rn_en (wLc S q v) q = rn_e0 (rn_kd q) q (rn_ln_ q) (S.1 q) (S.2.1 q) v (S.2.2.2.1 q) (S.2.2.2.2 q) := by simp only [rn_en, wLc, rn_vs]
theorem rn_hx_Lc {S M : rn_T} {q : Nat} {k : Nat} {v : Nat → Int64} {e : rn_E} (hq : q < 318) (he : rn_e0 (rn_kd q) q (rn_ln_ q) (S.1 q) (S.2.1 q) v (S.2.2.2.1 q) (S.2.2.2.2 q) = e) : rn_up (rn_hp S M) q e = rn_hp (wLc S q v) M := by
  refine rn_up_eq ?_ (fun j hj => ?_)
  · rw [rn_hp_x hq, rn_en_sLc (k := k)]; exact he
  · unfold rn_hp
    rw [rn_en_wLc (k := k) hj]
theorem rn_hm_Lc {S M : rn_T} {q : Nat} {k : Nat} {v : Nat → Int64} {e : rn_E} (hq : 318 ≤ q) (he : rn_e0 (rn_kd q) q (rn_ln_ q) (S.1 q) (S.2.1 q) v (S.2.2.2.1 q) (S.2.2.2.2 q) = e) : rn_up (rn_hp M S) q e = rn_hp M (wLc S q v) := by
  refine rn_up_eq ?_ (fun j hj => ?_)
  · rw [rn_hp_m hq, rn_en_sLc (k := k)]; exact he
  · unfold rn_hp
    rw [rn_en_wLc (k := k) hj]
/-! class 0 -/
theorem rn_lt0 {q : Nat} (hk : rn_kd q = 0) : q < 318 := by
  rcases Nat.lt_or_ge q 353 with h | h
  · exact (by decide +kernel : ∀ q, q < 353 → rn_kd q = 0 → q < 318) q h hk
  · rw [rn_kd_big h] at hk; cases hk
theorem en_0 {S M : rn_T} {q : Nat} (hk : rn_kd q = 0) : rn_hp S M q = .inr (0, [.ref (q + 1), .ref (q + 2)]) := by
  rw [rn_hp_x (rn_lt0 hk)]
  unfold rn_en
  rw [hk]
  rfl
/-! class 1 -/
theorem rn_lt1 {q : Nat} (hk : rn_kd q = 1) : q < 318 := by
  rcases Nat.lt_or_ge q 353 with h | h
  · exact (by decide +kernel : ∀ q, q < 353 → rn_kd q = 1 → q < 318) q h hk
  · rw [rn_kd_big h] at hk; cases hk
theorem en_1 {S M : rn_T} {q : Nat} (hk : rn_kd q = 1) : rn_hp S M q = .inr (1, [.ref (q + 1), .ref (q + 2), .ref (q + 3), .int (rI S q 3), .int (rI S q 4)]) := by
  rw [rn_hp_x (rn_lt1 hk)]
  unfold rn_en
  rw [hk]
  rfl
theorem ko_1_0 {q : Nat} (hk : rn_kd q = 1) : rn_kd (q + 1) = 20 ∧ rn_ln_ (q + 1) = 8 ∧ q + 1 < 318 := by
  rcases Nat.lt_or_ge q 353 with h | h
  · exact (by decide +kernel : ∀ q, q < 353 → rn_kd q = 1 → rn_kd (q + 1) = 20 ∧ rn_ln_ (q + 1) = 8 ∧ q + 1 < 318) q h hk
  · rw [rn_kd_big h] at hk; cases hk
theorem ko_1_1 {q : Nat} (hk : rn_kd q = 1) : rn_kd (q + 2) = 11 ∧ rn_ln_ (q + 2) = 60 ∧ q + 2 < 318 := by
  rcases Nat.lt_or_ge q 353 with h | h
  · exact (by decide +kernel : ∀ q, q < 353 → rn_kd q = 1 → rn_kd (q + 2) = 11 ∧ rn_ln_ (q + 2) = 60 ∧ q + 2 < 318) q h hk
  · rw [rn_kd_big h] at hk; cases hk
theorem ko_1_2 {q : Nat} (hk : rn_kd q = 1) : rn_kd (q + 3) = 10 ∧ rn_ln_ (q + 3) = 96 ∧ q + 3 < 318 := by
  rcases Nat.lt_or_ge q 353 with h | h
  · exact (by decide +kernel : ∀ q, q < 353 → rn_kd q = 1 → rn_kd (q + 3) = 10 ∧ rn_ln_ (q + 3) = 96 ∧ q + 3 < 318) q h hk
  · rw [rn_kd_big h] at hk; cases hk
theorem wf_1_3 {S M : rn_T} {q : Nat} {v : Int32} (hk : rn_kd q = 1) : rn_up (rn_hp S M) q (.inr (1, [.ref (q + 1), .ref (q + 2), .ref (q + 3), .int v, .int (rI S q 4)])) = rn_hp (wI S q 3 v) M := rn_hx_I (rn_lt1 hk) (by rw [hk]; rfl)
theorem wf_1_4 {S M : rn_T} {q : Nat} {v : Int32} (hk : rn_kd q = 1) : rn_up (rn_hp S M) q (.inr (1, [.ref (q + 1), .ref (q + 2), .ref (q + 3), .int (rI S q 3), .int v])) = rn_hp (wI S q 4 v) M := rn_hx_I (rn_lt1 hk) (by rw [hk]; rfl)
/-! class 3 -/
theorem rn_lt3 {q : Nat} (hk : rn_kd q = 3) : q < 318 := by
  rcases Nat.lt_or_ge q 353 with h | h
  · exact (by decide +kernel : ∀ q, q < 353 → rn_kd q = 3 → q < 318) q h hk
  · rw [rn_kd_big h] at hk; cases hk
theorem en_3 {S M : rn_T} {q : Nat} (hk : rn_kd q = 3) : rn_hp S M q = .inr (3, [.ref (q + 1), .int (rI S q 1), va_rf (rR S q), .int (rI S q 3), .int (rI S q 4), .int (rI S q 5), .int (rI S q 6), .int (rI S q 7), .int (rI S q 8), .int (rI S q 9), .int (rI S q 10), .int (rI S q 11), .int (rI S q 12), .int (rI S q 13), .int (rI S q 14), .int (rI S q 15), .int (rI S q 16), .int (rI S q 17)]) := by
  rw [rn_hp_x (rn_lt3 hk)]
  unfold rn_en
  rw [hk]
  rfl
theorem ko_3_0 {q : Nat} (hk : rn_kd q = 3) : rn_kd (q + 1) = 14 ∧ rn_ln_ (q + 1) = 6 ∧ q + 1 < 318 := by
  rcases Nat.lt_or_ge q 353 with h | h
  · exact (by decide +kernel : ∀ q, q < 353 → rn_kd q = 3 → rn_kd (q + 1) = 14 ∧ rn_ln_ (q + 1) = 6 ∧ q + 1 < 318) q h hk
  · rw [rn_kd_big h] at hk; cases hk
theorem wf_3_1 {S M : rn_T} {q : Nat} {v : Int32} (hk : rn_kd q = 3) : rn_up (rn_hp S M) q (.inr (3, [.ref (q + 1), .int v, va_rf (rR S q), .int (rI S q 3), .int (rI S q 4), .int (rI S q 5), .int (rI S q 6), .int (rI S q 7), .int (rI S q 8), .int (rI S q 9), .int (rI S q 10), .int (rI S q 11), .int (rI S q 12), .int (rI S q 13), .int (rI S q 14), .int (rI S q 15), .int (rI S q 16), .int (rI S q 17)])) = rn_hp (wI S q 1 v) M := rn_hx_I (rn_lt3 hk) (by rw [hk]; rfl)
theorem wf_3_2 {S M : rn_T} {q : Nat} {v : Option Nat} (hk : rn_kd q = 3) : rn_up (rn_hp S M) q (.inr (3, [.ref (q + 1), .int (rI S q 1), va_rf v, .int (rI S q 3), .int (rI S q 4), .int (rI S q 5), .int (rI S q 6), .int (rI S q 7), .int (rI S q 8), .int (rI S q 9), .int (rI S q 10), .int (rI S q 11), .int (rI S q 12), .int (rI S q 13), .int (rI S q 14), .int (rI S q 15), .int (rI S q 16), .int (rI S q 17)])) = rn_hp (wR S q v) M := rn_hx_R (k := 0) (rn_lt3 hk) (by rw [hk]; rfl)
theorem wf_3_3 {S M : rn_T} {q : Nat} {v : Int32} (hk : rn_kd q = 3) : rn_up (rn_hp S M) q (.inr (3, [.ref (q + 1), .int (rI S q 1), va_rf (rR S q), .int v, .int (rI S q 4), .int (rI S q 5), .int (rI S q 6), .int (rI S q 7), .int (rI S q 8), .int (rI S q 9), .int (rI S q 10), .int (rI S q 11), .int (rI S q 12), .int (rI S q 13), .int (rI S q 14), .int (rI S q 15), .int (rI S q 16), .int (rI S q 17)])) = rn_hp (wI S q 3 v) M := rn_hx_I (rn_lt3 hk) (by rw [hk]; rfl)
theorem wf_3_4 {S M : rn_T} {q : Nat} {v : Int32} (hk : rn_kd q = 3) : rn_up (rn_hp S M) q (.inr (3, [.ref (q + 1), .int (rI S q 1), va_rf (rR S q), .int (rI S q 3), .int v, .int (rI S q 5), .int (rI S q 6), .int (rI S q 7), .int (rI S q 8), .int (rI S q 9), .int (rI S q 10), .int (rI S q 11), .int (rI S q 12), .int (rI S q 13), .int (rI S q 14), .int (rI S q 15), .int (rI S q 16), .int (rI S q 17)])) = rn_hp (wI S q 4 v) M := rn_hx_I (rn_lt3 hk) (by rw [hk]; rfl)
theorem wf_3_5 {S M : rn_T} {q : Nat} {v : Int32} (hk : rn_kd q = 3) : rn_up (rn_hp S M) q (.inr (3, [.ref (q + 1), .int (rI S q 1), va_rf (rR S q), .int (rI S q 3), .int (rI S q 4), .int v, .int (rI S q 6), .int (rI S q 7), .int (rI S q 8), .int (rI S q 9), .int (rI S q 10), .int (rI S q 11), .int (rI S q 12), .int (rI S q 13), .int (rI S q 14), .int (rI S q 15), .int (rI S q 16), .int (rI S q 17)])) = rn_hp (wI S q 5 v) M := rn_hx_I (rn_lt3 hk) (by rw [hk]; rfl)
theorem wf_3_6 {S M : rn_T} {q : Nat} {v : Int32} (hk : rn_kd q = 3) : rn_up (rn_hp S M) q (.inr (3, [.ref (q + 1), .int (rI S q 1), va_rf (rR S q), .int (rI S q 3), .int (rI S q 4), .int (rI S q 5), .int v, .int (rI S q 7), .int (rI S q 8), .int (rI S q 9), .int (rI S q 10), .int (rI S q 11), .int (rI S q 12), .int (rI S q 13), .int (rI S q 14), .int (rI S q 15), .int (rI S q 16), .int (rI S q 17)])) = rn_hp (wI S q 6 v) M := rn_hx_I (rn_lt3 hk) (by rw [hk]; rfl)
theorem wf_3_7 {S M : rn_T} {q : Nat} {v : Int32} (hk : rn_kd q = 3) : rn_up (rn_hp S M) q (.inr (3, [.ref (q + 1), .int (rI S q 1), va_rf (rR S q), .int (rI S q 3), .int (rI S q 4), .int (rI S q 5), .int (rI S q 6), .int v, .int (rI S q 8), .int (rI S q 9), .int (rI S q 10), .int (rI S q 11), .int (rI S q 12), .int (rI S q 13), .int (rI S q 14), .int (rI S q 15), .int (rI S q 16), .int (rI S q 17)])) = rn_hp (wI S q 7 v) M := rn_hx_I (rn_lt3 hk) (by rw [hk]; rfl)
theorem wf_3_8 {S M : rn_T} {q : Nat} {v : Int32} (hk : rn_kd q = 3) : rn_up (rn_hp S M) q (.inr (3, [.ref (q + 1), .int (rI S q 1), va_rf (rR S q), .int (rI S q 3), .int (rI S q 4), .int (rI S q 5), .int (rI S q 6), .int (rI S q 7), .int v, .int (rI S q 9), .int (rI S q 10), .int (rI S q 11), .int (rI S q 12), .int (rI S q 13), .int (rI S q 14), .int (rI S q 15), .int (rI S q 16), .int (rI S q 17)])) = rn_hp (wI S q 8 v) M := rn_hx_I (rn_lt3 hk) (by rw [hk]; rfl)
theorem wf_3_9 {S M : rn_T} {q : Nat} {v : Int32} (hk : rn_kd q = 3) : rn_up (rn_hp S M) q (.inr (3, [.ref (q + 1), .int (rI S q 1), va_rf (rR S q), .int (rI S q 3), .int (rI S q 4), .int (rI S q 5), .int (rI S q 6), .int (rI S q 7), .int (rI S q 8), .int v, .int (rI S q 10), .int (rI S q 11), .int (rI S q 12), .int (rI S q 13), .int (rI S q 14), .int (rI S q 15), .int (rI S q 16), .int (rI S q 17)])) = rn_hp (wI S q 9 v) M := rn_hx_I (rn_lt3 hk) (by rw [hk]; rfl)
theorem wf_3_10 {S M : rn_T} {q : Nat} {v : Int32} (hk : rn_kd q = 3) : rn_up (rn_hp S M) q (.inr (3, [.ref (q + 1), .int (rI S q 1), va_rf (rR S q), .int (rI S q 3), .int (rI S q 4), .int (rI S q 5), .int (rI S q 6), .int (rI S q 7), .int (rI S q 8), .int (rI S q 9), .int v, .int (rI S q 11), .int (rI S q 12), .int (rI S q 13), .int (rI S q 14), .int (rI S q 15), .int (rI S q 16), .int (rI S q 17)])) = rn_hp (wI S q 10 v) M := rn_hx_I (rn_lt3 hk) (by rw [hk]; rfl)
theorem wf_3_11 {S M : rn_T} {q : Nat} {v : Int32} (hk : rn_kd q = 3) : rn_up (rn_hp S M) q (.inr (3, [.ref (q + 1), .int (rI S q 1), va_rf (rR S q), .int (rI S q 3), .int (rI S q 4), .int (rI S q 5), .int (rI S q 6), .int (rI S q 7), .int (rI S q 8), .int (rI S q 9), .int (rI S q 10), .int v, .int (rI S q 12), .int (rI S q 13), .int (rI S q 14), .int (rI S q 15), .int (rI S q 16), .int (rI S q 17)])) = rn_hp (wI S q 11 v) M := rn_hx_I (rn_lt3 hk) (by rw [hk]; rfl)
theorem wf_3_12 {S M : rn_T} {q : Nat} {v : Int32} (hk : rn_kd q = 3) : rn_up (rn_hp S M) q (.inr (3, [.ref (q + 1), .int (rI S q 1), va_rf (rR S q), .int (rI S q 3), .int (rI S q 4), .int (rI S q 5), .int (rI S q 6), .int (rI S q 7), .int (rI S q 8), .int (rI S q 9), .int (rI S q 10), .int (rI S q 11), .int v, .int (rI S q 13), .int (rI S q 14), .int (rI S q 15), .int (rI S q 16), .int (rI S q 17)])) = rn_hp (wI S q 12 v) M := rn_hx_I (rn_lt3 hk) (by rw [hk]; rfl)
theorem wf_3_13 {S M : rn_T} {q : Nat} {v : Int32} (hk : rn_kd q = 3) : rn_up (rn_hp S M) q (.inr (3, [.ref (q + 1), .int (rI S q 1), va_rf (rR S q), .int (rI S q 3), .int (rI S q 4), .int (rI S q 5), .int (rI S q 6), .int (rI S q 7), .int (rI S q 8), .int (rI S q 9), .int (rI S q 10), .int (rI S q 11), .int (rI S q 12), .int v, .int (rI S q 14), .int (rI S q 15), .int (rI S q 16), .int (rI S q 17)])) = rn_hp (wI S q 13 v) M := rn_hx_I (rn_lt3 hk) (by rw [hk]; rfl)
theorem wf_3_14 {S M : rn_T} {q : Nat} {v : Int32} (hk : rn_kd q = 3) : rn_up (rn_hp S M) q (.inr (3, [.ref (q + 1), .int (rI S q 1), va_rf (rR S q), .int (rI S q 3), .int (rI S q 4), .int (rI S q 5), .int (rI S q 6), .int (rI S q 7), .int (rI S q 8), .int (rI S q 9), .int (rI S q 10), .int (rI S q 11), .int (rI S q 12), .int (rI S q 13), .int v, .int (rI S q 15), .int (rI S q 16), .int (rI S q 17)])) = rn_hp (wI S q 14 v) M := rn_hx_I (rn_lt3 hk) (by rw [hk]; rfl)
theorem wf_3_15 {S M : rn_T} {q : Nat} {v : Int32} (hk : rn_kd q = 3) : rn_up (rn_hp S M) q (.inr (3, [.ref (q + 1), .int (rI S q 1), va_rf (rR S q), .int (rI S q 3), .int (rI S q 4), .int (rI S q 5), .int (rI S q 6), .int (rI S q 7), .int (rI S q 8), .int (rI S q 9), .int (rI S q 10), .int (rI S q 11), .int (rI S q 12), .int (rI S q 13), .int (rI S q 14), .int v, .int (rI S q 16), .int (rI S q 17)])) = rn_hp (wI S q 15 v) M := rn_hx_I (rn_lt3 hk) (by rw [hk]; rfl)
theorem wf_3_16 {S M : rn_T} {q : Nat} {v : Int32} (hk : rn_kd q = 3) : rn_up (rn_hp S M) q (.inr (3, [.ref (q + 1), .int (rI S q 1), va_rf (rR S q), .int (rI S q 3), .int (rI S q 4), .int (rI S q 5), .int (rI S q 6), .int (rI S q 7), .int (rI S q 8), .int (rI S q 9), .int (rI S q 10), .int (rI S q 11), .int (rI S q 12), .int (rI S q 13), .int (rI S q 14), .int (rI S q 15), .int v, .int (rI S q 17)])) = rn_hp (wI S q 16 v) M := rn_hx_I (rn_lt3 hk) (by rw [hk]; rfl)
theorem wf_3_17 {S M : rn_T} {q : Nat} {v : Int32} (hk : rn_kd q = 3) : rn_up (rn_hp S M) q (.inr (3, [.ref (q + 1), .int (rI S q 1), va_rf (rR S q), .int (rI S q 3), .int (rI S q 4), .int (rI S q 5), .int (rI S q 6), .int (rI S q 7), .int (rI S q 8), .int (rI S q 9), .int (rI S q 10), .int (rI S q 11), .int (rI S q 12), .int (rI S q 13), .int (rI S q 14), .int (rI S q 15), .int (rI S q 16), .int v])) = rn_hp (wI S q 17 v) M := rn_hx_I (rn_lt3 hk) (by rw [hk]; rfl)
/-! class 4 -/
theorem rn_lt4 {q : Nat} (hk : rn_kd q = 4) : q < 318 := by
  rcases Nat.lt_or_ge q 353 with h | h
  · exact (by decide +kernel : ∀ q, q < 353 → rn_kd q = 4 → q < 318) q h hk
  · rw [rn_kd_big h] at hk; cases hk
theorem en_4 {S M : rn_T} {q : Nat} (hk : rn_kd q = 4) : rn_hp S M q = .inr (4, [.int (rI S q 0), .ref (q + 1), .ref (q + 2), .ref (q + 3), .ref (q + 4), .int (rI S q 5)]) := by
  rw [rn_hp_x (rn_lt4 hk)]
  unfold rn_en
  rw [hk]
  rfl
theorem ko_4_1 {q : Nat} (hk : rn_kd q = 4) : rn_kd (q + 1) = 10 ∧ rn_ln_ (q + 1) = 40 ∧ q + 1 < 318 := by
  rcases Nat.lt_or_ge q 353 with h | h
  · exact (by decide +kernel : ∀ q, q < 353 → rn_kd q = 4 → rn_kd (q + 1) = 10 ∧ rn_ln_ (q + 1) = 40 ∧ q + 1 < 318) q h hk
  · rw [rn_kd_big h] at hk; cases hk
theorem ko_4_2 {q : Nat} (hk : rn_kd q = 4) : rn_kd (q + 2) = 10 ∧ rn_ln_ (q + 2) = 40 ∧ q + 2 < 318 := by
  rcases Nat.lt_or_ge q 353 with h | h
  · exact (by decide +kernel : ∀ q, q < 353 → rn_kd q = 4 → rn_kd (q + 2) = 10 ∧ rn_ln_ (q + 2) = 40 ∧ q + 2 < 318) q h hk
  · rw [rn_kd_big h] at hk; cases hk
theorem ko_4_3 {q : Nat} (hk : rn_kd q = 4) : rn_kd (q + 3) = 10 ∧ rn_ln_ (q + 3) = 40 ∧ q + 3 < 318 := by
  rcases Nat.lt_or_ge q 353 with h | h
  · exact (by decide +kernel : ∀ q, q < 353 → rn_kd q = 4 → rn_kd (q + 3) = 10 ∧ rn_ln_ (q + 3) = 40 ∧ q + 3 < 318) q h hk
  · rw [rn_kd_big h] at hk; cases hk
theorem ko_4_4 {q : Nat} (hk : rn_kd q = 4) : rn_kd (q + 4) = 10 ∧ rn_ln_ (q + 4) = 40 ∧ q + 4 < 318 := by
  rcases Nat.lt_or_ge q 353 with h | h
  · exact (by decide +kernel : ∀ q, q < 353 → rn_kd q = 4 → rn_kd (q + 4) = 10 ∧ rn_ln_ (q + 4) = 40 ∧ q + 4 < 318) q h hk
  · rw [rn_kd_big h] at hk; cases hk
theorem wf_4_0 {S M : rn_T} {q : Nat} {v : Int32} (hk : rn_kd q = 4) : rn_up (rn_hp S M) q (.inr (4, [.int v, .ref (q + 1), .ref (q + 2), .ref (q + 3), .ref (q + 4), .int (rI S q 5)])) = rn_hp (wI S q 0 v) M := rn_hx_I (rn_lt4 hk) (by rw [hk]; rfl)
theorem wf_4_5 {S M : rn_T} {q : Nat} {v : Int32} (hk : rn_kd q = 4) : rn_up (rn_hp S M) q (.inr (4, [.int (rI S q 0), .ref (q + 1), .ref (q + 2), .ref (q + 3), .ref (q + 4), .int v])) = rn_hp (wI S q 5 v) M := rn_hx_I (rn_lt4 hk) (by rw [hk]; rfl)
/-! class 5 -/
theorem rn_lt5 {q : Nat} (hk : rn_kd q = 5) : q < 318 := by
  rcases Nat.lt_or_ge q 353 with h | h
  · exact (by decide +kernel : ∀ q, q < 353 → rn_kd q = 5 → q < 318) q h hk
  · rw [rn_kd_big h] at hk; cases hk
theorem en_5 {S M : rn_T} {q : Nat} (hk : rn_kd q = 5) : rn_hp S M q = .inr (5, [.ref (q + 1), .int (rI S q 1)]) := by
  rw [rn_hp_x (rn_lt5 hk)]
  unfold rn_en
  rw [hk]
  rfl
theorem ko_5_0 {q : Nat} (hk : rn_kd q = 5) : rn_kd (q + 1) = 10 ∧ rn_ln_ (q + 1) = 40 ∧ q + 1 < 318 := by
  rcases Nat.lt_or_ge q 353 with h | h
  · exact (by decide +kernel : ∀ q, q < 353 → rn_kd q = 5 → rn_kd (q + 1) = 10 ∧ rn_ln_ (q + 1) = 40 ∧ q + 1 < 318) q h hk
  · rw [rn_kd_big h] at hk; cases hk
theorem wf_5_1 {S M : rn_T} {q : Nat} {v : Int32} (hk : rn_kd q = 5) : rn_up (rn_hp S M) q (.inr (5, [.ref (q + 1), .int v])) = rn_hp (wI S q 1 v) M := rn_hx_I (rn_lt5 hk) (by rw [hk]; rfl)
/-! class 6 -/
theorem rn_lt6 {q : Nat} (hk : rn_kd q = 6) : q < 318 := by
  rcases Nat.lt_or_ge q 353 with h | h
  · exact (by decide +kernel : ∀ q, q < 353 → rn_kd q = 6 → q < 318) q h hk
  · rw [rn_kd_big h] at hk; cases hk
theorem en_6 {S M : rn_T} {q : Nat} (hk : rn_kd q = 6) : rn_hp S M q = .inr (6, [.ref (q + 1), .int (rI S q 1)]) := by
  rw [rn_hp_x (rn_lt6 hk)]
  unfold rn_en
  rw [hk]
  rfl
theorem wf_6_1 {S M : rn_T} {q : Nat} {v : Int32} (hk : rn_kd q = 6) : rn_up (rn_hp S M) q (.inr (6, [.ref (q + 1), .int v])) = rn_hp (wI S q 1 v) M := rn_hx_I (rn_lt6 hk) (by rw [hk]; rfl)
/-! class 7 -/
theorem rn_lt7 {q : Nat} (hk : rn_kd q = 7) : q < 318 := by
  rcases Nat.lt_or_ge q 353 with h | h
  · exact (by decide +kernel : ∀ q, q < 353 → rn_kd q = 7 → q < 318) q h hk
  · rw [rn_kd_big h] at hk; cases hk
theorem en_7 {S M : rn_T} {q : Nat} (hk : rn_kd q = 7) : rn_hp S M q = .inr (7, [.int (rI S q 0), .ref (q + 1), .ref (q + 2), .int (rI S q 3), .int (rI S q 4), .int (rI S q 5), .int (rI S q 6), .ref (q + 3), .ref (q + 4), .ref (q + 5), .int (rI S q 10), .ref (q + 6), .ref (q + 7), .ref (q + 8), .ref (q + 9), .int (rI S q 15)]) := by
  rw [rn_hp_x (rn_lt7 hk)]
  unfold rn_en
  rw [hk]
  rfl
theorem wf_7_0 {S M : rn_T} {q : Nat} {v : Int32} (hk : rn_kd q = 7) : rn_up (rn_hp S M) q (.inr (7, [.int v, .ref (q + 1), .ref (q + 2), .int (rI S q 3), .int (rI S q 4), .int (rI S q 5), .int (rI S q 6), .ref (q + 3), .ref (q + 4), .ref (q + 5), .int (rI S q 10), .ref (q + 6), .ref (q + 7), .ref (q + 8), .ref (q + 9), .int (rI S q 15)])) = rn_hp (wI S q 0 v) M := rn_hx_I (rn_lt7 hk) (by rw [hk]; rfl)
theorem wf_7_3 {S M : rn_T} {q : Nat} {v : Int32} (hk : rn_kd q = 7) : rn_up (rn_hp S M) q (.inr (7, [.int (rI S q 0), .ref (q + 1), .ref (q + 2), .int v, .int (rI S q 4), .int (rI S q 5), .int (rI S q 6), .ref (q + 3), .ref (q + 4), .ref (q + 5), .int (rI S q 10), .ref (q + 6), .ref (q + 7), .ref (q + 8), .ref (q + 9), .int (rI S q 15)])) = rn_hp (wI S q 3 v) M := rn_hx_I (rn_lt7 hk) (by rw [hk]; rfl)
theorem wf_7_4 {S M : rn_T} {q : Nat} {v : Int32} (hk : rn_kd q = 7) : rn_up (rn_hp S M) q (.inr (7, [.int (rI S q 0), .ref (q + 1), .ref (q + 2), .int (rI S q 3), .int v, .int (rI S q 5), .int (rI S q 6), .ref (q + 3), .ref (q + 4), .ref (q + 5), .int (rI S q 10), .ref (q + 6), .ref (q + 7), .ref (q + 8), .ref (q + 9), .int (rI S q 15)])) = rn_hp (wI S q 4 v) M := rn_hx_I (rn_lt7 hk) (by rw [hk]; rfl)
theorem wf_7_5 {S M : rn_T} {q : Nat} {v : Int32} (hk : rn_kd q = 7) : rn_up (rn_hp S M) q (.inr (7, [.int (rI S q 0), .ref (q + 1), .ref (q + 2), .int (rI S q 3), .int (rI S q 4), .int v, .int (rI S q 6), .ref (q + 3), .ref (q + 4), .ref (q + 5), .int (rI S q 10), .ref (q + 6), .ref (q + 7), .ref (q + 8), .ref (q + 9), .int (rI S q 15)])) = rn_hp (wI S q 5 v) M := rn_hx_I (rn_lt7 hk) (by rw [hk]; rfl)
theorem wf_7_6 {S M : rn_T} {q : Nat} {v : Int32} (hk : rn_kd q = 7) : rn_up (rn_hp S M) q (.inr (7, [.int (rI S q 0), .ref (q + 1), .ref (q + 2), .int (rI S q 3), .int (rI S q 4), .int (rI S q 5), .int v, .ref (q + 3), .ref (q + 4), .ref (q + 5), .int (rI S q 10), .ref (q + 6), .ref (q + 7), .ref (q + 8), .ref (q + 9), .int (rI S q 15)])) = rn_hp (wI S q 6 v) M := rn_hx_I (rn_lt7 hk) (by rw [hk]; rfl)
theorem wf_7_10 {S M : rn_T} {q : Nat} {v : Int32} (hk : rn_kd q = 7) : rn_up (rn_hp S M) q (.inr (7, [.int (rI S q 0), .ref (q + 1), .ref (q + 2), .int (rI S q 3), .int (rI S q 4), .int (rI S q 5), .int (rI S q 6), .ref (q + 3), .ref (q + 4), .ref (q + 5), .int v, .ref (q + 6), .ref (q + 7), .ref (q + 8), .ref (q + 9), .int (rI S q 15)])) = rn_hp (wI S q 10 v) M := rn_hx_I (rn_lt7 hk) (by rw [hk]; rfl)
theorem wf_7_15 {S M : rn_T} {q : Nat} {v : Int32} (hk : rn_kd q = 7) : rn_up (rn_hp S M) q (.inr (7, [.int (rI S q 0), .ref (q + 1), .ref (q + 2), .int (rI S q 3), .int (rI S q 4), .int (rI S q 5), .int (rI S q 6), .ref (q + 3), .ref (q + 4), .ref (q + 5), .int (rI S q 10), .ref (q + 6), .ref (q + 7), .ref (q + 8), .ref (q + 9), .int v])) = rn_hp (wI S q 15 v) M := rn_hx_I (rn_lt7 hk) (by rw [hk]; rfl)
/-! class 8 -/
theorem rn_lt8 {q : Nat} (hk : rn_kd q = 8) : q < 318 := by
  rcases Nat.lt_or_ge q 353 with h | h
  · exact (by decide +kernel : ∀ q, q < 353 → rn_kd q = 8 → q < 318) q h hk
  · rw [rn_kd_big h] at hk; cases hk
theorem en_8 {S M : rn_T} {q : Nat} (hk : rn_kd q = 8) : rn_hp S M q = .inr (8, [.ref (q + 1), .ref (q + 21), .ref (q + 22), .ref (q + 23), .ref (q + 66), .ref (q + 276)]) := by
  rw [rn_hp_x (rn_lt8 hk)]
  unfold rn_en
  rw [hk]
  rfl
/-! class 9 -/
theorem rn_lt9 {q : Nat} (hk : rn_kd q = 9) : 318 ≤ q := by
  rcases Nat.lt_or_ge q 353 with h | h
  · exact (by decide +kernel : ∀ q, q < 353 → rn_kd q = 9 → 318 ≤ q) q h hk
  · omega
theorem en_9 {S M : rn_T} {q : Nat} (hk : rn_kd q = 9) : rn_hp S M q = .inr (9, [.ref (q + 1), .ref (q + 2), .int (rI M q 2), .ref (q + 3), .int (rI M q 4), .ref (q + 4), .ref (q + 5), .ref (q + 6), .ref (q + 7), .ref (q + 8), .int (rI M q 10), .ref (q + 9), .ref (q + 10), .ref (q + 11), .ref (q + 12), .int (rI M q 15), .ref (q + 13), .ref (q + 14), .ref (q + 15), .int (rI M q 19), .int (rI M q 20), .ref (q + 16), .ref (q + 17), .ref (q + 18), .ref (q + 19), .ref (q + 20), .ref (q + 21), .ref (q + 22), .ref (q + 23), .ref (q + 24), .ref (q + 25), .ref (q + 26), .ref (q + 27), .int (rI M q 33), .ref (q + 28), .ref (q + 29), .ref (q + 30), .ref (q + 31), .ref (q + 32), .ref (q + 33), .ref (q + 34), .int (rI M q 41), .int (rI M q 42)]) := by
  rw [rn_hp_m (rn_lt9 hk)]
  unfold rn_en
  rw [hk]
  rfl
theorem wf_9_2 {S M : rn_T} {q : Nat} {v : Int32} (hk : rn_kd q = 9) : rn_up (rn_hp M S) q (.inr (9, [.ref (q + 1), .ref (q + 2), .int v, .ref (q + 3), .int (rI S q 4), .ref (q + 4), .ref (q + 5), .ref (q + 6), .ref (q + 7), .ref (q + 8), .int (rI S q 10), .ref (q + 9), .ref (q + 10), .ref (q + 11), .ref (q + 12), .int (rI S q 15), .ref (q + 13), .ref (q + 14), .ref (q + 15), .int (rI S q 19), .int (rI S q 20), .ref (q + 16), .ref (q + 17), .ref (q + 18), .ref (q + 19), .ref (q + 20), .ref (q + 21), .ref (q + 22), .ref (q + 23), .ref (q + 24), .ref (q + 25), .ref (q + 26), .ref (q + 27), .int (rI S q 33), .ref (q + 28), .ref (q + 29), .ref (q + 30), .ref (q + 31), .ref (q + 32), .ref (q + 33), .ref (q + 34), .int (rI S q 41), .int (rI S q 42)])) = rn_hp M (wI S q 2 v) := rn_hm_I (rn_lt9 hk) (by rw [hk]; rfl)
theorem wf_9_4 {S M : rn_T} {q : Nat} {v : Int32} (hk : rn_kd q = 9) : rn_up (rn_hp M S) q (.inr (9, [.ref (q + 1), .ref (q + 2), .int (rI S q 2), .ref (q + 3), .int v, .ref (q + 4), .ref (q + 5), .ref (q + 6), .ref (q + 7), .ref (q + 8), .int (rI S q 10), .ref (q + 9), .ref (q + 10), .ref (q + 11), .ref (q + 12), .int (rI S q 15), .ref (q + 13), .ref (q + 14), .ref (q + 15), .int (rI S q 19), .int (rI S q 20), .ref (q + 16), .ref (q + 17), .ref (q + 18), .ref (q + 19), .ref (q + 20), .ref (q + 21), .ref (q + 22), .ref (q + 23), .ref (q + 24), .ref (q + 25), .ref (q + 26), .ref (q + 27), .int (rI S q 33), .ref (q + 28), .ref (q + 29), .ref (q + 30), .ref (q + 31), .ref (q + 32), .ref (q + 33), .ref (q + 34), .int (rI S q 41), .int (rI S q 42)])) = rn_hp M (wI S q 4 v) := rn_hm_I (rn_lt9 hk) (by rw [hk]; rfl)
theorem wf_9_10 {S M : rn_T} {q : Nat} {v : Int32} (hk : rn_kd q = 9) : rn_up (rn_hp M S) q (.inr (9, [.ref (q + 1), .ref (q + 2), .int (rI S q 2), .ref (q + 3), .int (rI S q 4), .ref (q + 4), .ref (q + 5), .ref (q + 6), .ref (q + 7), .ref (q + 8), .int v, .ref (q + 9), .ref (q + 10), .ref (q + 11), .ref (q + 12), .int (rI S q 15), .ref (q + 13), .ref (q + 14), .ref (q + 15), .int (rI S q 19), .int (rI S q 20), .ref (q + 16), .ref (q + 17), .ref (q + 18), .ref (q + 19), .ref (q + 20), .ref (q + 21), .ref (q + 22), .ref (q + 23), .ref (q + 24), .ref (q + 25), .ref (q + 26), .ref (q + 27), .int (rI S q 33), .ref (q + 28), .ref (q + 29), .ref (q + 30), .ref (q + 31), .ref (q + 32), .ref (q + 33), .ref (q + 34), .int (rI S q 41), .int (rI S q 42)])) = rn_hp M (wI S q 10 v) := rn_hm_I (rn_lt9 hk) (by rw [hk]; rfl)
theorem wf_9_15 {S M : rn_T} {q : Nat} {v : Int32} (hk : rn_kd q = 9) : rn_up (rn_hp M S) q (.inr (9, [.ref (q + 1), .ref (q + 2), .int (rI S q 2), .ref (q + 3), .int (rI S q 4), .ref (q + 4), .ref (q + 5), .ref (q + 6), .ref (q + 7), .ref (q + 8), .int (rI S q 10), .ref (q + 9), .ref (q + 10), .ref (q + 11), .ref (q + 12), .int v, .ref (q + 13), .ref (q + 14), .ref (q + 15), .int (rI S q 19), .int (rI S q 20), .ref (q + 16), .ref (q + 17), .ref (q + 18), .ref (q + 19), .ref (q + 20), .ref (q + 21), .ref (q + 22), .ref (q + 23), .ref (q + 24), .ref (q + 25), .ref (q + 26), .ref (q + 27), .int (rI S q 33), .ref (q + 28), .ref (q + 29), .ref (q + 30), .ref (q + 31), .ref (q + 32), .ref (q + 33), .ref (q + 34), .int (rI S q 41), .int (rI S q 42)])) = rn_hp M (wI S q 15 v) := rn_hm_I (rn_lt9 hk) (by rw [hk]; rfl)
theorem wf_9_19 {S M : rn_T} {q : Nat} {v : Int32} (hk : rn_kd q = 9) : rn_up (rn_hp M S) q (.inr (9, [.ref (q + 1), .ref (q + 2), .int (rI S q 2), .ref (q + 3), .int (rI S q 4), .ref (q + 4), .ref (q + 5), .ref (q + 6), .ref (q + 7), .ref (q + 8), .int (rI S q 10), .ref (q + 9), .ref (q + 10), .ref (q + 11), .ref (q + 12), .int (rI S q 15), .ref (q + 13), .ref (q + 14), .ref (q + 15), .int v, .int (rI S q 20), .ref (q + 16), .ref (q + 17), .ref (q + 18), .ref (q + 19), .ref (q + 20), .ref (q + 21), .ref (q + 22), .ref (q + 23), .ref (q + 24), .ref (q + 25), .ref (q + 26), .ref (q + 27), .int (rI S q 33), .ref (q + 28), .ref (q + 29), .ref (q + 30), .ref (q + 31), .ref (q + 32), .ref (q + 33), .ref (q + 34), .int (rI S q 41), .int (rI S q 42)])) = rn_hp M (wI S q 19 v) := rn_hm_I (rn_lt9 hk) (by rw [hk]; rfl)
theorem wf_9_20 {S M : rn_T} {q : Nat} {v : Int32} (hk : rn_kd q = 9) : rn_up (rn_hp M S) q (.inr (9, [.ref (q + 1), .ref (q + 2), .int (rI S q 2), .ref (q + 3), .int (rI S q 4), .ref (q + 4), .ref (q + 5), .ref (q + 6), .ref (q + 7), .ref (q + 8), .int (rI S q 10), .ref (q + 9), .ref (q + 10), .ref (q + 11), .ref (q + 12), .int (rI S q 15), .ref (q + 13), .ref (q + 14), .ref (q + 15), .int (rI S q 19), .int v, .ref (q + 16), .ref (q + 17), .ref (q + 18), .ref (q + 19), .ref (q + 20), .ref (q + 21), .ref (q + 22), .ref (q + 23), .ref (q + 24), .ref (q + 25), .ref (q + 26), .ref (q + 27), .int (rI S q 33), .ref (q + 28), .ref (q + 29), .ref (q + 30), .ref (q + 31), .ref (q + 32), .ref (q + 33), .ref (q + 34), .int (rI S q 41), .int (rI S q 42)])) = rn_hp M (wI S q 20 v) := rn_hm_I (rn_lt9 hk) (by rw [hk]; rfl)
theorem wf_9_33 {S M : rn_T} {q : Nat} {v : Int32} (hk : rn_kd q = 9) : rn_up (rn_hp M S) q (.inr (9, [.ref (q + 1), .ref (q + 2), .int (rI S q 2), .ref (q + 3), .int (rI S q 4), .ref (q + 4), .ref (q + 5), .ref (q + 6), .ref (q + 7), .ref (q + 8), .int (rI S q 10), .ref (q + 9), .ref (q + 10), .ref (q + 11), .ref (q + 12), .int (rI S q 15), .ref (q + 13), .ref (q + 14), .ref (q + 15), .int (rI S q 19), .int (rI S q 20), .ref (q + 16), .ref (q + 17), .ref (q + 18), .ref (q + 19), .ref (q + 20), .ref (q + 21), .ref (q + 22), .ref (q + 23), .ref (q + 24), .ref (q + 25), .ref (q + 26), .ref (q + 27), .int v, .ref (q + 28), .ref (q + 29), .ref (q + 30), .ref (q + 31), .ref (q + 32), .ref (q + 33), .ref (q + 34), .int (rI S q 41), .int (rI S q 42)])) = rn_hp M (wI S q 33 v) := rn_hm_I (rn_lt9 hk) (by rw [hk]; rfl)
theorem wf_9_41 {S M : rn_T} {q : Nat} {v : Int32} (hk : rn_kd q = 9) : rn_up (rn_hp M S) q (.inr (9, [.ref (q + 1), .ref (q + 2), .int (rI S q 2), .ref (q + 3), .int (rI S q 4), .ref (q + 4), .ref (q + 5), .ref (q + 6), .ref (q + 7), .ref (q + 8), .int (rI S q 10), .ref (q + 9), .ref (q + 10), .ref (q + 11), .ref (q + 12), .int (rI S q 15), .ref (q + 13), .ref (q + 14), .ref (q + 15), .int (rI S q 19), .int (rI S q 20), .ref (q + 16), .ref (q + 17), .ref (q + 18), .ref (q + 19), .ref (q + 20), .ref (q + 21), .ref (q + 22), .ref (q + 23), .ref (q + 24), .ref (q + 25), .ref (q + 26), .ref (q + 27), .int (rI S q 33), .ref (q + 28), .ref (q + 29), .ref (q + 30), .ref (q + 31), .ref (q + 32), .ref (q + 33), .ref (q + 34), .int v, .int (rI S q 42)])) = rn_hp M (wI S q 41 v) := rn_hm_I (rn_lt9 hk) (by rw [hk]; rfl)
theorem wf_9_42 {S M : rn_T} {q : Nat} {v : Int32} (hk : rn_kd q = 9) : rn_up (rn_hp M S) q (.inr (9, [.ref (q + 1), .ref (q + 2), .int (rI S q 2), .ref (q + 3), .int (rI S q 4), .ref (q + 4), .ref (q + 5), .ref (q + 6), .ref (q + 7), .ref (q + 8), .int (rI S q 10), .ref (q + 9), .ref (q + 10), .ref (q + 11), .ref (q + 12), .int (rI S q 15), .ref (q + 13), .ref (q + 14), .ref (q + 15), .int (rI S q 19), .int (rI S q 20), .ref (q + 16), .ref (q + 17), .ref (q + 18), .ref (q + 19), .ref (q + 20), .ref (q + 21), .ref (q + 22), .ref (q + 23), .ref (q + 24), .ref (q + 25), .ref (q + 26), .ref (q + 27), .int (rI S q 33), .ref (q + 28), .ref (q + 29), .ref (q + 30), .ref (q + 31), .ref (q + 32), .ref (q + 33), .ref (q + 34), .int (rI S q 41), .int v])) = rn_hp M (wI S q 42 v) := rn_hm_I (rn_lt9 hk) (by rw [hk]; rfl)
/-! arrays -/
theorem ar_x10 {S M : rn_T} {q n : Nat} (hk : rn_kd q = 10) (hl : rn_ln_ q = n) (hq : q < 318) : rn_hp S M q = .inl (0, n, .inl (rA S q)) := by
  rw [rn_hp_x hq]
  unfold rn_en
  rw [hk, hl]
  rfl
theorem aw_x10 {S M : rn_T} {q n i : Nat} {v : Int32} (hk : rn_kd q = 10) (hl : rn_ln_ q = n) (hq : q < 318) : rn_up (rn_hp S M) q (.inl (0, n, .inl (upd (rA S q) i v))) = rn_hp (wA S q i v) M := rn_hx_A hq (by rw [hk, hl]; rfl)
theorem ac_x10 {S M : rn_T} {q n : Nat} {v : Nat → Int32} (hk : rn_kd q = 10) (hl : rn_ln_ q = n) (hq : q < 318) : rn_up (rn_hp S M) q (.inl (0, n, .inl (v))) = rn_hp (wAc S q v) M := rn_hx_Ac (k := 0) hq (by rw [hk, hl]; rfl)
theorem ar_x12 {S M : rn_T} {q n : Nat} (hk : rn_kd q = 12) (hl : rn_ln_ q = n) (hq : q < 318) : rn_hp S M q = .inl (2, n, .inl (rA S q)) := by
  rw [rn_hp_x hq]
  unfold rn_en
  rw [hk, hl]
  rfl
theorem aw_x12 {S M : rn_T} {q n i : Nat} {v : Int32} (hk : rn_kd q = 12) (hl : rn_ln_ q = n) (hq : q < 318) : rn_up (rn_hp S M) q (.inl (2, n, .inl (upd (rA S q) i v))) = rn_hp (wA S q i v) M := rn_hx_A hq (by rw [hk, hl]; rfl)
theorem ar_x11 {S M : rn_T} {q n : Nat} (hk : rn_kd q = 11) (hl : rn_ln_ q = n) (hq : q < 318) : rn_hp S M q = .inl (1, n, .inr (.inl (rL S q))) := by
  rw [rn_hp_x hq]
  unfold rn_en
  rw [hk, hl]
  rfl
theorem aw_x11 {S M : rn_T} {q n i : Nat} {v : Int64} (hk : rn_kd q = 11) (hl : rn_ln_ q = n) (hq : q < 318) : rn_up (rn_hp S M) q (.inl (1, n, .inr (.inl (vp_updL (rL S q) i v)))) = rn_hp (wL S q i v) M := rn_hx_L hq (by rw [hk, hl]; rfl)
theorem ac_x11 {S M : rn_T} {q n : Nat} {v : Nat → Int64} (hk : rn_kd q = 11) (hl : rn_ln_ q = n) (hq : q < 318) : rn_up (rn_hp S M) q (.inl (1, n, .inr (.inl (v)))) = rn_hp (wLc S q v) M := rn_hx_Lc (k := 0) hq (by rw [hk, hl]; rfl)
theorem ar_x14 {S M : rn_T} {q n : Nat} (hk : rn_kd q = 14) (hl : rn_ln_ q = n) (hq : q < 318) : rn_hp S M q = .inl (4, n, .inr (.inr (.inr (.inr (rP S q))))) := by
  rw [rn_hp_x hq]
  unfold rn_en
  rw [hk, hl]
  rfl
theorem aw_x14 {S M : rn_T} {q n i : Nat} {v : Option Nat} (hk : rn_kd q = 14) (hl : rn_ln_ q = n) (hq : q < 318) : rn_up (rn_hp S M) q (.inl (4, n, .inr (.inr (.inr (.inr (va_up (rP S q) i v)))))) = rn_hp (wP S q i v) M := rn_hx_P hq (by rw [hk, hl]; rfl)
theorem ar_m10 {S M : rn_T} {q n : Nat} (hk : rn_kd q = 10) (hl : rn_ln_ q = n) (hq : 318 ≤ q) : rn_hp S M q = .inl (0, n, .inl (rA M q)) := by
  rw [rn_hp_m hq]
  unfold rn_en
  rw [hk, hl]
  rfl
theorem aw_m10 {S M : rn_T} {q n i : Nat} {v : Int32} (hk : rn_kd q = 10) (hl : rn_ln_ q = n) (hq : 318 ≤ q) : rn_up (rn_hp S M) q (.inl (0, n, .inl (upd (rA M q) i v))) = rn_hp S (wA M q i v) := rn_hm_A hq (by rw [hk, hl]; rfl)
theorem ar_m12 {S M : rn_T} {q n : Nat} (hk : rn_kd q = 12) (hl : rn_ln_ q = n) (hq : 318 ≤ q) : rn_hp S M q = .inl (2, n, .inl (rA M q)) := by
  rw [rn_hp_m hq]
  unfold rn_en
  rw [hk, hl]
  rfl
theorem aw_m12 {S M : rn_T} {q n i : Nat} {v : Int32} (hk : rn_kd q = 12) (hl : rn_ln_ q = n) (hq : 318 ≤ q) : rn_up (rn_hp S M) q (.inl (2, n, .inl (upd (rA M q) i v))) = rn_hp S (wA M q i v) := rn_hm_A hq (by rw [hk, hl]; rfl)
theorem ar_m11 {S M : rn_T} {q n : Nat} (hk : rn_kd q = 11) (hl : rn_ln_ q = n) (hq : 318 ≤ q) : rn_hp S M q = .inl (1, n, .inr (.inl (rL M q))) := by
  rw [rn_hp_m hq]
  unfold rn_en
  rw [hk, hl]
  rfl
theorem aw_m11 {S M : rn_T} {q n i : Nat} {v : Int64} (hk : rn_kd q = 11) (hl : rn_ln_ q = n) (hq : 318 ≤ q) : rn_up (rn_hp S M) q (.inl (1, n, .inr (.inl (vp_updL (rL M q) i v)))) = rn_hp S (wL M q i v) := rn_hm_L hq (by rw [hk, hl]; rfl)
theorem ar_x20 {S M : rn_T} {q : Nat} (hk : rn_kd q = 20) (hq : q < 318) : rn_hp S M q = .inl (6, 8, .inr (.inr (.inr (.inr (rn_cr 8 (q + 3) 2))))) := by
  rw [rn_hp_x hq]
  unfold rn_en
  rw [hk]
  rfl
theorem ck_20 {q i : Nat} (hk : rn_kd q = 20) (hi : i < 8) : rn_kd (q + 3 + 2 * i) = 5 := by
  rcases Nat.lt_or_ge q 353 with h | h
  · exact (by decide +kernel : ∀ q, q < 353 → rn_kd q = 20 → ∀ i, i < 8 → rn_kd (q + 3 + 2 * i) = 5) q h hk i hi
  · rw [rn_kd_big h] at hk; cases hk
theorem ar_x21 {S M : rn_T} {q : Nat} (hk : rn_kd q = 21) (hq : q < 318) : rn_hp S M q = .inl (3, 2, .inr (.inr (.inr (.inr (rn_cr 2 (q + 257) 20))))) := by
  rw [rn_hp_x hq]
  unfold rn_en
  rw [hk]
  rfl
theorem ck_21 {q i : Nat} (hk : rn_kd q = 21) (hi : i < 2) : rn_kd (q + 257 + 20 * i) = 1 := by
  rcases Nat.lt_or_ge q 353 with h | h
  · exact (by decide +kernel : ∀ q, q < 353 → rn_kd q = 21 → ∀ i, i < 2 → rn_kd (q + 257 + 20 * i) = 1) q h hk i hi
  · rw [rn_kd_big h] at hk; cases hk
theorem ar_x22 {S M : rn_T} {q : Nat} (hk : rn_kd q = 22) (hq : q < 318) : rn_hp S M q = .inl (5, 8, .inr (.inr (.inr (.inr (rn_cr 8 (q + 2) 5))))) := by
  rw [rn_hp_x hq]
  unfold rn_en
  rw [hk]
  rfl
theorem ck_22 {q i : Nat} (hk : rn_kd q = 22) (hi : i < 8) : rn_kd (q + 2 + 5 * i) = 4 := by
  rcases Nat.lt_or_ge q 353 with h | h
  · exact (by decide +kernel : ∀ q, q < 353 → rn_kd q = 22 → ∀ i, i < 8 → rn_kd (q + 2 + 5 * i) = 4) q h hk i hi
  · rw [rn_kd_big h] at hk; cases hk
theorem ar_x23 {S M : rn_T} {q : Nat} (hk : rn_kd q = 23) (hq : q < 318) : rn_hp S M q = .inl (4, 100, .inr (.inr (.inr (.inr (rn_cr 100 (q + 9) 2))))) := by
  rw [rn_hp_x hq]
  unfold rn_en
  rw [hk]
  rfl
theorem ck_23 {q i : Nat} (hk : rn_kd q = 23) (hi : i < 100) : rn_kd (q + 9 + 2 * i) = 3 := by
  rcases Nat.lt_or_ge q 353 with h | h
  · exact (by decide +kernel : ∀ q, q < 353 → rn_kd q = 23 → ∀ i, i < 100 → rn_kd (q + 9 + 2 * i) = 3) q h hk i hi
  · rw [rn_kd_big h] at hk; cases hk
theorem rn_cr_at {n b s i : Nat} (h : i < n) : rn_cr n b s i = some (b + s * i) := if_pos h
theorem rn_ob_lt {i : Int32} {n : Nat} (h : ¬ rn_ob i n) : i.toNatClampNeg < n := Nat.not_le.mp fun q => h (Or.inr q)
theorem rn_rc_of {h : rn_H} {q c : Nat} {fs as : List Value} (hq : h q = .inr (c, fs)) : rn_rc h c (.ref q :: as) = true := by simp [rn_rc, hq]
def rn_bi (b : Bool) : Int32 := match b with
  | true => 1
  | false => 0
theorem rn_bi01 (b : Bool) : rn_bi b = 0 ∨ rn_bi b = 1 := by cases b <;> simp [rn_bi]
theorem rn_bi0 {b : Bool} : rn_bi b = 0 ↔ b = false := by cases b <;> simp [rn_bi]
def rn_om {α β : Type} (o : Option α) (n : β) (f : α → β) : β := match o with
  | none => n
  | some a => f a
theorem rn_om_n {α β : Type} {o : Option α} {n : β} {f : α → β} (h : o = none) : rn_om o n f = n := by rw [h]; rfl
theorem rn_om_s {α β : Type} {o : Option α} {n : β} {f : α → β} {a : α} (h : o = some a) : rn_om o n f = f a := by rw [h]; rfl
def rn_FU : Nat := 5000
end
section
/-! more rows for runs -/
section EV2
variable {X : rn_X} {y k N sl : Nat} {q : rn_M} {lv lv2 : rn_L} {st : List Value} {h h2 : rn_H} {out : Option Value × Nat × Nat × rn_H} {T : List rn_I} {pc n : Nat} {kp : List Nat}
theorem rn_kq (hq : rn_ms y = some q) {s s2 : rn_S} {e : rn_I} (he : (rn_tb q)[s.1]? = some e) (hs : (s.1, rn_kp e.2.2.1 s.2.1, s.2.2) = (s2.1, rn_kp e.2.2.1 s2.2.1, s2.2.2)) (hn : rn_rv X y s2 out) : rn_rv X y s out := by
  obtain ⟨f, hf⟩ := hn
  obtain ⟨nm, b, mL, rt, T, n, fr, lo, ini⟩ := q
  obtain ⟨k, lv, st, N, sl, h⟩ := s
  obtain ⟨k2, lv2, st2, N2, sl2, h2⟩ := s2
  simp only [Prod.mk.injEq] at hs
  obtain ⟨rfl, hl, rfl, rfl, rfl, rfl⟩ := hs
  cases f with
  | zero => cases hf
  | succ f =>
    refine ⟨f + 1, ?_⟩
    unfold rn_x at hf ⊢
    rw [hq] at hf ⊢
    simp only at he hf ⊢
    rw [he] at hf ⊢
    simp only at hf ⊢
    rw [hl]
    exact hf
theorem rn_bf {b : Bool} (h : b = false) : ¬ b = true := by rw [h]; exact fun z => by cases z
theorem rn_iteb {b : Bool} {i j : Nat} {r : rn_L × List Value × Nat × Nat × rn_H} (hf : b = false → rn_rv X y (i, r) out) (ht : b = true → rn_rv X y (j, r) out) : rn_rv X y (if rn_bi b = 0 then i else j, r) out := by
  cases b with
  | false => rw [if_pos (show rn_bi false = 0 from rfl)]; exact hf rfl
  | true => rw [if_neg (show ¬ rn_bi true = 0 by decide)]; exact ht rfl
theorem rn_rt1 : rn_rt .ireturn (some .boolean) [.int 1] = some (some (.int (rn_bi true))) := if_pos (Or.inr rfl)
theorem rn_rt0 : rn_rt .ireturn (some .boolean) [.int 0] = some (some (.int (rn_bi false))) := if_pos (Or.inl rfl)
theorem rn_rtb (b : Bool) : rn_rt .ireturn (some .boolean) [.int (rn_bi b)] = some (some (.int (rn_bi b))) := if_pos (rn_bi01 b)
theorem rn_bi_dec {x : Int32} (h : x = 0 ∨ x = 1) : rn_bi (decide (x = 1)) = x := by
  rcases h with rfl | rfl <;> rfl
theorem rn_tyb (b : Bool) : rn_ty 1 (.int (rn_bi b)) = true := by cases b <;> decide
theorem rn_ty01 {x : Int32} (h : x = 0 ∨ x = 1) : rn_ty 1 (.int x) = true := by
  rcases h with rfl | rfl <;> decide
theorem rn_g_cpi {w1 w2 w3 w4 idx a a0 n0 n1 m : Nat} {f g : Nat → Int32} {nn : Int32} (he : T[k]? = some (pc, .invokestatic idx, kp, [1, 0, w1, w2, w3, w4])) (hl : rn_kp kp lv = lv2) (hq0 : h a0 = .inl (0, n0, .inl f)) (hq1 : h a = .inl (0, n1, .inl g)) (hcs : Nat.ble (rn_cs st) 8 = true) (hm0 : m ≤ n0) (hm1 : m ≤ n1) (hnn : nn.toNatClampNeg = m) (hn0 : decide (nn < 0) = false) (hh : rn_up h a (.inl (0, n1, .inl (va_cpy f g 0 0 m))) = h2) : rn_g1 X T (k, lv, .int nn :: .int 0 :: .ref a :: .int 0 :: .ref a0 :: st, N, sl, h) = some (k + 1, lv2, st, N, sl, h2) := by
  refine rn_g1_of he hl ?_
  have hc : ¬ ((0 : Int32) < 0 ∨ (0 : Int32) < 0 ∨ nn < 0 ∨ 8 < rn_cs st) := by
    have h1 := Nat.le_of_ble_eq_true hcs
    have h2 := of_decide_eq_false hn0
    rintro (z | z | z | z)
    · exact absurd z (by decide)
    · exact absurd z (by decide)
    · exact h2 z
    · omega
  have hb : (0 : Int32).toNatClampNeg + nn.toNatClampNeg ≤ n0 ∧ (0 : Int32).toNatClampNeg + nn.toNatClampNeg ≤ n1 := by rw [sb_cl0, hnn]; omega
  have : rn_w (.invokestatic idx) [1, 0, w1, w2, w3, w4] (.int nn :: .int 0 :: .ref a :: .int 0 :: .ref a0 :: st) h = some (st, h2) := by
    simp only [rn_w, if_neg hc, hq0, hq1, if_pos hb]
    rw [hnn, sb_cl0, hh]
  simp only [rn_sp]
  rw [show rn_p X (.invokestatic idx) [1, 0, w1, w2, w3, w4] lv2 (.int nn :: .int 0 :: .ref a :: .int 0 :: .ref a0 :: st) h = none from rfl, show rn_b (.invokestatic idx) [1, 0, w1, w2, w3, w4] (k + 1) (.int nn :: .int 0 :: .ref a :: .int 0 :: .ref a0 :: st) = none from rfl, show rn_l (.invokestatic idx) [1, 0, w1, w2, w3, w4] lv2 (.int nn :: .int 0 :: .ref a :: .int 0 :: .ref a0 :: st) = none from rfl]
  simp only [this]
theorem rn_g_cpl {w1 w2 w3 w4 idx a a0 n0 n1 m : Nat} {f g : Nat → Int64} {nn : Int32} (he : T[k]? = some (pc, .invokestatic idx, kp, [1, 1, w1, w2, w3, w4])) (hl : rn_kp kp lv = lv2) (hq0 : h a0 = .inl (1, n0, .inr (.inl f))) (hq1 : h a = .inl (1, n1, .inr (.inl g))) (hcs : Nat.ble (rn_cs st) 8 = true) (hm0 : m ≤ n0) (hm1 : m ≤ n1) (hnn : nn.toNatClampNeg = m) (hn0 : decide (nn < 0) = false) (hh : rn_up h a (.inl (1, n1, .inr (.inl (va_cpy f g 0 0 m)))) = h2) : rn_g1 X T (k, lv, .int nn :: .int 0 :: .ref a :: .int 0 :: .ref a0 :: st, N, sl, h) = some (k + 1, lv2, st, N, sl, h2) := by
  refine rn_g1_of he hl ?_
  have hc : ¬ ((0 : Int32) < 0 ∨ (0 : Int32) < 0 ∨ nn < 0 ∨ 8 < rn_cs st) := by
    have h1 := Nat.le_of_ble_eq_true hcs
    have h2 := of_decide_eq_false hn0
    rintro (z | z | z | z)
    · exact absurd z (by decide)
    · exact absurd z (by decide)
    · exact h2 z
    · omega
  have hb : (0 : Int32).toNatClampNeg + nn.toNatClampNeg ≤ n0 ∧ (0 : Int32).toNatClampNeg + nn.toNatClampNeg ≤ n1 := by rw [sb_cl0, hnn]; omega
  have : rn_w (.invokestatic idx) [1, 1, w1, w2, w3, w4] (.int nn :: .int 0 :: .ref a :: .int 0 :: .ref a0 :: st) h = some (st, h2) := by
    simp only [rn_w, if_neg hc, hq0, hq1, if_pos hb]
    rw [hnn, sb_cl0, hh]
  simp only [rn_sp]
  rw [show rn_p X (.invokestatic idx) [1, 1, w1, w2, w3, w4] lv2 (.int nn :: .int 0 :: .ref a :: .int 0 :: .ref a0 :: st) h = none from rfl, show rn_b (.invokestatic idx) [1, 1, w1, w2, w3, w4] (k + 1) (.int nn :: .int 0 :: .ref a :: .int 0 :: .ref a0 :: st) = none from rfl, show rn_l (.invokestatic idx) [1, 1, w1, w2, w3, w4] lv2 (.int nn :: .int 0 :: .ref a :: .int 0 :: .ref a0 :: st) = none from rfl]
  simp only [this]
end EV2
theorem rn_m0 : rn_ms 0 = some rn_q0 := rfl
theorem rn_m1 : rn_ms 1 = some rn_q1 := rfl
theorem rn_m2 : rn_ms 2 = some rn_q2 := rfl
theorem rn_m3 : rn_ms 3 = some rn_q3 := rfl
theorem rn_m4 : rn_ms 4 = some rn_q4 := rfl
theorem rn_m5 : rn_ms 5 = some rn_q5 := rfl
theorem rn_m6 : rn_ms 6 = some rn_q6 := rfl
theorem rn_m7 : rn_ms 7 = some rn_q7 := rfl
theorem rn_m8 : rn_ms 8 = some rn_q8 := rfl
theorem rn_m9 : rn_ms 9 = some rn_q9 := rfl
theorem rn_m10 : rn_ms 10 = some rn_q10 := rfl
theorem rn_m11 : rn_ms 11 = some rn_q11 := rfl
theorem rn_m12 : rn_ms 12 = some rn_q12 := rfl
theorem rn_m13 : rn_ms 13 = some rn_q13 := rfl
theorem rn_m14 : rn_ms 14 = some rn_q14 := rfl
theorem rn_m15 : rn_ms 15 = some rn_q15 := rfl
theorem rn_m16 : rn_ms 16 = some rn_q16 := rfl
theorem rn_m17 : rn_ms 17 = some rn_q17 := rfl
theorem rn_m18 : rn_ms 18 = some rn_q18 := rfl
theorem rn_m19 : rn_ms 19 = some rn_q19 := rfl
theorem rn_m20 : rn_ms 20 = some rn_q20 := rfl
theorem rn_m21 : rn_ms 21 = some rn_q21 := rfl
theorem rn_m22 : rn_ms 22 = some rn_q22 := rfl
theorem rn_m23 : rn_ms 23 = some rn_q23 := rfl
theorem rn_m24 : rn_ms 24 = some rn_q24 := rfl
theorem rn_m25 : rn_ms 25 = some rn_q25 := rfl
theorem rn_m26 : rn_ms 26 = some rn_q26 := rfl
theorem rn_m27 : rn_ms 27 = some rn_q27 := rfl
theorem rn_m28 : rn_ms 28 = some rn_q28 := rfl
theorem rn_m29 : rn_ms 29 = some rn_q29 := rfl
theorem rn_m30 : rn_ms 30 = some rn_q30 := rfl
theorem rn_m31 : rn_ms 31 = some rn_q31 := rfl
theorem rn_m32 : rn_ms 32 = some rn_q32 := rfl
theorem rn_m33 : rn_ms 33 = some rn_q33 := rfl
theorem rn_m34 : rn_ms 34 = some rn_q34 := rfl
theorem rn_m35 : rn_ms 35 = some rn_q35 := rfl
theorem rn_m36 : rn_ms 36 = some rn_q36 := rfl
theorem rn_m37 : rn_ms 37 = some rn_q37 := rfl
theorem rn_m38 : rn_ms 38 = some rn_q38 := rfl
theorem rn_m39 : rn_ms 39 = some rn_q39 := rfl
theorem rn_m40 : rn_ms 40 = some rn_q40 := rfl
theorem rn_m41 : rn_ms 41 = some rn_q41 := rfl
theorem rn_m42 : rn_ms 42 = some rn_q42 := rfl
theorem rn_m43 : rn_ms 43 = some rn_q43 := rfl
theorem rn_m44 : rn_ms 44 = some rn_q44 := rfl
theorem rn_m45 : rn_ms 45 = some rn_q45 := rfl
theorem rn_m46 : rn_ms 46 = some rn_q46 := rfl
theorem rn_m47 : rn_ms 47 = some rn_q47 := rfl
theorem rn_m48 : rn_ms 48 = some rn_q48 := rfl
theorem rn_m49 : rn_ms 49 = some rn_q49 := rfl
theorem rn_m50 : rn_ms 50 = some rn_q50 := rfl
theorem rn_m51 : rn_ms 51 = some rn_q51 := rfl
theorem rn_m52 : rn_ms 52 = some rn_q52 := rfl
theorem rn_m53 : rn_ms 53 = some rn_q53 := rfl
theorem rn_m54 : rn_ms 54 = some rn_q54 := rfl
theorem rn_m55 : rn_ms 55 = some rn_q55 := rfl
theorem rn_m56 : rn_ms 56 = some rn_q56 := rfl
theorem rn_m57 : rn_ms 57 = some rn_q57 := rfl
theorem rn_m58 : rn_ms 58 = some rn_q58 := rfl
theorem rn_m59 : rn_ms 59 = some rn_q59 := rfl
theorem rn_m60 : rn_ms 60 = some rn_q60 := rfl
theorem rn_m61 : rn_ms 61 = some rn_q61 := rfl
theorem rn_m62 : rn_ms 62 = some rn_q62 := rfl
theorem rn_m63 : rn_ms 63 = some rn_q63 := rfl
theorem rn_m64 : rn_ms 64 = some rn_q64 := rfl
theorem rn_m65 : rn_ms 65 = some rn_q65 := rfl
theorem rn_m66 : rn_ms 66 = some rn_q66 := rfl
theorem rn_m67 : rn_ms 67 = some rn_q67 := rfl
theorem rn_m68 : rn_ms 68 = some rn_q68 := rfl
theorem rn_m69 : rn_ms 69 = some rn_q69 := rfl
theorem rn_m70 : rn_ms 70 = some rn_q70 := rfl
theorem rn_m71 : rn_ms 71 = some rn_q71 := rfl
theorem rn_m72 : rn_ms 72 = some rn_q72 := rfl
theorem rn_m73 : rn_ms 73 = some rn_q73 := rfl
theorem rn_m74 : rn_ms 74 = some rn_q74 := rfl
theorem rn_m75 : rn_ms 75 = some rn_q75 := rfl
theorem rn_m76 : rn_ms 76 = some rn_q76 := rfl
theorem rn_m77 : rn_ms 77 = some rn_q77 := rfl
theorem rn_m78 : rn_ms 78 = some rn_q78 := rfl
theorem rn_m79 : rn_ms 79 = some rn_q79 := rfl
theorem rn_m80 : rn_ms 80 = some rn_q80 := rfl
theorem rn_m81 : rn_ms 81 = some rn_q81 := rfl
theorem rn_m82 : rn_ms 82 = some rn_q82 := rfl
theorem rn_m83 : rn_ms 83 = some rn_q83 := rfl
theorem rn_m84 : rn_ms 84 = some rn_q84 := rfl
theorem rn_m85 : rn_ms 85 = some rn_q85 := rfl
theorem rn_m86 : rn_ms 86 = some rn_q86 := rfl
theorem rn_m87 : rn_ms 87 = some rn_q87 := rfl
theorem rn_m88 : rn_ms 88 = some rn_q88 := rfl
theorem rn_m89 : rn_ms 89 = some rn_q89 := rfl
theorem rn_m90 : rn_ms 90 = some rn_q90 := rfl
theorem rn_m91 : rn_ms 91 = some rn_q91 := rfl
theorem rn_m92 : rn_ms 92 = some rn_q92 := rfl
theorem rn_m93 : rn_ms 93 = some rn_q93 := rfl
theorem rn_m94 : rn_ms 94 = some rn_q94 := rfl
theorem rn_m95 : rn_ms 95 = some rn_q95 := rfl
theorem rn_m96 : rn_ms 96 = some rn_q96 := rfl
theorem rn_m97 : rn_ms 97 = some rn_q97 := rfl
theorem rn_m98 : rn_ms 98 = some rn_q98 := rfl
theorem rn_m99 : rn_ms 99 = some rn_q99 := rfl
theorem rn_m100 : rn_ms 100 = some rn_q100 := rfl
theorem rn_m101 : rn_ms 101 = some rn_q101 := rfl
theorem rn_m102 : rn_ms 102 = some rn_q102 := rfl
theorem rn_m103 : rn_ms 103 = some rn_q103 := rfl
theorem rn_m104 : rn_ms 104 = some rn_q104 := rfl
theorem rn_m105 : rn_ms 105 = some rn_q105 := rfl
theorem rn_m106 : rn_ms 106 = some rn_q106 := rfl
theorem rn_m107 : rn_ms 107 = some rn_q107 := rfl
theorem rn_m108 : rn_ms 108 = some rn_q108 := rfl
theorem rn_m109 : rn_ms 109 = some rn_q109 := rfl
theorem rn_m110 : rn_ms 110 = some rn_q110 := rfl
theorem rn_m111 : rn_ms 111 = some rn_q111 := rfl
theorem rn_m112 : rn_ms 112 = some rn_q112 := rfl
theorem rn_m113 : rn_ms 113 = some rn_q113 := rfl
theorem rn_m114 : rn_ms 114 = some rn_q114 := rfl
theorem rn_m115 : rn_ms 115 = some rn_q115 := rfl
theorem rn_m116 : rn_ms 116 = some rn_q116 := rfl
theorem rn_m117 : rn_ms 117 = some rn_q117 := rfl
theorem rn_m118 : rn_ms 118 = some rn_q118 := rfl
theorem rn_m119 : rn_ms 119 = some rn_q119 := rfl
theorem rn_m120 : rn_ms 120 = some rn_q120 := rfl
theorem rn_m121 : rn_ms 121 = some rn_q121 := rfl
theorem rn_m122 : rn_ms 122 = some rn_q122 := rfl
theorem rn_m123 : rn_ms 123 = some rn_q123 := rfl
theorem rn_m124 : rn_ms 124 = some rn_q124 := rfl
theorem rn_m125 : rn_ms 125 = some rn_q125 := rfl
theorem rn_m126 : rn_ms 126 = some rn_q126 := rfl
theorem rn_m127 : rn_ms 127 = some rn_q127 := rfl
theorem rn_m128 : rn_ms 128 = some rn_q128 := rfl
theorem rn_m129 : rn_ms 129 = some rn_q129 := rfl
theorem rn_m130 : rn_ms 130 = some rn_q130 := rfl
theorem rn_m131 : rn_ms 131 = some rn_q131 := rfl
theorem rn_m132 : rn_ms 132 = some rn_q132 := rfl
theorem rn_m133 : rn_ms 133 = some rn_q133 := rfl
theorem rn_m134 : rn_ms 134 = some rn_q134 := rfl
theorem rn_m135 : rn_ms 135 = some rn_q135 := rfl
theorem rn_m136 : rn_ms 136 = some rn_q136 := rfl
theorem rn_m137 : rn_ms 137 = some rn_q137 := rfl
theorem rn_m138 : rn_ms 138 = some rn_q138 := rfl
theorem rn_m139 : rn_ms 139 = some rn_q139 := rfl
theorem rn_m140 : rn_ms 140 = some rn_q140 := rfl
theorem rn_m141 : rn_ms 141 = some rn_q141 := rfl
theorem rn_m142 : rn_ms 142 = some rn_q142 := rfl
theorem rn_m143 : rn_ms 143 = some rn_q143 := rfl
theorem rn_m144 : rn_ms 144 = some rn_q144 := rfl
theorem rn_m145 : rn_ms 145 = some rn_q145 := rfl
theorem rn_m146 : rn_ms 146 = some rn_q146 := rfl
theorem rn_m147 : rn_ms 147 = some rn_q147 := rfl
theorem rn_m148 : rn_ms 148 = some rn_q148 := rfl
theorem rn_m149 : rn_ms 149 = some rn_q149 := rfl
theorem rn_m150 : rn_ms 150 = some rn_q150 := rfl
theorem rn_m151 : rn_ms 151 = some rn_q151 := rfl
theorem rn_m152 : rn_ms 152 = some rn_q152 := rfl
theorem rn_m153 : rn_ms 153 = some rn_q153 := rfl
theorem rn_m154 : rn_ms 154 = some rn_q154 := rfl
theorem rn_m155 : rn_ms 155 = some rn_q155 := rfl
theorem rn_m156 : rn_ms 156 = some rn_q156 := rfl
theorem rn_m157 : rn_ms 157 = some rn_q157 := rfl
theorem rn_m158 : rn_ms 158 = some rn_q158 := rfl
theorem rn_m159 : rn_ms 159 = some rn_q159 := rfl
theorem rn_m160 : rn_ms 160 = some rn_q160 := rfl
theorem rn_m161 : rn_ms 161 = some rn_q161 := rfl
theorem rn_m162 : rn_ms 162 = some rn_q162 := rfl
theorem rn_m163 : rn_ms 163 = some rn_q163 := rfl
theorem rn_m164 : rn_ms 164 = some rn_q164 := rfl
theorem rn_m165 : rn_ms 165 = some rn_q165 := rfl
end
