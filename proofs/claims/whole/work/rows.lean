section
-- ===== PART A: goes FIRST, ahead of the names: the tables' words, and 'selects' of the private methods out of them =====
/-- a private method of a class that the tables say can be made, by its rows of tables_1 -/
def lw_okq (q : MethodName × Nat) : Prop := (q.1.cls ≠ "java/lang/invoke/MethodHandle" ∧ q.1.cls ≠ "java/lang/invoke/VarHandle") ∧ Cond.instantiable q.1.cls q.2 ∈ tables_1 ∧ Cond.privateMethod q.1 ∈ tables_1 ∧ Cond.instanceMethod q.1 ∈ tables_1
theorem lw_p0 : lw_okq (⟨"RecordNiches$Scan", "take", "(LRecordNiches$Holding;III)I"⟩, 6) := ⟨⟨by decide +kernel, by decide +kernel⟩, List.mem_of_getElem? (i := 80) (by decide +kernel), List.mem_of_getElem? (i := 332) (by decide +kernel), List.mem_of_getElem? (i := 333) (by decide +kernel)⟩
theorem lw_p1 : lw_okq (⟨"RecordNiches$Scan", "begin", "(LRecordNiches$Holding;III)I"⟩, 6) := ⟨⟨by decide +kernel, by decide +kernel⟩, List.mem_of_getElem? (i := 80) (by decide +kernel), List.mem_of_getElem? (i := 336) (by decide +kernel), List.mem_of_getElem? (i := 337) (by decide +kernel)⟩
theorem lw_p2 : lw_okq (⟨"RecordNiches$Scan", "endTerms", "(I)V"⟩, 6) := ⟨⟨by decide +kernel, by decide +kernel⟩, List.mem_of_getElem? (i := 80) (by decide +kernel), List.mem_of_getElem? (i := 347) (by decide +kernel), List.mem_of_getElem? (i := 348) (by decide +kernel)⟩
theorem lw_p3 : lw_okq (⟨"RecordNiches", "isKnown", "(II)Z"⟩, 6) := ⟨⟨by decide +kernel, by decide +kernel⟩, List.mem_of_getElem? (i := 14) (by decide +kernel), List.mem_of_getElem? (i := 359) (by decide +kernel), List.mem_of_getElem? (i := 360) (by decide +kernel)⟩
theorem lw_p4 : lw_okq (⟨"RecordNiches", "prepare", "(II)I"⟩, 6) := ⟨⟨by decide +kernel, by decide +kernel⟩, List.mem_of_getElem? (i := 14) (by decide +kernel), List.mem_of_getElem? (i := 369) (by decide +kernel), List.mem_of_getElem? (i := 370) (by decide +kernel)⟩
theorem lw_p5 : lw_okq (⟨"RecordNiches$Tree", "keepArgument", "(III)I"⟩, 16) := ⟨⟨by decide +kernel, by decide +kernel⟩, List.mem_of_getElem? (i := 116) (by decide +kernel), List.mem_of_getElem? (i := 383) (by decide +kernel), List.mem_of_getElem? (i := 384) (by decide +kernel)⟩
theorem lw_p6 : lw_okq (⟨"RecordNiches$Tree", "goTo", "(III)V"⟩, 16) := ⟨⟨by decide +kernel, by decide +kernel⟩, List.mem_of_getElem? (i := 116) (by decide +kernel), List.mem_of_getElem? (i := 387) (by decide +kernel), List.mem_of_getElem? (i := 388) (by decide +kernel)⟩
theorem lw_p7 : lw_okq (⟨"RecordNiches$Tree", "grow", "(LRecordNiches$Holding;LRecordNiches$Node;)Z"⟩, 16) := ⟨⟨by decide +kernel, by decide +kernel⟩, List.mem_of_getElem? (i := 116) (by decide +kernel), List.mem_of_getElem? (i := 391) (by decide +kernel), List.mem_of_getElem? (i := 392) (by decide +kernel)⟩
theorem lw_p8 : lw_okq (⟨"RecordNiches$Tree", "goThroughLetters", "(LRecordNiches$Holding;)Z"⟩, 16) := ⟨⟨by decide +kernel, by decide +kernel⟩, List.mem_of_getElem? (i := 116) (by decide +kernel), List.mem_of_getElem? (i := 395) (by decide +kernel), List.mem_of_getElem? (i := 396) (by decide +kernel)⟩
theorem lw_p9 : lw_okq (⟨"RecordNiches$Tree", "use", "(II)V"⟩, 16) := ⟨⟨by decide +kernel, by decide +kernel⟩, List.mem_of_getElem? (i := 116) (by decide +kernel), List.mem_of_getElem? (i := 505) (by decide +kernel), List.mem_of_getElem? (i := 506) (by decide +kernel)⟩
theorem lw_p10 : lw_okq (⟨"RecordNiches", "isPlaceForRoot", "(I)Z"⟩, 6) := ⟨⟨by decide +kernel, by decide +kernel⟩, List.mem_of_getElem? (i := 14) (by decide +kernel), List.mem_of_getElem? (i := 527) (by decide +kernel), List.mem_of_getElem? (i := 528) (by decide +kernel)⟩
theorem lw_p11 : lw_okq (⟨"RecordNiches$Transfer", "keep", "(LRecordNiches$Node;J)V"⟩, 2) := ⟨⟨by decide +kernel, by decide +kernel⟩, List.mem_of_getElem? (i := 275) (by decide +kernel), List.mem_of_getElem? (i := 551) (by decide +kernel), List.mem_of_getElem? (i := 552) (by decide +kernel)⟩
theorem lw_p12 : lw_okq (⟨"RecordNichesModel", "faultOf", "(I)I"⟩, 43) := ⟨⟨by decide +kernel, by decide +kernel⟩, List.mem_of_getElem? (i := 620) (by decide +kernel), List.mem_of_getElem? (i := 777) (by decide +kernel), List.mem_of_getElem? (i := 778) (by decide +kernel)⟩
theorem lw_p13 : lw_okq (⟨"RecordNichesModel", "push", "(I)V"⟩, 43) := ⟨⟨by decide +kernel, by decide +kernel⟩, List.mem_of_getElem? (i := 620) (by decide +kernel), List.mem_of_getElem? (i := 781) (by decide +kernel), List.mem_of_getElem? (i := 782) (by decide +kernel)⟩
theorem lw_p14 : lw_okq (⟨"RecordNichesModel", "signAt", "(II)I"⟩, 43) := ⟨⟨by decide +kernel, by decide +kernel⟩, List.mem_of_getElem? (i := 620) (by decide +kernel), List.mem_of_getElem? (i := 785) (by decide +kernel), List.mem_of_getElem? (i := 786) (by decide +kernel)⟩
theorem lw_p15 : lw_okq (⟨"RecordNichesModel", "canStand", "(II)Z"⟩, 43) := ⟨⟨by decide +kernel, by decide +kernel⟩, List.mem_of_getElem? (i := 620) (by decide +kernel), List.mem_of_getElem? (i := 789) (by decide +kernel), List.mem_of_getElem? (i := 790) (by decide +kernel)⟩
def lw_privs_1 : List (MethodName × Nat) := [(⟨"RecordNiches$Scan", "take", "(LRecordNiches$Holding;III)I"⟩, 6), (⟨"RecordNiches$Scan", "begin", "(LRecordNiches$Holding;III)I"⟩, 6), (⟨"RecordNiches$Scan", "endTerms", "(I)V"⟩, 6), (⟨"RecordNiches", "isKnown", "(II)Z"⟩, 6), (⟨"RecordNiches", "prepare", "(II)I"⟩, 6), (⟨"RecordNiches$Tree", "keepArgument", "(III)I"⟩, 16), (⟨"RecordNiches$Tree", "goTo", "(III)V"⟩, 16), (⟨"RecordNiches$Tree", "grow", "(LRecordNiches$Holding;LRecordNiches$Node;)Z"⟩, 16), (⟨"RecordNiches$Tree", "goThroughLetters", "(LRecordNiches$Holding;)Z"⟩, 16), (⟨"RecordNiches$Tree", "use", "(II)V"⟩, 16), (⟨"RecordNiches", "isPlaceForRoot", "(I)Z"⟩, 6), (⟨"RecordNiches$Transfer", "keep", "(LRecordNiches$Node;J)V"⟩, 2), (⟨"RecordNichesModel", "faultOf", "(I)I"⟩, 43), (⟨"RecordNichesModel", "push", "(I)V"⟩, 43), (⟨"RecordNichesModel", "signAt", "(II)I"⟩, 43), (⟨"RecordNichesModel", "canStand", "(II)Z"⟩, 43)]
theorem lw_r1 : ∀ q ∈ lw_privs_1, lw_okq q := List.forall_mem_cons.mpr ⟨lw_p0, List.forall_mem_cons.mpr ⟨lw_p1, List.forall_mem_cons.mpr ⟨lw_p2, List.forall_mem_cons.mpr ⟨lw_p3, List.forall_mem_cons.mpr ⟨lw_p4, List.forall_mem_cons.mpr ⟨lw_p5, List.forall_mem_cons.mpr ⟨lw_p6, List.forall_mem_cons.mpr ⟨lw_p7, List.forall_mem_cons.mpr ⟨lw_p8, List.forall_mem_cons.mpr ⟨lw_p9, List.forall_mem_cons.mpr ⟨lw_p10, List.forall_mem_cons.mpr ⟨lw_p11, List.forall_mem_cons.mpr ⟨lw_p12, List.forall_mem_cons.mpr ⟨lw_p13, List.forall_mem_cons.mpr ⟨lw_p14, List.forall_mem_cons.mpr ⟨lw_p15, fun _ h => absurd h List.not_mem_nil⟩⟩⟩⟩⟩⟩⟩⟩⟩⟩⟩⟩⟩⟩⟩⟩
theorem lw_p16 : lw_okq (⟨"RecordNichesModel", "isWithin", "(III)Z"⟩, 43) := ⟨⟨by decide +kernel, by decide +kernel⟩, List.mem_of_getElem? (i := 620) (by decide +kernel), List.mem_of_getElem? (i := 793) (by decide +kernel), List.mem_of_getElem? (i := 794) (by decide +kernel)⟩
theorem lw_p17 : lw_okq (⟨"RecordNichesModel", "begins", "(II)Z"⟩, 43) := ⟨⟨by decide +kernel, by decide +kernel⟩, List.mem_of_getElem? (i := 620) (by decide +kernel), List.mem_of_getElem? (i := 797) (by decide +kernel), List.mem_of_getElem? (i := 798) (by decide +kernel)⟩
theorem lw_p18 : lw_okq (⟨"RecordNichesModel", "isOpen", "(I)Z"⟩, 43) := ⟨⟨by decide +kernel, by decide +kernel⟩, List.mem_of_getElem? (i := 620) (by decide +kernel), List.mem_of_getElem? (i := 806) (by decide +kernel), List.mem_of_getElem? (i := 807) (by decide +kernel)⟩
theorem lw_p19 : lw_okq (⟨"RecordNichesModel", "isAsked", "(II)Z"⟩, 43) := ⟨⟨by decide +kernel, by decide +kernel⟩, List.mem_of_getElem? (i := 620) (by decide +kernel), List.mem_of_getElem? (i := 823) (by decide +kernel), List.mem_of_getElem? (i := 824) (by decide +kernel)⟩
theorem lw_p20 : lw_okq (⟨"RecordNichesModel", "refusal", "(II)I"⟩, 43) := ⟨⟨by decide +kernel, by decide +kernel⟩, List.mem_of_getElem? (i := 620) (by decide +kernel), List.mem_of_getElem? (i := 829) (by decide +kernel), List.mem_of_getElem? (i := 830) (by decide +kernel)⟩
theorem lw_p21 : lw_okq (⟨"RecordNichesModel", "isWell", "(II)Z"⟩, 43) := ⟨⟨by decide +kernel, by decide +kernel⟩, List.mem_of_getElem? (i := 620) (by decide +kernel), List.mem_of_getElem? (i := 833) (by decide +kernel), List.mem_of_getElem? (i := 834) (by decide +kernel)⟩
theorem lw_p22 : lw_okq (⟨"RecordNichesModel", "lettersOf", "(I)I"⟩, 43) := ⟨⟨by decide +kernel, by decide +kernel⟩, List.mem_of_getElem? (i := 620) (by decide +kernel), List.mem_of_getElem? (i := 837) (by decide +kernel), List.mem_of_getElem? (i := 838) (by decide +kernel)⟩
theorem lw_p23 : lw_okq (⟨"RecordNichesModel", "isOpened", "(II)Z"⟩, 43) := ⟨⟨by decide +kernel, by decide +kernel⟩, List.mem_of_getElem? (i := 620) (by decide +kernel), List.mem_of_getElem? (i := 841) (by decide +kernel), List.mem_of_getElem? (i := 842) (by decide +kernel)⟩
theorem lw_p24 : lw_okq (⟨"RecordNichesModel", "addX", "(III)I"⟩, 43) := ⟨⟨by decide +kernel, by decide +kernel⟩, List.mem_of_getElem? (i := 620) (by decide +kernel), List.mem_of_getElem? (i := 845) (by decide +kernel), List.mem_of_getElem? (i := 846) (by decide +kernel)⟩
theorem lw_p25 : lw_okq (⟨"RecordNichesModel", "addTodo", "(IIII)V"⟩, 43) := ⟨⟨by decide +kernel, by decide +kernel⟩, List.mem_of_getElem? (i := 620) (by decide +kernel), List.mem_of_getElem? (i := 849) (by decide +kernel), List.mem_of_getElem? (i := 850) (by decide +kernel)⟩
theorem lw_p26 : lw_okq (⟨"RecordNichesModel", "openOne", "()V"⟩, 43) := ⟨⟨by decide +kernel, by decide +kernel⟩, List.mem_of_getElem? (i := 620) (by decide +kernel), List.mem_of_getElem? (i := 853) (by decide +kernel), List.mem_of_getElem? (i := 854) (by decide +kernel)⟩
theorem lw_p27 : lw_okq (⟨"RecordNichesModel", "addPart", "(IIII)V"⟩, 43) := ⟨⟨by decide +kernel, by decide +kernel⟩, List.mem_of_getElem? (i := 620) (by decide +kernel), List.mem_of_getElem? (i := 857) (by decide +kernel), List.mem_of_getElem? (i := 858) (by decide +kernel)⟩
theorem lw_p28 : lw_okq (⟨"RecordNichesModel", "addWithin", "(IIII)V"⟩, 43) := ⟨⟨by decide +kernel, by decide +kernel⟩, List.mem_of_getElem? (i := 620) (by decide +kernel), List.mem_of_getElem? (i := 864) (by decide +kernel), List.mem_of_getElem? (i := 865) (by decide +kernel)⟩
theorem lw_p29 : lw_okq (⟨"RecordNichesModel", "endOf", "(II)I"⟩, 43) := ⟨⟨by decide +kernel, by decide +kernel⟩, List.mem_of_getElem? (i := 620) (by decide +kernel), List.mem_of_getElem? (i := 868) (by decide +kernel), List.mem_of_getElem? (i := 869) (by decide +kernel)⟩
theorem lw_p30 : lw_okq (⟨"RecordNichesModel", "isLaid", "()Z"⟩, 43) := ⟨⟨by decide +kernel, by decide +kernel⟩, List.mem_of_getElem? (i := 620) (by decide +kernel), List.mem_of_getElem? (i := 872) (by decide +kernel), List.mem_of_getElem? (i := 873) (by decide +kernel)⟩
theorem lw_p31 : lw_okq (⟨"RecordNichesModel", "layOne", "(I)V"⟩, 43) := ⟨⟨by decide +kernel, by decide +kernel⟩, List.mem_of_getElem? (i := 620) (by decide +kernel), List.mem_of_getElem? (i := 876) (by decide +kernel), List.mem_of_getElem? (i := 877) (by decide +kernel)⟩
def lw_privs_2 : List (MethodName × Nat) := [(⟨"RecordNichesModel", "isWithin", "(III)Z"⟩, 43), (⟨"RecordNichesModel", "begins", "(II)Z"⟩, 43), (⟨"RecordNichesModel", "isOpen", "(I)Z"⟩, 43), (⟨"RecordNichesModel", "isAsked", "(II)Z"⟩, 43), (⟨"RecordNichesModel", "refusal", "(II)I"⟩, 43), (⟨"RecordNichesModel", "isWell", "(II)Z"⟩, 43), (⟨"RecordNichesModel", "lettersOf", "(I)I"⟩, 43), (⟨"RecordNichesModel", "isOpened", "(II)Z"⟩, 43), (⟨"RecordNichesModel", "addX", "(III)I"⟩, 43), (⟨"RecordNichesModel", "addTodo", "(IIII)V"⟩, 43), (⟨"RecordNichesModel", "openOne", "()V"⟩, 43), (⟨"RecordNichesModel", "addPart", "(IIII)V"⟩, 43), (⟨"RecordNichesModel", "addWithin", "(IIII)V"⟩, 43), (⟨"RecordNichesModel", "endOf", "(II)I"⟩, 43), (⟨"RecordNichesModel", "isLaid", "()Z"⟩, 43), (⟨"RecordNichesModel", "layOne", "(I)V"⟩, 43)]
theorem lw_r2 : ∀ q ∈ lw_privs_2, lw_okq q := List.forall_mem_cons.mpr ⟨lw_p16, List.forall_mem_cons.mpr ⟨lw_p17, List.forall_mem_cons.mpr ⟨lw_p18, List.forall_mem_cons.mpr ⟨lw_p19, List.forall_mem_cons.mpr ⟨lw_p20, List.forall_mem_cons.mpr ⟨lw_p21, List.forall_mem_cons.mpr ⟨lw_p22, List.forall_mem_cons.mpr ⟨lw_p23, List.forall_mem_cons.mpr ⟨lw_p24, List.forall_mem_cons.mpr ⟨lw_p25, List.forall_mem_cons.mpr ⟨lw_p26, List.forall_mem_cons.mpr ⟨lw_p27, List.forall_mem_cons.mpr ⟨lw_p28, List.forall_mem_cons.mpr ⟨lw_p29, List.forall_mem_cons.mpr ⟨lw_p30, List.forall_mem_cons.mpr ⟨lw_p31, fun _ h => absurd h List.not_mem_nil⟩⟩⟩⟩⟩⟩⟩⟩⟩⟩⟩⟩⟩⟩⟩⟩
theorem lw_p32 : lw_okq (⟨"RecordNichesModel", "layRecord", "(I)V"⟩, 43) := ⟨⟨by decide +kernel, by decide +kernel⟩, List.mem_of_getElem? (i := 620) (by decide +kernel), List.mem_of_getElem? (i := 880) (by decide +kernel), List.mem_of_getElem? (i := 881) (by decide +kernel)⟩
theorem lw_p33 : lw_okq (⟨"RecordNichesModel", "layFields", "(III)I"⟩, 43) := ⟨⟨by decide +kernel, by decide +kernel⟩, List.mem_of_getElem? (i := 620) (by decide +kernel), List.mem_of_getElem? (i := 884) (by decide +kernel), List.mem_of_getElem? (i := 885) (by decide +kernel)⟩
theorem lw_p34 : lw_okq (⟨"RecordNichesModel", "child", "(II)I"⟩, 43) := ⟨⟨by decide +kernel, by decide +kernel⟩, List.mem_of_getElem? (i := 620) (by decide +kernel), List.mem_of_getElem? (i := 888) (by decide +kernel), List.mem_of_getElem? (i := 889) (by decide +kernel)⟩
theorem lw_p35 : lw_okq (⟨"RecordNichesModel", "greatestAlign", "(I)I"⟩, 43) := ⟨⟨by decide +kernel, by decide +kernel⟩, List.mem_of_getElem? (i := 620) (by decide +kernel), List.mem_of_getElem? (i := 895) (by decide +kernel), List.mem_of_getElem? (i := 896) (by decide +kernel)⟩
theorem lw_p36 : lw_okq (⟨"RecordNichesModel", "gap", "(IIIII)V"⟩, 43) := ⟨⟨by decide +kernel, by decide +kernel⟩, List.mem_of_getElem? (i := 620) (by decide +kernel), List.mem_of_getElem? (i := 902) (by decide +kernel), List.mem_of_getElem? (i := 903) (by decide +kernel)⟩
theorem lw_p37 : lw_okq (⟨"RecordNichesModel", "layVariant", "(I)V"⟩, 43) := ⟨⟨by decide +kernel, by decide +kernel⟩, List.mem_of_getElem? (i := 620) (by decide +kernel), List.mem_of_getElem? (i := 906) (by decide +kernel), List.mem_of_getElem? (i := 907) (by decide +kernel)⟩
theorem lw_p38 : lw_okq (⟨"RecordNichesModel", "hostOf", "(I)I"⟩, 43) := ⟨⟨by decide +kernel, by decide +kernel⟩, List.mem_of_getElem? (i := 620) (by decide +kernel), List.mem_of_getElem? (i := 910) (by decide +kernel), List.mem_of_getElem? (i := 911) (by decide +kernel)⟩
theorem lw_p39 : lw_okq (⟨"RecordNichesModel", "isHidden", "(II)Z"⟩, 43) := ⟨⟨by decide +kernel, by decide +kernel⟩, List.mem_of_getElem? (i := 620) (by decide +kernel), List.mem_of_getElem? (i := 914) (by decide +kernel), List.mem_of_getElem? (i := 915) (by decide +kernel)⟩
theorem lw_p40 : lw_okq (⟨"RecordNichesModel", "roomFor", "(II)I"⟩, 43) := ⟨⟨by decide +kernel, by decide +kernel⟩, List.mem_of_getElem? (i := 620) (by decide +kernel), List.mem_of_getElem? (i := 918) (by decide +kernel), List.mem_of_getElem? (i := 919) (by decide +kernel)⟩
theorem lw_p41 : lw_okq (⟨"RecordNichesModel", "layTagged", "(I)V"⟩, 43) := ⟨⟨by decide +kernel, by decide +kernel⟩, List.mem_of_getElem? (i := 620) (by decide +kernel), List.mem_of_getElem? (i := 922) (by decide +kernel), List.mem_of_getElem? (i := 923) (by decide +kernel)⟩
theorem lw_p42 : lw_okq (⟨"RecordNichesModel", "layHidden", "(II)V"⟩, 43) := ⟨⟨by decide +kernel, by decide +kernel⟩, List.mem_of_getElem? (i := 620) (by decide +kernel), List.mem_of_getElem? (i := 926) (by decide +kernel), List.mem_of_getElem? (i := 927) (by decide +kernel)⟩
theorem lw_p43 : lw_okq (⟨"RecordNichesModel", "layLeaf", "(I)V"⟩, 43) := ⟨⟨by decide +kernel, by decide +kernel⟩, List.mem_of_getElem? (i := 620) (by decide +kernel), List.mem_of_getElem? (i := 930) (by decide +kernel), List.mem_of_getElem? (i := 931) (by decide +kernel)⟩
theorem lw_p44 : lw_okq (⟨"RecordNichesModel", "toldOf", "(I)I"⟩, 43) := ⟨⟨by decide +kernel, by decide +kernel⟩, List.mem_of_getElem? (i := 620) (by decide +kernel), List.mem_of_getElem? (i := 934) (by decide +kernel), List.mem_of_getElem? (i := 935) (by decide +kernel)⟩
theorem lw_p45 : lw_okq (⟨"RecordNichesModel", "termTold", "(II)I"⟩, 43) := ⟨⟨by decide +kernel, by decide +kernel⟩, List.mem_of_getElem? (i := 620) (by decide +kernel), List.mem_of_getElem? (i := 943) (by decide +kernel), List.mem_of_getElem? (i := 944) (by decide +kernel)⟩
theorem lw_p46 : lw_okq (⟨"RecordNichesModel", "patternOf", "(II)I"⟩, 43) := ⟨⟨by decide +kernel, by decide +kernel⟩, List.mem_of_getElem? (i := 620) (by decide +kernel), List.mem_of_getElem? (i := 955) (by decide +kernel), List.mem_of_getElem? (i := 956) (by decide +kernel)⟩
theorem lw_p47 : lw_okq (⟨"RecordNichesModel", "leastEnd", "()I"⟩, 43) := ⟨⟨by decide +kernel, by decide +kernel⟩, List.mem_of_getElem? (i := 620) (by decide +kernel), List.mem_of_getElem? (i := 963) (by decide +kernel), List.mem_of_getElem? (i := 964) (by decide +kernel)⟩
def lw_privs_3 : List (MethodName × Nat) := [(⟨"RecordNichesModel", "layRecord", "(I)V"⟩, 43), (⟨"RecordNichesModel", "layFields", "(III)I"⟩, 43), (⟨"RecordNichesModel", "child", "(II)I"⟩, 43), (⟨"RecordNichesModel", "greatestAlign", "(I)I"⟩, 43), (⟨"RecordNichesModel", "gap", "(IIIII)V"⟩, 43), (⟨"RecordNichesModel", "layVariant", "(I)V"⟩, 43), (⟨"RecordNichesModel", "hostOf", "(I)I"⟩, 43), (⟨"RecordNichesModel", "isHidden", "(II)Z"⟩, 43), (⟨"RecordNichesModel", "roomFor", "(II)I"⟩, 43), (⟨"RecordNichesModel", "layTagged", "(I)V"⟩, 43), (⟨"RecordNichesModel", "layHidden", "(II)V"⟩, 43), (⟨"RecordNichesModel", "layLeaf", "(I)V"⟩, 43), (⟨"RecordNichesModel", "toldOf", "(I)I"⟩, 43), (⟨"RecordNichesModel", "termTold", "(II)I"⟩, 43), (⟨"RecordNichesModel", "patternOf", "(II)I"⟩, 43), (⟨"RecordNichesModel", "leastEnd", "()I"⟩, 43)]
theorem lw_r3 : ∀ q ∈ lw_privs_3, lw_okq q := List.forall_mem_cons.mpr ⟨lw_p32, List.forall_mem_cons.mpr ⟨lw_p33, List.forall_mem_cons.mpr ⟨lw_p34, List.forall_mem_cons.mpr ⟨lw_p35, List.forall_mem_cons.mpr ⟨lw_p36, List.forall_mem_cons.mpr ⟨lw_p37, List.forall_mem_cons.mpr ⟨lw_p38, List.forall_mem_cons.mpr ⟨lw_p39, List.forall_mem_cons.mpr ⟨lw_p40, List.forall_mem_cons.mpr ⟨lw_p41, List.forall_mem_cons.mpr ⟨lw_p42, List.forall_mem_cons.mpr ⟨lw_p43, List.forall_mem_cons.mpr ⟨lw_p44, List.forall_mem_cons.mpr ⟨lw_p45, List.forall_mem_cons.mpr ⟨lw_p46, List.forall_mem_cons.mpr ⟨lw_p47, fun _ h => absurd h List.not_mem_nil⟩⟩⟩⟩⟩⟩⟩⟩⟩⟩⟩⟩⟩⟩⟩⟩
theorem lw_p48 : lw_okq (⟨"RecordNichesModel", "coverOne", "(I)V"⟩, 43) := ⟨⟨by decide +kernel, by decide +kernel⟩, List.mem_of_getElem? (i := 620) (by decide +kernel), List.mem_of_getElem? (i := 971) (by decide +kernel), List.mem_of_getElem? (i := 972) (by decide +kernel)⟩
theorem lw_p49 : lw_okq (⟨"RecordNichesModel", "placeOf", "(I)I"⟩, 43) := ⟨⟨by decide +kernel, by decide +kernel⟩, List.mem_of_getElem? (i := 620) (by decide +kernel), List.mem_of_getElem? (i := 975) (by decide +kernel), List.mem_of_getElem? (i := 976) (by decide +kernel)⟩
theorem lw_p50 : lw_okq (⟨"RecordNichesModel", "refusalAt", "(III)I"⟩, 43) := ⟨⟨by decide +kernel, by decide +kernel⟩, List.mem_of_getElem? (i := 620) (by decide +kernel), List.mem_of_getElem? (i := 997) (by decide +kernel), List.mem_of_getElem? (i := 998) (by decide +kernel)⟩
theorem lw_p51 : lw_okq (⟨"RecordNichesModel", "isValue", "()Z"⟩, 43) := ⟨⟨by decide +kernel, by decide +kernel⟩, List.mem_of_getElem? (i := 620) (by decide +kernel), List.mem_of_getElem? (i := 1001) (by decide +kernel), List.mem_of_getElem? (i := 1002) (by decide +kernel)⟩
theorem lw_p52 : lw_okq (⟨"RecordNichesModel", "isThereNow", "(I)Z"⟩, 43) := ⟨⟨by decide +kernel, by decide +kernel⟩, List.mem_of_getElem? (i := 620) (by decide +kernel), List.mem_of_getElem? (i := 1005) (by decide +kernel), List.mem_of_getElem? (i := 1006) (by decide +kernel)⟩
theorem lw_p53 : lw_okq (⟨"RecordNichesModel", "hasNumber", "(I)Z"⟩, 43) := ⟨⟨by decide +kernel, by decide +kernel⟩, List.mem_of_getElem? (i := 620) (by decide +kernel), List.mem_of_getElem? (i := 1009) (by decide +kernel), List.mem_of_getElem? (i := 1010) (by decide +kernel)⟩
theorem lw_p54 : lw_okq (⟨"RecordNichesModel", "isNumber", "(IJ)Z"⟩, 43) := ⟨⟨by decide +kernel, by decide +kernel⟩, List.mem_of_getElem? (i := 620) (by decide +kernel), List.mem_of_getElem? (i := 1013) (by decide +kernel), List.mem_of_getElem? (i := 1014) (by decide +kernel)⟩
theorem lw_p55 : lw_okq (⟨"RecordNichesModel", "layValue", "(I)V"⟩, 43) := ⟨⟨by decide +kernel, by decide +kernel⟩, List.mem_of_getElem? (i := 620) (by decide +kernel), List.mem_of_getElem? (i := 1018) (by decide +kernel), List.mem_of_getElem? (i := 1019) (by decide +kernel)⟩
theorem lw_p56 : lw_okq (⟨"RecordNichesModel", "lay", "(IIJ)V"⟩, 43) := ⟨⟨by decide +kernel, by decide +kernel⟩, List.mem_of_getElem? (i := 620) (by decide +kernel), List.mem_of_getElem? (i := 1022) (by decide +kernel), List.mem_of_getElem? (i := 1023) (by decide +kernel)⟩
theorem lw_p57 : lw_okq (⟨"RecordNichesModel", "valueAt", "(I)I"⟩, 43) := ⟨⟨by decide +kernel, by decide +kernel⟩, List.mem_of_getElem? (i := 620) (by decide +kernel), List.mem_of_getElem? (i := 1031) (by decide +kernel), List.mem_of_getElem? (i := 1032) (by decide +kernel)⟩
theorem lw_p58 : lw_okq (⟨"RecordNichesModel", "numberAt", "(II)J"⟩, 43) := ⟨⟨by decide +kernel, by decide +kernel⟩, List.mem_of_getElem? (i := 620) (by decide +kernel), List.mem_of_getElem? (i := 1035) (by decide +kernel), List.mem_of_getElem? (i := 1036) (by decide +kernel)⟩
theorem lw_p59 : lw_okq (⟨"RecordNichesModel", "lies", "(II)J"⟩, 43) := ⟨⟨by decide +kernel, by decide +kernel⟩, List.mem_of_getElem? (i := 620) (by decide +kernel), List.mem_of_getElem? (i := 1039) (by decide +kernel), List.mem_of_getElem? (i := 1040) (by decide +kernel)⟩
theorem lw_p60 : lw_okq (⟨"RecordNichesModel", "hiddenAt", "(II)J"⟩, 43) := ⟨⟨by decide +kernel, by decide +kernel⟩, List.mem_of_getElem? (i := 620) (by decide +kernel), List.mem_of_getElem? (i := 1043) (by decide +kernel), List.mem_of_getElem? (i := 1044) (by decide +kernel)⟩
theorem lw_p61 : lw_okq (⟨"RecordNichesModel", "passAll", "(I)V"⟩, 43) := ⟨⟨by decide +kernel, by decide +kernel⟩, List.mem_of_getElem? (i := 620) (by decide +kernel), List.mem_of_getElem? (i := 1064) (by decide +kernel), List.mem_of_getElem? (i := 1065) (by decide +kernel)⟩
theorem lw_p62 : lw_okq (⟨"RecordNichesModel", "pass", "(I)I"⟩, 43) := ⟨⟨by decide +kernel, by decide +kernel⟩, List.mem_of_getElem? (i := 620) (by decide +kernel), List.mem_of_getElem? (i := 1068) (by decide +kernel), List.mem_of_getElem? (i := 1069) (by decide +kernel)⟩
theorem lw_p63 : lw_okq (⟨"RecordNichesModel", "passRow", "([II)V"⟩, 43) := ⟨⟨by decide +kernel, by decide +kernel⟩, List.mem_of_getElem? (i := 620) (by decide +kernel), List.mem_of_getElem? (i := 1072) (by decide +kernel), List.mem_of_getElem? (i := 1073) (by decide +kernel)⟩
def lw_privs_4 : List (MethodName × Nat) := [(⟨"RecordNichesModel", "coverOne", "(I)V"⟩, 43), (⟨"RecordNichesModel", "placeOf", "(I)I"⟩, 43), (⟨"RecordNichesModel", "refusalAt", "(III)I"⟩, 43), (⟨"RecordNichesModel", "isValue", "()Z"⟩, 43), (⟨"RecordNichesModel", "isThereNow", "(I)Z"⟩, 43), (⟨"RecordNichesModel", "hasNumber", "(I)Z"⟩, 43), (⟨"RecordNichesModel", "isNumber", "(IJ)Z"⟩, 43), (⟨"RecordNichesModel", "layValue", "(I)V"⟩, 43), (⟨"RecordNichesModel", "lay", "(IIJ)V"⟩, 43), (⟨"RecordNichesModel", "valueAt", "(I)I"⟩, 43), (⟨"RecordNichesModel", "numberAt", "(II)J"⟩, 43), (⟨"RecordNichesModel", "lies", "(II)J"⟩, 43), (⟨"RecordNichesModel", "hiddenAt", "(II)J"⟩, 43), (⟨"RecordNichesModel", "passAll", "(I)V"⟩, 43), (⟨"RecordNichesModel", "pass", "(I)I"⟩, 43), (⟨"RecordNichesModel", "passRow", "([II)V"⟩, 43)]
theorem lw_r4 : ∀ q ∈ lw_privs_4, lw_okq q := List.forall_mem_cons.mpr ⟨lw_p48, List.forall_mem_cons.mpr ⟨lw_p49, List.forall_mem_cons.mpr ⟨lw_p50, List.forall_mem_cons.mpr ⟨lw_p51, List.forall_mem_cons.mpr ⟨lw_p52, List.forall_mem_cons.mpr ⟨lw_p53, List.forall_mem_cons.mpr ⟨lw_p54, List.forall_mem_cons.mpr ⟨lw_p55, List.forall_mem_cons.mpr ⟨lw_p56, List.forall_mem_cons.mpr ⟨lw_p57, List.forall_mem_cons.mpr ⟨lw_p58, List.forall_mem_cons.mpr ⟨lw_p59, List.forall_mem_cons.mpr ⟨lw_p60, List.forall_mem_cons.mpr ⟨lw_p61, List.forall_mem_cons.mpr ⟨lw_p62, List.forall_mem_cons.mpr ⟨lw_p63, fun _ h => absurd h List.not_mem_nil⟩⟩⟩⟩⟩⟩⟩⟩⟩⟩⟩⟩⟩⟩⟩⟩
def lw_privs : List (MethodName × Nat) := lw_privs_1 ++ (lw_privs_2 ++ (lw_privs_3 ++ (lw_privs_4)))
def lw_tbl : List Cond := k2_sels lw_privs ++ tables_1
theorem lw_privs_ok : ∀ q ∈ lw_privs, lw_okq q := by
  show ∀ q ∈ lw_privs_1 ++ (lw_privs_2 ++ (lw_privs_3 ++ (lw_privs_4))), lw_okq q
  exact List.forall_mem_append.mpr ⟨lw_r1, List.forall_mem_append.mpr ⟨lw_r2, List.forall_mem_append.mpr ⟨lw_r3, lw_r4⟩⟩⟩
/-! names and field tables: out of the printed names -/
def RX0 : String := "RecordNiches$Grammar"
def TX0 : u_T := fun k => match k with
  | 0 => ("RecordNiches$Grammar", "scans", "[LRecordNiches$Scan;", true)
  | _ => ("RecordNiches$Grammar", "needed", "[Z", true)
def tyX0 : Nat → FieldType := fun k => match k with
  | 0 => .array (.object "RecordNiches$Scan")
  | _ => .array .boolean
theorem nmX0 : ∀ a, a < 2 → ∀ b, b < 2 → a ≠ b → (TX0 a).2.1 ≠ (TX0 b).2.1 := by decide +kernel
theorem tyX0_ok : ∀ k, k < 2 → parseFieldDescriptor (TX0 k).2.2.1 = some (tyX0 k) := by decide +kernel
abbrev cX0_init : ByteArray := prog_2_method_1_code
def yX0_init : MethodName := ⟨RX0, "<init>", "()V"⟩
abbrev cX0_isWell : ByteArray := prog_2_method_2_code
def yX0_isWell : MethodName := ⟨RX0, "isWell", "(LRecordNiches$Holding;II)Z"⟩
abbrev cX0_behind : ByteArray := prog_2_method_3_code
def yX0_behind : MethodName := ⟨RX0, "behind", "(II)I"⟩
def RX1 : String := "RecordNiches$Holding"
def TX1 : u_T := fun k => match k with
  | 0 => ("RecordNiches$Holding", "texts", "[LRecordNiches$Text;", true)
  | 1 => ("RecordNiches$Holding", "list", "[J", true)
  | 2 => ("RecordNiches$Holding", "memory", "[I", true)
  | 3 => ("RecordNiches$Holding", "listed", "I", false)
  | _ => ("RecordNiches$Holding", "packing", "I", false)
def tyX1 : Nat → FieldType := fun k => match k with
  | 0 => .array (.object "RecordNiches$Text")
  | 1 => .array .long
  | 2 => .array .int
  | 3 => .int
  | _ => .int
theorem nmX1 : ∀ a, a < 5 → ∀ b, b < 5 → a ≠ b → (TX1 a).2.1 ≠ (TX1 b).2.1 := by decide +kernel
theorem tyX1_ok : ∀ k, k < 5 → parseFieldDescriptor (TX1 k).2.2.1 = some (tyX1 k) := by decide +kernel
abbrev cX1_init : ByteArray := prog_3_method_1_code
def yX1_init : MethodName := ⟨RX1, "<init>", "()V"⟩
abbrev cX1_copyFrom : ByteArray := prog_3_method_2_code
def yX1_copyFrom : MethodName := ⟨RX1, "copyFrom", "(LRecordNiches$Holding;)V"⟩
abbrev cX1_isOpen : ByteArray := prog_3_method_3_code
def yX1_isOpen : MethodName := ⟨RX1, "isOpen", "(I)Z"⟩
abbrev cX1_signAt : ByteArray := prog_3_method_4_code
def yX1_signAt : MethodName := ⟨RX1, "signAt", "(II)I"⟩
abbrev cX1_putNumber : ByteArray := prog_3_method_5_code
def yX1_putNumber : MethodName := ⟨RX1, "putNumber", "(IIJ)V"⟩
abbrev cX1_numberAt : ByteArray := prog_3_method_6_code
def yX1_numberAt : MethodName := ⟨RX1, "numberAt", "(II)J"⟩
def RX2 : String := "RecordNiches$Lay"
def TX2 : u_T := fun k => match k with
  | _ => ("", "", "", false)
def tyX2 : Nat → FieldType := fun k => match k with
  | _ => .int
theorem nmX2 : ∀ a, a < 0 → ∀ b, b < 0 → a ≠ b → (TX2 a).2.1 ≠ (TX2 b).2.1 := by decide +kernel
theorem tyX2_ok : ∀ k, k < 0 → parseFieldDescriptor (TX2 k).2.2.1 = some (tyX2 k) := by decide +kernel
abbrev cX2_fields : ByteArray := prog_4_method_2_code
def yX2_fields : MethodName := ⟨RX2, "fields", "(LRecordNiches$Node;I)V"⟩
abbrev cX2_choices : ByteArray := prog_4_method_3_code
def yX2_choices : MethodName := ⟨RX2, "choices", "(LRecordNiches$Node;)V"⟩
abbrev cX2_greatestAlign : ByteArray := prog_4_method_4_code
def yX2_greatestAlign : MethodName := ⟨RX2, "greatestAlign", "(LRecordNiches$Node;)I"⟩
abbrev cX2_inLine : ByteArray := prog_4_method_5_code
def yX2_inLine : MethodName := ⟨RX2, "inLine", "(LRecordNiches$Node;II)I"⟩
abbrev cX2_takeGreaterGap : ByteArray := prog_4_method_6_code
def yX2_takeGreaterGap : MethodName := ⟨RX2, "takeGreaterGap", "(LRecordNiches$Node;LRecordNiches$Node;)V"⟩
abbrev cX2_alone : ByteArray := prog_4_method_7_code
def yX2_alone : MethodName := ⟨RX2, "alone", "(LRecordNiches$Node;LRecordNiches$Node;)V"⟩
abbrev cX2_findsRoom : ByteArray := prog_4_method_8_code
def yX2_findsRoom : MethodName := ⟨RX2, "findsRoom", "(LRecordNiches$Node;I)Z"⟩
abbrev cX2_hide : ByteArray := prog_4_method_9_code
def yX2_hide : MethodName := ⟨RX2, "hide", "(LRecordNiches$Node;I)V"⟩
abbrev cX2_tag : ByteArray := prog_4_method_10_code
def yX2_tag : MethodName := ⟨RX2, "tag", "(LRecordNiches$Node;)V"⟩
def RX3 : String := "RecordNiches$Node"
def TX3 : u_T := fun k => match k with
  | 0 => ("RecordNiches$Node", "terms", "[LRecordNiches$Node;", true)
  | 1 => ("RecordNiches$Node", "count", "I", false)
  | 2 => ("RecordNiches$Node", "parent", "LRecordNiches$Node;", false)
  | 3 => ("RecordNiches$Node", "number", "I", false)
  | 4 => ("RecordNiches$Node", "kind", "I", false)
  | 5 => ("RecordNiches$Node", "size", "I", false)
  | 6 => ("RecordNiches$Node", "align", "I", false)
  | 7 => ("RecordNiches$Node", "offset", "I", false)
  | 8 => ("RecordNiches$Node", "gapOffset", "I", false)
  | 9 => ("RecordNiches$Node", "gapWidth", "I", false)
  | 10 => ("RecordNiches$Node", "gapFirst", "I", false)
  | 11 => ("RecordNiches$Node", "gapCount", "I", false)
  | 12 => ("RecordNiches$Node", "manner", "I", false)
  | 13 => ("RecordNiches$Node", "host", "I", false)
  | 14 => ("RecordNiches$Node", "mark", "I", false)
  | 15 => ("RecordNiches$Node", "base", "I", false)
  | 16 => ("RecordNiches$Node", "chosen", "I", false)
  | _ => ("RecordNiches$Node", "live", "Z", false)
def tyX3 : Nat → FieldType := fun k => match k with
  | 0 => .array (.object "RecordNiches$Node")
  | 1 => .int
  | 2 => .object "RecordNiches$Node"
  | 3 => .int
  | 4 => .int
  | 5 => .int
  | 6 => .int
  | 7 => .int
  | 8 => .int
  | 9 => .int
  | 10 => .int
  | 11 => .int
  | 12 => .int
  | 13 => .int
  | 14 => .int
  | 15 => .int
  | 16 => .int
  | _ => .boolean
theorem nmX3 : ∀ a, a < 18 → ∀ b, b < 18 → a ≠ b → (TX3 a).2.1 ≠ (TX3 b).2.1 := by decide +kernel
theorem tyX3_ok : ∀ k, k < 18 → parseFieldDescriptor (TX3 k).2.2.1 = some (tyX3 k) := by decide +kernel
abbrev cX3_init : ByteArray := prog_5_method_1_code
def yX3_init : MethodName := ⟨RX3, "<init>", "()V"⟩
abbrev cX3_reset : ByteArray := prog_5_method_2_code
def yX3_reset : MethodName := ⟨RX3, "reset", "(LRecordNiches$Node;)V"⟩
abbrev cX3_be : ByteArray := prog_5_method_3_code
def yX3_be : MethodName := ⟨RX3, "be", "(II)V"⟩
abbrev cX3_setGap : ByteArray := prog_5_method_4_code
def yX3_setGap : MethodName := ⟨RX3, "setGap", "(IIII)V"⟩
abbrev cX3_isNumber : ByteArray := prog_5_method_5_code
def yX3_isNumber : MethodName := ⟨RX3, "isNumber", "()Z"⟩
abbrev cX3_admits : ByteArray := prog_5_method_6_code
def yX3_admits : MethodName := ⟨RX3, "admits", "(J)Z"⟩
def RX4 : String := "RecordNiches$Scan"
def TX4 : u_T := fun k => match k with
  | 0 => ("RecordNiches$Scan", "firstFault", "I", false)
  | 1 => ("RecordNiches$Scan", "ends", "[I", true)
  | 2 => ("RecordNiches$Scan", "openers", "[I", true)
  | 3 => ("RecordNiches$Scan", "begun", "[I", true)
  | 4 => ("RecordNiches$Scan", "held", "[I", true)
  | _ => ("RecordNiches$Scan", "depth", "I", false)
def tyX4 : Nat → FieldType := fun k => match k with
  | 0 => .int
  | 1 => .array .int
  | 2 => .array .int
  | 3 => .array .int
  | 4 => .array .int
  | _ => .int
theorem nmX4 : ∀ a, a < 6 → ∀ b, b < 6 → a ≠ b → (TX4 a).2.1 ≠ (TX4 b).2.1 := by decide +kernel
theorem tyX4_ok : ∀ k, k < 6 → parseFieldDescriptor (TX4 k).2.2.1 = some (tyX4 k) := by decide +kernel
abbrev cX4_init : ByteArray := prog_6_method_1_code
def yX4_init : MethodName := ⟨RX4, "<init>", "()V"⟩
abbrev cX4_run : ByteArray := prog_6_method_2_code
def yX4_run : MethodName := ⟨RX4, "run", "(LRecordNiches$Holding;I)V"⟩
abbrev cX4_behind : ByteArray := prog_6_method_3_code
def yX4_behind : MethodName := ⟨RX4, "behind", "(I)I"⟩
abbrev cX4_take : ByteArray := prog_6_method_4_code
def yX4_take : MethodName := ⟨RX4, "take", "(LRecordNiches$Holding;III)I"⟩
abbrev cX4_begin : ByteArray := prog_6_method_5_code
def yX4_begin : MethodName := ⟨RX4, "begin", "(LRecordNiches$Holding;III)I"⟩
abbrev cX4_endTerms : ByteArray := prog_6_method_6_code
def yX4_endTerms : MethodName := ⟨RX4, "endTerms", "(I)V"⟩
def RX5 : String := "RecordNiches$Text"
def TX5 : u_T := fun k => match k with
  | 0 => ("RecordNiches$Text", "signs", "[I", true)
  | _ => ("RecordNiches$Text", "count", "I", false)
def tyX5 : Nat → FieldType := fun k => match k with
  | 0 => .array .int
  | _ => .int
theorem nmX5 : ∀ a, a < 2 → ∀ b, b < 2 → a ≠ b → (TX5 a).2.1 ≠ (TX5 b).2.1 := by decide +kernel
theorem tyX5_ok : ∀ k, k < 2 → parseFieldDescriptor (TX5 k).2.2.1 = some (tyX5 k) := by decide +kernel
abbrev cX5_init : ByteArray := prog_7_method_1_code
def yX5_init : MethodName := ⟨RX5, "<init>", "()V"⟩
abbrev cX5_append : ByteArray := prog_7_method_2_code
def yX5_append : MethodName := ⟨RX5, "append", "(I)V"⟩
abbrev cX5_signAt : ByteArray := prog_7_method_3_code
def yX5_signAt : MethodName := ⟨RX5, "signAt", "(I)I"⟩
abbrev cX5_holds : ByteArray := prog_7_method_4_code
def yX5_holds : MethodName := ⟨RX5, "holds", "(I)Z"⟩
abbrev cX5_copyFrom : ByteArray := prog_7_method_5_code
def yX5_copyFrom : MethodName := ⟨RX5, "copyFrom", "(LRecordNiches$Text;)V"⟩
def RX6 : String := "RecordNiches$Transfer"
def TX6 : u_T := fun k => match k with
  | 0 => ("RecordNiches$Transfer", "numbers", "[J", true)
  | _ => ("RecordNiches$Transfer", "count", "I", false)
def tyX6 : Nat → FieldType := fun k => match k with
  | 0 => .array .long
  | _ => .int
theorem nmX6 : ∀ a, a < 2 → ∀ b, b < 2 → a ≠ b → (TX6 a).2.1 ≠ (TX6 b).2.1 := by decide +kernel
theorem tyX6_ok : ∀ k, k < 2 → parseFieldDescriptor (TX6 k).2.2.1 = some (tyX6 k) := by decide +kernel
abbrev cX6_init : ByteArray := prog_8_method_1_code
def yX6_init : MethodName := ⟨RX6, "<init>", "()V"⟩
abbrev cX6_accepts : ByteArray := prog_8_method_2_code
def yX6_accepts : MethodName := ⟨RX6, "accepts", "(LRecordNiches$Tree;LRecordNiches$Holding;)Z"⟩
abbrev cX6_store : ByteArray := prog_8_method_3_code
def yX6_store : MethodName := ⟨RX6, "store", "(LRecordNiches$Tree;LRecordNiches$Holding;I)V"⟩
abbrev cX6_load : ByteArray := prog_8_method_4_code
def yX6_load : MethodName := ⟨RX6, "load", "(LRecordNiches$Tree;LRecordNiches$Holding;I)Z"⟩
abbrev cX6_chosenAt : ByteArray := prog_8_method_5_code
def yX6_chosenAt : MethodName := ⟨RX6, "chosenAt", "(LRecordNiches$Node;LRecordNiches$Holding;I)I"⟩
abbrev cX6_storeMark : ByteArray := prog_8_method_6_code
def yX6_storeMark : MethodName := ⟨RX6, "storeMark", "(LRecordNiches$Node;LRecordNiches$Holding;I)V"⟩
abbrev cX6_isLive : ByteArray := prog_8_method_7_code
def yX6_isLive : MethodName := ⟨RX6, "isLive", "(LRecordNiches$Node;)Z"⟩
abbrev cX6_hasNumber : ByteArray := prog_8_method_8_code
def yX6_hasNumber : MethodName := ⟨RX6, "hasNumber", "(LRecordNiches$Node;)Z"⟩
abbrev cX6_keep : ByteArray := prog_8_method_9_code
def yX6_keep : MethodName := ⟨RX6, "keep", "(LRecordNiches$Node;J)V"⟩
def RX7 : String := "RecordNiches$Tree"
def TX7 : u_T := fun k => match k with
  | 0 => ("RecordNiches$Tree", "count", "I", false)
  | 1 => ("RecordNiches$Tree", "nodes", "[LRecordNiches$Node;", true)
  | 2 => ("RecordNiches$Tree", "used", "[Z", true)
  | 3 => ("RecordNiches$Tree", "shape", "I", false)
  | 4 => ("RecordNiches$Tree", "place", "I", false)
  | 5 => ("RecordNiches$Tree", "argument", "I", false)
  | 6 => ("RecordNiches$Tree", "letters", "I", false)
  | 7 => ("RecordNiches$Tree", "argumentShape", "[I", true)
  | 8 => ("RecordNiches$Tree", "argumentPlace", "[I", true)
  | 9 => ("RecordNiches$Tree", "argumentOuter", "[I", true)
  | 10 => ("RecordNiches$Tree", "arguments", "I", false)
  | 11 => ("RecordNiches$Tree", "openNode", "[LRecordNiches$Node;", true)
  | 12 => ("RecordNiches$Tree", "openShape", "[I", true)
  | 13 => ("RecordNiches$Tree", "openPlace", "[I", true)
  | 14 => ("RecordNiches$Tree", "openArgument", "[I", true)
  | _ => ("RecordNiches$Tree", "depth", "I", false)
def tyX7 : Nat → FieldType := fun k => match k with
  | 0 => .int
  | 1 => .array (.object "RecordNiches$Node")
  | 2 => .array .boolean
  | 3 => .int
  | 4 => .int
  | 5 => .int
  | 6 => .int
  | 7 => .array .int
  | 8 => .array .int
  | 9 => .array .int
  | 10 => .int
  | 11 => .array (.object "RecordNiches$Node")
  | 12 => .array .int
  | 13 => .array .int
  | 14 => .array .int
  | _ => .int
theorem nmX7 : ∀ a, a < 16 → ∀ b, b < 16 → a ≠ b → (TX7 a).2.1 ≠ (TX7 b).2.1 := by decide +kernel
theorem tyX7_ok : ∀ k, k < 16 → parseFieldDescriptor (TX7 k).2.2.1 = some (tyX7 k) := by decide +kernel
abbrev cX7_init : ByteArray := prog_9_method_1_code
def yX7_init : MethodName := ⟨RX7, "<init>", "()V"⟩
abbrev cX7_root : ByteArray := prog_9_method_2_code
def yX7_root : MethodName := ⟨RX7, "root", "()LRecordNiches$Node;"⟩
abbrev cX7_part : ByteArray := prog_9_method_3_code
def yX7_part : MethodName := ⟨RX7, "part", "(I)LRecordNiches$Node;"⟩
abbrev cX7_build : ByteArray := prog_9_method_4_code
def yX7_build : MethodName := ⟨RX7, "build", "(LRecordNiches$Holding;LRecordNiches$Grammar;II)Z"⟩
abbrev cX7_goTo : ByteArray := prog_9_method_5_code
def yX7_goTo : MethodName := ⟨RX7, "goTo", "(III)V"⟩
abbrev cX7_keepArgument : ByteArray := prog_9_method_6_code
def yX7_keepArgument : MethodName := ⟨RX7, "keepArgument", "(III)I"⟩
abbrev cX7_grow : ByteArray := prog_9_method_7_code
def yX7_grow : MethodName := ⟨RX7, "grow", "(LRecordNiches$Holding;LRecordNiches$Node;)Z"⟩
abbrev cX7_goThroughLetters : ByteArray := prog_9_method_8_code
def yX7_goThroughLetters : MethodName := ⟨RX7, "goThroughLetters", "(LRecordNiches$Holding;)Z"⟩
abbrev cX7_makeLeaf : ByteArray := prog_9_method_9_code
def yX7_makeLeaf : MethodName := ⟨RX7, "makeLeaf", "(LRecordNiches$Node;II)Z"⟩
abbrev cX7_settle : ByteArray := prog_9_method_10_code
def yX7_settle : MethodName := ⟨RX7, "settle", "(I)Z"⟩
abbrev cX7_unusedBytes : ByteArray := prog_9_method_11_code
def yX7_unusedBytes : MethodName := ⟨RX7, "unusedBytes", "()I"⟩
abbrev cX7_use : ByteArray := prog_9_method_12_code
def yX7_use : MethodName := ⟨RX7, "use", "(II)V"⟩
def RX8 : String := "RecordNiches"
def TX8 : u_T := fun k => match k with
  | 0 => ("RecordNiches", "now", "LRecordNiches$Holding;", true)
  | 1 => ("RecordNiches", "images", "[LRecordNiches$Holding;", true)
  | 2 => ("RecordNiches", "kept", "[Z", true)
  | 3 => ("RecordNiches", "grammar", "LRecordNiches$Grammar;", true)
  | 4 => ("RecordNiches", "tree", "LRecordNiches$Tree;", true)
  | _ => ("RecordNiches", "transfer", "LRecordNiches$Transfer;", true)
def tyX8 : Nat → FieldType := fun k => match k with
  | 0 => .object "RecordNiches$Holding"
  | 1 => .array (.object "RecordNiches$Holding")
  | 2 => .array .boolean
  | 3 => .object "RecordNiches$Grammar"
  | 4 => .object "RecordNiches$Tree"
  | _ => .object "RecordNiches$Transfer"
theorem nmX8 : ∀ a, a < 6 → ∀ b, b < 6 → a ≠ b → (TX8 a).2.1 ≠ (TX8 b).2.1 := by decide +kernel
theorem tyX8_ok : ∀ k, k < 6 → parseFieldDescriptor (TX8 k).2.2.1 = some (tyX8 k) := by decide +kernel
abbrev cX8_init : ByteArray := prog_1_method_1_code
def yX8_init : MethodName := ⟨RX8, "<init>", "()V"⟩
abbrev cX8_say : ByteArray := prog_1_method_2_code
def yX8_say : MethodName := ⟨RX8, "say", "(II)I"⟩
abbrev cX8_wipe : ByteArray := prog_1_method_3_code
def yX8_wipe : MethodName := ⟨RX8, "wipe", "(I)I"⟩
abbrev cX8_fault : ByteArray := prog_1_method_4_code
def yX8_fault : MethodName := ⟨RX8, "fault", "(I)I"⟩
abbrev cX8_way : ByteArray := prog_1_method_5_code
def yX8_way : MethodName := ⟨RX8, "way", "(I)I"⟩
abbrev cX8_layout : ByteArray := prog_1_method_6_code
def yX8_layout : MethodName := ⟨RX8, "layout", "(III)I"⟩
abbrev cX8_term : ByteArray := prog_1_method_7_code
def yX8_term : MethodName := ⟨RX8, "term", "(IIII)I"⟩
abbrev cX8_variant : ByteArray := prog_1_method_8_code
def yX8_variant : MethodName := ⟨RX8, "variant", "(III)I"⟩
abbrev cX8_pattern : ByteArray := prog_1_method_9_code
def yX8_pattern : MethodName := ⟨RX8, "pattern", "(III)I"⟩
abbrev cX8_least : ByteArray := prog_1_method_10_code
def yX8_least : MethodName := ⟨RX8, "least", "(II)I"⟩
abbrev cX8_idle : ByteArray := prog_1_method_11_code
def yX8_idle : MethodName := ⟨RX8, "idle", "(II)I"⟩
abbrev cX8_give : ByteArray := prog_1_method_12_code
def yX8_give : MethodName := ⟨RX8, "give", "(J)I"⟩
abbrev cX8_drop : ByteArray := prog_1_method_13_code
def yX8_drop : MethodName := ⟨RX8, "drop", "()I"⟩
abbrev cX8_given : ByteArray := prog_1_method_14_code
def yX8_given : MethodName := ⟨RX8, "given", "(I)J"⟩
abbrev cX8_write : ByteArray := prog_1_method_15_code
def yX8_write : MethodName := ⟨RX8, "write", "(III)I"⟩
abbrev cX8_read : ByteArray := prog_1_method_16_code
def yX8_read : MethodName := ⟨RX8, "read", "(III)I"⟩
abbrev cX8_which : ByteArray := prog_1_method_17_code
def yX8_which : MethodName := ⟨RX8, "which", "(III)I"⟩
abbrev cX8_poke : ByteArray := prog_1_method_18_code
def yX8_poke : MethodName := ⟨RX8, "poke", "(II)I"⟩
abbrev cX8_peek : ByteArray := prog_1_method_19_code
def yX8_peek : MethodName := ⟨RX8, "peek", "(I)I"⟩
abbrev cX8_image : ByteArray := prog_1_method_20_code
def yX8_image : MethodName := ⟨RX8, "image", "(I)I"⟩
abbrev cX8_restore : ByteArray := prog_1_method_21_code
def yX8_restore : MethodName := ⟨RX8, "restore", "(I)I"⟩
abbrev cX8_told : ByteArray := prog_1_method_22_code
def yX8_told : MethodName := ⟨RX8, "told", "(I)I"⟩
abbrev cX8_isShape : ByteArray := prog_1_method_23_code
def yX8_isShape : MethodName := ⟨RX8, "isShape", "(I)Z"⟩
abbrev cX8_isKnown : ByteArray := prog_1_method_24_code
def yX8_isKnown : MethodName := ⟨RX8, "isKnown", "(II)Z"⟩
abbrev cX8_prepare : ByteArray := prog_1_method_25_code
def yX8_prepare : MethodName := ⟨RX8, "prepare", "(II)I"⟩
abbrev cX8_isPlaceForRoot : ByteArray := prog_1_method_26_code
def yX8_isPlaceForRoot : MethodName := ⟨RX8, "isPlaceForRoot", "(I)Z"⟩
abbrev cX8_upTo : ByteArray := prog_1_method_27_code
def yX8_upTo : MethodName := ⟨RX8, "upTo", "(II)I"⟩
abbrev cX8_isLetter : ByteArray := prog_1_method_28_code
def yX8_isLetter : MethodName := ⟨RX8, "isLetter", "(I)Z"⟩
def RX9 : String := "RecordNichesModel"
def TX9 : u_T := fun k => match k with
  | 0 => ("RecordNichesModel", "text", "[I", true)
  | 1 => ("RecordNichesModel", "many", "[I", true)
  | 2 => ("RecordNichesModel", "wayNow", "I", false)
  | 3 => ("RecordNichesModel", "due", "[I", true)
  | 4 => ("RecordNichesModel", "dues", "I", false)
  | 5 => ("RecordNichesModel", "kind", "[I", true)
  | 6 => ("RecordNichesModel", "of", "[I", true)
  | 7 => ("RecordNichesModel", "parent", "[I", true)
  | 8 => ("RecordNichesModel", "index", "[I", true)
  | 9 => ("RecordNichesModel", "within", "[I", true)
  | 10 => ("RecordNichesModel", "parts", "I", false)
  | 11 => ("RecordNichesModel", "todoShape", "[I", true)
  | 12 => ("RecordNichesModel", "todoAt", "[I", true)
  | 13 => ("RecordNichesModel", "todoBy", "[I", true)
  | 14 => ("RecordNichesModel", "todoIn", "[I", true)
  | 15 => ("RecordNichesModel", "todos", "I", false)
  | 16 => ("RecordNichesModel", "xShape", "[I", true)
  | 17 => ("RecordNichesModel", "xAt", "[I", true)
  | 18 => ("RecordNichesModel", "xBy", "[I", true)
  | 19 => ("RecordNichesModel", "xs", "I", false)
  | 20 => ("RecordNichesModel", "gone", "I", false)
  | 21 => ("RecordNichesModel", "size", "[I", true)
  | 22 => ("RecordNichesModel", "align", "[I", true)
  | 23 => ("RecordNichesModel", "offset", "[I", true)
  | 24 => ("RecordNichesModel", "gapAt", "[I", true)
  | 25 => ("RecordNichesModel", "gapWide", "[I", true)
  | 26 => ("RecordNichesModel", "gapFirst", "[I", true)
  | 27 => ("RecordNichesModel", "gapMany", "[I", true)
  | 28 => ("RecordNichesModel", "mode", "[I", true)
  | 29 => ("RecordNichesModel", "host", "[I", true)
  | 30 => ("RecordNichesModel", "ends", "[I", true)
  | 31 => ("RecordNichesModel", "covered", "[Z", true)
  | 32 => ("RecordNichesModel", "list", "[J", true)
  | 33 => ("RecordNichesModel", "listMany", "I", false)
  | 34 => ("RecordNichesModel", "memory", "[I", true)
  | 35 => ("RecordNichesModel", "isThere", "[Z", true)
  | 36 => ("RecordNichesModel", "chosen", "[I", true)
  | 37 => ("RecordNichesModel", "number", "[J", true)
  | 38 => ("RecordNichesModel", "kept", "[I", true)
  | 39 => ("RecordNichesModel", "keptList", "[J", true)
  | 40 => ("RecordNichesModel", "isKept", "[Z", true)
  | 41 => ("RecordNichesModel", "keptAt", "I", false)
  | _ => ("RecordNichesModel", "isWriting", "Z", false)
def tyX9 : Nat → FieldType := fun k => match k with
  | 0 => .array .int
  | 1 => .array .int
  | 2 => .int
  | 3 => .array .int
  | 4 => .int
  | 5 => .array .int
  | 6 => .array .int
  | 7 => .array .int
  | 8 => .array .int
  | 9 => .array .int
  | 10 => .int
  | 11 => .array .int
  | 12 => .array .int
  | 13 => .array .int
  | 14 => .array .int
  | 15 => .int
  | 16 => .array .int
  | 17 => .array .int
  | 18 => .array .int
  | 19 => .int
  | 20 => .int
  | 21 => .array .int
  | 22 => .array .int
  | 23 => .array .int
  | 24 => .array .int
  | 25 => .array .int
  | 26 => .array .int
  | 27 => .array .int
  | 28 => .array .int
  | 29 => .array .int
  | 30 => .array .int
  | 31 => .array .boolean
  | 32 => .array .long
  | 33 => .int
  | 34 => .array .int
  | 35 => .array .boolean
  | 36 => .array .int
  | 37 => .array .long
  | 38 => .array .int
  | 39 => .array .long
  | 40 => .array .boolean
  | 41 => .int
  | _ => .boolean
theorem nmX9 : ∀ a, a < 43 → ∀ b, b < 43 → a ≠ b → (TX9 a).2.1 ≠ (TX9 b).2.1 := by decide +kernel
theorem tyX9_ok : ∀ k, k < 43 → parseFieldDescriptor (TX9 k).2.2.1 = some (tyX9 k) := by decide +kernel
abbrev cX9_init : ByteArray := prog_11_method_1_code
def yX9_init : MethodName := ⟨RX9, "<init>", "()V"⟩
abbrev cX9_in : ByteArray := prog_11_method_3_code
def yX9_in : MethodName := ⟨RX9, "in", "(JJJ)Z"⟩
abbrev cX9_isShape : ByteArray := prog_11_method_4_code
def yX9_isShape : MethodName := ⟨RX9, "isShape", "(I)Z"⟩
abbrev cX9_greater : ByteArray := prog_11_method_5_code
def yX9_greater : MethodName := ⟨RX9, "greater", "(II)I"⟩
abbrev cX9_upTo : ByteArray := prog_11_method_6_code
def yX9_upTo : MethodName := ⟨RX9, "upTo", "(II)I"⟩
abbrev cX9_signAt : ByteArray := prog_11_method_7_code
def yX9_signAt : MethodName := ⟨RX9, "signAt", "(II)I"⟩
abbrev cX9_say : ByteArray := prog_11_method_8_code
def yX9_say : MethodName := ⟨RX9, "say", "(II)I"⟩
abbrev cX9_wipe : ByteArray := prog_11_method_9_code
def yX9_wipe : MethodName := ⟨RX9, "wipe", "(I)I"⟩
abbrev cX9_isOpen : ByteArray := prog_11_method_10_code
def yX9_isOpen : MethodName := ⟨RX9, "isOpen", "(I)Z"⟩
abbrev cX9_isLetter : ByteArray := prog_11_method_11_code
def yX9_isLetter : MethodName := ⟨RX9, "isLetter", "(I)Z"⟩
abbrev cX9_push : ByteArray := prog_11_method_12_code
def yX9_push : MethodName := ⟨RX9, "push", "(I)V"⟩
abbrev cX9_isPlain : ByteArray := prog_11_method_13_code
def yX9_isPlain : MethodName := ⟨RX9, "isPlain", "(I)Z"⟩
abbrev cX9_begins : ByteArray := prog_11_method_14_code
def yX9_begins : MethodName := ⟨RX9, "begins", "(II)Z"⟩
abbrev cX9_isWithin : ByteArray := prog_11_method_15_code
def yX9_isWithin : MethodName := ⟨RX9, "isWithin", "(III)Z"⟩
abbrev cX9_canStand : ByteArray := prog_11_method_16_code
def yX9_canStand : MethodName := ⟨RX9, "canStand", "(II)Z"⟩
abbrev cX9_faultOf : ByteArray := prog_11_method_17_code
def yX9_faultOf : MethodName := ⟨RX9, "faultOf", "(I)I"⟩
abbrev cX9_fault : ByteArray := prog_11_method_18_code
def yX9_fault : MethodName := ⟨RX9, "fault", "(I)I"⟩
abbrev cX9_way : ByteArray := prog_11_method_19_code
def yX9_way : MethodName := ⟨RX9, "way", "(I)I"⟩
abbrev cX9_isAsked : ByteArray := prog_11_method_20_code
def yX9_isAsked : MethodName := ⟨RX9, "isAsked", "(II)Z"⟩
abbrev cX9_lettersOf : ByteArray := prog_11_method_21_code
def yX9_lettersOf : MethodName := ⟨RX9, "lettersOf", "(I)I"⟩
abbrev cX9_isWell : ByteArray := prog_11_method_22_code
def yX9_isWell : MethodName := ⟨RX9, "isWell", "(II)Z"⟩
abbrev cX9_endOf : ByteArray := prog_11_method_23_code
def yX9_endOf : MethodName := ⟨RX9, "endOf", "(II)I"⟩
abbrev cX9_addTodo : ByteArray := prog_11_method_24_code
def yX9_addTodo : MethodName := ⟨RX9, "addTodo", "(IIII)V"⟩
abbrev cX9_addX : ByteArray := prog_11_method_25_code
def yX9_addX : MethodName := ⟨RX9, "addX", "(III)I"⟩
abbrev cX9_kindOf : ByteArray := prog_11_method_26_code
def yX9_kindOf : MethodName := ⟨RX9, "kindOf", "(I)I"⟩
abbrev cX9_addWithin : ByteArray := prog_11_method_27_code
def yX9_addWithin : MethodName := ⟨RX9, "addWithin", "(IIII)V"⟩
abbrev cX9_addPart : ByteArray := prog_11_method_28_code
def yX9_addPart : MethodName := ⟨RX9, "addPart", "(IIII)V"⟩
abbrev cX9_openOne : ByteArray := prog_11_method_29_code
def yX9_openOne : MethodName := ⟨RX9, "openOne", "()V"⟩
abbrev cX9_isOpened : ByteArray := prog_11_method_30_code
def yX9_isOpened : MethodName := ⟨RX9, "isOpened", "(II)Z"⟩
abbrev cX9_child : ByteArray := prog_11_method_31_code
def yX9_child : MethodName := ⟨RX9, "child", "(II)I"⟩
abbrev cX9_gap : ByteArray := prog_11_method_32_code
def yX9_gap : MethodName := ⟨RX9, "gap", "(IIIII)V"⟩
abbrev cX9_layLeaf : ByteArray := prog_11_method_33_code
def yX9_layLeaf : MethodName := ⟨RX9, "layLeaf", "(I)V"⟩
abbrev cX9_greatestAlign : ByteArray := prog_11_method_34_code
def yX9_greatestAlign : MethodName := ⟨RX9, "greatestAlign", "(I)I"⟩
abbrev cX9_layFields : ByteArray := prog_11_method_35_code
def yX9_layFields : MethodName := ⟨RX9, "layFields", "(III)I"⟩
abbrev cX9_layRecord : ByteArray := prog_11_method_36_code
def yX9_layRecord : MethodName := ⟨RX9, "layRecord", "(I)V"⟩
abbrev cX9_hostOf : ByteArray := prog_11_method_37_code
def yX9_hostOf : MethodName := ⟨RX9, "hostOf", "(I)I"⟩
abbrev cX9_roomFor : ByteArray := prog_11_method_38_code
def yX9_roomFor : MethodName := ⟨RX9, "roomFor", "(II)I"⟩
abbrev cX9_isHidden : ByteArray := prog_11_method_39_code
def yX9_isHidden : MethodName := ⟨RX9, "isHidden", "(II)Z"⟩
abbrev cX9_layHidden : ByteArray := prog_11_method_40_code
def yX9_layHidden : MethodName := ⟨RX9, "layHidden", "(II)V"⟩
abbrev cX9_layTagged : ByteArray := prog_11_method_41_code
def yX9_layTagged : MethodName := ⟨RX9, "layTagged", "(I)V"⟩
abbrev cX9_layVariant : ByteArray := prog_11_method_42_code
def yX9_layVariant : MethodName := ⟨RX9, "layVariant", "(I)V"⟩
abbrev cX9_layOne : ByteArray := prog_11_method_43_code
def yX9_layOne : MethodName := ⟨RX9, "layOne", "(I)V"⟩
abbrev cX9_isLaid : ByteArray := prog_11_method_44_code
def yX9_isLaid : MethodName := ⟨RX9, "isLaid", "()Z"⟩
abbrev cX9_refusal : ByteArray := prog_11_method_45_code
def yX9_refusal : MethodName := ⟨RX9, "refusal", "(II)I"⟩
abbrev cX9_toldOf : ByteArray := prog_11_method_46_code
def yX9_toldOf : MethodName := ⟨RX9, "toldOf", "(I)I"⟩
abbrev cX9_layout : ByteArray := prog_11_method_47_code
def yX9_layout : MethodName := ⟨RX9, "layout", "(III)I"⟩
abbrev cX9_termTold : ByteArray := prog_11_method_48_code
def yX9_termTold : MethodName := ⟨RX9, "termTold", "(II)I"⟩
abbrev cX9_term : ByteArray := prog_11_method_49_code
def yX9_term : MethodName := ⟨RX9, "term", "(IIII)I"⟩
abbrev cX9_variant : ByteArray := prog_11_method_50_code
def yX9_variant : MethodName := ⟨RX9, "variant", "(III)I"⟩
abbrev cX9_patternOf : ByteArray := prog_11_method_51_code
def yX9_patternOf : MethodName := ⟨RX9, "patternOf", "(II)I"⟩
abbrev cX9_pattern : ByteArray := prog_11_method_52_code
def yX9_pattern : MethodName := ⟨RX9, "pattern", "(III)I"⟩
abbrev cX9_leastEnd : ByteArray := prog_11_method_53_code
def yX9_leastEnd : MethodName := ⟨RX9, "leastEnd", "()I"⟩
abbrev cX9_least : ByteArray := prog_11_method_54_code
def yX9_least : MethodName := ⟨RX9, "least", "(II)I"⟩
abbrev cX9_placeOf : ByteArray := prog_11_method_55_code
def yX9_placeOf : MethodName := ⟨RX9, "placeOf", "(I)I"⟩
abbrev cX9_coverOne : ByteArray := prog_11_method_56_code
def yX9_coverOne : MethodName := ⟨RX9, "coverOne", "(I)V"⟩
abbrev cX9_idle : ByteArray := prog_11_method_57_code
def yX9_idle : MethodName := ⟨RX9, "idle", "(II)I"⟩
abbrev cX9_give : ByteArray := prog_11_method_58_code
def yX9_give : MethodName := ⟨RX9, "give", "(J)I"⟩
abbrev cX9_drop : ByteArray := prog_11_method_59_code
def yX9_drop : MethodName := ⟨RX9, "drop", "()I"⟩
abbrev cX9_given : ByteArray := prog_11_method_60_code
def yX9_given : MethodName := ⟨RX9, "given", "(I)J"⟩
abbrev cX9_isThereNow : ByteArray := prog_11_method_61_code
def yX9_isThereNow : MethodName := ⟨RX9, "isThereNow", "(I)Z"⟩
abbrev cX9_hasNumber : ByteArray := prog_11_method_62_code
def yX9_hasNumber : MethodName := ⟨RX9, "hasNumber", "(I)Z"⟩
abbrev cX9_isNumber : ByteArray := prog_11_method_63_code
def yX9_isNumber : MethodName := ⟨RX9, "isNumber", "(IJ)Z"⟩
abbrev cX9_isValue : ByteArray := prog_11_method_64_code
def yX9_isValue : MethodName := ⟨RX9, "isValue", "()Z"⟩
abbrev cX9_lay : ByteArray := prog_11_method_65_code
def yX9_lay : MethodName := ⟨RX9, "lay", "(IIJ)V"⟩
abbrev cX9_layValue : ByteArray := prog_11_method_66_code
def yX9_layValue : MethodName := ⟨RX9, "layValue", "(I)V"⟩
abbrev cX9_refusalAt : ByteArray := prog_11_method_67_code
def yX9_refusalAt : MethodName := ⟨RX9, "refusalAt", "(III)I"⟩
abbrev cX9_write : ByteArray := prog_11_method_68_code
def yX9_write : MethodName := ⟨RX9, "write", "(III)I"⟩
abbrev cX9_lies : ByteArray := prog_11_method_69_code
def yX9_lies : MethodName := ⟨RX9, "lies", "(II)J"⟩
abbrev cX9_hiddenAt : ByteArray := prog_11_method_70_code
def yX9_hiddenAt : MethodName := ⟨RX9, "hiddenAt", "(II)J"⟩
abbrev cX9_numberAt : ByteArray := prog_11_method_71_code
def yX9_numberAt : MethodName := ⟨RX9, "numberAt", "(II)J"⟩
abbrev cX9_valueAt : ByteArray := prog_11_method_72_code
def yX9_valueAt : MethodName := ⟨RX9, "valueAt", "(I)I"⟩
abbrev cX9_read : ByteArray := prog_11_method_73_code
def yX9_read : MethodName := ⟨RX9, "read", "(III)I"⟩
abbrev cX9_which : ByteArray := prog_11_method_74_code
def yX9_which : MethodName := ⟨RX9, "which", "(III)I"⟩
abbrev cX9_poke : ByteArray := prog_11_method_75_code
def yX9_poke : MethodName := ⟨RX9, "poke", "(II)I"⟩
abbrev cX9_peek : ByteArray := prog_11_method_76_code
def yX9_peek : MethodName := ⟨RX9, "peek", "(I)I"⟩
abbrev cX9_pass : ByteArray := prog_11_method_77_code
def yX9_pass : MethodName := ⟨RX9, "pass", "(I)I"⟩
abbrev cX9_passRow : ByteArray := prog_11_method_78_code
def yX9_passRow : MethodName := ⟨RX9, "passRow", "([II)V"⟩
abbrev cX9_passAll : ByteArray := prog_11_method_79_code
def yX9_passAll : MethodName := ⟨RX9, "passAll", "(I)V"⟩
abbrev cX9_image : ByteArray := prog_11_method_80_code
def yX9_image : MethodName := ⟨RX9, "image", "(I)I"⟩
abbrev cX9_restore : ByteArray := prog_11_method_81_code
def yX9_restore : MethodName := ⟨RX9, "restore", "(I)I"⟩
abbrev cX9_told : ByteArray := prog_11_method_82_code
def yX9_told : MethodName := ⟨RX9, "told", "(I)I"⟩
def RL : String := "RecordNichesLaw"
abbrev cL_law : ByteArray := code
def yL_law : MethodName := ⟨RL, "law", "([I)Z"⟩
end
section
/-! AN ABSTRACT MACHINE: entries at numbers 0, 1, .. (references are these numbers); a step, a run; no heap of the real machine in it -/
abbrev rn_E : Type := (Nat × vp_A) ⊕ (Nat × List Value)
abbrev rn_H : Type := Nat → rn_E
abbrev rn_L : Type := List (Nat × Value)
/-- place in the table, locals, stack, how many entries, how many slots made, the entries -/
abbrev rn_S : Type := Nat × rn_L × List Value × Nat × Nat × rn_H
/-- pc, instruction, the locals kept at it ([]: all), what it needs besides -/
abbrev rn_I : Type := Nat × Instr × List Nat × List Nat
/-- a method: name, bytes, locals, answer, table, (parameters, frames, words, 1: an initialiser) -/
abbrev rn_M : Type := MethodName × ByteArray × Nat × Option FieldType × List rn_I × Nat × Nat × Nat × Nat
def rn_SR : Nat := 1000000
def rn_ci : Nat → Nat → Int32
  | 0, v => Int32.ofNat v
  | _ + 1, v => -(Int32.ofNat v)
def rn_cl : Nat → Nat → Int64
  | 0, v => Int64.ofNat v
  | _ + 1, v => -(Int64.ofNat v)
def rn_lk (i : Nat) : rn_L → Option Value
  | [] => none
  | (j, v) :: t => match Nat.beq j i with
    | true => some v
    | false => rn_lk i t
def rn_fl (i : Nat) (lv : rn_L) : rn_L := lv.filter (fun q => !(q.1 == i) && !(q.1 + 1 == i && q.2.category == 2))
def rn_fm (i : Nat) (lv : rn_L) : rn_L := lv.filter (fun q => !(q.1 == i) && (!(q.1 == i + 1) && !(q.1 + 1 == i && q.2.category == 2)))
def rn_pk (lv : rn_L) : List Nat → rn_L
  | [] => []
  | i :: t => match rn_lk i lv with
    | some v => (i, v) :: rn_pk lv t
    | none => rn_pk lv t
def rn_kp (ks : List Nat) (lv : rn_L) : rn_L := match ks with
  | [] => lv
  | i :: t => rn_pk lv (i :: t)
def rn_cs (st : List Value) : Nat := (st.map fun v => v.category).sum
def rn_ii (f : Int32 → Int32 → Int32) (st : List Value) : Option (List Value) := match st with
  | .int y :: .int x :: r => some (.int (f x y) :: r)
  | _ => none
def rn_id (f : Int32 → Int32 → Int32) (st : List Value) : Option (List Value) := match st with
  | .int y :: .int x :: r => if y = 0 then none else some (.int (f x y) :: r)
  | _ => none
def rn_ll (f : Int64 → Int64 → Int64) (st : List Value) : Option (List Value) := match st with
  | .long y :: .long x :: r => some (.long (f x y) :: r)
  | _ => none
def rn_ld (f : Int64 → Int64 → Int64) (st : List Value) : Option (List Value) := match st with
  | .long y :: .long x :: r => if y = 0 then none else some (.long (f x y) :: r)
  | _ => none
def rn_li (j : Nat) (lv : rn_L) (st : List Value) : Option (List Value) := match rn_lk j lv with
  | some (.int x) => some (.int x :: st)
  | _ => none
def rn_lj (j : Nat) (lv : rn_L) (st : List Value) : Option (List Value) := match rn_lk j lv with
  | some (.long x) => some (.long x :: st)
  | _ => none
def rn_la (j : Nat) (lv : rn_L) (st : List Value) : Option (List Value) := match rn_lk j lv with
  | some (.ref x) => some (.ref x :: st)
  | some .null => some (.null :: st)
  | _ => none
/-- an array of ints (kind 0) or truths (2) read -/
def rn_ai (t : Nat) (h : rn_H) (st : List Value) : Option (List Value) := match st with
  | .int i :: .ref q :: r => match h q with
    | .inl (t1, n, .inl f) => match Nat.beq t1 t with
      | true => if i < 0 ∨ n ≤ i.toNatClampNeg then none else some (.int (f i.toNatClampNeg) :: r)
      | false => none
    | _ => none
  | _ => none
def rn_aj (h : rn_H) (st : List Value) : Option (List Value) := match st with
  | .int i :: .ref q :: r => match h q with
    | .inl (1, n, .inr (.inl f)) => if i < 0 ∨ n ≤ i.toNatClampNeg then none else some (.long (f i.toNatClampNeg) :: r)
    | _ => none
  | _ => none
def rn_aa (t : Nat) (h : rn_H) (st : List Value) : Option (List Value) := match st with
  | .int i :: .ref q :: r => match h q with
    | .inl (t1, n, .inr (.inr (.inr (.inr f)))) => match Nat.beq t1 t with
      | true => if i < 0 ∨ n ≤ i.toNatClampNeg then none else some (va_rf (f i.toNatClampNeg) :: r)
      | false => none
    | _ => none
  | _ => none
def rn_gf (c k : Nat) (h : rn_H) (st : List Value) : Option (List Value) := match st with
  | .ref q :: r => match h q with
    | .inr (c1, fs) => match Nat.beq c1 c with
      | true => match fs[k]? with
        | some v => some (v :: r)
        | none => none
      | false => none
    | _ => none
  | _ => none
/-- the script: how long, its ints -/
abbrev rn_X : Type := Nat × (Nat → Int32)
def rn_sl (X : rn_X) (st : List Value) : Option (List Value) := match st with
  | .int i :: .ref 1000000 :: r => if i < 0 ∨ X.1 ≤ i.toNatClampNeg then none else some (.int (X.2 i.toNatClampNeg) :: r)
  | _ => none
/-- what changes the stack alone -/
def rn_p (X : rn_X) (i : Instr) (ax : List Nat) (lv : rn_L) (st : List Value) (h : rn_H) : Option (List Value) := match i with
  | .iconst _ => match ax with
    | [a, b] => some (.int (rn_ci a b) :: st)
    | _ => none
  | .bipush _ => match ax with
    | [a, b] => some (.int (rn_ci a b) :: st)
    | _ => none
  | .sipush _ => match ax with
    | [a, b] => some (.int (rn_ci a b) :: st)
    | _ => none
  | .lconst _ => match ax with
    | [a, b] => some (.long (rn_cl a b) :: st)
    | _ => none
  | .ldc2_w _ => match ax with
    | [a, b, _] => some (.long (rn_cl a b) :: st)
    | _ => none
  | .aconst_null => some (.null :: st)
  | .iload j => rn_li j lv st
  | .iload_n j => rn_li j lv st
  | .lload j => rn_lj j lv st
  | .lload_n j => rn_lj j lv st
  | .aload j => rn_la j lv st
  | .aload_n j => rn_la j lv st
  | .iadd => rn_ii (fun x y => x + y) st
  | .isub => rn_ii (fun x y => x - y) st
  | .imul => rn_ii (fun x y => x * y) st
  | .iand => rn_ii (fun x y => x &&& y) st
  | .ior => rn_ii (fun x y => x ||| y) st
  | .ixor => rn_ii (fun x y => x ^^^ y) st
  | .ishl => rn_ii (fun x y => x <<< (y &&& 31)) st
  | .ishr => rn_ii (fun x y => x >>> (y &&& 31)) st
  | .idiv => rn_id (fun x y => x / y) st
  | .irem => rn_id (fun x y => x - x / y * y) st
  | .ladd => rn_ll (fun x y => x + y) st
  | .lsub => rn_ll (fun x y => x - y) st
  | .lmul => rn_ll (fun x y => x * y) st
  | .land => rn_ll (fun x y => x &&& y) st
  | .lor => rn_ll (fun x y => x ||| y) st
  | .ldiv => rn_ld (fun x y => x / y) st
  | .lrem => rn_ld (fun x y => x - x / y * y) st
  | .ineg => match st with
    | .int x :: r => some (.int (-x) :: r)
    | _ => none
  | .lshl => match st with
    | .int y :: .long x :: r => some (.long (x <<< (y.toInt64 &&& 63)) :: r)
    | _ => none
  | .lshr => match st with
    | .int y :: .long x :: r => some (.long (x >>> (y.toInt64 &&& 63)) :: r)
    | _ => none
  | .i2l => match st with
    | .int x :: r => some (.long x.toInt64 :: r)
    | _ => none
  | .l2i => match st with
    | .long x :: r => some (.int x.toInt32 :: r)
    | _ => none
  | .lcmp => match st with
    | .long y :: .long x :: r => some (.int (lg_cmp x y) :: r)
    | _ => none
  | .dup => match st with
    | .int x :: r => some (.int x :: .int x :: r)
    | .ref x :: r => some (.ref x :: .ref x :: r)
    | _ => none
  | .dup2 => match st with
    | .int x :: .ref q :: r => some (.int x :: .ref q :: .int x :: .ref q :: r)
    | _ => none
  | .pop => match st with
    | .int _ :: r => some r
    | _ => none
  | .getfield _ => match ax with
    | [c, k, _] => rn_gf c k h st
    | _ => none
  | .iaload => match ax with
    | [] => rn_ai 0 h st
    | _ => rn_sl X st
  | .baload => rn_ai 2 h st
  | .laload => rn_aj h st
  | .aaload => match ax with
    | [t] => rn_aa t h st
    | _ => none
  | .arraylength => match st with
    | .ref 1000000 :: r => some (.int (Int32.ofNat X.1) :: r)
    | _ => none
  | .invokestatic _ => match ax with
    | [2, _, _, _, _] => match st with
      | .int y :: .int x :: r => if rn_cs r ≤ 8 then some (.int (if x < y then y else x) :: r) else none
      | _ => none
    | _ => none
  | .invokespecial _ => match ax with
    | [3, _, _, _] => match st with
      | .ref _ :: r => if rn_cs r ≤ 8 then some r else none
      | _ => none
    | _ => none
  | _ => none
/-- what changes locals -/
def rn_l (i : Instr) (ax : List Nat) (lv : rn_L) (st : List Value) : Option (rn_L × List Value) := match i with
  | .istore j => match st with
    | .int x :: r => some ((j, .int x) :: rn_fl j lv, r)
    | _ => none
  | .istore_n j => match st with
    | .int x :: r => some (((j : Nat), .int x) :: rn_fl j lv, r)
    | _ => none
  | .lstore j => match st with
    | .long x :: r => some ((j, .long x) :: rn_fm j lv, r)
    | _ => none
  | .lstore_n j => match st with
    | .long x :: r => some (((j : Nat), .long x) :: rn_fm j lv, r)
    | _ => none
  | .astore j => match st with
    | .ref x :: r => some ((j, .ref x) :: rn_fl j lv, r)
    | _ => none
  | .astore_n j => match st with
    | .ref x :: r => some (((j : Nat), .ref x) :: rn_fl j lv, r)
    | _ => none
  | .iinc j _ => match ax with
    | [a, b] => match rn_lk j lv with
      | some (.int x) => some ((j, .int (x + rn_ci a b)) :: rn_fl j lv, st)
      | _ => none
    | _ => none
  | _ => none
def rn_st (ts : List Nat) (lo : Int) (x : Int32) (d : Nat) : Nat := match ts with
  | [] => d
  | t :: r => if x = Int32.ofInt lo then t else rn_st r (lo + 1) x d
def rn_sk (ks : List (Int × Int)) (ts : List Nat) (x : Int32) (d : Nat) : Nat := match ks, ts with
  | k :: kr, t :: tr => if x = Int32.ofInt k.1 then t else rn_sk kr tr x d
  | _, _ => d
/-- where it goes on: k the place behind it -/
def rn_b (i : Instr) (ax : List Nat) (k : Nat) (st : List Value) : Option (Nat × List Value) := match ax with
  | [] => none
  | t :: ts => match i with
    | .goto _ => some (t, st)
    | .ifCond c _ => match st with
      | .int x :: r => match c with
        | .eq => some (if x = 0 then t else k, r)
        | .ne => some (if x = 0 then k else t, r)
        | .lt => some (if x < 0 then t else k, r)
        | .ge => some (if 0 ≤ x then t else k, r)
        | .gt => some (if 0 < x then t else k, r)
        | .le => some (if x ≤ 0 then t else k, r)
      | _ => none
    | .if_icmp c _ => match st with
      | .int y :: .int x :: r => match c with
        | .eq => some (if x = y then t else k, r)
        | .ne => some (if x = y then k else t, r)
        | .lt => some (if x < y then t else k, r)
        | .ge => some (if y ≤ x then t else k, r)
        | .gt => some (if y < x then t else k, r)
        | .le => some (if x ≤ y then t else k, r)
      | _ => none
    | .ifnull _ => match st with
      | .ref _ :: r => some (k, r)
      | .null :: r => some (t, r)
      | _ => none
    | .ifnonnull _ => match st with
      | .ref _ :: r => some (t, r)
      | .null :: r => some (k, r)
      | _ => none
    | .tableswitch _ lo _ _ => match st with
      | .int x :: r => some (rn_st ts lo x t, r)
      | _ => none
    | .lookupswitch _ ps => match st with
      | .int x :: r => some (rn_sk ps.toList ts x t, r)
      | _ => none
    | _ => none
/-- a value that a field of that type (0 int, 1 a truth, 2 a reference) can take -/
def rn_ty (ty : Nat) (v : Value) : Bool := match v with
  | .int x => match ty with
    | 0 => true
    | 1 => decide (x = 0) || decide (x = 1)
    | _ => false
  | .ref _ => Nat.beq ty 2
  | .null => Nat.beq ty 2
  | _ => false
def rn_up (h : rn_H) (q : Nat) (e : rn_E) : rn_H := fun j => match Nat.beq j q with
  | true => e
  | false => h j
/-- what writes entries -/
def rn_w (i : Instr) (ax : List Nat) (st : List Value) (h : rn_H) : Option (List Value × rn_H) := match i with
  | .putfield _ => match ax with
    | [c, k, ty, _] => match st with
      | v :: .ref q :: r => match h q with
        | .inr (c1, fs) => match Nat.beq c1 c with
          | true => match rn_ty ty v with
            | true => match Nat.blt k fs.length with
              | true => some (r, rn_up h q (.inr (c1, fs.set k v)))
              | false => none
            | false => none
          | false => none
        | _ => none
      | _ => none
    | _ => none
  | .iastore => match st with
    | .int x :: .int i :: .ref q :: r => match h q with
      | .inl (0, n, .inl f) => if i < 0 ∨ n ≤ i.toNatClampNeg then none else some (r, rn_up h q (.inl (0, n, .inl (upd f i.toNatClampNeg x))))
      | _ => none
    | _ => none
  | .bastore => match st with
    | .int x :: .int i :: .ref q :: r => match h q with
      | .inl (2, n, .inl f) => if i < 0 ∨ n ≤ i.toNatClampNeg then none else if x = 0 ∨ x = 1 then some (r, rn_up h q (.inl (2, n, .inl (upd f i.toNatClampNeg x)))) else none
      | _ => none
    | _ => none
  | .lastore => match st with
    | .long x :: .int i :: .ref q :: r => match h q with
      | .inl (1, n, .inr (.inl f)) => if i < 0 ∨ n ≤ i.toNatClampNeg then none else some (r, rn_up h q (.inl (1, n, .inr (.inl (vp_updL f i.toNatClampNeg x)))))
      | _ => none
    | _ => none
  | .aastore => match ax with
    | [t, c] => match st with
      | .ref v :: .int i :: .ref q :: r => match h q with
        | .inl (t1, n, .inr (.inr (.inr (.inr f)))) => match Nat.beq t1 t with
          | true => match h v with
            | .inr (c1, _) => match Nat.beq c1 c with
              | true => if i < 0 ∨ n ≤ i.toNatClampNeg then none else some (r, rn_up h q (.inl (t1, n, .inr (.inr (.inr (.inr (va_up f i.toNatClampNeg (some v))))))))
              | false => none
            | _ => none
          | false => none
        | _ => none
      | _ => none
    | _ => none
  | .invokestatic _ => match ax with
    | [1, t, _, _, _, _] => match st with
      | .int n :: .int dp :: .ref a :: .int sp :: .ref a0 :: r => if sp < 0 ∨ dp < 0 ∨ n < 0 ∨ 8 < rn_cs r then none else match t with
        | 0 => match h a0, h a with
          | .inl (0, n0, .inl f), .inl (0, n1, .inl g) => if sp.toNatClampNeg + n.toNatClampNeg ≤ n0 ∧ dp.toNatClampNeg + n.toNatClampNeg ≤ n1 then some (r, rn_up h a (.inl (0, n1, .inl (va_cpy f g sp.toNatClampNeg dp.toNatClampNeg n.toNatClampNeg)))) else none
          | _, _ => none
        | 1 => match h a0, h a with
          | .inl (1, n0, .inr (.inl f)), .inl (1, n1, .inr (.inl g)) => if sp.toNatClampNeg + n.toNatClampNeg ≤ n0 ∧ dp.toNatClampNeg + n.toNatClampNeg ≤ n1 then some (r, rn_up h a (.inl (1, n1, .inr (.inl (va_cpy f g sp.toNatClampNeg dp.toNatClampNeg n.toNatClampNeg))))) else none
          | _, _ => none
        | _ => none
      | _ => none
    | _ => none
  | _ => none
def rn_z (t n : Nat) : rn_E := match t with
  | 0 => .inl (0, n, .inl (fun _ => 0))
  | 1 => .inl (1, n, .inr (.inl (fun _ => 0)))
  | 2 => .inl (2, n, .inl (fun _ => 0))
  | t + 3 => .inl (t + 3, n, .inr (.inr (.inr (.inr (fun _ => none)))))
/-- what makes an entry: it, how many slots it has -/
def rn_a (dv : Nat → List Value) (i : Instr) (ax : List Nat) (st : List Value) : Option (List Value × rn_E × Nat) := match i with
  | .new _ => match ax with
    | [c, n, _, _, _] => some (st, .inr (c, dv c), n)
    | _ => none
  | .newarray _ => match ax with
    | [t, _] => match st with
      | .int n :: r => if n < 0 ∨ 1000000 < n.toNatClampNeg then none else some (r, rn_z t n.toNatClampNeg, n.toNatClampNeg)
      | _ => none
    | _ => none
  | .anewarray _ => match ax with
    | [t, _, _] => match st with
      | .int n :: r => if n < 0 ∨ 1000000 < n.toNatClampNeg then none else some (r, rn_z t n.toNatClampNeg, n.toNatClampNeg)
      | _ => none
    | _ => none
  | _ => none
/-- a value that lies within the first N entries -/
def rn_cv (N : Nat) (v : Value) : Bool := match v with
  | .ref a => Nat.blt a N || Nat.beq a 1000000
  | _ => true
def rn_sp (X : rn_X) (dv : Nat → List Value) (e : rn_I) (s : rn_S) : Option rn_S := match e, s with
  | (_, i, _, ax), (k, lv, st, N, sl, h) => match rn_p X i ax lv st h with
    | some st1 => some (k + 1, lv, st1, N, sl, h)
    | none => match rn_b i ax (k + 1) st with
      | some (k1, st1) => some (k1, lv, st1, N, sl, h)
      | none => match rn_l i ax lv st with
        | some (lv1, st1) => some (k + 1, lv1, st1, N, sl, h)
        | none => match rn_w i ax st h with
          | some (st1, h1) => some (k + 1, lv, st1, N, sl, h1)
          | none => match rn_a dv i ax st with
            | some (st1, z, n) => match Nat.blt N 1000000 with
              | true => some (k + 1, lv, .ref N :: st1, N + 1, sl + n, rn_up h N z)
              | false => none
            | none => none
/-- the answer at a return: none, or a value -/
def rn_rt (i : Instr) (rt : Option FieldType) (st : List Value) : Option (Option Value) := match i with
  | .return_ => match st, rt with
    | [], none => some none
    | _, _ => none
  | .ireturn => match st, rt with
    | [.int x], some .int => some (some (.int x))
    | [.int x], some .boolean => if x = 0 ∨ x = 1 then some (some (.int x)) else none
    | _, _ => none
  | .lreturn => match st, rt with
    | [.long x], some .long => some (some (.long x))
    | _, _ => none
  | .areturn => match st, rt with
    | [.ref x], some (.object _) => some (some (.ref x))
    | _, _ => none
  | _ => none
/-- a call: the method, whether it has a receiver, its class' number -/
def rn_cc (i : Instr) (ax : List Nat) : Option (Nat × Bool × Nat) := match i with
  | .invokevirtual _ => match ax with
    | 0 :: z :: c :: _ => some (z, true, c)
    | _ => none
  | .invokespecial _ => match ax with
    | 0 :: z :: c :: _ => some (z, true, c)
    | 4 :: z :: c :: _ => some (z, true, c)
    | _ => none
  | .invokestatic _ => match ax with
    | 0 :: z :: c :: _ => some (z, false, c)
    | 4 :: z :: c :: _ => some (z, false, c)
    | _ => none
  | _ => none
/-- a receiver is an object of that class -/
def rn_rc (h : rn_H) (c : Nat) (as : List Value) : Bool := match as with
  | .ref q :: _ => match h q with
    | .inr (c1, _) => Nat.beq c1 c
    | _ => false
  | _ => false
def rn_x (X : rn_X) (dv : Nat → List Value) (ms : Nat → Option rn_M) : Nat → Nat → rn_S → Option (Option Value × Nat × Nat × rn_H)
  | 0, _, _ => none
  | f + 1, y, (k, lv, st, N, sl, h) => match ms y with
    | none => none
    | some (_, _, _, rt, T, _, fr, lo, _) => match T[k]? with
      | none => none
      | some e => match rn_sp X dv e (k, rn_kp e.2.2.1 lv, st, N, sl, h) with
        | some s => rn_x X dv ms f y s
        | none => match rn_rt e.2.1 rt st with
          | some v => some (v, N, sl, h)
          | none => match rn_cc e.2.1 e.2.2.2 with
            | none => none
            | some (z, b, c) => match ms z with
              | none => none
              | some (_, _, mL, _, _, n, fr2, lo2, _) => match Nat.ble (fr2 + 1) fr && Nat.ble (19 + mL + lo2) lo && Nat.ble (n + (bif b then 1 else 0)) st.length && Nat.ble (rn_cs (st.drop (n + (bif b then 1 else 0)))) 8 && Nat.ble (rn_cs (st.take (n + (bif b then 1 else 0)))) mL && (!b || rn_rc h c (st.take (n + 1)).reverse) with
                | false => none
                | true => match rn_x X dv ms f z (0, lv_args 0 (st.take (n + (bif b then 1 else 0))).reverse, [], N, sl, h) with
                  | none => none
                  | some (v, N1, sl1, h1) => rn_x X dv ms f y (k + 1, rn_kp e.2.2.1 lv, v.toList ++ st.drop (n + (bif b then 1 else 0)), N1, sl1, h1)
end
section
/-! classes and kinds of arrays by number -/
abbrev rn_cls : List vw_C := [(RX0, TX0, 2), (RX1, TX1, 5), (RX2, TX2, 0), (RX3, TX3, 18), (RX4, TX4, 6), (RX5, TX5, 2), (RX6, TX6, 2), (RX7, TX7, 16), (RX8, TX8, 6), (RX9, TX9, 43)]
def rn_fty : Nat → Nat → FieldType := fun c => match c with
  | 0 => tyX0
  | 1 => tyX1
  | 2 => tyX2
  | 3 => tyX3
  | 4 => tyX4
  | 5 => tyX5
  | 6 => tyX6
  | 7 => tyX7
  | 8 => tyX8
  | 9 => tyX9
  | _ => fun _ => .int
def rn_ft : List FieldType := [.int, .long, .boolean, .object RX1, .object RX3, .object RX4, .object RX5]
def rn_dv : Nat → List Value := fun c => match c with
  | 0 => [.null, .null]
  | 1 => [.null, .null, .null, .int 0, .int 0]
  | 2 => []
  | 3 => [.null, .int 0, .null, .int 0, .int 0, .int 0, .int 0, .int 0, .int 0, .int 0, .int 0, .int 0, .int 0, .int 0, .int 0, .int 0, .int 0, .int 0]
  | 4 => [.int 0, .null, .null, .null, .null, .int 0]
  | 5 => [.null, .int 0]
  | 6 => [.null, .int 0]
  | 7 => [.int 0, .null, .null, .int 0, .int 0, .int 0, .int 0, .null, .null, .null, .int 0, .null, .null, .null, .null, .int 0]
  | 8 => [.null, .null, .null, .null, .null, .null]
  | 9 => [.null, .null, .int 0, .null, .int 0, .null, .null, .null, .null, .null, .int 0, .null, .null, .null, .null, .int 0, .null, .null, .null, .int 0, .int 0, .null, .null, .null, .null, .null, .null, .null, .null, .null, .null, .null, .null, .int 0, .null, .null, .null, .null, .null, .null, .null, .int 0, .int 0]
  | _ => []
def rn_nest : List (String × Nat × MethodName × String) := [("RecordNiches$Holding", 25, ⟨"RecordNiches$Text", "<init>", "()V"⟩, "RecordNiches"), ("RecordNiches$Grammar", 21, ⟨"RecordNiches$Scan", "<init>", "()V"⟩, "RecordNiches"), ("RecordNiches$Tree", 43, ⟨"RecordNiches$Node", "<init>", "()V"⟩, "RecordNiches"), ("RecordNiches", 40, ⟨"RecordNiches$Transfer", "<init>", "()V"⟩, "RecordNiches"), ("RecordNiches$Scan", 56, ⟨"RecordNiches", "isLetter", "(I)Z"⟩, "RecordNiches"), ("RecordNiches$Holding", 43, ⟨"RecordNiches", "isShape", "(I)Z"⟩, "RecordNiches"), ("RecordNiches$Tree", 105, ⟨"RecordNiches", "isLetter", "(I)Z"⟩, "RecordNiches"), ("RecordNiches$Grammar", 42, ⟨"RecordNiches", "isShape", "(I)Z"⟩, "RecordNiches"), ("RecordNiches$Lay", 25, ⟨"RecordNiches", "upTo", "(II)I"⟩, "RecordNiches")]
def rn_gw : List Cond := lw_tbl.filter goodWord
theorem rn_in0 : ∀ w ∈ u_ws RX0 TX0 2, w ∈ rn_gw := by decide +kernel
theorem rn_dv0 : ∀ j, j < 2 → defaultValue (tyX0 j) = vp_V (rn_dv 0) j := by decide +kernel
theorem rn_in1 : ∀ w ∈ u_ws RX1 TX1 5, w ∈ rn_gw := by decide +kernel
theorem rn_dv1 : ∀ j, j < 5 → defaultValue (tyX1 j) = vp_V (rn_dv 1) j := by decide +kernel
theorem rn_in2 : ∀ w ∈ u_ws RX2 TX2 0, w ∈ rn_gw := by decide +kernel
theorem rn_dv2 : ∀ j, j < 0 → defaultValue (tyX2 j) = vp_V (rn_dv 2) j := by decide +kernel
theorem rn_in3 : ∀ w ∈ u_ws RX3 TX3 18, w ∈ rn_gw := by decide +kernel
theorem rn_dv3 : ∀ j, j < 18 → defaultValue (tyX3 j) = vp_V (rn_dv 3) j := by decide +kernel
theorem rn_in4 : ∀ w ∈ u_ws RX4 TX4 6, w ∈ rn_gw := by decide +kernel
theorem rn_dv4 : ∀ j, j < 6 → defaultValue (tyX4 j) = vp_V (rn_dv 4) j := by decide +kernel
theorem rn_in5 : ∀ w ∈ u_ws RX5 TX5 2, w ∈ rn_gw := by decide +kernel
theorem rn_dv5 : ∀ j, j < 2 → defaultValue (tyX5 j) = vp_V (rn_dv 5) j := by decide +kernel
theorem rn_in6 : ∀ w ∈ u_ws RX6 TX6 2, w ∈ rn_gw := by decide +kernel
theorem rn_dv6 : ∀ j, j < 2 → defaultValue (tyX6 j) = vp_V (rn_dv 6) j := by decide +kernel
theorem rn_in7 : ∀ w ∈ u_ws RX7 TX7 16, w ∈ rn_gw := by decide +kernel
theorem rn_dv7 : ∀ j, j < 16 → defaultValue (tyX7 j) = vp_V (rn_dv 7) j := by decide +kernel
theorem rn_in8 : ∀ w ∈ u_ws RX8 TX8 6, w ∈ rn_gw := by decide +kernel
theorem rn_dv8 : ∀ j, j < 6 → defaultValue (tyX8 j) = vp_V (rn_dv 8) j := by decide +kernel
theorem rn_in9 : ∀ w ∈ u_ws RX9 TX9 43, w ∈ rn_gw := by decide +kernel
theorem rn_dv9 : ∀ j, j < 43 → defaultValue (tyX9 j) = vp_V (rn_dv 9) j := by decide +kernel
/-- what is known of a class by its number -/
def rn_cf (c : Nat) (q : vw_C) : Prop := (∀ w ∈ u_ws q.1 q.2.1 q.2.2, w ∈ rn_gw) ∧ (∀ k, k < q.2.2 → parseFieldDescriptor (q.2.1 k).2.2.1 = some (rn_fty c k)) ∧ (∀ a, a < q.2.2 → ∀ b, b < q.2.2 → a ≠ b → (q.2.1 a).2.1 ≠ (q.2.1 b).2.1) ∧ (∀ j, j < q.2.2 → defaultValue (rn_fty c j) = vp_V (rn_dv c) j)
theorem rn_cf_all : ∀ (c : Nat) (q : vw_C), rn_cls[c]? = some q → rn_cf c q := by
  intro c q h
  match c, h with
  | 0, h => cases h; exact ⟨rn_in0, tyX0_ok, nmX0, rn_dv0⟩
  | 1, h => cases h; exact ⟨rn_in1, tyX1_ok, nmX1, rn_dv1⟩
  | 2, h => cases h; exact ⟨rn_in2, tyX2_ok, nmX2, rn_dv2⟩
  | 3, h => cases h; exact ⟨rn_in3, tyX3_ok, nmX3, rn_dv3⟩
  | 4, h => cases h; exact ⟨rn_in4, tyX4_ok, nmX4, rn_dv4⟩
  | 5, h => cases h; exact ⟨rn_in5, tyX5_ok, nmX5, rn_dv5⟩
  | 6, h => cases h; exact ⟨rn_in6, tyX6_ok, nmX6, rn_dv6⟩
  | 7, h => cases h; exact ⟨rn_in7, tyX7_ok, nmX7, rn_dv7⟩
  | 8, h => cases h; exact ⟨rn_in8, tyX8_ok, nmX8, rn_dv8⟩
  | 9, h => cases h; exact ⟨rn_in9, tyX9_ok, nmX9, rn_dv9⟩
  | c + 10, h => simp [rn_cls] at h
end
section
/-! from the abstract entries to the cells: numbers become addresses -/
def rn_vv (ad : Nat → Nat) (v : Value) : Value := match v with
  | .ref a => .ref (ad a)
  | v => v
def rn_ev (cA : Nat → ClassId) (ad : Nat → Nat) (e : rn_E) : va_E := match e with
  | .inl (t, n, .inr (.inr (.inr (.inr f)))) => .inl (cA t, n, .inr (.inr (.inr (.inr (fun i => (f i).map ad)))))
  | .inl (t, a) => .inl (cA t, a)
  | .inr (c, fs) => .inr (c, fs.map (rn_vv ad))
def rn_wl (cA : Nat → ClassId) (ad : Nat → Nat) (N : Nat) (h : rn_H) : va_W := (List.range N).map (fun k => (ad k, rn_ev cA ad (h k)))
def rn_cE (N : Nat) (e : rn_E) : Prop := match e with
  | .inl (_, _, .inr (.inr (.inr (.inr f)))) => ∀ i a : Nat, f i = some a → a < N
  | .inl _ => True
  | .inr (_, fs) => ∀ v ∈ fs, rn_cv N v = true
def rn_hc (N : Nat) (h : rn_H) : Prop := (∀ k, k < N → rn_cE N (h k)) ∧ h 1000000 = .inr (999999, []) ∧ N ≤ 1000000
def rn_cs1 (N : Nat) (st : List Value) : Prop := ∀ v ∈ st, rn_cv N v = true
def rn_cl1 (N : Nat) (lv : rn_L) : Prop := ∀ q ∈ lv, rn_cv N q.2 = true
def rn_ag (N : Nat) (ad ad2 : Nat → Nat) : Prop := ∀ k, k < N ∨ k = 1000000 → ad2 k = ad k
theorem rn_cv_ref {N a : Nat} : rn_cv N (.ref a) = true ↔ a < N ∨ a = 1000000 := by
  simp [rn_cv]
theorem rn_vv_ag {N : Nat} {ad ad2 : Nat → Nat} (h : rn_ag N ad ad2) {v : Value} (hv : rn_cv N v = true) : rn_vv ad2 v = rn_vv ad v := by
  cases v <;> simp only [rn_vv]
  rename_i a
  rw [h a (rn_cv_ref.mp hv)]
theorem rn_vs_ag {N : Nat} {ad ad2 : Nat → Nat} (h : rn_ag N ad ad2) {st : List Value} (hv : rn_cs1 N st) : st.map (rn_vv ad2) = st.map (rn_vv ad) :=
  List.map_congr_left fun v q => rn_vv_ag h (hv v q)
theorem rn_ev_ag {N : Nat} {cA : Nat → ClassId} {ad ad2 : Nat → Nat} (h : rn_ag N ad ad2) {e : rn_E} (he : rn_cE N e) : rn_ev cA ad2 e = rn_ev cA ad e := by
  rcases e with ⟨t, n, f | f | f | f | f⟩ | ⟨c, fs⟩
  · rfl
  · rfl
  · rfl
  · rfl
  · have e1 : (fun i => (f i).map ad2) = (fun i => (f i).map ad) := by
      funext i
      cases hf : f i with
      | none => rfl
      | some a => simp [h a (Or.inl (he i a hf))]
    simp only [rn_ev, e1]
  · have e1 : fs.map (rn_vv ad2) = fs.map (rn_vv ad) := rn_vs_ag h he
    simp only [rn_ev, e1]
theorem rn_wl_get {cA : Nat → ClassId} {ad : Nat → Nat} {N k : Nat} {h : rn_H} (hk : k < N) : (rn_wl cA ad N h)[k]? = some (ad k, rn_ev cA ad (h k)) := by
  simp [rn_wl, hk]
theorem rn_wl_some {cA : Nat → ClassId} {ad : Nat → Nat} {N k : Nat} {h : rn_H} {q : Nat × va_E} (hq : (rn_wl cA ad N h)[k]? = some q) : k < N ∧ q = (ad k, rn_ev cA ad (h k)) := by
  by_cases hk : k < N
  · rw [rn_wl_get hk] at hq
    exact ⟨hk, (Option.some.inj hq).symm⟩
  · rw [List.getElem?_eq_none (by simp [rn_wl]; omega)] at hq
    cases hq
theorem rn_up_s {h : rn_H} {q : Nat} {e : rn_E} : rn_up h q e q = e := by simp [rn_up]
theorem rn_up_n {h : rn_H} {q j : Nat} {e : rn_E} (hj : j ≠ q) : rn_up h q e j = h j := by
  have : Nat.beq j q = false := by
    cases hb : Nat.beq j q with
    | false => rfl
    | true => exact absurd (Nat.eq_of_beq_eq_true hb) hj
  simp only [rn_up, this]
theorem rn_wl_set {cA : Nat → ClassId} {ad : Nat → Nat} {N q : Nat} {h : rn_H} {e : rn_E} {x : va_E} (hx : rn_ev cA ad e = x) : (rn_wl cA ad N h).set q (ad q, x) = rn_wl cA ad N (rn_up h q e) := by
  subst hx
  refine List.ext_getElem? fun k => ?_
  by_cases hk : k < N
  · by_cases hq : k = q
    · subst hq
      rw [List.getElem?_set_self (by simp [rn_wl]; exact hk), rn_wl_get hk, rn_up_s]
    · rw [List.getElem?_set_ne (Ne.symm hq), rn_wl_get hk, rn_wl_get hk, rn_up_n hq]
  · rw [List.getElem?_eq_none (by simp [rn_wl]; omega), List.getElem?_eq_none (by simp [rn_wl]; omega)]
theorem rn_wl_ag {cA : Nat → ClassId} {N : Nat} {ad ad2 : Nat → Nat} {h : rn_H} (hA : rn_ag N ad ad2) (hc : rn_hc N h) : rn_wl cA ad2 N h = rn_wl cA ad N h := by
  refine List.map_congr_left fun k hk => ?_
  have hk := List.mem_range.mp hk
  rw [hA k (Or.inl hk), rn_ev_ag hA (hc.1 k hk)]
theorem rn_ag_up {N q : Nat} {ad : Nat → Nat} (hN : N < 1000000) : rn_ag N ad (va_up ad N q) := by
  intro k hk
  simp only [va_up]
  rw [if_neg]
  omega
theorem rn_wl_push {cA : Nat → ClassId} {N q : Nat} {ad : Nat → Nat} {h : rn_H} {e : rn_E} {x : va_E} (hN : N < 1000000) (hc : rn_hc N h) (hx : rn_ev cA (va_up ad N q) e = x) : rn_wl cA ad N h ++ [(q, x)] = rn_wl cA (va_up ad N q) (N + 1) (rn_up h N e) := by
  subst hx
  rw [← rn_wl_ag (rn_ag_up (q := q) hN) hc]
  unfold rn_wl
  rw [List.range_succ, List.map_append]
  congr 1
  · refine List.map_congr_left fun k hk => ?_
    have hk := List.mem_range.mp hk
    rw [rn_up_n (by omega)]
  · simp [va_up, rn_up_s]
/-! what the machine knows of classes in a state -/
def rn_tys (cA : Nat → ClassId) : List (ClassId × FieldType) := (List.range rn_ft.length).map (fun t => (cA t, rn_ft.getD t .int))
theorem rn_tys_get {cA : Nat → ClassId} {t : Nat} {ty : FieldType} (h : rn_ft[t]? = some ty) : (rn_tys cA)[t]? = some (cA t, ty) := by
  have ht : t < rn_ft.length := (List.getElem?_eq_some_iff.mp h).1
  simp only [rn_tys, List.getElem?_map, List.getElem?_range ht, Option.map_some]
  rw [List.getD_eq_getElem?_getD, h]
  rfl
def rn_Kn (D : va_G) (cA : Nat → ClassId) (U : State) : Prop := va_K D rn_cls (rn_tys cA) U ∧ (∀ w ∈ rn_nest, va_Nw (.methodLinkNest w.1 w.2.1 w.2.2.1 w.2.2.2) U) ∧ ∀ C : String, FieldType.object C ∈ rn_ft → va_AO C U
theorem rn_Kn.warm {D : va_G} {cA : Nat → ClassId} {s U : State} (hW : s.WarmedH U.vm) (h : rn_Kn D cA s) : rn_Kn D cA U :=
  ⟨va_K.moved hW.alike h.1, fun w hw => va_Nw.warmM hW (h.2.1 w hw), fun C hC => va_AO.moved hW.alike (h.2.2 C hC)⟩
theorem rn_Kn.same {D : va_G} {cA : Nat → ClassId} {s U : State} (hW : s.vm = U.vm) (h : rn_Kn D cA s) : rn_Kn D cA U :=
  ⟨va_K.moved (by rw [← hW]; exact Vm.Alike.refl _) h.1, fun w hw => va_Nw.same rfl hW (h.2.1 w hw), fun C hC => va_AO.moved (by rw [← hW]; exact Vm.Alike.refl _) (h.2.2 C hC)⟩
theorem rn_hw {args : Array Value} {s : State} {i : Nat} {c : Cond} (hts : ∀ w ∈ rn_gw, w.before args s = true) (h : lw_tbl[i]? = some c) (hg : goodWord c = true) : c.before args s = true :=
  hts c (List.mem_filter.mpr ⟨List.mem_of_getElem? h, hg⟩)
theorem rn_gm {i : Nat} {c : Cond} (h : lw_tbl[i]? = some c) (hg : goodWord c = true) : c ∈ rn_gw := List.mem_filter.mpr ⟨List.mem_of_getElem? h, hg⟩
/-! locals -/
def rn_vl (ad : Nat → Nat) (lv : rn_L) : List (Nat × Value) := lv.map (fun q => (q.1, rn_vv ad q.2))
theorem rn_lk_some {i : Nat} {v : Value} : ∀ {lv : rn_L}, rn_lk i lv = some v → (i, v) ∈ lv
  | [], h => by cases h
  | (j, w) :: t, h => by
    unfold rn_lk at h
    split at h
    · next hb =>
      have := Nat.eq_of_beq_eq_true hb
      subst this
      cases h
      exact List.mem_cons_self
    · exact List.mem_cons_of_mem _ (rn_lk_some h)
theorem rn_pk_sub {lv : rn_L} : ∀ {ks : List Nat} {q : Nat × Value}, q ∈ rn_pk lv ks → q ∈ lv
  | [], q, h => by cases h
  | i :: t, q, h => by
    unfold rn_pk at h
    split at h
    · next v hv =>
      rcases List.mem_cons.mp h with rfl | h
      · exact rn_lk_some hv
      · exact rn_pk_sub h
    · exact rn_pk_sub h
theorem rn_kp_sub {ks : List Nat} {lv : rn_L} {q : Nat × Value} (h : q ∈ rn_kp ks lv) : q ∈ lv := by
  cases ks with
  | nil => exact h
  | cons i t => exact rn_pk_sub h
theorem rn_vl_sub {ad : Nat → Nat} {ls : Array Slot} {n : Nat} {lv lv2 : rn_L} (h : lv_has ls n (rn_vl ad lv)) (hs : ∀ q ∈ lv2, q ∈ lv) : lv_has ls n (rn_vl ad lv2) := by
  refine ⟨h.1, h.2.1, fun q hq => ?_⟩
  obtain ⟨x, hx, rfl⟩ := List.mem_map.mp hq
  exact h.2.2 _ (List.mem_map.mpr ⟨x, hs x hx, rfl⟩)
theorem rn_vl_at {ad : Nat → Nat} {ls : Array Slot} {n i : Nat} {lv : rn_L} {v : Value} (h : lv_has ls n (rn_vl ad lv)) (hk : rn_lk i lv = some v) : ls[i]? = some (.val (rn_vv ad v)) :=
  h.2.2 (i, rn_vv ad v) (List.mem_map.mpr ⟨(i, v), rn_lk_some hk, rfl⟩)
theorem rn_vl_ag {N : Nat} {ad ad2 : Nat → Nat} (h : rn_ag N ad ad2) {lv : rn_L} (hv : rn_cl1 N lv) : rn_vl ad2 lv = rn_vl ad lv :=
  List.map_congr_left fun q hq => by rw [rn_vv_ag h (hv q hq)]
theorem rn_vv_cat {ad : Nat → Nat} {v : Value} : (rn_vv ad v).category = v.category := by cases v <;> rfl
theorem rn_cs_map {ad : Nat → Nat} (st : List Value) : ((st.map (rn_vv ad)).map fun v => v.category).sum = rn_cs st := by
  unfold rn_cs
  rw [List.map_map]
  congr 1
  exact List.map_congr_left fun v _ => rn_vv_cat
theorem rn_fl_map {ad : Nat → Nat} {i : Nat} {lv : rn_L} : (rn_vl ad lv).filter (fun q => !(q.1 == i) && !(q.1 + 1 == i && q.2.category == 2)) = rn_vl ad (rn_fl i lv) := by
  unfold rn_vl rn_fl
  rw [List.filter_map]
  congr 1
  refine List.filter_congr fun q _ => ?_
  simp only [Function.comp, rn_vv_cat]
theorem rn_fm_map {ad : Nat → Nat} {i : Nat} {lv : rn_L} : (rn_vl ad lv).filter (fun q => !(q.1 == i) && (!(q.1 == i + 1) && !(q.1 + 1 == i && q.2.category == 2))) = rn_vl ad (rn_fm i lv) := by
  unfold rn_vl rn_fm
  rw [List.filter_map]
  congr 1
  refine List.filter_congr fun q _ => ?_
  simp only [Function.comp, rn_vv_cat]
theorem rn_cl1_cons {N i : Nat} {v : Value} {lv : rn_L} (hv : rn_cv N v = true) (h : rn_cl1 N lv) : rn_cl1 N ((i, v) :: rn_fl i lv) := by
  intro q hq
  rcases List.mem_cons.mp hq with rfl | hq
  · exact hv
  · exact h q (List.mem_filter.mp hq).1
theorem rn_cl1_consm {N i : Nat} {v : Value} {lv : rn_L} (hv : rn_cv N v = true) (h : rn_cl1 N lv) : rn_cl1 N ((i, v) :: rn_fm i lv) := by
  intro q hq
  rcases List.mem_cons.mp hq with rfl | hq
  · exact hv
  · exact h q (List.mem_filter.mp hq).1
theorem rn_vl_args {ad : Nat → Nat} : ∀ (as : List Value) (i : Nat), lv_args i (as.map (rn_vv ad)) = rn_vl ad (lv_args i as)
  | [], i => rfl
  | v :: t, i => by
    simp only [List.map_cons, lv_args, rn_vl, rn_vv_cat]
    rw [rn_vl_args t]
    rfl
theorem rn_cl1_args {N : Nat} : ∀ (as : List Value) (i : Nat), rn_cs1 N as → rn_cl1 N (lv_args i as)
  | [], i, h => by intro q hq; cases hq
  | v :: t, i, h => by
    intro q hq
    simp only [lv_args] at hq
    rcases List.mem_cons.mp hq with rfl | hq
    · exact h v List.mem_cons_self
    · exact rn_cl1_args t _ (fun w hw => h w (List.mem_cons_of_mem _ hw)) q hq
end
section
/-! the tables' checks, and one step of the stack -/
def rn_ln (i : Instr) : Nat := match i with
  | .bipush _ | .iload _ | .lload _ | .aload _ | .istore _ | .lstore _ | .astore _ | .newarray _ => 2
  | .sipush _ | .ldc2_w _ | .goto _ | .ifCond _ _ | .if_icmp _ _ | .ifnull _ | .ifnonnull _ | .iinc _ _ | .getfield _ | .putfield _ | .invokestatic _ | .invokevirtual _ | .invokespecial _ | .new _ | .anewarray _ => 3
  | _ => 1
def rn_fd (own : String) (idx c k w : Nat) : Bool := match rn_cls[c]? with
  | some q => Nat.blt k q.2.2 && decide (lw_tbl[w]? = some (.fieldLink own idx q.1 (q.2.1 k).2.1 (q.2.1 k).2.2.1)) && decide ((q.2.1 k).1 = q.1)
  | none => false
def rn_isO (t : Nat) : Bool := match rn_ft[t]? with
  | some (.object _) => true
  | _ => false
theorem rn_isO_some {t : Nat} (h : rn_isO t = true) : ∃ C : String, rn_ft[t]? = some (.object C) := by
  unfold rn_isO at h
  split at h
  · next C hC => exact ⟨C, hC⟩
  · cases h
def rn_oP (own : String) (fr lo : Nat) (i : Instr) (ax : List Nat) : Bool := match i with
  | .iconst n => match ax with
    | [a, b] => decide (Int32.ofInt n = rn_ci a b)
    | _ => false
  | .bipush n => match ax with
    | [a, b] => decide ((Int8.ofInt n).toInt32 = rn_ci a b)
    | _ => false
  | .sipush n => match ax with
    | [a, b] => decide ((Int16.ofInt n).toInt32 = rn_ci a b)
    | _ => false
  | .lconst n => match ax with
    | [a, b] => decide (Int64.ofNat (n : Nat) = rn_cl a b)
    | _ => false
  | .ldc2_w idx => match ax with
    | [a, b, w] => decide (lw_tbl[w]? = some (.constantLong own idx (rn_cl a b)))
    | _ => false
  | .getfield idx => match ax with
    | [c, k, w] => rn_fd own idx c k w
    | _ => false
  | .aaload => match ax with
    | [t] => rn_isO t
    | _ => false
  | .invokestatic idx => match ax with
    | [2, w1, w2, w3, w4] => decide (lw_tbl[w1]? = some (.methodLink own idx Lib.Math.max.name)) && decide (lw_tbl[w2]? = some (.static Lib.Math.max.name)) && decide (lw_tbl[w3]? = some (.initialized "java/lang/Math")) && decide (lw_tbl[w4]? = some (.code Lib.Math.max.name Lib.Math.max.code 2 (some .int))) && Nat.ble 1 fr && Nat.ble 21 lo
    | _ => true
  | .invokespecial idx => match ax with
    | [3, w1, w2, w3] => decide (lw_tbl[w1]? = some (.methodLink own idx Lib.objectInit)) && decide (lw_tbl[w2]? = some (.instanceMethod Lib.objectInit)) && decide (lw_tbl[w3]? = some (.code Lib.objectInit ⟨#[0xb1]⟩ 1 none)) && Nat.ble 1 fr && Nat.ble 20 lo
    | _ => true
  | _ => true
theorem rn_ii_inv {f : Int32 → Int32 → Int32} {st st1 : List Value} (h : rn_ii f st = some st1) : ∃ (x y : Int32) (r : List Value), st = .int y :: .int x :: r ∧ st1 = .int (f x y) :: r := by
  unfold rn_ii at h
  split at h
  · cases h; exact ⟨_, _, _, rfl, rfl⟩
  · cases h
theorem rn_id_inv {f : Int32 → Int32 → Int32} {st st1 : List Value} (h : rn_id f st = some st1) : ∃ (x y : Int32) (r : List Value), st = .int y :: .int x :: r ∧ st1 = .int (f x y) :: r ∧ ¬ y = 0 := by
  unfold rn_id at h
  split at h
  · split at h
    · cases h
    · next hy => cases h; exact ⟨_, _, _, rfl, rfl, hy⟩
  · cases h
theorem rn_ll_inv {f : Int64 → Int64 → Int64} {st st1 : List Value} (h : rn_ll f st = some st1) : ∃ (x y : Int64) (r : List Value), st = .long y :: .long x :: r ∧ st1 = .long (f x y) :: r := by
  unfold rn_ll at h
  split at h
  · cases h; exact ⟨_, _, _, rfl, rfl⟩
  · cases h
theorem rn_ld_inv {f : Int64 → Int64 → Int64} {st st1 : List Value} (h : rn_ld f st = some st1) : ∃ (x y : Int64) (r : List Value), st = .long y :: .long x :: r ∧ st1 = .long (f x y) :: r ∧ ¬ y = 0 := by
  unfold rn_ld at h
  split at h
  · split at h
    · cases h
    · next hy => cases h; exact ⟨_, _, _, rfl, rfl, hy⟩
  · cases h
theorem rn_li_inv {j : Nat} {lv : rn_L} {st st1 : List Value} (h : rn_li j lv st = some st1) : ∃ x : Int32, rn_lk j lv = some (.int x) ∧ st1 = .int x :: st := by
  unfold rn_li at h
  split at h
  · next x hx => cases h; exact ⟨x, hx, rfl⟩
  · cases h
theorem rn_lj_inv {j : Nat} {lv : rn_L} {st st1 : List Value} (h : rn_lj j lv st = some st1) : ∃ x : Int64, rn_lk j lv = some (.long x) ∧ st1 = .long x :: st := by
  unfold rn_lj at h
  split at h
  · next x hx => cases h; exact ⟨x, hx, rfl⟩
  · cases h
theorem rn_la_inv {j : Nat} {lv : rn_L} {st st1 : List Value} (h : rn_la j lv st = some st1) : (∃ x : Nat, rn_lk j lv = some (.ref x) ∧ st1 = .ref x :: st) ∨ (rn_lk j lv = some .null ∧ st1 = .null :: st) := by
  unfold rn_la at h
  split at h
  · next x hx => cases h; exact Or.inl ⟨x, hx, rfl⟩
  · next hx => cases h; exact Or.inr ⟨hx, rfl⟩
  · cases h
theorem rn_ai_inv {t : Nat} {h : rn_H} {st st1 : List Value} (e : rn_ai t h st = some st1) : ∃ (i : Int32) (q n : Nat) (f : Nat → Int32) (r : List Value), st = .int i :: .ref q :: r ∧ h q = .inl (t, n, .inl f) ∧ vp_in i n ∧ st1 = .int (f i.toNatClampNeg) :: r := by
  unfold rn_ai at e
  split at e
  · split at e
    · split at e
      · next hq _ hb =>
        have := Nat.eq_of_beq_eq_true hb
        subst this
        split at e
        · cases e
        · next hi => cases e; exact ⟨_, _, _, _, _, rfl, hq, hi, rfl⟩
      · cases e
    · cases e
  · cases e
theorem rn_aj_inv {h : rn_H} {st st1 : List Value} (e : rn_aj h st = some st1) : ∃ (i : Int32) (q n : Nat) (f : Nat → Int64) (r : List Value), st = .int i :: .ref q :: r ∧ h q = .inl (1, n, .inr (.inl f)) ∧ vp_in i n ∧ st1 = .long (f i.toNatClampNeg) :: r := by
  unfold rn_aj at e
  split at e
  · split at e
    · next hq =>
      split at e
      · cases e
      · next hi => cases e; exact ⟨_, _, _, _, _, rfl, hq, hi, rfl⟩
    · cases e
  · cases e
theorem rn_aa_inv {t : Nat} {h : rn_H} {st st1 : List Value} (e : rn_aa t h st = some st1) : ∃ (i : Int32) (q n : Nat) (f : Nat → Option Nat) (r : List Value), st = .int i :: .ref q :: r ∧ h q = .inl (t, n, .inr (.inr (.inr (.inr f)))) ∧ vp_in i n ∧ st1 = va_rf (f i.toNatClampNeg) :: r := by
  unfold rn_aa at e
  split at e
  · split at e
    · split at e
      · next hq _ hb =>
        have := Nat.eq_of_beq_eq_true hb
        subst this
        split at e
        · cases e
        · next hi => cases e; exact ⟨_, _, _, _, _, rfl, hq, hi, rfl⟩
      · cases e
    · cases e
  · cases e
theorem rn_gf_inv {c k : Nat} {h : rn_H} {st st1 : List Value} (e : rn_gf c k h st = some st1) : ∃ (q : Nat) (fs : List Value) (v : Value) (r : List Value), st = .ref q :: r ∧ h q = .inr (c, fs) ∧ fs[k]? = some v ∧ st1 = v :: r := by
  unfold rn_gf at e
  split at e
  · split at e
    · split at e
      · next hq _ hb =>
        have := Nat.eq_of_beq_eq_true hb
        subst this
        split at e
        · next v hv => cases e; exact ⟨_, _, v, _, rfl, hq, hv, rfl⟩
        · cases e
      · cases e
    · cases e
  · cases e
theorem rn_sl_inv {X : rn_X} {st st1 : List Value} (e : rn_sl X st = some st1) : ∃ (i : Int32) (r : List Value), st = .int i :: .ref 1000000 :: r ∧ vp_in i X.1 ∧ st1 = .int (X.2 i.toNatClampNeg) :: r := by
  unfold rn_sl at e
  split at e
  · split at e
    · cases e
    · next hi => cases e; exact ⟨_, _, rfl, hi, rfl⟩
  · cases e
theorem rn_lt {N q : Nat} {r : List Value} {h : rn_H} (hs : rn_cs1 N (.ref q :: r)) (hh : rn_hc N h) (hn : h q ≠ .inr (999999, [])) : q < N := by
  rcases rn_cv_ref.mp (hs _ List.mem_cons_self) with g | g
  · exact g
  · exact absurd (by rw [g]; exact hh.2.1) hn
theorem rn_cs_c {N : Nat} {v : Value} {r : List Value} (hv : rn_cv N v = true) (h : rn_cs1 N r) : rn_cs1 N (v :: r) := fun w hw => (List.mem_cons.mp hw).elim (fun e => e ▸ hv) (h w)
theorem rn_cs_t {N : Nat} {v : Value} {r : List Value} (h : rn_cs1 N (v :: r)) : rn_cs1 N r := fun w hw => h w (List.mem_cons_of_mem _ hw)
theorem rn_cs_h {N : Nat} {v : Value} {r : List Value} (h : rn_cs1 N (v :: r)) : rn_cv N v = true := h v List.mem_cons_self
theorem rn_lk_cv {N i : Nat} {v : Value} {lv : rn_L} (h : rn_cl1 N lv) (hk : rn_lk i lv = some v) : rn_cv N v = true := h (i, v) (rn_lk_some hk)
section RN1
variable {p : Program} {l : Launch} {e : Env} {R : Room} {s : State} {m : MethodId} {args : Array Value} {below : List Frame} {meth : Method} {c : Code} {H : Heap} {locs : List Loc} {cells slots : Nat} {Q : State → Prop}
variable {cc : ByteArray} {pc n nL : Nat} {ls : Array Slot} {D : va_G} {cA : Nat → ClassId} {ad : Nat → Nat} {N : Nat} {h : rn_H} {A : Nat → Prop} {H0 : Heap} {lv : rn_L} {st : List Value} {b : Nat} {X : rn_X} {own : String} {fr lo : Nat}
theorem rn_oF {idx ci k w : Nat} (hc : rn_fd own idx ci k w = true) : ∃ q : vw_C, rn_cls[ci]? = some q ∧ k < q.2.2 ∧ lw_tbl[w]? = some (.fieldLink own idx q.1 (q.2.1 k).2.1 (q.2.1 k).2.2.1) ∧ (q.2.1 k).1 = q.1 := by
  unfold rn_fd at hc
  split at hc
  · next q hq =>
    simp only [Bool.and_eq_true, decide_eq_true_eq] at hc
    exact ⟨q, hq, Nat.le_of_ble_eq_true hc.1.1, hc.1.2, hc.2⟩
  · cases hc
set_option maxHeartbeats 4000000 in
theorem rn_p_ok {i : Instr} {ax : List Nat} {st1 : List Value} (hx : p.tables.exec = Jvm.exec) (hb : c.code = cc) (hml : c.maxLocals = ls.size) (hts : ∀ w ∈ rn_gw, w.before args s = true) (hown : s.vm.findClass own = some m.cls)
    (hK : va_K D rn_cls (rn_tys cA) s) (hP : va_P D rn_cls (rn_wl cA ad N h) H) (hS : va_S A H0 H locs) (hX : va_X b X.1 X.2 s H0) (hbl : b < H0.size) (hbA : ¬ A b) (hab : ad 1000000 = b)
    (hl : lv_has ls nL (rn_vl ad lv)) (hcl : rn_cl1 N lv) (hcs : rn_cs1 N st) (hh : rn_hc N h) (hfr : fr ≤ R.frames) (hlo : lo ≤ R.locals) (hce : cells ≤ R.cells) (hsl : slots ≤ R.slots)
    (hok : rn_oP own fr lo i ax = true) (hd : decode cc pc = .ok (i, rn_ln i)) (hp : rn_p X i ax lv st h = some st1)
    (kk : rn_cs1 N st1 → W p l e R s m args below meth c H locs cells slots Q (F0 m (pc + rn_ln i) ls (st1.map (rn_vv ad)))) :
    W p l e R s m args below meth c H locs cells slots Q (F0 m pc ls (st.map (rn_vv ad))) := by
  cases i
  all_goals (try (exact absurd (show (none : Option (List Value)) = some st1 from hp) (fun q => by cases q)))
  case iconst z =>
    simp only [rn_p, rn_oP] at hp hok
    split at hp
    · cases hp
      exact lv_iconst hx hb hd (of_decide_eq_true hok) (kk (rn_cs_c rfl hcs))
    · cases hp
  case bipush z =>
    simp only [rn_p, rn_oP] at hp hok
    split at hp
    · cases hp
      exact lv_bipush hx hb hd (of_decide_eq_true hok) (kk (rn_cs_c rfl hcs))
    · cases hp
  case sipush z =>
    simp only [rn_p, rn_oP] at hp hok
    split at hp
    · cases hp
      exact lv_sipush hx hb hd (of_decide_eq_true hok) (kk (rn_cs_c rfl hcs))
    · cases hp
  case lconst z =>
    simp only [rn_p, rn_oP] at hp hok
    split at hp
    · cases hp
      exact lv_lconst hx hb hd (of_decide_eq_true hok) (kk (rn_cs_c rfl hcs))
    · cases hp
  case ldc2_w z =>
    simp only [rn_p, rn_oP] at hp hok
    split at hp
    · cases hp
      exact lv_ldc2 hx hb hown (rn_hw hts (of_decide_eq_true hok) rfl) hd (kk (rn_cs_c rfl hcs))
    · cases hp
  case aconst_null =>
    cases hp
    exact lv_null hx hb hd (kk (rn_cs_c rfl hcs))
  case iload j =>
    obtain ⟨x, h1, rfl⟩ := rn_li_inv hp
    exact lv_iload hx hb hd (rn_vl_at hl h1) (kk (rn_cs_c rfl hcs))
  case iload_n j =>
    obtain ⟨x, h1, rfl⟩ := rn_li_inv hp
    exact lv_iload_n hx hb hd rfl (rn_vl_at hl h1) (kk (rn_cs_c rfl hcs))
  case lload j =>
    obtain ⟨x, h1, rfl⟩ := rn_lj_inv hp
    exact lv_lload hx hb hd (rn_vl_at hl h1) (kk (rn_cs_c rfl hcs))
  case lload_n j =>
    obtain ⟨x, h1, rfl⟩ := rn_lj_inv hp
    exact lv_lload_n hx hb hd rfl (rn_vl_at hl h1) (kk (rn_cs_c rfl hcs))
  case aload j =>
    rcases rn_la_inv hp with ⟨x, h1, rfl⟩ | ⟨h1, rfl⟩
    · exact lv_aload hx hb hd (rn_vl_at hl h1) (kk (rn_cs_c (rn_lk_cv hcl h1) hcs))
    · exact lv_aloadN hx hb hd (rn_vl_at hl h1) (kk (rn_cs_c (rn_lk_cv hcl h1) hcs))
  case aload_n j =>
    rcases rn_la_inv hp with ⟨x, h1, rfl⟩ | ⟨h1, rfl⟩
    · exact lv_aload_n hx hb hd rfl (rn_vl_at hl h1) (kk (rn_cs_c (rn_lk_cv hcl h1) hcs))
    · exact lv_aload_nN hx hb hd rfl (rn_vl_at hl h1) (kk (rn_cs_c (rn_lk_cv hcl h1) hcs))
  case iadd =>
    obtain ⟨x, y, r, rfl, rfl⟩ := rn_ii_inv hp
    exact lv_iadd hx hb hd (kk (rn_cs_c rfl (rn_cs_t (rn_cs_t hcs))))
  case isub =>
    obtain ⟨x, y, r, rfl, rfl⟩ := rn_ii_inv hp
    exact lv_isub hx hb hd (kk (rn_cs_c rfl (rn_cs_t (rn_cs_t hcs))))
  case imul =>
    obtain ⟨x, y, r, rfl, rfl⟩ := rn_ii_inv hp
    exact lv_imul hx hb hd (kk (rn_cs_c rfl (rn_cs_t (rn_cs_t hcs))))
  case iand =>
    obtain ⟨x, y, r, rfl, rfl⟩ := rn_ii_inv hp
    exact lv_iand hx hb hd (kk (rn_cs_c rfl (rn_cs_t (rn_cs_t hcs))))
  case ior =>
    obtain ⟨x, y, r, rfl, rfl⟩ := rn_ii_inv hp
    exact lv_ior hx hb hd (kk (rn_cs_c rfl (rn_cs_t (rn_cs_t hcs))))
  case ixor =>
    obtain ⟨x, y, r, rfl, rfl⟩ := rn_ii_inv hp
    exact lv_ixor hx hb hd (kk (rn_cs_c rfl (rn_cs_t (rn_cs_t hcs))))
  case ishl =>
    obtain ⟨x, y, r, rfl, rfl⟩ := rn_ii_inv hp
    exact lv_ishl hx hb hd (kk (rn_cs_c rfl (rn_cs_t (rn_cs_t hcs))))
  case ishr =>
    obtain ⟨x, y, r, rfl, rfl⟩ := rn_ii_inv hp
    exact lv_ishr hx hb hd (kk (rn_cs_c rfl (rn_cs_t (rn_cs_t hcs))))
  case idiv =>
    obtain ⟨x, y, r, rfl, rfl, hy⟩ := rn_id_inv hp
    exact lv_idiv hx hb hd hy (kk (rn_cs_c rfl (rn_cs_t (rn_cs_t hcs))))
  case irem =>
    obtain ⟨x, y, r, rfl, rfl, hy⟩ := rn_id_inv hp
    exact lv_irem hx hb hd hy (kk (rn_cs_c rfl (rn_cs_t (rn_cs_t hcs))))
  case ladd =>
    obtain ⟨x, y, r, rfl, rfl⟩ := rn_ll_inv hp
    exact lv_ladd hx hb hd (kk (rn_cs_c rfl (rn_cs_t (rn_cs_t hcs))))
  case lsub =>
    obtain ⟨x, y, r, rfl, rfl⟩ := rn_ll_inv hp
    exact lv_lsub hx hb hd (kk (rn_cs_c rfl (rn_cs_t (rn_cs_t hcs))))
  case lmul =>
    obtain ⟨x, y, r, rfl, rfl⟩ := rn_ll_inv hp
    exact lv_lmul hx hb hd (kk (rn_cs_c rfl (rn_cs_t (rn_cs_t hcs))))
  case land =>
    obtain ⟨x, y, r, rfl, rfl⟩ := rn_ll_inv hp
    exact lv_land hx hb hd (kk (rn_cs_c rfl (rn_cs_t (rn_cs_t hcs))))
  case lor =>
    obtain ⟨x, y, r, rfl, rfl⟩ := rn_ll_inv hp
    exact lv_lor hx hb hd (kk (rn_cs_c rfl (rn_cs_t (rn_cs_t hcs))))
  case ldiv =>
    obtain ⟨x, y, r, rfl, rfl, hy⟩ := rn_ld_inv hp
    exact lv_ldiv hx hb hd hy (kk (rn_cs_c rfl (rn_cs_t (rn_cs_t hcs))))
  case lrem =>
    obtain ⟨x, y, r, rfl, rfl, hy⟩ := rn_ld_inv hp
    exact lv_lrem hx hb hd hy (kk (rn_cs_c rfl (rn_cs_t (rn_cs_t hcs))))
  case ineg =>
    simp only [rn_p] at hp
    split at hp
    · cases hp
      exact lv_ineg hx hb hd (kk (rn_cs_c rfl (rn_cs_t hcs)))
    · cases hp
  case lshl =>
    simp only [rn_p] at hp
    split at hp
    · cases hp
      exact lv_lshl hx hb hd rfl (kk (rn_cs_c rfl (rn_cs_t (rn_cs_t hcs))))
    · cases hp
  case lshr =>
    simp only [rn_p] at hp
    split at hp
    · cases hp
      exact lv_lshr hx hb hd rfl (kk (rn_cs_c rfl (rn_cs_t (rn_cs_t hcs))))
    · cases hp
  case i2l =>
    simp only [rn_p] at hp
    split at hp
    · cases hp
      exact lv_i2l hx hb hd rfl (kk (rn_cs_c rfl (rn_cs_t hcs)))
    · cases hp
  case l2i =>
    simp only [rn_p] at hp
    split at hp
    · cases hp
      exact lv_l2i hx hb hd rfl (kk (rn_cs_c rfl (rn_cs_t hcs)))
    · cases hp
  case lcmp =>
    simp only [rn_p] at hp
    split at hp
    · cases hp
      exact W.lcmp hx hb hd (kk (rn_cs_c rfl (rn_cs_t (rn_cs_t hcs))))
    · cases hp
  case dup =>
    simp only [rn_p] at hp
    split at hp
    · cases hp
      exact lv_dup hx hb hd rfl (kk (rn_cs_c rfl hcs))
    · cases hp
      exact lv_dup hx hb hd rfl (kk (rn_cs_c (rn_cs_h hcs) hcs))
    · cases hp
  case dup2 =>
    simp only [rn_p] at hp
    split at hp
    · cases hp
      exact lv_dup2_11 hx hb hd rfl rfl (kk (rn_cs_c rfl (rn_cs_c (rn_cs_h (rn_cs_t hcs)) hcs)))
    · cases hp
  case pop =>
    simp only [rn_p] at hp
    split at hp
    · cases hp
      exact lv_pop hx hb hd rfl (kk (rn_cs_t hcs))
    · cases hp
  case getfield z =>
    simp only [rn_p, rn_oP] at hp hok
    split at hp
    · obtain ⟨q, fs, v, r, rfl, hq, hv, rfl⟩ := rn_gf_inv hp
      obtain ⟨q1, hc1, hk1, hw1, hd1⟩ := rn_oF hok
      have hqN : q < N := rn_lt hcs hh (by rw [hq]; intro z; cases z; cases hv)
      have hcf := rn_cf_all _ q1 hc1
      have hcv : rn_cv N v = true := by
        have := hh.1 q hqN
        rw [hq] at this
        exact this v (List.mem_of_getElem? hv)
      exact va_get (C := q1.1) (T := q1.2.1) (N := q1.2.2) hx hb hts hcf.1 hown hK hP q (rn_wl_get hqN |>.trans (by rw [hq]; rfl)) hc1 _ hk1 (rn_hw hts hw1 rfl) (fun x h9 => by rw [hd1] at h9; exact h9) (v := rn_vv ad v) (by rw [List.getElem?_map, hv]; rfl) hd (kk (rn_cs_c hcv (rn_cs_t hcs)))
    · cases hp
  case iaload =>
    simp only [rn_p] at hp
    split at hp
    · obtain ⟨j, q, n, f, r, rfl, hq, hin, rfl⟩ := rn_ai_inv hp
      have hqN : q < N := rn_lt (rn_cs_t hcs) hh (by rw [hq]; intro z; cases z)
      exact va_iald hx hb hK hP q 0 (rn_wl_get hqN |>.trans (by rw [hq]; rfl)) (rn_tys_get rfl) hin hd (kk (rn_cs_c rfl (rn_cs_t (rn_cs_t hcs))))
    · obtain ⟨j, r, rfl, hin, rfl⟩ := rn_sl_inv hp
      show W p l e R s m args below meth c H locs cells slots Q (F0 m pc ls (.int j :: .ref (ad 1000000) :: r.map (rn_vv ad)))
      rw [hab]
      exact va_sld hx hb hX hbl hbA hS hin hd (kk (rn_cs_c rfl (rn_cs_t (rn_cs_t hcs))))
  case baload =>
    obtain ⟨j, q, n, f, r, rfl, hq, hin, rfl⟩ := rn_ai_inv hp
    have hqN : q < N := rn_lt (rn_cs_t hcs) hh (by rw [hq]; intro z; cases z)
    exact va_zald hx hb hK hP q 2 (rn_wl_get hqN |>.trans (by rw [hq]; rfl)) (rn_tys_get rfl) hin hd (kk (rn_cs_c rfl (rn_cs_t (rn_cs_t hcs))))
  case laload =>
    obtain ⟨j, q, n, f, r, rfl, hq, hin, rfl⟩ := rn_aj_inv hp
    have hqN : q < N := rn_lt (rn_cs_t hcs) hh (by rw [hq]; intro z; cases z)
    exact va_lald hx hb hK hP q 1 (rn_wl_get hqN |>.trans (by rw [hq]; rfl)) (rn_tys_get rfl) hin hd (kk (rn_cs_c rfl (rn_cs_t (rn_cs_t hcs))))
  case aaload =>
    simp only [rn_p, rn_oP] at hp hok
    split at hp
    · obtain ⟨j, q, n, f, r, rfl, hq, hin, rfl⟩ := rn_aa_inv hp
      obtain ⟨C, hC⟩ := rn_isO_some hok
      have hqN : q < N := rn_lt (rn_cs_t hcs) hh (by rw [hq]; intro z; cases z)
      have hcv : rn_cv N (va_rf (f j.toNatClampNeg)) = true := by
        cases hf : f j.toNatClampNeg with
        | none => rfl
        | some a =>
          have := hh.1 q hqN
          rw [hq] at this
          exact rn_cv_ref.mpr (Or.inl (this _ _ hf))
      refine va_aldq (C := C) hx hb hK hP q _ (rn_wl_get hqN |>.trans (by rw [hq]; rfl)) (rn_tys_get hC) hin hd ?_
      have e1 : va_rf ((f j.toNatClampNeg).map ad) = rn_vv ad (va_rf (f j.toNatClampNeg)) := by cases f j.toNatClampNeg <;> rfl
      rw [e1]
      exact kk (rn_cs_c hcv (rn_cs_t (rn_cs_t hcs)))
    · cases hp
  case arraylength =>
    simp only [rn_p] at hp
    split at hp
    · cases hp
      next r =>
      show W p l e R s m args below meth c H locs cells slots Q (F0 m pc ls (.ref (ad 1000000) :: r.map (rn_vv ad)))
      rw [hab]
      exact va_slen hx hb hX hbl hbA hS hd (kk (rn_cs_c rfl (rn_cs_t hcs)))
    · cases hp
  case invokestatic z =>
    simp only [rn_p] at hp
    split at hp
    · split at hp
      · next r =>
        split at hp
        · next hr8 =>
          cases hp
          simp only [rn_oP, Bool.and_eq_true, decide_eq_true_eq] at hok
          obtain ⟨⟨⟨⟨⟨o1, o2⟩, o3⟩, o4⟩, o5⟩, o6⟩ := hok
          have o5 := Nat.le_of_ble_eq_true o5
          have o6 := Nat.le_of_ble_eq_true o6
          refine va_mmax hx hb hml hown (rn_hw hts o1 rfl) (rn_hw hts o2 rfl) (rn_hw hts o3 rfl) (rn_hw hts o4 rfl) (by omega) (by rw [rn_cs_map]; omega) hce hsl hd (kk (rn_cs_c rfl (rn_cs_t (rn_cs_t hcs))))
        · cases hp
      · cases hp
    · cases hp
  case invokespecial z =>
    simp only [rn_p] at hp
    split at hp
    · split at hp
      · next r =>
        split at hp
        · next hr8 =>
          cases hp
          simp only [rn_oP, Bool.and_eq_true, decide_eq_true_eq] at hok
          obtain ⟨⟨⟨⟨o1, o2⟩, o3⟩, o5⟩, o6⟩ := hok
          have o5 := Nat.le_of_ble_eq_true o5
          have o6 := Nat.le_of_ble_eq_true o6
          refine W.objInit hx hb hown (rn_hw hts o1 rfl) (rn_hw hts o2 rfl) (rn_hw hts o3 rfl) rfl hml.symm rfl hd (by omega) ?_ ?_
          · have := rn_cs_map (ad := ad) st1
            show 2 * 0 + ((st1.map (rn_vv ad)).map fun v => v.category).sum + 12 ≤ R.locals
            omega
          · exact kk (rn_cs_t hcs)
        · cases hp
      · cases hp
    · cases hp
end RN1
end
section
/-! one step of locals, of the place, of the entries -/
def rn_oL (nL : Nat) (i : Instr) (ax : List Nat) : Bool := match i with
  | .istore j => Nat.blt j nL
  | .istore_n j => Nat.blt j nL
  | .lstore j => Nat.blt (j + 1) nL
  | .lstore_n j => Nat.blt (j + 1) nL
  | .astore j => Nat.blt j nL
  | .astore_n j => Nat.blt j nL
  | .iinc j n => Nat.blt j nL && (match ax with
    | [a, b] => decide (Int32.ofInt n = rn_ci a b)
    | _ => false)
  | _ => true
/-- that the table has at a place the pc that stands so far off -/
def rn_at (T : List rn_I) (k : Nat) (z : Int) : Bool := match T[k]? with
  | some e => decide ((e.1 : Int) = z)
  | none => false
theorem rn_at_some {T : List rn_I} {k : Nat} {z : Int} (h : rn_at T k z = true) : ∃ e, T[k]? = some e ∧ (e.1 : Int) = z := by
  unfold rn_at at h
  split at h
  · next e he => exact ⟨e, he, of_decide_eq_true h⟩
  · cases h
def rn_oB (T : List rn_I) (pc : Nat) (i : Instr) (ax : List Nat) : Bool := match ax with
  | [] => true
  | t :: ts => match i with
    | .goto o => rn_at T t (pc + o)
    | .ifCond _ o => rn_at T t (pc + o)
    | .if_icmp _ o => rn_at T t (pc + o)
    | .ifnull o => rn_at T t (pc + o)
    | .ifnonnull o => rn_at T t (pc + o)
    | .tableswitch d lo hi os => rn_at T t (pc + d) && decide (-2147483648 ≤ lo) && decide (hi < 2147483648) && decide (hi - lo + 1 = ts.length) && decide (os.toList.length = ts.length) && (ts.zip os.toList).all (fun q => rn_at T q.1 (pc + q.2))
    | .lookupswitch d ps => rn_at T t (pc + d) && (ps.toList.zip (ps.toList.drop 1)).all (fun (a, next) => a.1 < next.1) && decide (ps.toList.length = ts.length) && (ts.zip ps.toList).all (fun q => rn_at T q.1 (pc + q.2.2)) && ps.toList.all (fun q => decide (-2147483648 ≤ q.1) && decide (q.1 < 2147483648))
    | _ => true
theorem rn_i32 {x : Int32} {z : Int} (h1 : -2147483648 ≤ z) (h2 : z < 2147483648) : x = Int32.ofInt z ↔ x.toInt = z := by
  have e : (Int32.ofInt z).toInt = z := by
    have hs : Int32.size = 4294967296 := rfl
    rw [Int32.toInt_ofInt, hs]
    exact Int.bmod_eq_of_le (by omega) (by omega)
  constructor
  · intro h; rw [h, e]
  · intro h; rw [← Int32.toInt_inj, h, e]
theorem rn_st_spec {x : Int32} {d : Nat} : ∀ (ts : List Nat) (lo : Int), -2147483648 ≤ lo → lo + ts.length ≤ 2147483648 → ((x.toInt < lo ∨ lo + ts.length ≤ x.toInt) ∧ rn_st ts lo x d = d) ∨ (∃ j : Nat, x.toInt = lo + j ∧ ts[j]? = some (rn_st ts lo x d))
  | [], lo, h1, h2 => by
    left
    refine ⟨?_, rfl⟩
    simp only [List.length_nil]
    omega
  | t :: r, lo, h1, h2 => by
    simp only [List.length_cons] at h2
    unfold rn_st
    by_cases hx : x = Int32.ofInt lo
    · right
      refine ⟨0, ?_, ?_⟩
      · rw [(rn_i32 h1 (by omega)).mp hx]; omega
      · rw [if_pos hx]; rfl
    · rw [if_neg hx]
      have hne : x.toInt ≠ lo := fun q => hx ((rn_i32 h1 (by omega)).mpr q)
      rcases rn_st_spec (x := x) (d := d) r (lo + 1) (by omega) (by omega) with ⟨g1, g2⟩ | ⟨j, g1, g2⟩
      · left
        refine ⟨?_, g2⟩
        simp only [List.length_cons]
        omega
      · right
        exact ⟨j + 1, by omega, by rw [List.getElem?_cons_succ]; exact g2⟩
theorem rn_sk_spec {x : Int32} {T : List rn_I} {pc d : Nat} {z : Int} (hd : rn_at T d (pc + z) = true) : ∀ (ps : List (Int × Int)) (ts : List Nat), ps.length = ts.length → (ts.zip ps).all (fun q => rn_at T q.1 (pc + q.2.2)) = true → ps.all (fun q => decide (-2147483648 ≤ q.1) && decide (q.1 < 2147483648)) = true → rn_at T (rn_sk ps ts x d) (pc + Op.lookupswitch.offset ps z x.toInt) = true
  | [], [], _, _, _ => hd
  | [], _ :: _, h, _, _ => by cases h
  | _ :: _, [], h, _, _ => by cases h
  | k :: kr, t :: tr, h, h2, h3 => by
    simp only [List.zip_cons_cons, List.all_cons, Bool.and_eq_true, decide_eq_true_eq] at h2 h3
    have ih := rn_sk_spec (x := x) hd kr tr (by simpa using h) h2.2 (by simpa using h3.2)
    unfold rn_sk
    by_cases hx : x = Int32.ofInt k.1
    · have e := (rn_i32 h3.1.1 h3.1.2).mp hx
      rw [if_pos hx]
      have e2 : Op.lookupswitch.offset (k :: kr) z x.toInt = k.2 := by
        first
          | (unfold Op.lookupswitch.offset; simp [e]; done)
          | (simp [Op.lookupswitch.offset, e]; done)
      rw [e2]
      exact h2.1
    · have e : x.toInt ≠ k.1 := fun q => hx ((rn_i32 h3.1.1 h3.1.2).mpr q)
      rw [if_neg hx]
      have e2 : Op.lookupswitch.offset (k :: kr) z x.toInt = Op.lookupswitch.offset kr z x.toInt := by
        have e' : ¬ k.1 = x.toInt := fun q => e q.symm
        first
          | (unfold Op.lookupswitch.offset; simp [e, e']; done)
          | (simp [Op.lookupswitch.offset, e, e']; done)
      rw [e2]
      exact ih
section RN2
variable {p : Program} {l : Launch} {e : Env} {R : Room} {s : State} {m : MethodId} {args : Array Value} {below : List Frame} {meth : Method} {c : Code} {H : Heap} {locs : List Loc} {cells slots : Nat} {Q : State → Prop}
variable {cc : ByteArray} {pc n nL : Nat} {ls : Array Slot} {D : va_G} {cA : Nat → ClassId} {ad : Nat → Nat} {N : Nat} {h : rn_H} {A : Nat → Prop} {H0 : Heap} {lv : rn_L} {st : List Value} {own : String} {fr lo : Nat}
set_option maxHeartbeats 4000000 in
theorem rn_l_ok {i : Instr} {ax : List Nat} {st1 : List Value} {lv1 : rn_L} (hx : p.tables.exec = Jvm.exec) (hb : c.code = cc)
    (hl : lv_has ls nL (rn_vl ad lv)) (hcl : rn_cl1 N lv) (hcs : rn_cs1 N st)
    (hok : rn_oL nL i ax = true) (hd : decode cc pc = .ok (i, rn_ln i)) (hp : rn_l i ax lv st = some (lv1, st1))
    (kk : ∀ ls2 : Array Slot, lv_has ls2 nL (rn_vl ad lv1) → rn_cl1 N lv1 → rn_cs1 N st1 → W p l e R s m args below meth c H locs cells slots Q (F0 m (pc + rn_ln i) ls2 (st1.map (rn_vv ad)))) :
    W p l e R s m args below meth c H locs cells slots Q (F0 m pc ls (st.map (rn_vv ad))) := by
  cases i
  all_goals (try (exact absurd (show (none : Option (rn_L × List Value)) = some (lv1, st1) from hp) (fun q => by cases q)))
  case istore j =>
    simp only [rn_l] at hp
    split at hp
    · cases hp
      exact lv_istore hx hb hd hl (Nat.le_of_ble_eq_true hok) (by rw [rn_fl_map]; rfl) (fun ls2 h2 => kk ls2 h2 (rn_cl1_cons (rn_cs_h hcs) hcl) (rn_cs_t hcs))
    · cases hp
  case istore_n j =>
    simp only [rn_l] at hp
    split at hp
    · cases hp
      exact lv_istore_n hx hb hd rfl hl (Nat.le_of_ble_eq_true hok) (by rw [rn_fl_map]; rfl) (fun ls2 h2 => kk ls2 h2 (rn_cl1_cons (rn_cs_h hcs) hcl) (rn_cs_t hcs))
    · cases hp
  case lstore j =>
    simp only [rn_l] at hp
    split at hp
    · cases hp
      exact lv_lstore hx hb hd hl (Nat.le_of_ble_eq_true hok) (by rw [rn_fm_map]; rfl) (fun ls2 h2 => kk ls2 h2 (rn_cl1_consm (rn_cs_h hcs) hcl) (rn_cs_t hcs))
    · cases hp
  case lstore_n j =>
    simp only [rn_l] at hp
    split at hp
    · cases hp
      exact lv_lstore_n hx hb hd rfl hl (Nat.le_of_ble_eq_true hok) (by rw [rn_fm_map]; rfl) (fun ls2 h2 => kk ls2 h2 (rn_cl1_consm (rn_cs_h hcs) hcl) (rn_cs_t hcs))
    · cases hp
  case astore j =>
    simp only [rn_l] at hp
    split at hp
    · cases hp
      exact lv_astore hx hb hd hl (Nat.le_of_ble_eq_true hok) (by rw [rn_fl_map]; rfl) (fun ls2 h2 => kk ls2 h2 (rn_cl1_cons (rn_cs_h hcs) hcl) (rn_cs_t hcs))
    · cases hp
  case astore_n j =>
    simp only [rn_l] at hp
    split at hp
    · cases hp
      exact lv_astore_n hx hb hd rfl hl (Nat.le_of_ble_eq_true hok) (by rw [rn_fl_map]; rfl) (fun ls2 h2 => kk ls2 h2 (rn_cl1_cons (rn_cs_h hcs) hcl) (rn_cs_t hcs))
    · cases hp
  case iinc j z =>
    simp only [rn_l] at hp
    split at hp
    · split at hp
      · next x hk =>
        cases hp
        simp only [rn_oL, Bool.and_eq_true, decide_eq_true_eq] at hok
        obtain ⟨k, hk2⟩ := List.getElem?_of_mem (List.mem_map.mpr ⟨_, rn_lk_some hk, rfl⟩ : (j, rn_vv ad (.int x)) ∈ rn_vl ad lv)
        exact lv_iinc hx hb hd hl hk2 (by rw [hok.2]) (Nat.le_of_ble_eq_true hok.1) (by rw [rn_fl_map]; rfl) (fun ls2 h2 => kk ls2 h2 (rn_cl1_cons rfl hcl) hcs)
      · cases hp
    · cases hp
set_option maxHeartbeats 4000000 in
theorem rn_b_ok {T : List rn_I} {i : Instr} {ax : List Nat} {k k1 : Nat} {st1 : List Value} (hx : p.tables.exec = Jvm.exec) (hb : c.code = cc) (hcs : rn_cs1 N st)
    (hnx : (match i with
      | .goto _ => false
      | .tableswitch _ _ _ _ => false
      | .lookupswitch _ _ => false
      | _ => true) = true → rn_at T k ((pc : Int) + rn_ln i) = true)
    (hok : rn_oB T pc i ax = true) {len : Nat} (hd : decode cc pc = .ok (i, len)) (hln : (match i with
      | .tableswitch _ _ _ _ => false
      | .lookupswitch _ _ => false
      | _ => true) = true → len = rn_ln i) (hp : rn_b i ax k st = some (k1, st1))
    (kk : rn_cs1 N st1 → ∀ e1 : rn_I, T[k1]? = some e1 → W p l e R s m args below meth c H locs cells slots Q (F0 m e1.1 ls (st1.map (rn_vv ad)))) :
    W p l e R s m args below meth c H locs cells slots Q (F0 m pc ls (st.map (rn_vv ad))) := by
  cases ax with
  | nil => cases hp
  | cons t ts =>
    cases i
    all_goals (try (exact absurd (show (none : Option (Nat × List Value)) = some (k1, st1) from hp) (fun q => by cases q)))
    case goto o =>
      have := hln rfl
      subst this
      cases hp
      obtain ⟨e1, h1, h2⟩ := rn_at_some hok
      exact lv_goto hx hb hd h2.symm (kk hcs e1 h1)
    case ifCond q o =>
      have := hln rfl
      subst this
      obtain ⟨e1, h1, h2⟩ := rn_at_some hok
      obtain ⟨e2, h3, h4⟩ := rn_at_some (hnx rfl)
      have h5 : e2.1 = pc + 3 := by
        have : (e2.1 : Int) = pc + (3 : Nat) := h4
        omega
      have kf : k1 = k → rn_cs1 N st1 → W p l e R s m args below meth c H locs cells slots Q (F0 m (pc + 3) ls (st1.map (rn_vv ad))) := fun q1 q2 => by
        subst q1
        rw [← h5]
        exact kk q2 e2 h3
      have kt : k1 = t → rn_cs1 N st1 → W p l e R s m args below meth c H locs cells slots Q (F0 m e1.1 ls (st1.map (rn_vv ad))) := fun q1 q2 => by
        subst q1
        exact kk q2 e1 h1
      cases q <;> simp only [rn_b] at hp <;> split at hp <;> cases hp
      · exact lv_if_eq hx hb hd h2.symm (fun z => kt (if_pos z) (rn_cs_t hcs)) (fun z => kf (if_neg z) (rn_cs_t hcs))
      · exact lv_if_ne hx hb hd h2.symm (fun z => kt (if_neg z) (rn_cs_t hcs)) (fun z => kf (if_pos z) (rn_cs_t hcs))
      · exact lv_if_lt hx hb hd h2.symm (fun z => kt (if_pos z) (rn_cs_t hcs)) (fun z => kf (if_neg z) (rn_cs_t hcs))
      · exact lv_if_ge hx hb hd h2.symm (fun z => kt (if_pos z) (rn_cs_t hcs)) (fun z => kf (if_neg z) (rn_cs_t hcs))
      · exact lv_if_gt hx hb hd h2.symm (fun z => kt (if_pos z) (rn_cs_t hcs)) (fun z => kf (if_neg z) (rn_cs_t hcs))
      · exact lv_if_le hx hb hd h2.symm (fun z => kt (if_pos z) (rn_cs_t hcs)) (fun z => kf (if_neg z) (rn_cs_t hcs))
    case if_icmp q o =>
      have := hln rfl
      subst this
      obtain ⟨e1, h1, h2⟩ := rn_at_some hok
      obtain ⟨e2, h3, h4⟩ := rn_at_some (hnx rfl)
      have h5 : e2.1 = pc + 3 := by
        have : (e2.1 : Int) = pc + (3 : Nat) := h4
        omega
      have kf : k1 = k → rn_cs1 N st1 → W p l e R s m args below meth c H locs cells slots Q (F0 m (pc + 3) ls (st1.map (rn_vv ad))) := fun q1 q2 => by
        subst q1
        rw [← h5]
        exact kk q2 e2 h3
      have kt : k1 = t → rn_cs1 N st1 → W p l e R s m args below meth c H locs cells slots Q (F0 m e1.1 ls (st1.map (rn_vv ad))) := fun q1 q2 => by
        subst q1
        exact kk q2 e1 h1
      cases q <;> simp only [rn_b] at hp <;> split at hp <;> cases hp
      · exact lv_icmp_eq hx hb hd h2.symm (fun z => kt (if_pos z) (rn_cs_t (rn_cs_t hcs))) (fun z => kf (if_neg z) (rn_cs_t (rn_cs_t hcs)))
      · exact lv_icmp_ne hx hb hd h2.symm (fun z => kt (if_neg z) (rn_cs_t (rn_cs_t hcs))) (fun z => kf (if_pos z) (rn_cs_t (rn_cs_t hcs)))
      · exact lv_icmp_lt hx hb hd h2.symm (fun z => kt (if_pos z) (rn_cs_t (rn_cs_t hcs))) (fun z => kf (if_neg z) (rn_cs_t (rn_cs_t hcs)))
      · exact lv_icmp_ge hx hb hd h2.symm (fun z => kt (if_pos z) (rn_cs_t (rn_cs_t hcs))) (fun z => kf (if_neg z) (rn_cs_t (rn_cs_t hcs)))
      · exact lv_icmp_gt hx hb hd h2.symm (fun z => kt (if_pos z) (rn_cs_t (rn_cs_t hcs))) (fun z => kf (if_neg z) (rn_cs_t (rn_cs_t hcs)))
      · exact lv_icmp_le hx hb hd h2.symm (fun z => kt (if_pos z) (rn_cs_t (rn_cs_t hcs))) (fun z => kf (if_neg z) (rn_cs_t (rn_cs_t hcs)))
    case ifnull o =>
      have := hln rfl
      subst this
      obtain ⟨e1, h1, h2⟩ := rn_at_some hok
      obtain ⟨e2, h3, h4⟩ := rn_at_some (hnx rfl)
      have h5 : e2.1 = pc + 3 := by
        have : (e2.1 : Int) = pc + (3 : Nat) := h4
        omega
      simp only [rn_b] at hp
      split at hp
      · cases hp
        refine lv_ifnull hx hb hd ?_
        rw [← h5]
        exact kk (rn_cs_t hcs) e2 h3
      · cases hp
        exact lv_ifnullN hx hb hd h2.symm (kk (rn_cs_t hcs) e1 h1)
      · cases hp
    case ifnonnull o =>
      have := hln rfl
      subst this
      obtain ⟨e1, h1, h2⟩ := rn_at_some hok
      obtain ⟨e2, h3, h4⟩ := rn_at_some (hnx rfl)
      have h5 : e2.1 = pc + 3 := by
        have : (e2.1 : Int) = pc + (3 : Nat) := h4
        omega
      simp only [rn_b] at hp
      split at hp
      · cases hp
        exact lv_ifnonnull hx hb hd h2.symm (kk (rn_cs_t hcs) e1 h1)
      · cases hp
        refine lv_ifnonnullN hx hb hd ?_
        rw [← h5]
        exact kk (rn_cs_t hcs) e2 h3
      · cases hp
    case tableswitch d lo1 hi os =>
      simp only [rn_b] at hp
      split at hp
      · next x r =>
        cases hp
        simp only [rn_oB, Bool.and_eq_true, decide_eq_true_eq] at hok
        obtain ⟨⟨⟨⟨⟨o1, o2⟩, o3⟩, o4⟩, o5⟩, o6⟩ := hok
        rcases rn_st_spec (x := x) (d := t) ts lo1 o2 (by omega) with ⟨g1, g2⟩ | ⟨j, g1, g2⟩
        · rw [g2] at kk
          obtain ⟨e1, h1, h2⟩ := rn_at_some o1
          exact lv_tableOut hx hb hd (by omega) h2.symm (kk (rn_cs_t hcs) e1 h1)
        · have hj : j < ts.length := (List.getElem?_eq_some_iff.mp g2).1
          have hj2 : j < os.toList.length := by omega
          have hz : (ts.zip os.toList)[j]? = some (rn_st ts lo1 x t, os.toList[j]) := by
            rw [List.getElem?_zip_eq_some]
            exact ⟨g2, List.getElem?_eq_getElem hj2⟩
          have := List.all_eq_true.mp o6 _ (List.mem_of_getElem? hz)
          obtain ⟨e1, h1, h2⟩ := rn_at_some this
          refine lv_tableIn hx hb hd (by omega) (by omega) (off := os.toList[j]) ?_ h2.symm (kk (rn_cs_t hcs) e1 h1)
          rw [show (x.toInt - lo1).toNat = j by omega, ← Array.getElem?_toList, List.getElem?_eq_getElem hj2]
      · cases hp
    case lookupswitch d ps =>
      simp only [rn_b] at hp
      split at hp
      · next x r =>
        cases hp
        simp only [rn_oB, Bool.and_eq_true, decide_eq_true_eq] at hok
        obtain ⟨⟨⟨⟨o1, o2⟩, o3⟩, o4⟩, o5⟩ := hok
        obtain ⟨e1, h1, h2⟩ := rn_at_some (rn_sk_spec (x := x) o1 ps.toList ts o3 o4 o5)
        exact lv_lookup hx hb hd o2 rfl h2.symm (kk (rn_cs_t hcs) e1 h1)
      · cases hp
end RN2
end
section
/-! one step that writes entries, and one that makes one -/
def rn_tyk (ty : Nat) (f : FieldType) : Bool := match ty, f with
  | 0, .int => true
  | 1, .boolean => true
  | 2, .object _ => true
  | 2, .array _ => true
  | _, _ => false
theorem rn_tyk_ok {ty : Nat} {f : FieldType} {v : Value} {ad : Nat → Nat} (h1 : rn_tyk ty f = true) (h2 : rn_ty ty v = true) : narrow f (rn_vv ad v) = rn_vv ad v ∧ fits f (rn_vv ad v) = true := by
  unfold rn_tyk at h1
  split at h1
  · cases v <;> first | exact ⟨rfl, rfl⟩ | (cases h2)
  · cases v with
    | int x =>
      simp only [rn_ty, Bool.or_eq_true, decide_eq_true_eq] at h2
      rcases h2 with rfl | rfl
      · exact ⟨show narrow .boolean (.int 0) = .int 0 by decide +kernel, show fits .boolean (.int 0) = true by decide +kernel⟩
      · exact ⟨show narrow .boolean (.int 1) = .int 1 by decide +kernel, show fits .boolean (.int 1) = true by decide +kernel⟩
    | ref a => cases h2
    | null => cases h2
    | _ => cases h2
  · cases v <;> first | exact ⟨rfl, rfl⟩ | (cases h2)
  · cases v <;> first | exact ⟨rfl, rfl⟩ | (cases h2)
  · cases h1
def rn_fin (own : String) (ini : Bool) (c k ty : Nat) : Bool := match rn_cls[c]? with
  | some q => rn_tyk ty (rn_fty c k) && (!(q.2.1 k).2.2.2 || (ini && decide ((q.2.1 k).1 = own)))
  | none => false
def rn_oA (t c : Nat) : Bool := match rn_cls[c]? with
  | some q => decide (rn_ft[t]? = some (.object q.1))
  | none => false
theorem rn_oA_some {t c : Nat} (h : rn_oA t c = true) : ∃ q : vw_C, rn_cls[c]? = some q ∧ rn_ft[t]? = some (.object q.1) := by
  unfold rn_oA at h
  split at h
  · next q hq => exact ⟨q, hq, of_decide_eq_true h⟩
  · cases h
def rn_oW (own : String) (ini : Bool) (fr lo : Nat) (i : Instr) (ax : List Nat) : Bool := match i with
  | .putfield idx => match ax with
    | [c, k, ty, w] => rn_fd own idx c k w && rn_fin own ini c k ty
    | _ => false
  | .aastore => match ax with
    | [t, c] => rn_oA t c
    | _ => false
  | .invokestatic idx => match ax with
    | [1, _, w1, w2, w3, w4] => decide (lw_tbl[w1]? = some (.methodLink own idx arraycopyName)) && decide (lw_tbl[w2]? = some (.native arraycopyName)) && decide (lw_tbl[w3]? = some (.static arraycopyName)) && decide (lw_tbl[w4]? = some (.initialized "java/lang/System")) && Nat.ble 1 fr && Nat.ble 26 lo
    | _ => true
  | _ => true
theorem rn_hc_up {N q : Nat} {h : rn_H} {e : rn_E} (hh : rn_hc N h) (hq : q < N) (he : rn_cE N e) : rn_hc N (rn_up h q e) := by
  refine ⟨fun k hk => ?_, ?_, hh.2.2⟩
  · by_cases h1 : k = q
    · subst h1; rw [rn_up_s]; exact he
    · rw [rn_up_n h1]; exact hh.1 k hk
  · rw [rn_up_n (by have := hh.2.2; omega)]
    exact hh.2.1
theorem rn_c999 {c : Nat} {q : vw_C} (h : rn_cls[c]? = some q) : c ≠ 999999 := by
  have : c < rn_cls.length := (List.getElem?_eq_some_iff.mp h).1
  have e : rn_cls.length ≤ 100 := by decide +kernel
  omega
section RN3
variable {p : Program} {l : Launch} {e : Env} {R : Room} {s : State} {m : MethodId} {args : Array Value} {below : List Frame} {meth : Method} {c : Code} {H : Heap} {locs : List Loc} {cells slots : Nat} {Q : State → Prop}
variable {cc : ByteArray} {pc n nL : Nat} {ls : Array Slot} {D : va_G} {cA : Nat → ClassId} {ad : Nat → Nat} {N : Nat} {h : rn_H} {A : Nat → Prop} {H0 : Heap} {lv : rn_L} {st : List Value} {own : String} {fr lo : Nat}
set_option maxHeartbeats 4000000 in
theorem rn_w_ok {i : Instr} {ax : List Nat} {st1 : List Value} {h1 : rn_H} {ini : Bool} (hx : p.tables.exec = Jvm.exec) (hb : c.code = cc) (hml : c.maxLocals = ls.size) (hts : ∀ w ∈ rn_gw, w.before args s = true) (hown : s.vm.findClass own = some m.cls) (hini : ini = true → meth.name = "<init>")
    (hK : va_K D rn_cls (rn_tys cA) s) (hP : va_P D rn_cls (rn_wl cA ad N h) H) (hD : va_D A (rn_wl cA ad N h)) (hS : va_S A H0 H locs)
    (hcs : rn_cs1 N st) (hh : rn_hc N h) (hfr : fr ≤ R.frames) (hlo : lo ≤ R.locals)
    (hok : rn_oW own ini fr lo i ax = true) (hd : decode cc pc = .ok (i, rn_ln i)) (hp : rn_w i ax st h = some (st1, h1))
    (kk : ∀ (H1 : Heap) (locs1 : List Loc), va_P D rn_cls (rn_wl cA ad N h1) H1 → va_D A (rn_wl cA ad N h1) → va_S A H0 H1 locs1 → rn_hc N h1 → rn_cs1 N st1 → W p l e R s m args below meth c H1 locs1 cells slots Q (F0 m (pc + rn_ln i) ls (st1.map (rn_vv ad)))) :
    W p l e R s m args below meth c H locs cells slots Q (F0 m pc ls (st.map (rn_vv ad))) := by
  cases i
  all_goals (try (exact absurd (show (none : Option (List Value × rn_H)) = some (st1, h1) from hp) (fun q => by cases q)))
  case putfield idx =>
    simp only [rn_w, rn_oW] at hp hok
    split at hp
    · next ci k ty w =>
      split at hp
      · next v q r =>
        split at hp
        · next c1 fs hq =>
          split at hp
          · next hb1 =>
            have := Nat.eq_of_beq_eq_true hb1
            subst this
            split at hp
            · next ht =>
              split at hp
              · next hk =>
                cases hp
                simp only [Bool.and_eq_true] at hok
                obtain ⟨o1, o2⟩ := hok
                obtain ⟨q1, hc1, hk1, hw1, hd1⟩ := rn_oF o1
                have hcf := rn_cf_all _ q1 hc1
                have hk := Nat.le_of_ble_eq_true hk
                have hqN : q < N := rn_lt (rn_cs_t hcs) hh (by rw [hq]; intro z; cases z; exact absurd rfl (rn_c999 hc1))
                unfold rn_fin at o2
                rw [hc1] at o2
                simp only [Bool.and_eq_true, Bool.or_eq_true, Bool.not_eq_true', decide_eq_true_eq] at o2
                obtain ⟨t1, t2⟩ := o2
                obtain ⟨n1, n2⟩ := rn_tyk_ok (ad := ad) t1 ht
                have he : (rn_wl cA ad N h)[q]? = some (ad q, .inr (c1, fs.map (rn_vv ad))) := rn_wl_get hqN |>.trans (by rw [hq]; rfl)
                have hset : (rn_wl cA ad N h).set q (ad q, .inr (c1, (fs.map (rn_vv ad)).set k (rn_vv ad v))) = rn_wl cA ad N (rn_up h q (.inr (c1, fs.set k v))) := rn_wl_set (by simp only [rn_ev, List.map_set])
                have hhc : rn_hc N (rn_up h q (.inr (c1, fs.set k v))) := rn_hc_up hh hqN (fun w hw => by
                  rcases List.mem_or_eq_of_mem_set hw with g | g
                  · have := hh.1 q hqN
                    rw [hq] at this
                    exact this w g
                  · rw [g]; exact rn_cs_h hcs)
                have hl : k < (fs.map (rn_vv ad)).length := by rw [List.length_map]; exact hk
                have kk2 : ∀ (H1 : Heap) (locs1 : List Loc), va_P D rn_cls ((rn_wl cA ad N h).set q (ad q, .inr (c1, (fs.map (rn_vv ad)).set k (rn_vv ad v)))) H1 → va_D A ((rn_wl cA ad N h).set q (ad q, .inr (c1, (fs.map (rn_vv ad)).set k (rn_vv ad v)))) → va_S A H0 H1 locs1 → W p l e R s m args below meth c H1 locs1 cells slots Q (F0 m (pc + 3) ls (st1.map (rn_vv ad))) := by
                  intro H1 locs1 g1 g2 g3
                  rw [hset] at g1 g2
                  exact kk H1 locs1 g1 g2 g3 hhc (rn_cs_t (rn_cs_t hcs))
                rcases t2 with t2 | ⟨t2, t3⟩
                · exact va_put (C := q1.1) (T := q1.2.1) (N := q1.2.2) hx hb hts hcf.1 (rn_fty c1) hcf.2.1 hcf.2.2.1 hown hK hP hD hS q he hc1 k hk1 (rn_hw hts hw1 rfl) (fun x h9 => by rw [hd1] at h9; exact h9) t2 (hcf.2.1 k hk1) n1 n2 hl hd kk2
                · by_cases t4 : (q1.2.1 k).2.2.2 = true
                  · exact va_putF (C := q1.1) (T := q1.2.1) (N := q1.2.2) hx hb hts hcf.1 (rn_fty c1) hcf.2.1 hcf.2.2.1 hown hK hP hD hS q he hc1 k hk1 (rn_hw hts hw1 rfl) (fun x h9 => by rw [hd1] at h9; exact h9) t4 (hini t2) t3 (hcf.2.1 k hk1) n1 n2 hl hd kk2
                  · exact va_put (C := q1.1) (T := q1.2.1) (N := q1.2.2) hx hb hts hcf.1 (rn_fty c1) hcf.2.1 hcf.2.2.1 hown hK hP hD hS q he hc1 k hk1 (rn_hw hts hw1 rfl) (fun x h9 => by rw [hd1] at h9; exact h9) (by simpa using t4) (hcf.2.1 k hk1) n1 n2 hl hd kk2
              · cases hp
            · cases hp
          · cases hp
        · cases hp
      · cases hp
    · cases hp
  case iastore =>
    simp only [rn_w] at hp
    split at hp
    · next x j q r =>
      split at hp
      · next n f hq =>
        split at hp
        · cases hp
        · next hin =>
          cases hp
          have hqN : q < N := rn_lt (rn_cs_t (rn_cs_t hcs)) hh (by rw [hq]; intro z; cases z)
          refine va_iast hx hb hK hP hD hS q 0 (rn_wl_get hqN |>.trans (by rw [hq]; rfl)) (rn_tys_get rfl) hin hd (fun H1 locs1 g1 g2 g3 => ?_)
          rw [rn_wl_set (e := .inl (0, n, .inl (upd f j.toNatClampNeg x))) (x := .inl (cA 0, n, .inl (upd f j.toNatClampNeg x))) rfl] at g1 g2
          exact kk H1 locs1 g1 g2 g3 (rn_hc_up hh hqN trivial) (rn_cs_t (rn_cs_t (rn_cs_t hcs)))
      · cases hp
    · cases hp
  case bastore =>
    simp only [rn_w] at hp
    split at hp
    · next x j q r =>
      split at hp
      · next n f hq =>
        split at hp
        · cases hp
        · next hin =>
          split at hp
          · next h01 =>
            cases hp
            have hqN : q < N := rn_lt (rn_cs_t (rn_cs_t hcs)) hh (by rw [hq]; intro z; cases z)
            have hnar : vp_nar .boolean x = x := by rcases h01 with rfl | rfl <;> decide +kernel
            refine va_zast hx hb hK hP hD hS q 2 (rn_wl_get hqN |>.trans (by rw [hq]; rfl)) (rn_tys_get rfl) hin hd (fun H1 locs1 g1 g2 g3 => ?_)
            rw [hnar] at g1 g2
            rw [rn_wl_set (e := .inl (2, n, .inl (upd f j.toNatClampNeg x))) (x := .inl (cA 2, n, .inl (upd f j.toNatClampNeg x))) rfl] at g1 g2
            exact kk H1 locs1 g1 g2 g3 (rn_hc_up hh hqN trivial) (rn_cs_t (rn_cs_t (rn_cs_t hcs)))
          · cases hp
      · cases hp
    · cases hp
  case lastore =>
    simp only [rn_w] at hp
    split at hp
    · next x j q r =>
      split at hp
      · next n f hq =>
        split at hp
        · cases hp
        · next hin =>
          cases hp
          have hqN : q < N := rn_lt (rn_cs_t (rn_cs_t hcs)) hh (by rw [hq]; intro z; cases z)
          refine va_last hx hb hK hP hD hS q 1 (rn_wl_get hqN |>.trans (by rw [hq]; rfl)) (rn_tys_get rfl) hin hd (fun H1 locs1 g1 g2 g3 => ?_)
          rw [rn_wl_set (e := .inl (1, n, .inr (.inl (vp_updL f j.toNatClampNeg x)))) (x := .inl (cA 1, n, .inr (.inl (vp_updL f j.toNatClampNeg x)))) rfl] at g1 g2
          exact kk H1 locs1 g1 g2 g3 (rn_hc_up hh hqN trivial) (rn_cs_t (rn_cs_t (rn_cs_t hcs)))
      · cases hp
    · cases hp
  case aastore =>
    simp only [rn_w, rn_oW] at hp hok
    split at hp
    · next t ci =>
      split at hp
      · next v j q r =>
        split at hp
        · next t1 n f hq =>
          split at hp
          · next hb1 =>
            have := Nat.eq_of_beq_eq_true hb1
            subst this
            split at hp
            · next c1 vs hv =>
              split at hp
              · next hb2 =>
                have := Nat.eq_of_beq_eq_true hb2
                subst this
                split at hp
                · cases hp
                · next hin =>
                  cases hp
                  obtain ⟨q1, hc1, ht1⟩ := rn_oA_some hok
                  have hqN : q < N := rn_lt (rn_cs_t (rn_cs_t hcs)) hh (by rw [hq]; intro z; cases z)
                  have hvN : v < N := rn_lt hcs hh (by rw [hv]; intro z; cases z; exact absurd rfl (rn_c999 hc1))
                  refine va_astq (r := q1) hx hb hK hP hD hS q _ v c1 (rn_wl_get hqN |>.trans (by rw [hq]; rfl)) (rn_tys_get ht1) (rn_wl_get hvN |>.trans (by rw [hv]; rfl)) hc1 hin hd (fun H1 locs1 g1 g2 g3 => ?_)
                  have e1 : va_up (fun i => (f i).map ad) j.toNatClampNeg (some (ad v)) = fun i => (va_up f j.toNatClampNeg (some v) i).map ad := by
                    funext i
                    simp only [va_up]
                    split <;> rfl
                  rw [e1] at g1 g2
                  rw [rn_wl_set (e := .inl (t1, n, .inr (.inr (.inr (.inr (va_up f j.toNatClampNeg (some v))))))) (x := .inl (cA t1, n, .inr (.inr (.inr (.inr (fun i => (va_up f j.toNatClampNeg (some v) i).map ad)))))) rfl] at g1 g2
                  refine kk H1 locs1 g1 g2 g3 (rn_hc_up hh hqN (fun i a ha => ?_)) (rn_cs_t (rn_cs_t (rn_cs_t hcs)))
                  simp only [va_up] at ha
                  split at ha
                  · cases ha; exact hvN
                  · have := hh.1 q hqN
                    rw [hq] at this
                    exact this i a ha
              · cases hp
            · cases hp
          · cases hp
        · cases hp
      · cases hp
    · cases hp
  case invokestatic idx =>
    simp only [rn_w, rn_oW] at hp hok
    split at hp
    · next t w1 w2 w3 w4 =>
      simp only [Bool.and_eq_true, decide_eq_true_eq] at hok
      obtain ⟨⟨⟨⟨⟨o1, o2⟩, o3⟩, o4⟩, o5⟩, o6⟩ := hok
      have o5 := Nat.le_of_ble_eq_true o5
      have o6 := Nat.le_of_ble_eq_true o6
      have hnw : nativeFrameWords "java/lang/System" "arraycopy" 5 = 7 := by decide +kernel
      split at hp
      · next n dp a sp a0 r =>
        split at hp
        · cases hp
        · next hno =>
          have n1 : ¬ sp < 0 := fun z => hno (Or.inl z)
          have n2 : ¬ dp < 0 := fun z => hno (Or.inr (Or.inl z))
          have n3 : ¬ n < 0 := fun z => hno (Or.inr (Or.inr (Or.inl z)))
          have n4 : rn_cs r ≤ 8 := Nat.le_of_not_lt fun z => hno (Or.inr (Or.inr (Or.inr z)))
          split at hp
          · split at hp
            · next n0 f n1' g hq0 hq1 =>
              split at hp
              · next hbd =>
                cases hp
                have hq0N : a0 < N := rn_lt (rn_cs_t (rn_cs_t (rn_cs_t (rn_cs_t hcs)))) hh (by rw [hq0]; intro z; cases z)
                have hq1N : a < N := rn_lt (rn_cs_t (rn_cs_t hcs)) hh (by rw [hq1]; intro z; cases z)
                refine va_copyi hx hb hml hown (rn_hw hts o1 rfl) (rn_hw hts o2 rfl) (rn_hw hts o3 rfl) (rn_hw hts o4 rfl) hK hP hD hS a0 a 0 0 (rn_wl_get hq0N |>.trans (by rw [hq0]; rfl)) (rn_wl_get hq1N |>.trans (by rw [hq1]; rfl)) (rn_tys_get rfl) (rn_tys_get rfl) rfl n1 n2 n3 hbd.1 hbd.2 (fun _ _ => rfl) (by omega) (by rw [rn_cs_map, hnw]; omega) hd (fun H1 locs1 g1 g2 g3 => ?_)
                rw [rn_wl_set (e := .inl (0, n1', .inl (va_cpy f g sp.toNatClampNeg dp.toNatClampNeg n.toNatClampNeg))) (x := .inl (cA 0, n1', .inl (va_cpy f g sp.toNatClampNeg dp.toNatClampNeg n.toNatClampNeg))) rfl] at g1 g2
                exact kk H1 locs1 g1 g2 g3 (rn_hc_up hh hq1N trivial) (rn_cs_t (rn_cs_t (rn_cs_t (rn_cs_t (rn_cs_t hcs)))))
              · cases hp
            · cases hp
          · split at hp
            · next n0 f n1' g hq0 hq1 =>
              split at hp
              · next hbd =>
                cases hp
                have hq0N : a0 < N := rn_lt (rn_cs_t (rn_cs_t (rn_cs_t (rn_cs_t hcs)))) hh (by rw [hq0]; intro z; cases z)
                have hq1N : a < N := rn_lt (rn_cs_t (rn_cs_t hcs)) hh (by rw [hq1]; intro z; cases z)
                refine va_copyl hx hb hml hown (rn_hw hts o1 rfl) (rn_hw hts o2 rfl) (rn_hw hts o3 rfl) (rn_hw hts o4 rfl) hK hP hD hS a0 a 1 1 (rn_wl_get hq0N |>.trans (by rw [hq0]; rfl)) (rn_wl_get hq1N |>.trans (by rw [hq1]; rfl)) (rn_tys_get rfl) (rn_tys_get rfl) rfl n1 n2 n3 hbd.1 hbd.2 (fun _ _ => rfl) (by omega) (by rw [rn_cs_map, hnw]; omega) hd (fun H1 locs1 g1 g2 g3 => ?_)
                rw [rn_wl_set (e := .inl (1, n1', .inr (.inl (va_cpy f g sp.toNatClampNeg dp.toNatClampNeg n.toNatClampNeg)))) (x := .inl (cA 1, n1', .inr (.inl (va_cpy f g sp.toNatClampNeg dp.toNatClampNeg n.toNatClampNeg)))) rfl] at g1 g2
                exact kk H1 locs1 g1 g2 g3 (rn_hc_up hh hq1N trivial) (rn_cs_t (rn_cs_t (rn_cs_t (rn_cs_t (rn_cs_t hcs)))))
              · cases hp
            · cases hp
          · cases hp
      · cases hp
    · cases hp
end RN3
end
section
/-! one step that makes an entry -/
def rn_nr (v : Value) : Bool := match v with
  | .ref _ => false
  | _ => true
def rn_oNe (own : String) (idx c n w1 w2 w3 : Nat) : Bool := match rn_cls[c]? with
  | some q => Nat.beq n q.2.2 && decide (lw_tbl[w1]? = some (.classLink own idx q.1)) && decide (lw_tbl[w2]? = some (.instantiable q.1 q.2.2)) && decide (lw_tbl[w3]? = some (.initialized q.1)) && (rn_dv c).all rn_nr
  | none => false
theorem rn_oNe_some {own : String} {idx c n w1 w2 w3 : Nat} (h : rn_oNe own idx c n w1 w2 w3 = true) : ∃ q : vw_C, rn_cls[c]? = some q ∧ n = q.2.2 ∧ lw_tbl[w1]? = some (.classLink own idx q.1) ∧ lw_tbl[w2]? = some (.instantiable q.1 q.2.2) ∧ lw_tbl[w3]? = some (.initialized q.1) ∧ ∀ v ∈ rn_dv c, rn_nr v = true := by
  unfold rn_oNe at h
  split at h
  · next q hq =>
    simp only [Bool.and_eq_true, decide_eq_true_eq] at h
    obtain ⟨⟨⟨⟨o1, o2⟩, o3⟩, o4⟩, o5⟩ := h
    exact ⟨q, hq, Nat.eq_of_beq_eq_true o1, o2, o3, o4, List.all_eq_true.mp o5⟩
  · cases h
def rn_oNa (a : ArrayType) (t w : Nat) : Bool := match t with
  | 0 => decide (newarray.typeOf a = .int) && decide (lw_tbl[w]? = some (.arrayClass .int))
  | 1 => decide (newarray.typeOf a = .long) && decide (lw_tbl[w]? = some (.arrayClass .long))
  | 2 => decide (newarray.typeOf a = .boolean) && decide (lw_tbl[w]? = some (.arrayClass .boolean))
  | _ => false
theorem rn_oNa_some {a : ArrayType} {t w : Nat} (h : rn_oNa a t w = true) : (t = 0 ∧ newarray.typeOf a = .int ∧ lw_tbl[w]? = some (.arrayClass .int)) ∨ (t = 1 ∧ newarray.typeOf a = .long ∧ lw_tbl[w]? = some (.arrayClass .long)) ∨ (t = 2 ∧ newarray.typeOf a = .boolean ∧ lw_tbl[w]? = some (.arrayClass .boolean)) := by
  unfold rn_oNa at h
  split at h
  · simp only [Bool.and_eq_true, decide_eq_true_eq] at h
    exact Or.inl ⟨rfl, h⟩
  · simp only [Bool.and_eq_true, decide_eq_true_eq] at h
    exact Or.inr (Or.inl ⟨rfl, h⟩)
  · simp only [Bool.and_eq_true, decide_eq_true_eq] at h
    exact Or.inr (Or.inr ⟨rfl, h⟩)
  · cases h
def rn_oNq (own : String) (idx t c w : Nat) : Bool := match rn_cls[c]? with
  | some q => Nat.ble 3 t && decide (rn_ft[t]? = some (.object q.1)) && decide (lw_tbl[w]? = some (.classLink own idx q.1))
  | none => false
theorem rn_oNq_some {own : String} {idx t c w : Nat} (h : rn_oNq own idx t c w = true) : ∃ (q : vw_C) (t3 : Nat), t = t3 + 3 ∧ rn_ft[t]? = some (.object q.1) ∧ lw_tbl[w]? = some (.classLink own idx q.1) := by
  unfold rn_oNq at h
  split at h
  · next q hq =>
    simp only [Bool.and_eq_true, decide_eq_true_eq] at h
    exact ⟨q, t - 3, by have := Nat.le_of_ble_eq_true h.1.1; omega, h.1.2, h.2⟩
  · cases h
def rn_oN (own : String) (i : Instr) (ax : List Nat) : Bool := match i with
  | .new idx => match ax with
    | [c, n, w1, w2, w3] => rn_oNe own idx c n w1 w2 w3
    | _ => false
  | .newarray a => match ax with
    | [t, w] => rn_oNa a t w
    | _ => false
  | .anewarray idx => match ax with
    | [t, c, w] => rn_oNq own idx t c w
    | _ => false
  | _ => true
theorem rn_vv_nr {ad : Nat → Nat} {v : Value} (h : rn_nr v = true) : rn_vv ad v = v := by
  cases v <;> first | rfl | (cases h)
theorem rn_cv_nr {N : Nat} {v : Value} (h : rn_nr v = true) : rn_cv N v = true := by
  cases v <;> first | rfl | (cases h)
theorem rn_cv_up {N N1 : Nat} {v : Value} (hN : N ≤ N1) (h : rn_cv N v = true) : rn_cv N1 v = true := by
  cases v <;> first | rfl | skip
  rename_i a
  rcases rn_cv_ref.mp h with g | g
  · exact rn_cv_ref.mpr (Or.inl (by omega))
  · exact rn_cv_ref.mpr (Or.inr g)
theorem rn_cE_up {N N1 : Nat} {e : rn_E} (hN : N ≤ N1) (h : rn_cE N e) : rn_cE N1 e := by
  rcases e with ⟨t, n, f | f | f | f | f⟩ | ⟨c, fs⟩
  · trivial
  · trivial
  · trivial
  · trivial
  · exact fun i a ha => Nat.lt_of_lt_of_le (h i a ha) hN
  · exact fun v hv => rn_cv_up hN (h v hv)
theorem rn_cs1_up {N N1 : Nat} {st : List Value} (hN : N ≤ N1) (h : rn_cs1 N st) : rn_cs1 N1 st := fun v hv => rn_cv_up hN (h v hv)
theorem rn_cl1_up {N N1 : Nat} {lv : rn_L} (hN : N ≤ N1) (h : rn_cl1 N lv) : rn_cl1 N1 lv := fun v hv => rn_cv_up hN (h v hv)
theorem rn_hc_push {N : Nat} {h : rn_H} {e : rn_E} (hh : rn_hc N h) (hN : N < 1000000) (he : rn_cE (N + 1) e) : rn_hc (N + 1) (rn_up h N e) := by
  refine ⟨fun k hk => ?_, ?_, hN⟩
  · by_cases h1 : k = N
    · subst h1; rw [rn_up_s]; exact he
    · rw [rn_up_n h1]; exact rn_cE_up (Nat.le_succ N) (hh.1 k (by omega))
  · rw [rn_up_n (by omega)]
    exact hh.2.1
theorem rn_RA {U : State} {c1 c2 : ClassId} {ty : FieldType} (h1 : va_RA U c1 ty) (h2 : va_RA U c2 ty) : c1 = c2 := by
  cases ty with
  | object C =>
    obtain ⟨_, _, _, _, _, a⟩ := h1
    obtain ⟨_, _, _, _, _, b⟩ := h2
    exact Option.some.inj (a.symm.trans b)
  | _ => exact Option.some.inj ((show U.vm.findClass _ = some c1 from h1).symm.trans h2)
theorem rn_last {D : va_G} {cl : List vw_C} {tys : List (ClassId × FieldType)} {c1 c2 : ClassId} {ty : FieldType} {t : Nat} {U : State} (hK : va_K D cl (tys ++ [(c1, ty)]) U) (ht : tys[t]? = some (c2, ty)) : c1 = c2 := by
  have h1 := (hK.2 tys.length (c1, ty) (by simp)).2
  have hl : t < tys.length := (List.getElem?_eq_some_iff.mp ht).1
  have h2 := (hK.2 t (c2, ty) (by rw [List.getElem?_append_left hl]; exact ht)).2
  exact rn_RA h1 h2
section RN4
variable {p : Program} {l : Launch} {e : Env} {R : Room} {s : State} {m : MethodId} {args : Array Value} {below : List Frame} {meth : Method} {c : Code} {H : Heap} {locs : List Loc} {cells slots : Nat} {Q : State → Prop}
variable {cc : ByteArray} {pc n nL : Nat} {ls : Array Slot} {D : va_G} {cA : Nat → ClassId} {ad : Nat → Nat} {N : Nat} {h : rn_H} {A : Nat → Prop} {H0 : Heap} {lv : rn_L} {st : List Value} {own : String} {fr lo : Nat}
set_option maxHeartbeats 4000000 in
theorem rn_a_ok {i : Instr} {ax : List Nat} {st1 : List Value} {z : rn_E} {k : Nat} (hx : p.tables.exec = Jvm.exec) (hb : c.code = cc) (hts : ∀ w ∈ rn_gw, w.before args s = true) (hown : s.vm.findClass own = some m.cls)
    (hKn : rn_Kn D cA s) (hP : va_P D rn_cls (rn_wl cA ad N h) H) (hD : va_D A (rn_wl cA ad N h)) (hS : va_S A H0 H locs) (hA : ∀ q, H0.size ≤ q → A q)
    (hl : lv_has ls nL (rn_vl ad lv)) (hcl : rn_cl1 N lv) (hcs : rn_cs1 N st) (hh : rn_hc N h) (hN : N < 1000000) (hce : cells + 1 ≤ R.cells) (hsl : slots + k ≤ R.slots)
    (hok : rn_oN own i ax = true) (hd : decode cc pc = .ok (i, rn_ln i)) (hp : rn_a rn_dv i ax st = some (st1, z, k))
    (kk : ∀ (ad2 : Nat → Nat) (H1 : Heap), rn_ag N ad ad2 → va_P D rn_cls (rn_wl cA ad2 (N + 1) (rn_up h N z)) H1 → va_D A (rn_wl cA ad2 (N + 1) (rn_up h N z)) → va_S A H0 H1 locs → rn_hc (N + 1) (rn_up h N z) → lv_has ls nL (rn_vl ad2 lv) → rn_cl1 (N + 1) lv → rn_cs1 (N + 1) (.ref N :: st1) → W p l e R s m args below meth c H1 locs (cells + 1) (slots + k) Q (F0 m (pc + rn_ln i) ls ((.ref N :: st1).map (rn_vv ad2)))) :
    W p l e R s m args below meth c H locs cells slots Q (F0 m pc ls (st.map (rn_vv ad))) := by
  have fin : ∀ (q : Nat) (H1 : Heap) (x : va_E), rn_ev cA (va_up ad N q) z = x → rn_cE (N + 1) z → rn_cs1 N st1 → va_P D rn_cls (rn_wl cA ad N h ++ [(q, x)]) H1 → va_D A (rn_wl cA ad N h ++ [(q, x)]) → va_S A H0 H1 locs → W p l e R s m args below meth c H1 locs (cells + 1) (slots + k) Q (F0 m (pc + rn_ln i) ls (.ref q :: st1.map (rn_vv ad))) := by
    intro q H1 x hxz hz hst g1 g2 g3
    have hag : rn_ag N ad (va_up ad N q) := rn_ag_up hN
    rw [rn_wl_push hN hh hxz] at g1 g2
    have := kk (va_up ad N q) H1 hag g1 g2 g3 (rn_hc_push hh hN hz) (by rw [rn_vl_ag hag hcl]; exact hl) (rn_cl1_up (Nat.le_succ N) hcl) (rn_cs_c (rn_cv_ref.mpr (Or.inl (Nat.lt_succ_self N))) (rn_cs1_up (Nat.le_succ N) hst))
    rw [List.map_cons, rn_vs_ag hag hst] at this
    have e1 : rn_vv (va_up ad N q) (.ref N) = .ref q := by simp [rn_vv, va_up]
    rw [e1] at this
    exact this
  cases i
  all_goals (try (exact absurd (show (none : Option (List Value × rn_E × Nat)) = some (st1, z, k) from hp) (fun q => by cases q)))
  case new idx =>
    simp only [rn_a, rn_oN] at hp hok
    split at hp
    · cases hp
      next ci w1 w2 w3 =>
      obtain ⟨q1, hc1, rfl, o2, o3, o4, hnr⟩ := rn_oNe_some hok
      have hcf := rn_cf_all _ q1 hc1
      refine va_new (C := q1.1) (T := q1.2.1) (N := q1.2.2) hx hb hts hcf.1 (rn_fty ci) hcf.2.1 hown (rn_hw hts o2 rfl) (rn_hw hts o3 rfl) (rn_hw hts o4 rfl) hKn.1 hP hD hS hA hc1 (fs := rn_dv ci) hcf.2.2.2 hce hsl hd (fun q H1 g1 g2 g3 => fin q H1 _ ?_ (fun v hv => rn_cv_nr (hnr v hv)) hcs g1 g2 g3)
      show Sum.inr (ci, (rn_dv ci).map (rn_vv (va_up ad N q))) = Sum.inr (ci, rn_dv ci)
      have e9 : (rn_dv ci).map (rn_vv (va_up ad N q)) = (rn_dv ci).map id := List.map_congr_left fun v hv => rn_vv_nr (hnr v hv)
      rw [e9, List.map_id]
    · cases hp
  case newarray a =>
    simp only [rn_a, rn_oN] at hp hok
    split at hp
    · split at hp
      · next t w x r =>
        split at hp
        · cases hp
        · next hno =>
          cases hp
          have n1 : ¬ x < 0 := fun z => hno (Or.inl z)
          have n2 : x.toNatClampNeg ≤ 1000000 := Nat.le_of_not_lt fun z => hno (Or.inr z)
          rcases rn_oNa_some hok with ⟨rfl, o1, o2⟩ | ⟨rfl, o1, o2⟩ | ⟨rfl, o1, o2⟩
          · refine va_newa (ty := .int) (a0 := (x.toNatClampNeg, .inl (fun _ => 0))) hx hb (by rw [o1]; exact rn_hw hts o2 rfl) o1 hKn.1 hP hD hS hA (fun cA => by first | rfl | (simp [vp_cell, defaultValue]; done)) n1 rfl (by have : componentBytes FieldType.int = 4 := rfl; rw [this]; omega) hce hsl hd (fun q c2 H1 g0 g1 g2 g3 => ?_)
            have hc2 : c2 = cA 0 := rn_last g0 (rn_tys_get rfl)
            subst hc2
            exact fin q H1 _ rfl trivial (rn_cs_t hcs) g1 g2 g3
          · refine va_newa (ty := .long) (a0 := (x.toNatClampNeg, .inr (.inl (fun _ => 0)))) hx hb (by rw [o1]; exact rn_hw hts o2 rfl) o1 hKn.1 hP hD hS hA (fun cA => by first | rfl | (simp [vp_cell, defaultValue]; done)) n1 rfl (by have : componentBytes FieldType.long = 8 := rfl; rw [this]; omega) hce hsl hd (fun q c2 H1 g0 g1 g2 g3 => ?_)
            have hc2 : c2 = cA 1 := rn_last g0 (rn_tys_get rfl)
            subst hc2
            exact fin q H1 _ rfl trivial (rn_cs_t hcs) g1 g2 g3
          · refine va_newa (ty := .boolean) (a0 := (x.toNatClampNeg, .inl (fun _ => 0))) hx hb (by rw [o1]; exact rn_hw hts o2 rfl) o1 hKn.1 hP hD hS hA (fun cA => by first | rfl | (simp [vp_cell, defaultValue]; done)) n1 rfl (by have : componentBytes FieldType.boolean = 1 := rfl; rw [this]; omega) hce hsl hd (fun q c2 H1 g0 g1 g2 g3 => ?_)
            have hc2 : c2 = cA 2 := rn_last g0 (rn_tys_get rfl)
            subst hc2
            exact fin q H1 _ rfl trivial (rn_cs_t hcs) g1 g2 g3
      · cases hp
    · cases hp
  case anewarray idx =>
    simp only [rn_a, rn_oN] at hp hok
    split at hp
    · split at hp
      · next t ci w x r =>
        split at hp
        · cases hp
        · next hno =>
          cases hp
          have n1 : ¬ x < 0 := fun z => hno (Or.inl z)
          have n2 : x.toNatClampNeg ≤ 1000000 := Nat.le_of_not_lt fun z => hno (Or.inr z)
          obtain ⟨q1, t3, rfl, o2, o3⟩ := rn_oNq_some hok
          refine va_newq (C := q1.1) hx hb hown (rn_hw hts o3 rfl) (hKn.2.2 q1.1 (List.mem_of_getElem? o2)) hKn.1 hP hD hS hA n1 rfl (by omega) hce hsl hd (fun q c2 H1 g0 g1 g2 g3 => ?_)
          have hc2 : c2 = cA (t3 + 3) := rn_last g0 (rn_tys_get o2)
          subst hc2
          exact fin q H1 _ rfl (fun i a ha => by cases ha) (rn_cs_t hcs) g1 g2 g3
      · cases hp
    · cases hp
end RN4
end
section
/-! calls -/
def rn_ws (q : rn_M) : List Cond := Cond.code q.1 q.2.1 q.2.2.1 q.2.2.2.1 :: rn_gw
def rn_rm (q : rn_M) (mc ms : Nat) : Room := { frames := q.2.2.2.2.2.2.1, cells := mc, slots := ms, locals := q.2.2.2.2.2.2.2.1 }
def rn_Pc (D : va_G) (cA : Nat → ClassId) (b : Nat) (X : rn_X) (ad : Nat → Nat) (N : Nat) (h : rn_H) (as : List Value) (sz : Nat) : Array Value → State → Prop := fun v U =>
  v = (as.map (rn_vv ad)).toArray ∧ U.heap.size = sz ∧ va_P D rn_cls (rn_wl cA ad N h) U.heap ∧ va_D (fun _ => True) (rn_wl cA ad N h) ∧ rn_Kn D cA U ∧ va_X b X.1 X.2 U U.heap ∧ b < sz ∧ ∀ k, k < N → ad k ≠ b
def rn_Qc (D : va_G) (cA : Nat → ClassId) (ad : Nat → Nat) (N N1 : Nat) (h1 : rn_H) (v : Option Value) (A : Nat → Prop) : Array Value → State → Outcome → State → Prop := fun _ st o t =>
  (∃ ad2 : Nat → Nat, rn_ag N ad ad2 ∧ o = .returned (v.map (rn_vv ad2)) ∧ va_P D rn_cls (rn_wl cA ad2 N1 h1) t.heap ∧ va_D A (rn_wl cA ad2 N1 h1) ∧ rn_hc N1 h1 ∧ ∀ w, v = some w → rn_cv N1 w = true) ∧ va_F A st t
def rn_met (l : Launch) (q : rn_M) (D : va_G) (cA : Nat → ClassId) (b : Nat) (X : rn_X) (ad : Nat → Nat) (N sl N1 sl1 : Nat) (h h1 : rn_H) (as : List Value) (v : Option Value) (sz : Nat) : Prop :=
  Met l q.1 (rn_ws q) (rn_rm q (N1 - N) (sl1 - sl)) (rn_Pc D cA b X ad N h as sz) (rn_Qc D cA ad N N1 h1 v (va_A (rn_wl cA ad N h) sz)) (N1 - N) (sl1 - sl) (va_A (rn_wl cA ad N h) sz)
def rn_oCm (nm : MethodName) (n : Nat) : Bool := plainName nm.cls && decide (nm.cls ≠ "java/lang/invoke/MethodHandle") && decide (nm.cls ≠ "java/lang/invoke/VarHandle") && decide ((parseMethodDescriptor nm.desc).map (fun d => d.parameters.length) = some n)
def rn_isC (c : Nat) (C : String) : Bool := match rn_cls[c]? with
  | some q => decide (q.1 = C)
  | none => false
def rn_oC1 (own : String) (i : Instr) (c : Nat) (ws : List Nat) (k : Nat) (q : rn_M) : Bool := rn_oCm q.1 q.2.2.2.2.2.1 && (match i, k, ws with
  | .invokevirtual idx, 0, [w1, w2, w3, w4, w5] => decide (lw_tbl[w1]? = some (.methodLink own idx q.1)) && decide (lw_tbl[w2]? = some (.instanceMethod q.1)) && decide (lw_tbl[w3]? = some (.selects q.1.cls q.1 q.1)) && decide (lw_tbl[w4]? = some (.initialized q.1.cls)) && decide (lw_tbl[w5]? = some (.code q.1 q.2.1 q.2.2.1 q.2.2.2.1)) && rn_isC c q.1.cls
  | .invokestatic idx, 0, [w1, w2, _, w4, w5] => decide (lw_tbl[w1]? = some (.methodLink own idx q.1)) && decide (lw_tbl[w2]? = some (.static q.1)) && decide (lw_tbl[w4]? = some (.initialized q.1.cls)) && decide (lw_tbl[w5]? = some (.code q.1 q.2.1 q.2.2.1 q.2.2.2.1))
  | .invokestatic idx, 4, [j, w2, _, w4, w5] => decide ((rn_nest[j]?).map (fun x => (x.1, x.2.1, x.2.2.1)) = some (own, idx, q.1)) && decide (lw_tbl[w2]? = some (.static q.1)) && decide (lw_tbl[w4]? = some (.initialized q.1.cls)) && decide (lw_tbl[w5]? = some (.code q.1 q.2.1 q.2.2.1 q.2.2.2.1))
  | .invokespecial idx, 0, [w1, w2, _, w4, w5] => decide (lw_tbl[w1]? = some (.methodLink own idx q.1)) && decide (lw_tbl[w2]? = some (.instanceMethod q.1)) && decide (lw_tbl[w4]? = some (.initialized q.1.cls)) && decide (lw_tbl[w5]? = some (.code q.1 q.2.1 q.2.2.1 q.2.2.2.1)) && decide (q.1.name = "<init>") && decide (q.2.2.2.1 = none)
  | .invokespecial idx, 4, [j, w2, _, w4, w5] => decide ((rn_nest[j]?).map (fun x => (x.1, x.2.1, x.2.2.1)) = some (own, idx, q.1)) && decide (lw_tbl[w2]? = some (.instanceMethod q.1)) && decide (lw_tbl[w4]? = some (.initialized q.1.cls)) && decide (lw_tbl[w5]? = some (.code q.1 q.2.1 q.2.2.1 q.2.2.2.1)) && decide (q.1.name = "<init>") && decide (q.2.2.2.1 = none)
  | _, _, _ => false)
def rn_oC (ms : Nat → Option rn_M) (own : String) (i : Instr) (ax : List Nat) : Bool := match rn_cc i ax with
  | none => true
  | some _ => match ax with
    | k :: z :: c :: ws => match ms z with
      | some q => rn_oC1 own i c ws k q
      | none => false
    | _ => false
theorem rn_gi {q : rn_M} {w : Nat} (h : lw_tbl[w]? = some (.code q.1 q.2.1 q.2.2.1 q.2.2.2.1)) : GoodIn rn_gw (rn_ws q) := by
  intro x hx
  have : x ∈ rn_gw := by
    rcases List.mem_cons.mp hx with rfl | hx
    · exact rn_gm h rfl
    · exact hx
  exact ⟨this, good_of_word (List.mem_filter.mp this).2⟩
theorem rn_nest_at {own : String} {idx j : Nat} {nm : MethodName} {D : va_G} {cA : Nat → ClassId} {s : State} (hKn : rn_Kn D cA s) (h : (rn_nest[j]?).map (fun x => (x.1, x.2.1, x.2.2.1)) = some (own, idx, nm)) : ∃ host : String, va_Nw (.methodLinkNest own idx nm host) s := by
  cases hx : rn_nest[j]? with
  | none => rw [hx] at h; cases h
  | some x =>
    rw [hx] at h
    cases h
    exact ⟨x.2.2.2, hKn.2.1 x (List.mem_of_getElem? hx)⟩
theorem rn_Pc_blind {D : va_G} {cA : Nat → ClassId} {b : Nat} {X : rn_X} {ad : Nat → Nat} {N : Nat} {h : rn_H} {as : List Value} {sz : Nat} : FrameBlind (rn_Pc D cA b X ad N h as sz) := by
  intro a U g mk q
  obtain ⟨q1, q2, q3, q4, q5, q6, q7, q8⟩ := q
  exact ⟨q1, q2, q3, q4, rn_Kn.same rfl q5, va_X.moved (u := U) (U := U.calling g mk a) (Vm.Alike.refl U.vm) q6, q7, q8⟩
section RN5
variable {p : Program} {l : Launch} {e : Env} {R : Room} {s : State} {m : MethodId} {args : Array Value} {below : List Frame} {meth : Method} {c : Code} {H : Heap} {locs : List Loc} {cells slots : Nat} {Q : State → Prop}
variable {cc : ByteArray} {pc n nL : Nat} {ls : Array Slot} {D : va_G} {cA : Nat → ClassId} {ad : Nat → Nat} {N N1 sl sl1 : Nat} {h h1 : rn_H} {A : Nat → Prop} {H0 : Heap} {lv : rn_L} {st as rest : List Value} {own : String} {fr lo b : Nat} {X : rn_X} {v : Option Value}
theorem rn_call {st0 rest0 : List Value} {a : Array Value} {A1 : Nat → Prop} {mc ms : Nat} (hr : va_Run p l e R s m args below meth c H locs cells slots mc ms (F0 m pc ls st0) rest0 (rn_Qc D cA ad N N1 h1 v A1 a) A1) (hS : va_S A H0 H locs) (hf : ∀ q, A1 q → A q)
    (kk : ∀ (ad2 : Nat → Nat) (H1 : Heap) (locs1 : List Loc), rn_ag N ad ad2 → va_P D rn_cls (rn_wl cA ad2 N1 h1) H1 → va_D A (rn_wl cA ad2 N1 h1) → rn_hc N1 h1 → (∀ w, v = some w → rn_cv N1 w = true) → va_S A H0 H1 locs1 → W p l e R s m args below meth c H1 locs1 (cells + mc) (slots + ms) Q (F0 m (pc + 3) ls ((v.map (rn_vv ad2)).toList ++ rest0))) : W p l e R s m args below meth c H locs cells slots Q (F0 m pc ls st0) := by
  intro T hT X
  obtain ⟨v2, st₀, t, T', L, h0, X', hL, e1, e2, ⟨⟨ad2, hag, hv, hP1, hD1, hh1, hv1⟩, hz, hk⟩, st⟩ := hr T hT X
  cases hv
  rw [h0] at hz hk
  obtain ⟨t2, a1, b1⟩ := kk ad2 T'.heap (locs ++ L) hag (by rw [e1]; exact hP1) (hD1.weaken (fun _ q _ hq => hf q.1 hq)) hh1 hv1
    ⟨Nat.le_trans hS.1 (by rw [e1]; exact hz), fun q g1 g2 => by rw [e1, hk q (Nat.lt_of_lt_of_le g1 hS.1) (fun z => g2 (hf q z))]; exact hS.2.1 q g1 g2, fun q hq => by
      rcases List.mem_append.mp hq with g | g
      · exact hS.2.2 q g
      · exact hf _ (hL q g)⟩ T' rfl X'
  exact ⟨t2, st t2 a1, b1⟩
set_option maxHeartbeats 4000000 in
theorem rn_c_ok {ms : Nat → Option rn_M} {i : Instr} {ax : List Nat} {z ci : Nat} {bb : Bool} {q : rn_M} (hx : p.tables.exec = Jvm.exec) (hb : c.code = cc) (hml : c.maxLocals = nL) (hlsz : ls.size = nL) (hts : ∀ w ∈ rn_gw, w.before args s = true) (hown : s.vm.findClass own = some m.cls)
    (hKn : rn_Kn D cA s) (hP : va_P D rn_cls (rn_wl cA ad N h) H) (hD : va_D A (rn_wl cA ad N h)) (hS : va_S A s.heap H locs) (hA : ∀ q, s.heap.size ≤ q → A q) (hX : va_X b X.1 X.2 s s.heap) (hbl : b < s.heap.size) (hbA : ¬ A b)
    (hcs : rn_cs1 N st) (hh : rn_hc N h) (hst : st = as.reverse ++ rest) (hlen : as.length = q.2.2.2.2.2.1 + (bif bb then 1 else 0)) (hrc : bb = true → rn_rc h ci as = true) (h8 : rn_cs rest ≤ 8)
    (hfr : q.2.2.2.2.2.2.1 + 1 ≤ R.frames) (hlo : 19 + q.2.2.1 + q.2.2.2.2.2.2.2.1 ≤ R.locals) (hce : cells + (N1 - N) ≤ R.cells) (hsl : slots + (sl1 - sl) ≤ R.slots)
    (hcc : rn_cc i ax = some (z, bb, ci)) (hq : ms z = some q) (hok : rn_oC ms own i ax = true) (hd : decode cc pc = .ok (i, 3))
    (hM : rn_met l q D cA b X ad N sl N1 sl1 h h1 as v H.size)
    (kk : ∀ (ad2 : Nat → Nat) (H1 : Heap) (locs1 : List Loc), rn_ag N ad ad2 → va_P D rn_cls (rn_wl cA ad2 N1 h1) H1 → va_D A (rn_wl cA ad2 N1 h1) → rn_hc N1 h1 → (∀ w, v = some w → rn_cv N1 w = true) → va_S A s.heap H1 locs1 → W p l e R s m args below meth c H1 locs1 (cells + (N1 - N)) (slots + (sl1 - sl)) Q (F0 m (pc + 3) ls ((v.map (rn_vv ad2)).toList ++ rest.map (rn_vv ad)))) :
    W p l e R s m args below meth c H locs cells slots Q (F0 m pc ls (st.map (rn_vv ad))) := by
  have hab : ∀ k, k < N → ad k ≠ b := fun k hk hb1 => hbA (by
    have := hD.2 k _ (rn_wl_get hk)
    rw [← hb1]
    exact this)
  have hpre : ∀ U : State, U.heap = H → s.WarmedH U.vm → rn_Pc D cA b X ad N h as H.size (as.map (rn_vv ad)).toArray U := fun U hU hW =>
    ⟨rfl, by rw [hU], by rw [hU]; exact hP, hD.weaken (fun _ _ _ _ => trivial), hKn.warm hW, by
      rw [hU]
      exact va_X.moved hW.alike (hX.kept (hS.2.1 b hbl hbA)), Nat.lt_of_lt_of_le hbl hS.1, hab⟩
  have hfree : ∀ x, va_A (rn_wl cA ad N h) H.size x → A x := by
    intro x hx1
    rcases hx1 with ⟨k, e1, hk⟩ | hx1
    · exact hD.2 k _ hk
    · exact hA x (Nat.le_trans hS.1 hx1)
  have hfin : ∀ {rest0 st0 : List Value} {a : Array Value}, rest0 = rest.map (rn_vv ad) → va_Run p l e R s m args below meth c H locs cells slots (N1 - N) (sl1 - sl) (F0 m pc ls st0) rest0 (rn_Qc D cA ad N N1 h1 v (va_A (rn_wl cA ad N h) H.size) a) (va_A (rn_wl cA ad N h) H.size) → W p l e R s m args below meth c H locs cells slots Q (F0 m pc ls st0) := by
    intro rest0 st0 a hre hr
    subst hre
    exact rn_call hr hS hfree kk
  have h8' : 2 * (F0 m pc ls (st.map (rn_vv ad))).monitorRoom + ((rest.map (rn_vv ad)).map fun v => v.category).sum ≤ 8 := lv_room (by rw [rn_cs_map]; exact h8)
  have hS5 : CallFix p m c cc nL s args rn_gw own := ⟨hx, hb, hml, hown, hts⟩
  unfold rn_oC at hok
  rw [hcc] at hok
  simp only at hok
  cases ax with
  | nil => cases i <;> cases hcc
  | cons k ax =>
  cases ax with
  | nil => cases hok
  | cons z2 ax =>
  cases ax with
  | nil => cases hok
  | cons c2 ws =>
  simp only at hok
  have hz : z2 = z ∧ c2 = ci := by
    unfold rn_cc at hcc
    split at hcc <;> first | (cases hcc; done) | (split at hcc <;> first | (cases hcc; done) | (rename_i heq; cases heq; cases hcc; exact ⟨rfl, rfl⟩))
  obtain ⟨rfl, rfl⟩ := hz
  rw [hq] at hok
  simp only at hok
  unfold rn_oC1 at hok
  rw [Bool.and_eq_true] at hok
  obtain ⟨hm, hok⟩ := hok
  unfold rn_oCm at hm
  simp only [Bool.and_eq_true, decide_eq_true_eq] at hm
  obtain ⟨⟨⟨m1, m2⟩, m3⟩, m4⟩ := hm
  have hstk : bb = true → ∃ (q0 : Nat) (fs : List Value) (as1 : List Value), as = .ref q0 :: as1 ∧ h q0 = .inr (c2, fs) ∧ st.map (rn_vv ad) = (as1.map (rn_vv ad)).reverse ++ .ref (ad q0) :: rest.map (rn_vv ad) := by
    intro hbb
    have h1 := hrc hbb
    unfold rn_rc at h1
    split at h1
    · next q0 as1 =>
      split at h1
      · next c1 fs hq0 =>
        have := Nat.eq_of_beq_eq_true h1
        subst this
        exact ⟨q0, fs, as1, rfl, hq0, by rw [hst]; simp [rn_vv]⟩
      · cases h1
    · cases h1
  have hstk2 : st.map (rn_vv ad) = (as.map (rn_vv ad)).reverse ++ rest.map (rn_vv ad) := by rw [hst]; simp
  split at hok
  · next idx w1 w2 w3 w4 w5 =>
    simp only [Bool.and_eq_true, decide_eq_true_eq] at hok
    obtain ⟨⟨⟨⟨⟨o1, o2⟩, o3⟩, o4⟩, o5⟩, o6⟩ := hok
    cases hcc
    obtain ⟨q0, fs, as1, rfl, hq0, hst1⟩ := hstk rfl
    unfold rn_isC at o6
    split at o6
    · next q1 hc1 =>
      have o6 := of_decide_eq_true o6
      have hq0N : q0 < N := rn_lt (r := []) (fun w hw => by
        rw [List.mem_singleton] at hw
        subst hw
        exact hcs _ (by rw [hst]; simp)) hh (by rw [hq0]; intro z; cases z; exact absurd rfl (rn_c999 hc1))
      have hcb : CallB R s args own idx q.1 q.2.1 q.2.2.1 q.2.2.2.1 (rn_ws q) (rn_rm q (N1 - N) (sl1 - sl)) (N1 - N) (sl1 - sl) q.2.2.2.2.2.1 := callB_of _ hts (rn_gi o5) rfl rfl rfl (rn_hw hts o4 rfl) (rn_hw hts o1 rfl) ⟨m2, m3, m4⟩ ⟨hfr, by show 8 + (q.2.2.1 + 11) + q.2.2.2.2.2.2.2.1 ≤ R.locals; omega⟩
      refine hfin rfl (a := (Value.ref (ad q0) :: as1.map (rn_vv ad)).toArray) (va_runV (C := q.1.cls) (b := ad q0) (As := as1.map (rn_vv ad)) hS5 hM ⟨hcb, rn_hw hts o2 rfl, rn_hw hts o3 rfl⟩ ⟨rn_Pc_blind, ?_, hpre⟩ rfl (by simpa using hlen) hlsz hst1 h8' hd ⟨hce, hsl⟩)
      have := va_recv hKn.1 hP hc1 (rn_wl_get hq0N |>.trans (by rw [hq0]; rfl))
      rw [o6] at this
      exact this
    · cases o6
  · next idx w1 w2 _ w4 w5 =>
    simp only [Bool.and_eq_true, decide_eq_true_eq] at hok
    obtain ⟨⟨⟨o1, o2⟩, o4⟩, o5⟩ := hok
    cases hcc
    have hcb : CallB R s args own idx q.1 q.2.1 q.2.2.1 q.2.2.2.1 (rn_ws q) (rn_rm q (N1 - N) (sl1 - sl)) (N1 - N) (sl1 - sl) q.2.2.2.2.2.1 := callB_of _ hts (rn_gi o5) rfl rfl rfl (rn_hw hts o4 rfl) (rn_hw hts o1 rfl) ⟨m2, m3, m4⟩ ⟨hfr, by show 8 + (q.2.2.1 + 11) + q.2.2.2.2.2.2.2.1 ≤ R.locals; omega⟩
    exact hfin rfl (a := (as.map (rn_vv ad)).toArray) (va_runS (As := as.map (rn_vv ad)) hS5 hM ⟨hcb, rn_hw hts o2 rfl⟩ ⟨rn_Pc_blind, hpre⟩ rfl (by simpa using hlen) hlsz hstk2 h8' hd ⟨hce, hsl⟩)
  · next idx j w2 _ w4 w5 =>
    simp only [Bool.and_eq_true, decide_eq_true_eq] at hok
    obtain ⟨⟨⟨o1, o2⟩, o4⟩, o5⟩ := hok
    cases hcc
    obtain ⟨host, hn⟩ := rn_nest_at hKn o1
    have hcb : va_CN R s args own idx q.1 host q.2.1 q.2.2.1 q.2.2.2.1 (rn_ws q) (rn_rm q (N1 - N) (sl1 - sl)) (N1 - N) (sl1 - sl) q.2.2.2.2.2.1 := va_cnB _ hts (rn_gi o5) rfl rfl rfl hn (rn_hw hts o4 rfl) ⟨m2, m3, m4⟩ ⟨hfr, by show 8 + (q.2.2.1 + 11) + q.2.2.2.2.2.2.2.1 ≤ R.locals; omega⟩
    exact hfin rfl (a := (as.map (rn_vv ad)).toArray) (va_runSN (As := as.map (rn_vv ad)) hS5 hM ⟨hcb, rn_hw hts o2 rfl, trivial⟩ ⟨rn_Pc_blind, hpre⟩ rfl (by simpa using hlen) hlsz hstk2 h8' hd ⟨hce, hsl⟩)
  · next idx w1 w2 _ w4 w5 =>
    simp only [Bool.and_eq_true, decide_eq_true_eq] at hok
    obtain ⟨⟨⟨⟨⟨o1, o2⟩, o4⟩, o5⟩, o6⟩, o7⟩ := hok
    cases hcc
    obtain ⟨q0, fs, as1, rfl, hq0, hst1⟩ := hstk rfl
    have hcb : CallB R s args own idx q.1 q.2.1 q.2.2.1 q.2.2.2.1 (rn_ws q) (rn_rm q (N1 - N) (sl1 - sl)) (N1 - N) (sl1 - sl) q.2.2.2.2.2.1 := callB_of _ hts (rn_gi o5) rfl rfl rfl (rn_hw hts o4 rfl) (rn_hw hts o1 rfl) ⟨m2, m3, m4⟩ ⟨hfr, by show 8 + (q.2.2.1 + 11) + q.2.2.2.2.2.2.2.1 ≤ R.locals; omega⟩
    rw [o7] at hcb
    exact hfin rfl (a := (Value.ref (ad q0) :: as1.map (rn_vv ad)).toArray) (va_runI (b := ad q0) (As := as1.map (rn_vv ad)) hS5 hM ⟨hcb, o6, rn_hw hts o2 rfl⟩ ⟨rn_Pc_blind, hpre⟩ rfl (by simpa using hlen) hlsz hst1 h8' hd ⟨hce, hsl⟩)
  · next idx j w2 _ w4 w5 =>
    simp only [Bool.and_eq_true, decide_eq_true_eq] at hok
    obtain ⟨⟨⟨⟨⟨o1, o2⟩, o4⟩, o5⟩, o6⟩, o7⟩ := hok
    cases hcc
    obtain ⟨q0, fs, as1, rfl, hq0, hst1⟩ := hstk rfl
    obtain ⟨host, hn⟩ := rn_nest_at hKn o1
    have hcb : va_CN R s args own idx q.1 host q.2.1 q.2.2.1 q.2.2.2.1 (rn_ws q) (rn_rm q (N1 - N) (sl1 - sl)) (N1 - N) (sl1 - sl) q.2.2.2.2.2.1 := va_cnB _ hts (rn_gi o5) rfl rfl rfl hn (rn_hw hts o4 rfl) ⟨m2, m3, m4⟩ ⟨hfr, by show 8 + (q.2.2.1 + 11) + q.2.2.2.2.2.2.2.1 ≤ R.locals; omega⟩
    rw [o7] at hcb
    exact hfin rfl (a := (Value.ref (ad q0) :: as1.map (rn_vv ad)).toArray) (va_runIN (b := ad q0) (As := as1.map (rn_vv ad)) hS5 hM ⟨hcb, o6, rn_hw hts o2 rfl⟩ ⟨rn_Pc_blind, hpre⟩ rfl (by simpa using hlen) hlsz hst1 h8' hd ⟨hce, hsl⟩)
  · cases hok
end RN5
end
section
/-! a run of the abstract machine is a run of the real one -/
def rn_sw (i : Instr) : Bool := match i with
  | .tableswitch _ _ _ _ => true
  | .lookupswitch _ _ => true
  | _ => false
def rn_nn (i : Instr) : Bool := match i with
  | .tableswitch _ _ _ _ => true
  | .lookupswitch _ _ => true
  | .goto _ => true
  | .ireturn => true
  | .lreturn => true
  | .areturn => true
  | .return_ => true
  | _ => false
def rn_dc (b : ByteArray) (pc : Nat) (i : Instr) : Bool := match decode b pc with
  | .ok (j, n) => decide (j = i) && (rn_sw i || Nat.beq n (rn_ln i))
  | _ => false
theorem rn_dc_some {b : ByteArray} {pc : Nat} {i : Instr} (h : rn_dc b pc i = true) : ∃ n, decode b pc = .ok (i, n) ∧ (rn_sw i = false → n = rn_ln i) := by
  unfold rn_dc at h
  split at h
  · next j n hj =>
    simp only [Bool.and_eq_true, decide_eq_true_eq, Bool.or_eq_true] at h
    obtain ⟨rfl, h2⟩ := h
    refine ⟨n, hj, fun q => ?_⟩
    rcases h2 with h2 | h2
    · rw [q] at h2; cases h2
    · exact Nat.eq_of_beq_eq_true h2
  · cases h
/-- what is checked of a place of a method's table -/
def rn_oE (ms : Nat → Option rn_M) (nm : MethodName) (b : ByteArray) (mL : Nat) (T : List rn_I) (fr lo ini : Nat) (k : Nat) (e : rn_I) : Bool :=
  rn_dc b e.1 e.2.1 && (rn_nn e.2.1 || rn_at T (k + 1) ((e.1 : Int) + rn_ln e.2.1)) && rn_oP nm.cls fr lo e.2.1 e.2.2.2 && rn_oL mL e.2.1 e.2.2.2 && rn_oB T e.1 e.2.1 e.2.2.2 && rn_oW nm.cls (Nat.beq ini 1) fr lo e.2.1 e.2.2.2 && rn_oN nm.cls e.2.1 e.2.2.2 && rn_oC ms nm.cls e.2.1 e.2.2.2
def rn_oT (ms : Nat → Option rn_M) (nm : MethodName) (b : ByteArray) (mL : Nat) (T : List rn_I) (fr lo ini : Nat) : Nat → List rn_I → Bool
  | _, [] => true
  | k, e :: r => rn_oE ms nm b mL T fr lo ini k e && rn_oT ms nm b mL T fr lo ini (k + 1) r
theorem rn_oT_at {ms : Nat → Option rn_M} {nm : MethodName} {b : ByteArray} {mL : Nat} {T : List rn_I} {fr lo ini : Nat} : ∀ (r : List rn_I) (k j : Nat) (e : rn_I), rn_oT ms nm b mL T fr lo ini k r = true → r[j]? = some e → rn_oE ms nm b mL T fr lo ini (k + j) e = true
  | [], k, j, e, h, hj => by cases hj
  | e0 :: r, k, 0, e, h, hj => by
    cases hj
    unfold rn_oT at h
    exact (Bool.and_eq_true _ _ ▸ h).1
  | e0 :: r, k, j + 1, e, h, hj => by
    unfold rn_oT at h
    have := rn_oT_at r (k + 1) j e (Bool.and_eq_true _ _ ▸ h).2 (by simpa using hj)
    rw [show k + (j + 1) = k + 1 + j by omega]
    exact this
/-- a method's own check -/
def rn_oM (ms : Nat → Option rn_M) (q : rn_M) : Bool := rn_oT ms q.1 q.2.1 q.2.2.1 q.2.2.2.2.1 q.2.2.2.2.2.2.1 q.2.2.2.2.2.2.2.1 q.2.2.2.2.2.2.2.2 0 q.2.2.2.2.1 && (!(Nat.beq q.2.2.2.2.2.2.2.2 1) || decide (q.1.name = "<init>")) && plainName q.1.cls && rn_at q.2.2.2.2.1 0 0
/-- how many locals' words the parameters take is within -/
theorem rn_sp_mono {X : rn_X} {dv : Nat → List Value} {e : rn_I} {k k1 : Nat} {lv lv1 : rn_L} {st st1 : List Value} {N N1 sl sl1 : Nat} {h h1 : rn_H} (hs : rn_sp X dv e (k, lv, st, N, sl, h) = some (k1, lv1, st1, N1, sl1, h1)) : N ≤ N1 ∧ sl ≤ sl1 := by
  obtain ⟨pc, i, kp, ax⟩ := e
  unfold rn_sp at hs
  simp only at hs
  split at hs
  · cases hs; exact ⟨Nat.le_refl _, Nat.le_refl _⟩
  · split at hs
    · cases hs; exact ⟨Nat.le_refl _, Nat.le_refl _⟩
    · split at hs
      · cases hs; exact ⟨Nat.le_refl _, Nat.le_refl _⟩
      · split at hs
        · cases hs; exact ⟨Nat.le_refl _, Nat.le_refl _⟩
        · split at hs
          · split at hs
            · cases hs; exact ⟨Nat.le_succ _, Nat.le_add_right _ _⟩
            · cases hs
          · cases hs
theorem rn_x_mono {X : rn_X} {dv : Nat → List Value} {ms : Nat → Option rn_M} : ∀ (f y k : Nat) (lv : rn_L) (st : List Value) (N sl : Nat) (h : rn_H) (v : Option Value) (N1 sl1 : Nat) (h1 : rn_H), rn_x X dv ms f y (k, lv, st, N, sl, h) = some (v, N1, sl1, h1) → N ≤ N1 ∧ sl ≤ sl1 := by
  intro f
  induction f with
  | zero => intro y k lv st N sl h v N1 sl1 h1 hr; cases hr
  | succ f ih =>
    intro y k lv st N sl h v N1 sl1 h1 hr
    unfold rn_x at hr
    split at hr
    · cases hr
    · split at hr
      · cases hr
      · split at hr
        · next s hs =>
          obtain ⟨k2, lv2, st2, N2, sl2, h2⟩ := s
          have a := rn_sp_mono hs
          have b := ih y k2 lv2 st2 N2 sl2 h2 v N1 sl1 h1 hr
          omega
        · split at hr
          · cases hr; exact ⟨Nat.le_refl _, Nat.le_refl _⟩
          · split at hr
            · cases hr
            · split at hr
              · cases hr
              · split at hr
                · cases hr
                · split at hr
                  · cases hr
                  · next v2 N2 sl2 h2 hz =>
                    have a := ih _ _ _ _ _ _ _ _ _ _ _ hz
                    have b := ih _ _ _ _ _ _ _ _ _ _ _ hr
                    omega
theorem rn_rt_len {i : Instr} {rt : Option FieldType} {st : List Value} {v : Option Value} (h : rn_rt i rt st = some v) : rn_sw i = false ∧ rn_ln i = 1 := by
  cases i <;> first | (cases h; done) | exact ⟨rfl, rfl⟩
theorem rn_rt_inv {i : Instr} {rt : Option FieldType} {st : List Value} {v : Option Value} (h : rn_rt i rt st = some v) : (i = .return_ ∧ rt = none ∧ st = [] ∧ v = none) ∨ (∃ x : Int32, i = .ireturn ∧ (rt = some .int ∨ rt = some .boolean ∧ (x = 0 ∨ x = 1)) ∧ st = [.int x] ∧ v = some (.int x)) ∨ (∃ x : Int64, i = .lreturn ∧ rt = some .long ∧ st = [.long x] ∧ v = some (.long x)) ∨ (∃ (x : Nat) (C : String), i = .areturn ∧ rt = some (.object C) ∧ st = [.ref x] ∧ v = some (.ref x)) := by
  cases i <;> first | (cases h; done) | skip
  case return_ =>
    simp only [rn_rt] at h
    split at h
    · cases h; exact Or.inl ⟨rfl, rfl, rfl, rfl⟩
    · cases h
  case ireturn =>
    simp only [rn_rt] at h
    split at h
    · cases h; exact Or.inr (Or.inl ⟨_, rfl, Or.inl rfl, rfl, rfl⟩)
    · split at h
      · next hx => cases h; exact Or.inr (Or.inl ⟨_, rfl, Or.inr ⟨rfl, hx⟩, rfl, rfl⟩)
      · cases h
    · cases h
  case lreturn =>
    simp only [rn_rt] at h
    split at h
    · cases h; exact Or.inr (Or.inr (Or.inl ⟨_, rfl, rfl, rfl, rfl⟩))
    · cases h
  case areturn =>
    simp only [rn_rt] at h
    split at h
    · cases h; exact Or.inr (Or.inr (Or.inr ⟨_, _, rfl, rfl, rfl, rfl⟩))
    · cases h
theorem rn_rt_cv {i : Instr} {rt : Option FieldType} {st : List Value} {v : Option Value} {N : Nat} (h : rn_rt i rt st = some v) (hs : rn_cs1 N st) : ∀ w, v = some w → rn_cv N w = true := by
  rcases rn_rt_inv h with ⟨-, -, rfl, rfl⟩ | ⟨x, -, -, rfl, rfl⟩ | ⟨x, -, -, rfl, rfl⟩ | ⟨x, C, -, -, rfl, rfl⟩
  · intro w hw; cases hw
  · intro w hw; cases hw; rfl
  · intro w hw; cases hw; rfl
  · intro w hw; cases hw; exact hs _ List.mem_cons_self
theorem rn_sl_len {ad : Nat → Nat} : ∀ (as : List Value), (lg_sl (as.map (rn_vv ad))).length = rn_cs as
  | [] => rfl
  | v :: t => by
    have ih := rn_sl_len (ad := ad) t
    unfold lg_sl at ih ⊢
    simp only [List.map_cons, List.flatMap_cons, List.length_append, rn_vv_cat]
    rw [ih]
    rcases lv_cat v with h | h <;> simp [rn_cs, h]
theorem rn_cs_rev (as : List Value) : rn_cs as.reverse = rn_cs as := by
  simp [rn_cs, List.sum_reverse]
section RN6
variable {p : Program} {l : Launch} {e : Env} {R : Room} {s : State} {m : MethodId} {args : Array Value} {below : List Frame} {meth : Method} {c : Code} {H : Heap} {locs : List Loc} {cells slots : Nat}
theorem rn_fin_ok {cc : ByteArray} {i : Instr} {rt : Option FieldType} {st : List Value} {v : Option Value} {ad : Nat → Nat} {pc : Nat} {ls : Array Slot} {Qc : Array Value → State → Outcome → State → Prop} {free : Addr → Prop} (hx : p.tables.exec = Jvm.exec) (hb : c.code = cc) (hr : meth.sig.returnType = rt) (hlocks : meth.locks = false) (h : rn_rt i rt st = some v) (hd : decode cc pc = .ok (i, 1)) (hf : ∀ q ∈ locs, free q.base)
    (hq : ∀ t : State, t.heap = H → s.WarmedH t.vm → Qc args s (.returned (v.map (rn_vv ad))) t) : W p l e R s m args below meth c H locs cells slots (MQ below Qc args s cells slots free) (F0 m pc ls (st.map (rn_vv ad))) := by
  rcases rn_rt_inv h with ⟨rfl, rfl, rfl, rfl⟩ | ⟨x, rfl, hrt, rfl, rfl⟩ | ⟨x, rfl, rfl, rfl, rfl⟩ | ⟨x, C, rfl, rfl, rfl, rfl⟩
  · exact W.vret hx hb hr hq hf hd hlocks
  · rcases hrt with rfl | ⟨rfl, h01⟩
    · exact W.iret hx hb hr hq hf hd hlocks
    · exact W.zret hx hb hr (by rcases h01 with rfl | rfl <;> decide +kernel) hq hf hd hlocks
  · exact W.lret hx hb hr hq hf hd hlocks
  · exact W.aret (v := .ref (ad x)) hx hb hr (Or.inl ⟨C, rfl⟩) (Or.inr ⟨_, rfl⟩) hq hf hd hlocks
end RN6
end
section
set_option maxHeartbeats 8000000 in
theorem rn_snd {X : rn_X} {ms : Nat → Option rn_M} (hms : ∀ (y : Nat) (q : rn_M), ms y = some q → rn_oM ms q = true) {D : va_G} {cA : Nat → ClassId} {b : Nat} : ∀ (f y k : Nat) (lv : rn_L) (st : List Value) (N sl : Nat) (h : rn_H) (v : Option Value) (N1 sl1 : Nat) (h1 : rn_H), rn_x X rn_dv ms f y (k, lv, st, N, sl, h) = some (v, N1, sl1, h1) →
    ∀ (q : rn_M), ms y = some q → ∀ {p : Program} {l : Launch} {e : Env} {R : Room} {s : State} {m : MethodId} {args : Array Value} {below : List Frame} {meth : Method} {c : Code} {Q : State → Prop},
    p.tables.exec = Jvm.exec → c.code = q.2.1 → c.maxLocals = q.2.2.1 → (∀ w ∈ rn_gw, w.before args s = true) → s.vm.findClass q.1.cls = some m.cls → (q.1.name = "<init>" → meth.name = "<init>") → rn_Kn D cA s → va_X b X.1 X.2 s s.heap → b < s.heap.size → q.2.2.2.2.2.2.1 ≤ R.frames → q.2.2.2.2.2.2.2.1 ≤ R.locals →
    ∀ {ad : Nat → Nat} {A : Nat → Prop} {H : Heap} {locs : List Loc} {ls : Array Slot} {cells slots : Nat}, va_P D rn_cls (rn_wl cA ad N h) H → va_D A (rn_wl cA ad N h) → va_S A s.heap H locs → (∀ q, s.heap.size ≤ q → A q) → ¬ A b → ad 1000000 = b → lv_has ls q.2.2.1 (rn_vl ad lv) → rn_cl1 N lv → rn_cs1 N st → rn_hc N h → cells + (N1 - N) ≤ R.cells → slots + (sl1 - sl) ≤ R.slots →
    (∀ (ad2 : Nat → Nat) (H1 : Heap) (locs1 : List Loc) (ls1 : Array Slot) (e1 : rn_I) (st1 : List Value), rn_ag N ad ad2 → va_P D rn_cls (rn_wl cA ad2 N1 h1) H1 → va_D A (rn_wl cA ad2 N1 h1) → va_S A s.heap H1 locs1 → rn_hc N1 h1 → rn_cs1 N1 st1 → rn_rt e1.2.1 q.2.2.2.1 st1 = some v → decode q.2.1 e1.1 = .ok (e1.2.1, 1) → W p l e R s m args below meth c H1 locs1 (cells + (N1 - N)) (slots + (sl1 - sl)) Q (F0 m e1.1 ls1 (st1.map (rn_vv ad2)))) →
    ∀ e0 : rn_I, q.2.2.2.2.1[k]? = some e0 → W p l e R s m args below meth c H locs cells slots Q (F0 m e0.1 ls (st.map (rn_vv ad))) := by
  intro f
  induction f with
  | zero => intro y k lv st N sl h v N1 sl1 h1 hr; cases hr
  | succ f ih =>
    intro y k lv st N sl h v N1 sl1 h1 hr q hq p l e R s m args below meth c Q hx hb hml hts hown hini hKn hX hbl hfr hlo ad A H locs ls cells slots hP hD hS hA hbA hab hl hcl hcs hh hce hsl kret e0 he0
    obtain ⟨nm, bc, mL, rt, T, np, fr, lo, ini⟩ := q
    simp only at hb hml hown hini hfr hlo hl kret he0
    have hmono := rn_x_mono _ _ _ _ _ _ _ _ _ _ _ _ hr
    unfold rn_x at hr
    rw [hq] at hr
    simp only at hr
    rw [he0] at hr
    simp only at hr
    have hMq := hms y _ hq
    unfold rn_oM at hMq
    simp only [Bool.and_eq_true] at hMq
    obtain ⟨⟨⟨hT, hM2⟩, hM3⟩, hM4⟩ := hMq
    have hE := rn_oT_at T 0 k e0 hT he0
    rw [Nat.zero_add] at hE
    unfold rn_oE at hE
    simp only [Bool.and_eq_true] at hE
    obtain ⟨⟨⟨⟨⟨⟨⟨hdc, hnx⟩, hoP⟩, hoL⟩, hoB⟩, hoW⟩, hoN⟩, hoC⟩ := hE
    obtain ⟨len, hd, hlen⟩ := rn_dc_some hdc
    have hini2 : Nat.beq ini 1 = true → meth.name = "<init>" := fun g => by
      rw [g] at hM2
      simp only [Bool.not_true, Bool.false_or, decide_eq_true_eq] at hM2
      exact hini hM2
    obtain ⟨pc, i, kp, ax⟩ := e0
    simp only at hr hd hlen hnx hoP hoL hoB hoW hoN hoC hdc ⊢
    have hl2 : lv_has ls mL (rn_vl ad (rn_kp kp lv)) := rn_vl_sub hl (fun q hq => rn_kp_sub hq)
    have hcl2 : rn_cl1 N (rn_kp kp lv) := fun q hq => hcl q (rn_kp_sub hq)
    have hlsz : ls.size = mL := hl.1
    have next : rn_nn i = false → ∃ e1, T[k + 1]? = some e1 ∧ e1.1 = pc + rn_ln i := fun g => by
      rw [g, Bool.false_or] at hnx
      obtain ⟨e1, h3, h4⟩ := rn_at_some hnx
      exact ⟨e1, h3, by omega⟩
    split at hr
    · next s2 hs =>
      unfold rn_sp at hs
      simp only at hs
      split at hs
      · next st1 hp =>
        cases hs
        have hnn : rn_nn i = false := by cases i <;> first | rfl | (cases hp; done)
        have hsw : rn_sw i = false := by cases i <;> first | rfl | (cases hp; done)
        obtain ⟨e1, he1, hpc1⟩ := next hnn
        have := hlen hsw
        subst this
        refine rn_p_ok hx hb (hml.trans hlsz.symm) hts hown hKn.1 hP hS hX hbl hbA hab hl2 hcl2 hcs hh hfr hlo (by omega) (by omega) hoP hd hp (fun hcs1 => ?_)
        rw [← hpc1]
        exact ih y _ _ _ _ _ _ _ _ _ _ hr _ hq hx hb hml hts hown hini hKn hX hbl hfr hlo hP hD hS hA hbA hab hl2 hcl2 hcs1 hh hce hsl kret e1 he1
      · split at hs
        · next hp0 k1 st1 hp =>
          cases hs
          refine rn_b_ok (T := T) (k := k + 1) (k1 := k1) (st1 := st1) hx hb hcs (fun g => ?_) hoB hd (fun g => hlen (by cases i <;> first | rfl | (cases g; done))) hp (fun hcs1 e1 he1 => ih y _ _ _ _ _ _ _ _ _ _ hr _ hq hx hb hml hts hown hini hKn hX hbl hfr hlo hP hD hS hA hbA hab hl2 hcl2 hcs1 hh hce hsl kret e1 he1)
          simp only [Bool.or_eq_true] at hnx
          rcases hnx with g2 | g2
          · exfalso
            cases ax with
            | nil => cases hp
            | cons t ts => cases i <;> first | (cases g; done) | (cases g2; done) | (cases hp; done)
          · exact g2
        · next hp0 hb0 =>
          split at hs
          · next lv1 st1 hp =>
            cases hs
            have hnn : rn_nn i = false := by cases i <;> first | rfl | (cases hp; done)
            have hsw : rn_sw i = false := by cases i <;> first | rfl | (cases hp; done)
            obtain ⟨e1, he1, hpc1⟩ := next hnn
            have := hlen hsw
            subst this
            refine rn_l_ok hx hb hl2 hcl2 hcs hoL hd hp (fun ls2 g1 g2 g3 => ?_)
            rw [← hpc1]
            exact ih y _ _ _ _ _ _ _ _ _ _ hr _ hq hx hb hml hts hown hini hKn hX hbl hfr hlo hP hD hS hA hbA hab g1 g2 g3 hh hce hsl kret e1 he1
          · split at hs
            · next st1 h2 hp =>
              cases hs
              have hnn : rn_nn i = false := by cases i <;> first | rfl | (cases hp; done)
              have hsw : rn_sw i = false := by cases i <;> first | rfl | (cases hp; done)
              obtain ⟨e1, he1, hpc1⟩ := next hnn
              have := hlen hsw
              subst this
              refine rn_w_ok hx hb (hml.trans hlsz.symm) hts hown hini2 hKn.1 hP hD hS hcs hh hfr hlo hoW hd hp (fun H1 locs1 g1 g2 g3 g4 g5 => ?_)
              rw [← hpc1]
              exact ih y _ _ _ _ _ _ _ _ _ _ hr _ hq hx hb hml hts hown hini hKn hX hbl hfr hlo g1 g2 g3 hA hbA hab hl2 hcl2 g5 g4 hce hsl kret e1 he1
            · split at hs
              · next st1 z n hp =>
                split at hs
                · next hN =>
                  cases hs
                  have hN := Nat.le_of_ble_eq_true hN
                  have hnn : rn_nn i = false := by cases i <;> first | rfl | (cases hp; done)
                  have hsw : rn_sw i = false := by cases i <;> first | rfl | (cases hp; done)
                  obtain ⟨e1, he1, hpc1⟩ := next hnn
                  have := hlen hsw
                  subst this
                  have hm2 := rn_x_mono _ _ _ _ _ _ _ _ _ _ _ _ hr
                  refine rn_a_ok hx hb hts hown hKn hP hD hS hA hl2 hcl2 hcs hh hN (by omega) (by omega) hoN hd hp (fun ad2 H1 g0 g1 g2 g3 g4 g5 g6 g7 => ?_)
                  rw [← hpc1]
                  refine ih y _ _ _ _ _ _ _ _ _ _ hr _ hq hx hb hml hts hown hini hKn hX hbl hfr hlo g1 g2 g3 hA hbA ?_ g5 g6 g7 g4 (by omega) (by omega) (fun ad3 H2 locs2 ls2 e2 st2 k0 k1 k2 k3 k4 k5 k6 k7 => ?_) e1 he1
                  · rw [g0 1000000 (Or.inr rfl)]; exact hab
                  · have := kret ad3 H2 locs2 ls2 e2 st2 (fun j hj => (k0 j (by omega)).trans (g0 j hj)) k1 k2 k3 k4 k5 k6 k7
                    rw [show cells + 1 + (N1 - (N + 1)) = cells + (N1 - N) by omega, show slots + n + (sl1 - (sl + n)) = slots + (sl1 - sl) by omega]
                    exact this
                · cases hs
              · cases hs
    · next hs =>
      split at hr
      · next v2 hrt =>
        cases hr
        obtain ⟨r1, r2⟩ := rn_rt_len hrt
        have := hlen r1
        subst this
        rw [r2] at hd
        have := kret ad H locs ls (pc, i, kp, ax) st (fun _ _ => rfl) hP hD hS hh hcs hrt hd
        simpa using this
      · split at hr
        · cases hr
        · next z bb ci hcc =>
          split at hr
          · cases hr
          · next nm2 b2 mL2 rt2 T2 n2 fr2 lo2 ini2 hz =>
            split at hr
            · cases hr
            · next hck =>
              simp only [Bool.and_eq_true] at hck
              obtain ⟨⟨⟨⟨⟨c1, c2⟩, c3⟩, c4⟩, c6⟩, c5⟩ := hck
              have c6 := Nat.le_of_ble_eq_true c6
              have c1 := Nat.le_of_ble_eq_true c1
              have c2 := Nat.le_of_ble_eq_true c2
              have c3 := Nat.le_of_ble_eq_true c3
              have c4 := Nat.le_of_ble_eq_true c4
              split at hr
              · cases hr
              · next v2 N2 sl2 h2 hzr =>
                have hnn : rn_nn i = false := by cases i <;> first | rfl | (cases hcc; done)
                have hsw : rn_sw i = false := by cases i <;> first | rfl | (cases hcc; done)
                have hl3 : rn_ln i = 3 := by cases i <;> first | rfl | (cases hcc; done)
                obtain ⟨e1, he1, hpc1⟩ := next hnn
                have := hlen hsw
                subst this
                rw [hl3] at hd hpc1
                have hm1 := rn_x_mono _ _ _ _ _ _ _ _ _ _ _ _ hzr
                have hm2 := rn_x_mono _ _ _ _ _ _ _ _ _ _ _ _ hr
                generalize hkk : (n2 + bif bb then 1 else 0) = kk at *
                have hcsd : rn_cs1 N (st.drop kk) := fun w hw => hcs w (List.mem_of_mem_drop hw)
                have hcst : rn_cs1 N (st.take kk).reverse := fun w hw => hcs w (List.mem_of_mem_take (List.mem_reverse.mp hw))
                have hM : rn_met l (nm2, b2, mL2, rt2, T2, n2, fr2, lo2, ini2) D cA b X ad N sl N2 sl2 h h2 (st.take kk).reverse v2 H.size := by
                  have hMz := hms z _ hz
                  unfold rn_oM at hMz
                  simp only [Bool.and_eq_true] at hMz
                  refine Met.ofW (cc := b2) (maxL := mL2) (ret := rt2) hMz.1.2 rfl ?_
                  intro p' e' s' m' args' below' meth' c' s₁' B hml' hv'
                  obtain ⟨rfl, v1, v2', v3, v4, v5, v6, v7⟩ := hv'
                  have hts' := atoms_spec (ws := rn_ws (nm2, b2, mL2, rt2, T2, n2, fr2, lo2, ini2)) B.pre
                  have hown' : s'.vm.findClass nm2.cls = some m'.cls := findClass_of_methodNamed B.named
                  have hr' := B.returns
                  have hlocks' := B.notSynchronized
                  have hlen0 : (lg_sl (((st.take kk).reverse).map (rn_vv ad))).length ≤ mL2 := by
                    rw [rn_sl_len, rn_cs_rev]
                    exact c6
                  have hl' := lv_entry (((st.take kk).reverse).map (rn_vv ad)) (n := mL2) hlen0
                  rw [lg_entry_eq]
                  rw [rn_vl_args] at hl'
                  have hT0 : ∃ e00, T2[0]? = some e00 ∧ e00.1 = 0 := by
                    obtain ⟨e00, g1, g2⟩ := rn_at_some hMz.2
                    exact ⟨e00, g1, by omega⟩
                  obtain ⟨e00, he00, hpc0⟩ := hT0
                  have hDs : va_D (va_A (rn_wl cA ad N h) H.size) (rn_wl cA ad N h) := hD.self
                  have hgo := ih z 0 (lv_args 0 (st.take kk).reverse) [] N sl h v2 N2 sl2 h2 hzr _ hz (p := p') (l := l) (e := e') (R := (headSpec (rn_ws (nm2, b2, mL2, rt2, T2, n2, fr2, lo2, ini2)) (rn_rm (nm2, b2, mL2, rt2, T2, n2, fr2, lo2, ini2) (N2 - N) (sl2 - sl))).room) (s := s') (m := m') (args := ((st.take kk).reverse.map (rn_vv ad)).toArray) (below := below') (meth := meth') (c := c') (Q := MQ below' (rn_Qc D cA ad N N2 h2 v2 (va_A (rn_wl cA ad N h) H.size)) ((st.take kk).reverse.map (rn_vv ad)).toArray s' (N2 - N) (sl2 - sl) (va_A (rn_wl cA ad N h) H.size)) B.exec B.bytes hml' (fun w hw => hts' w (List.mem_cons_of_mem _ hw)) hown' (fun g => (name_of_methodNamed B.named B.method).1.trans g) v4 v5 (by rw [v1]; exact v6) (Nat.le_refl _) (Nat.le_refl _) (ad := ad) (A := va_A (rn_wl cA ad N h) H.size) (H := s'.heap) (locs := []) (cells := 0) (slots := 0) v2' hDs va_S.rf (fun q0 hq0 => Or.inr (by rw [← v1]; exact hq0)) ?_ hab hl' (rn_cl1_args _ _ hcst) (fun w hw => by cases hw) hh (by show 0 + (N2 - N) ≤ N2 - N; omega) (by show 0 + (sl2 - sl) ≤ sl2 - sl; omega) ?_ e00 he00
                  · rw [hpc0] at hgo
                    exact hgo
                  · rintro (⟨k9, e9, hk9⟩ | hk9)
                    · obtain ⟨hk1, hk2⟩ := rn_wl_some hk9
                      cases hk2
                      exact v7 k9 hk1 rfl
                    · omega
                  · intro ad2 H1 locs1 ls1 e2 st2 k0 k1 k2 k3 k4 k5 k6 k7
                    rw [Nat.zero_add, Nat.zero_add]
                    exact rn_fin_ok B.exec B.bytes hr' hlocks' k6 k7 k3.2.2 (fun t ht hW => ⟨⟨ad2, k0, rfl, by rw [ht]; exact k1, k2, k4, rn_rt_cv k6 k5⟩, va_S.F k3 ht⟩)
                refine rn_c_ok (v := v2) (N1 := N2) (sl1 := sl2) (h1 := h2) (sl := sl) hx hb hml hlsz hts hown hKn hP hD hS hA hX hbl hbA hcs hh (as := (st.take kk).reverse) (rest := st.drop kk) (by rw [List.reverse_reverse, List.take_append_drop]) (by simp; omega) ?_ c4 (by show fr2 + 1 ≤ R.frames; omega) (by show 19 + mL2 + lo2 ≤ R.locals; omega) (by omega) (by omega) hcc hz hoC hd hM (fun ad2 H1 locs1 g0 g1 g2 g3 g4 g5 => ?_)
                · intro hbb
                  subst hbb
                  simp only [Bool.not_true, Bool.false_or] at c5
                  rw [← hkk]
                  exact c5
                · rw [← hpc1]
                  rw [← rn_vs_ag g0 hcsd]
                  have e9 : (v2.map (rn_vv ad2)).toList ++ (st.drop kk).map (rn_vv ad2) = (v2.toList ++ st.drop kk).map (rn_vv ad2) := by cases v2 <;> rfl
                  rw [e9]
                  refine ih y _ _ _ _ _ _ _ _ _ _ hr _ hq hx hb hml hts hown hini hKn hX hbl hfr hlo g1 g2 g5 hA hbA ?_ (by rw [rn_vl_ag g0 hcl2]; exact hl2) (rn_cl1_up hm1.1 hcl2) ?_ g3 (by omega) (by omega) (fun ad3 H2 locs2 ls2 e2 st2 k0 k1 k2 k3 k4 k5 k6 k7 => ?_) e1 he1
                  · rw [g0 1000000 (Or.inr rfl)]; exact hab
                  · intro w hw
                    rcases List.mem_append.mp hw with hw | hw
                    · exact g4 w (by cases v2 with
                        | none => cases hw
                        | some x => rw [Option.toList_some, List.mem_singleton] at hw; rw [hw])
                    · exact rn_cs1_up hm1.1 hcsd w hw
                  · have := kret ad3 H2 locs2 ls2 e2 st2 (fun j hj => (k0 j (by omega)).trans (g0 j hj)) k1 k2 k3 k4 k5 k6 k7
                    rw [show cells + (N2 - N) + (N1 - N2) = cells + (N1 - N) by omega, show slots + (sl2 - sl) + (sl1 - sl2) = slots + (sl1 - sl) by omega]
                    exact this
end
