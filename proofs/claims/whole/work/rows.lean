section
-- ===== PART A: goes FIRST, ahead of the names: the tables' words, and 'selects' of the private methods out of them =====
/-- a private method of a class that the tables say can be made, by its rows of tables_1 -/
def lw_okq (q : MethodName × Nat) : Prop := (q.1.cls ≠ "java/lang/invoke/MethodHandle" ∧ q.1.cls ≠ "java/lang/invoke/VarHandle") ∧ Cond.instantiable q.1.cls q.2 ∈ tables_1 ∧ Cond.privateMethod q.1 ∈ tables_1 ∧ Cond.instanceMethod q.1 ∈ tables_1
theorem lw_p0 : lw_okq (⟨"GriefGlue", "refuseBad", "()I"⟩, 11) := ⟨⟨by decide +kernel, by decide +kernel⟩, List.mem_of_getElem? (i := 18) (by decide +kernel), List.mem_of_getElem? (i := 239) (by decide +kernel), List.mem_of_getElem? (i := 240) (by decide +kernel)⟩
theorem lw_p1 : lw_okq (⟨"GriefGlue", "refuseFull", "()I"⟩, 11) := ⟨⟨by decide +kernel, by decide +kernel⟩, List.mem_of_getElem? (i := 18) (by decide +kernel), List.mem_of_getElem? (i := 247) (by decide +kernel), List.mem_of_getElem? (i := 248) (by decide +kernel)⟩
theorem lw_p2 : lw_okq (⟨"GriefGlue$Shop", "renewGriefs", "(I)V"⟩, 10) := ⟨⟨by decide +kernel, by decide +kernel⟩, List.mem_of_getElem? (i := 26) (by decide +kernel), List.mem_of_getElem? (i := 260) (by decide +kernel), List.mem_of_getElem? (i := 261) (by decide +kernel)⟩
theorem lw_p3 : lw_okq (⟨"GriefGlue$Shop", "isFeastOf", "(III)Z"⟩, 10) := ⟨⟨by decide +kernel, by decide +kernel⟩, List.mem_of_getElem? (i := 26) (by decide +kernel), List.mem_of_getElem? (i := 289) (by decide +kernel), List.mem_of_getElem? (i := 290) (by decide +kernel)⟩
theorem lw_p4 : lw_okq (⟨"GriefGlue", "refuseNo", "()I"⟩, 11) := ⟨⟨by decide +kernel, by decide +kernel⟩, List.mem_of_getElem? (i := 18) (by decide +kernel), List.mem_of_getElem? (i := 325) (by decide +kernel), List.mem_of_getElem? (i := 326) (by decide +kernel)⟩
theorem lw_p5 : lw_okq (⟨"GriefGlue$Reader", "nextToken", "()V"⟩, 8) := ⟨⟨by decide +kernel, by decide +kernel⟩, List.mem_of_getElem? (i := 116) (by decide +kernel), List.mem_of_getElem? (i := 423) (by decide +kernel), List.mem_of_getElem? (i := 424) (by decide +kernel)⟩
theorem lw_p6 : lw_okq (⟨"GriefGlue$Reader", "readLetters", "()V"⟩, 8) := ⟨⟨by decide +kernel, by decide +kernel⟩, List.mem_of_getElem? (i := 116) (by decide +kernel), List.mem_of_getElem? (i := 430) (by decide +kernel), List.mem_of_getElem? (i := 431) (by decide +kernel)⟩
theorem lw_p7 : lw_okq (⟨"GriefGlue$Reader", "readFigures", "()V"⟩, 8) := ⟨⟨by decide +kernel, by decide +kernel⟩, List.mem_of_getElem? (i := 116) (by decide +kernel), List.mem_of_getElem? (i := 437) (by decide +kernel), List.mem_of_getElem? (i := 438) (by decide +kernel)⟩
theorem lw_p8 : lw_okq (⟨"GriefGlue$Reader", "isWord", "(Ljava/lang/String;)Z"⟩, 8) := ⟨⟨by decide +kernel, by decide +kernel⟩, List.mem_of_getElem? (i := 116) (by decide +kernel), List.mem_of_getElem? (i := 442) (by decide +kernel), List.mem_of_getElem? (i := 443) (by decide +kernel)⟩
theorem lw_p9 : lw_okq (⟨"GriefGlue$Reader", "readMourner", "()V"⟩, 8) := ⟨⟨by decide +kernel, by decide +kernel⟩, List.mem_of_getElem? (i := 116) (by decide +kernel), List.mem_of_getElem? (i := 494) (by decide +kernel), List.mem_of_getElem? (i := 495) (by decide +kernel)⟩
theorem lw_p10 : lw_okq (⟨"GriefGlue$Reader", "wantRoom", "(LGriefGlue$Ledger;)V"⟩, 8) := ⟨⟨by decide +kernel, by decide +kernel⟩, List.mem_of_getElem? (i := 116) (by decide +kernel), List.mem_of_getElem? (i := 498) (by decide +kernel), List.mem_of_getElem? (i := 499) (by decide +kernel)⟩
theorem lw_p11 : lw_okq (⟨"GriefGlue$Reader", "blame", "()V"⟩, 8) := ⟨⟨by decide +kernel, by decide +kernel⟩, List.mem_of_getElem? (i := 116) (by decide +kernel), List.mem_of_getElem? (i := 503) (by decide +kernel), List.mem_of_getElem? (i := 504) (by decide +kernel)⟩
theorem lw_p12 : lw_okq (⟨"GriefGlue$Reader", "readNumber", "(II)I"⟩, 8) := ⟨⟨by decide +kernel, by decide +kernel⟩, List.mem_of_getElem? (i := 116) (by decide +kernel), List.mem_of_getElem? (i := 507) (by decide +kernel), List.mem_of_getElem? (i := 508) (by decide +kernel)⟩
theorem lw_p13 : lw_okq (⟨"GriefGlue$Reader", "wantNumber", "(II)V"⟩, 8) := ⟨⟨by decide +kernel, by decide +kernel⟩, List.mem_of_getElem? (i := 116) (by decide +kernel), List.mem_of_getElem? (i := 511) (by decide +kernel), List.mem_of_getElem? (i := 512) (by decide +kernel)⟩
theorem lw_p14 : lw_okq (⟨"GriefGlue$Reader", "readStop", "()V"⟩, 8) := ⟨⟨by decide +kernel, by decide +kernel⟩, List.mem_of_getElem? (i := 116) (by decide +kernel), List.mem_of_getElem? (i := 516) (by decide +kernel), List.mem_of_getElem? (i := 517) (by decide +kernel)⟩
theorem lw_p15 : lw_okq (⟨"GriefGlue$Reader", "wantStop", "()V"⟩, 8) := ⟨⟨by decide +kernel, by decide +kernel⟩, List.mem_of_getElem? (i := 116) (by decide +kernel), List.mem_of_getElem? (i := 520) (by decide +kernel), List.mem_of_getElem? (i := 521) (by decide +kernel)⟩
def lw_privs_1 : List (MethodName × Nat) := [(⟨"GriefGlue", "refuseBad", "()I"⟩, 11), (⟨"GriefGlue", "refuseFull", "()I"⟩, 11), (⟨"GriefGlue$Shop", "renewGriefs", "(I)V"⟩, 10), (⟨"GriefGlue$Shop", "isFeastOf", "(III)Z"⟩, 10), (⟨"GriefGlue", "refuseNo", "()I"⟩, 11), (⟨"GriefGlue$Reader", "nextToken", "()V"⟩, 8), (⟨"GriefGlue$Reader", "readLetters", "()V"⟩, 8), (⟨"GriefGlue$Reader", "readFigures", "()V"⟩, 8), (⟨"GriefGlue$Reader", "isWord", "(Ljava/lang/String;)Z"⟩, 8), (⟨"GriefGlue$Reader", "readMourner", "()V"⟩, 8), (⟨"GriefGlue$Reader", "wantRoom", "(LGriefGlue$Ledger;)V"⟩, 8), (⟨"GriefGlue$Reader", "blame", "()V"⟩, 8), (⟨"GriefGlue$Reader", "readNumber", "(II)I"⟩, 8), (⟨"GriefGlue$Reader", "wantNumber", "(II)V"⟩, 8), (⟨"GriefGlue$Reader", "readStop", "()V"⟩, 8), (⟨"GriefGlue$Reader", "wantStop", "()V"⟩, 8)]
theorem lw_r1 : ∀ q ∈ lw_privs_1, lw_okq q := List.forall_mem_cons.mpr ⟨lw_p0, List.forall_mem_cons.mpr ⟨lw_p1, List.forall_mem_cons.mpr ⟨lw_p2, List.forall_mem_cons.mpr ⟨lw_p3, List.forall_mem_cons.mpr ⟨lw_p4, List.forall_mem_cons.mpr ⟨lw_p5, List.forall_mem_cons.mpr ⟨lw_p6, List.forall_mem_cons.mpr ⟨lw_p7, List.forall_mem_cons.mpr ⟨lw_p8, List.forall_mem_cons.mpr ⟨lw_p9, List.forall_mem_cons.mpr ⟨lw_p10, List.forall_mem_cons.mpr ⟨lw_p11, List.forall_mem_cons.mpr ⟨lw_p12, List.forall_mem_cons.mpr ⟨lw_p13, List.forall_mem_cons.mpr ⟨lw_p14, List.forall_mem_cons.mpr ⟨lw_p15, fun _ h => absurd h List.not_mem_nil⟩⟩⟩⟩⟩⟩⟩⟩⟩⟩⟩⟩⟩⟩⟩⟩
theorem lw_p16 : lw_okq (⟨"GriefGlue$Reader", "readJoint", "()V"⟩, 8) := ⟨⟨by decide +kernel, by decide +kernel⟩, List.mem_of_getElem? (i := 116) (by decide +kernel), List.mem_of_getElem? (i := 526) (by decide +kernel), List.mem_of_getElem? (i := 527) (by decide +kernel)⟩
theorem lw_p17 : lw_okq (⟨"GriefGlue$Reader", "readPiece", "()V"⟩, 8) := ⟨⟨by decide +kernel, by decide +kernel⟩, List.mem_of_getElem? (i := 116) (by decide +kernel), List.mem_of_getElem? (i := 531) (by decide +kernel), List.mem_of_getElem? (i := 532) (by decide +kernel)⟩
theorem lw_p18 : lw_okq (⟨"GriefGlue$Reader", "readFeast", "(I)V"⟩, 8) := ⟨⟨by decide +kernel, by decide +kernel⟩, List.mem_of_getElem? (i := 116) (by decide +kernel), List.mem_of_getElem? (i := 537) (by decide +kernel), List.mem_of_getElem? (i := 538) (by decide +kernel)⟩
theorem lw_p19 : lw_okq (⟨"GriefGlue$Reader", "readDay", "()V"⟩, 8) := ⟨⟨by decide +kernel, by decide +kernel⟩, List.mem_of_getElem? (i := 116) (by decide +kernel), List.mem_of_getElem? (i := 543) (by decide +kernel), List.mem_of_getElem? (i := 544) (by decide +kernel)⟩
theorem lw_p20 : lw_okq (⟨"GriefGlue$Reader", "readBoil", "()V"⟩, 8) := ⟨⟨by decide +kernel, by decide +kernel⟩, List.mem_of_getElem? (i := 116) (by decide +kernel), List.mem_of_getElem? (i := 548) (by decide +kernel), List.mem_of_getElem? (i := 549) (by decide +kernel)⟩
theorem lw_p21 : lw_okq (⟨"GriefGlue$Hiring", "lookForNeeds", "(LGriefGlue$Shop;)V"⟩, 4) := ⟨⟨by decide +kernel, by decide +kernel⟩, List.mem_of_getElem? (i := 153) (by decide +kernel), List.mem_of_getElem? (i := 606) (by decide +kernel), List.mem_of_getElem? (i := 607) (by decide +kernel)⟩
theorem lw_p22 : lw_okq (⟨"GriefGlue$Hiring", "fitsOf", "(LGriefGlue$Shop;I)J"⟩, 4) := ⟨⟨by decide +kernel, by decide +kernel⟩, List.mem_of_getElem? (i := 153) (by decide +kernel), List.mem_of_getElem? (i := 614) (by decide +kernel), List.mem_of_getElem? (i := 615) (by decide +kernel)⟩
theorem lw_p23 : lw_okq (⟨"GriefGlue$Hiring", "isEnough", "(I)Z"⟩, 4) := ⟨⟨by decide +kernel, by decide +kernel⟩, List.mem_of_getElem? (i := 153) (by decide +kernel), List.mem_of_getElem? (i := 634) (by decide +kernel), List.mem_of_getElem? (i := 635) (by decide +kernel)⟩
theorem lw_p24 : lw_okq (⟨"GriefGlue$Outlook", "weepADay", "(I)V"⟩, 6) := ⟨⟨by decide +kernel, by decide +kernel⟩, List.mem_of_getElem? (i := 173) (by decide +kernel), List.mem_of_getElem? (i := 673) (by decide +kernel), List.mem_of_getElem? (i := 674) (by decide +kernel)⟩
theorem lw_p25 : lw_okq (⟨"GriefGlue$Outlook", "isByFacts", "(LGriefGlue$Ledger;II)Z"⟩, 6) := ⟨⟨by decide +kernel, by decide +kernel⟩, List.mem_of_getElem? (i := 173) (by decide +kernel), List.mem_of_getElem? (i := 695) (by decide +kernel), List.mem_of_getElem? (i := 696) (by decide +kernel)⟩
theorem lw_p26 : lw_okq (⟨"GriefGlue$Outlook", "weddingADay", "(I)V"⟩, 6) := ⟨⟨by decide +kernel, by decide +kernel⟩, List.mem_of_getElem? (i := 173) (by decide +kernel), List.mem_of_getElem? (i := 713) (by decide +kernel), List.mem_of_getElem? (i := 714) (by decide +kernel)⟩
theorem lw_p27 : lw_okq (⟨"GriefGlue$Outlook", "griefsWithout", "(LGriefGlue$Shop;II)[I"⟩, 6) := ⟨⟨by decide +kernel, by decide +kernel⟩, List.mem_of_getElem? (i := 173) (by decide +kernel), List.mem_of_getElem? (i := 736) (by decide +kernel), List.mem_of_getElem? (i := 737) (by decide +kernel)⟩
theorem lw_p28 : lw_okq (⟨"GriefGlue", "countOf", "(I)I"⟩, 11) := ⟨⟨by decide +kernel, by decide +kernel⟩, List.mem_of_getElem? (i := 18) (by decide +kernel), List.mem_of_getElem? (i := 763) (by decide +kernel), List.mem_of_getElem? (i := 764) (by decide +kernel)⟩
theorem lw_p29 : lw_okq (⟨"GriefGlueModel", "bad", "()I"⟩, 23) := ⟨⟨by decide +kernel, by decide +kernel⟩, List.mem_of_getElem? (i := 783) (by decide +kernel), List.mem_of_getElem? (i := 866) (by decide +kernel), List.mem_of_getElem? (i := 867) (by decide +kernel)⟩
theorem lw_p30 : lw_okq (⟨"GriefGlueModel", "get", "(I)I"⟩, 23) := ⟨⟨by decide +kernel, by decide +kernel⟩, List.mem_of_getElem? (i := 783) (by decide +kernel), List.mem_of_getElem? (i := 870) (by decide +kernel), List.mem_of_getElem? (i := 871) (by decide +kernel)⟩
theorem lw_p31 : lw_okq (⟨"GriefGlueModel", "full", "()I"⟩, 23) := ⟨⟨by decide +kernel, by decide +kernel⟩, List.mem_of_getElem? (i := 783) (by decide +kernel), List.mem_of_getElem? (i := 874) (by decide +kernel), List.mem_of_getElem? (i := 875) (by decide +kernel)⟩
def lw_privs_2 : List (MethodName × Nat) := [(⟨"GriefGlue$Reader", "readJoint", "()V"⟩, 8), (⟨"GriefGlue$Reader", "readPiece", "()V"⟩, 8), (⟨"GriefGlue$Reader", "readFeast", "(I)V"⟩, 8), (⟨"GriefGlue$Reader", "readDay", "()V"⟩, 8), (⟨"GriefGlue$Reader", "readBoil", "()V"⟩, 8), (⟨"GriefGlue$Hiring", "lookForNeeds", "(LGriefGlue$Shop;)V"⟩, 4), (⟨"GriefGlue$Hiring", "fitsOf", "(LGriefGlue$Shop;I)J"⟩, 4), (⟨"GriefGlue$Hiring", "isEnough", "(I)Z"⟩, 4), (⟨"GriefGlue$Outlook", "weepADay", "(I)V"⟩, 6), (⟨"GriefGlue$Outlook", "isByFacts", "(LGriefGlue$Ledger;II)Z"⟩, 6), (⟨"GriefGlue$Outlook", "weddingADay", "(I)V"⟩, 6), (⟨"GriefGlue$Outlook", "griefsWithout", "(LGriefGlue$Shop;II)[I"⟩, 6), (⟨"GriefGlue", "countOf", "(I)I"⟩, 11), (⟨"GriefGlueModel", "bad", "()I"⟩, 23), (⟨"GriefGlueModel", "get", "(I)I"⟩, 23), (⟨"GriefGlueModel", "full", "()I"⟩, 23)]
theorem lw_r2 : ∀ q ∈ lw_privs_2, lw_okq q := List.forall_mem_cons.mpr ⟨lw_p16, List.forall_mem_cons.mpr ⟨lw_p17, List.forall_mem_cons.mpr ⟨lw_p18, List.forall_mem_cons.mpr ⟨lw_p19, List.forall_mem_cons.mpr ⟨lw_p20, List.forall_mem_cons.mpr ⟨lw_p21, List.forall_mem_cons.mpr ⟨lw_p22, List.forall_mem_cons.mpr ⟨lw_p23, List.forall_mem_cons.mpr ⟨lw_p24, List.forall_mem_cons.mpr ⟨lw_p25, List.forall_mem_cons.mpr ⟨lw_p26, List.forall_mem_cons.mpr ⟨lw_p27, List.forall_mem_cons.mpr ⟨lw_p28, List.forall_mem_cons.mpr ⟨lw_p29, List.forall_mem_cons.mpr ⟨lw_p30, List.forall_mem_cons.mpr ⟨lw_p31, fun _ h => absurd h List.not_mem_nil⟩⟩⟩⟩⟩⟩⟩⟩⟩⟩⟩⟩⟩⟩⟩⟩
theorem lw_p32 : lw_okq (⟨"GriefGlueModel", "addMourner", "(III)V"⟩, 23) := ⟨⟨by decide +kernel, by decide +kernel⟩, List.mem_of_getElem? (i := 783) (by decide +kernel), List.mem_of_getElem? (i := 878) (by decide +kernel), List.mem_of_getElem? (i := 879) (by decide +kernel)⟩
theorem lw_p33 : lw_okq (⟨"GriefGlueModel", "set", "(II)V"⟩, 23) := ⟨⟨by decide +kernel, by decide +kernel⟩, List.mem_of_getElem? (i := 783) (by decide +kernel), List.mem_of_getElem? (i := 882) (by decide +kernel), List.mem_of_getElem? (i := 883) (by decide +kernel)⟩
theorem lw_p34 : lw_okq (⟨"GriefGlueModel", "addJoint", "(I)V"⟩, 23) := ⟨⟨by decide +kernel, by decide +kernel⟩, List.mem_of_getElem? (i := 783) (by decide +kernel), List.mem_of_getElem? (i := 890) (by decide +kernel), List.mem_of_getElem? (i := 891) (by decide +kernel)⟩
theorem lw_p35 : lw_okq (⟨"GriefGlueModel", "isSet", "(I)Z"⟩, 23) := ⟨⟨by decide +kernel, by decide +kernel⟩, List.mem_of_getElem? (i := 783) (by decide +kernel), List.mem_of_getElem? (i := 898) (by decide +kernel), List.mem_of_getElem? (i := 899) (by decide +kernel)⟩
theorem lw_p36 : lw_okq (⟨"GriefGlueModel", "addPiece", "(II)V"⟩, 23) := ⟨⟨by decide +kernel, by decide +kernel⟩, List.mem_of_getElem? (i := 783) (by decide +kernel), List.mem_of_getElem? (i := 902) (by decide +kernel), List.mem_of_getElem? (i := 903) (by decide +kernel)⟩
theorem lw_p37 : lw_okq (⟨"GriefGlueModel", "isMourner", "(I)Z"⟩, 23) := ⟨⟨by decide +kernel, by decide +kernel⟩, List.mem_of_getElem? (i := 783) (by decide +kernel), List.mem_of_getElem? (i := 910) (by decide +kernel), List.mem_of_getElem? (i := 911) (by decide +kernel)⟩
theorem lw_p38 : lw_okq (⟨"GriefGlueModel", "addFeast", "(III)V"⟩, 23) := ⟨⟨by decide +kernel, by decide +kernel⟩, List.mem_of_getElem? (i := 783) (by decide +kernel), List.mem_of_getElem? (i := 914) (by decide +kernel), List.mem_of_getElem? (i := 915) (by decide +kernel)⟩
theorem lw_p39 : lw_okq (⟨"GriefGlueModel", "no", "()I"⟩, 23) := ⟨⟨by decide +kernel, by decide +kernel⟩, List.mem_of_getElem? (i := 783) (by decide +kernel), List.mem_of_getElem? (i := 922) (by decide +kernel), List.mem_of_getElem? (i := 923) (by decide +kernel)⟩
theorem lw_p40 : lw_okq (⟨"GriefGlueModel", "isJoint", "(I)Z"⟩, 23) := ⟨⟨by decide +kernel, by decide +kernel⟩, List.mem_of_getElem? (i := 783) (by decide +kernel), List.mem_of_getElem? (i := 934) (by decide +kernel), List.mem_of_getElem? (i := 935) (by decide +kernel)⟩
theorem lw_p41 : lw_okq (⟨"GriefGlueModel", "know", "()V"⟩, 23) := ⟨⟨by decide +kernel, by decide +kernel⟩, List.mem_of_getElem? (i := 783) (by decide +kernel), List.mem_of_getElem? (i := 938) (by decide +kernel), List.mem_of_getElem? (i := 939) (by decide +kernel)⟩
theorem lw_p42 : lw_okq (⟨"GriefGlueModel", "boiled", "(III)V"⟩, 23) := ⟨⟨by decide +kernel, by decide +kernel⟩, List.mem_of_getElem? (i := 783) (by decide +kernel), List.mem_of_getElem? (i := 942) (by decide +kernel), List.mem_of_getElem? (i := 943) (by decide +kernel)⟩
theorem lw_p43 : lw_okq (⟨"GriefGlueModel", "opensOn", "(I)I"⟩, 23) := ⟨⟨by decide +kernel, by decide +kernel⟩, List.mem_of_getElem? (i := 783) (by decide +kernel), List.mem_of_getElem? (i := 946) (by decide +kernel), List.mem_of_getElem? (i := 947) (by decide +kernel)⟩
theorem lw_p44 : lw_okq (⟨"GriefGlueModel", "findGriefs", "(I)V"⟩, 23) := ⟨⟨by decide +kernel, by decide +kernel⟩, List.mem_of_getElem? (i := 783) (by decide +kernel), List.mem_of_getElem? (i := 950) (by decide +kernel), List.mem_of_getElem? (i := 951) (by decide +kernel)⟩
theorem lw_p45 : lw_okq (⟨"GriefGlueModel", "onDay", "(III)I"⟩, 23) := ⟨⟨by decide +kernel, by decide +kernel⟩, List.mem_of_getElem? (i := 783) (by decide +kernel), List.mem_of_getElem? (i := 954) (by decide +kernel), List.mem_of_getElem? (i := 955) (by decide +kernel)⟩
theorem lw_p46 : lw_okq (⟨"GriefGlueModel", "opensBy", "(I)I"⟩, 23) := ⟨⟨by decide +kernel, by decide +kernel⟩, List.mem_of_getElem? (i := 783) (by decide +kernel), List.mem_of_getElem? (i := 970) (by decide +kernel), List.mem_of_getElem? (i := 971) (by decide +kernel)⟩
theorem lw_p47 : lw_okq (⟨"GriefGlueModel", "strength", "(III)I"⟩, 23) := ⟨⟨by decide +kernel, by decide +kernel⟩, List.mem_of_getElem? (i := 783) (by decide +kernel), List.mem_of_getElem? (i := 974) (by decide +kernel), List.mem_of_getElem? (i := 975) (by decide +kernel)⟩
def lw_privs_3 : List (MethodName × Nat) := [(⟨"GriefGlueModel", "addMourner", "(III)V"⟩, 23), (⟨"GriefGlueModel", "set", "(II)V"⟩, 23), (⟨"GriefGlueModel", "addJoint", "(I)V"⟩, 23), (⟨"GriefGlueModel", "isSet", "(I)Z"⟩, 23), (⟨"GriefGlueModel", "addPiece", "(II)V"⟩, 23), (⟨"GriefGlueModel", "isMourner", "(I)Z"⟩, 23), (⟨"GriefGlueModel", "addFeast", "(III)V"⟩, 23), (⟨"GriefGlueModel", "no", "()I"⟩, 23), (⟨"GriefGlueModel", "isJoint", "(I)Z"⟩, 23), (⟨"GriefGlueModel", "know", "()V"⟩, 23), (⟨"GriefGlueModel", "boiled", "(III)V"⟩, 23), (⟨"GriefGlueModel", "opensOn", "(I)I"⟩, 23), (⟨"GriefGlueModel", "findGriefs", "(I)V"⟩, 23), (⟨"GriefGlueModel", "onDay", "(III)I"⟩, 23), (⟨"GriefGlueModel", "opensBy", "(I)I"⟩, 23), (⟨"GriefGlueModel", "strength", "(III)I"⟩, 23)]
theorem lw_r3 : ∀ q ∈ lw_privs_3, lw_okq q := List.forall_mem_cons.mpr ⟨lw_p32, List.forall_mem_cons.mpr ⟨lw_p33, List.forall_mem_cons.mpr ⟨lw_p34, List.forall_mem_cons.mpr ⟨lw_p35, List.forall_mem_cons.mpr ⟨lw_p36, List.forall_mem_cons.mpr ⟨lw_p37, List.forall_mem_cons.mpr ⟨lw_p38, List.forall_mem_cons.mpr ⟨lw_p39, List.forall_mem_cons.mpr ⟨lw_p40, List.forall_mem_cons.mpr ⟨lw_p41, List.forall_mem_cons.mpr ⟨lw_p42, List.forall_mem_cons.mpr ⟨lw_p43, List.forall_mem_cons.mpr ⟨lw_p44, List.forall_mem_cons.mpr ⟨lw_p45, List.forall_mem_cons.mpr ⟨lw_p46, List.forall_mem_cons.mpr ⟨lw_p47, fun _ h => absurd h List.not_mem_nil⟩⟩⟩⟩⟩⟩⟩⟩⟩⟩⟩⟩⟩⟩⟩⟩
theorem lw_p48 : lw_okq (⟨"GriefGlueModel", "openNow", "()I"⟩, 23) := ⟨⟨by decide +kernel, by decide +kernel⟩, List.mem_of_getElem? (i := 783) (by decide +kernel), List.mem_of_getElem? (i := 982) (by decide +kernel), List.mem_of_getElem? (i := 983) (by decide +kernel)⟩
theorem lw_p49 : lw_okq (⟨"GriefGlueModel", "isBoiled", "(I)Z"⟩, 23) := ⟨⟨by decide +kernel, by decide +kernel⟩, List.mem_of_getElem? (i := 783) (by decide +kernel), List.mem_of_getElem? (i := 986) (by decide +kernel), List.mem_of_getElem? (i := 987) (by decide +kernel)⟩
theorem lw_p50 : lw_okq (⟨"GriefGlueModel", "next", "()V"⟩, 23) := ⟨⟨by decide +kernel, by decide +kernel⟩, List.mem_of_getElem? (i := 783) (by decide +kernel), List.mem_of_getElem? (i := 1003) (by decide +kernel), List.mem_of_getElem? (i := 1004) (by decide +kernel)⟩
theorem lw_p51 : lw_okq (⟨"GriefGlueModel", "here", "()I"⟩, 23) := ⟨⟨by decide +kernel, by decide +kernel⟩, List.mem_of_getElem? (i := 783) (by decide +kernel), List.mem_of_getElem? (i := 1007) (by decide +kernel), List.mem_of_getElem? (i := 1008) (by decide +kernel)⟩
theorem lw_p52 : lw_okq (⟨"GriefGlueModel", "readItem", "()V"⟩, 23) := ⟨⟨by decide +kernel, by decide +kernel⟩, List.mem_of_getElem? (i := 783) (by decide +kernel), List.mem_of_getElem? (i := 1016) (by decide +kernel), List.mem_of_getElem? (i := 1017) (by decide +kernel)⟩
theorem lw_p53 : lw_okq (⟨"GriefGlueModel", "mayBe", "(I)Z"⟩, 23) := ⟨⟨by decide +kernel, by decide +kernel⟩, List.mem_of_getElem? (i := 783) (by decide +kernel), List.mem_of_getElem? (i := 1020) (by decide +kernel), List.mem_of_getElem? (i := 1021) (by decide +kernel)⟩
theorem lw_p54 : lw_okq (⟨"GriefGlueModel", "due", "(Z)I"⟩, 23) := ⟨⟨by decide +kernel, by decide +kernel⟩, List.mem_of_getElem? (i := 783) (by decide +kernel), List.mem_of_getElem? (i := 1024) (by decide +kernel), List.mem_of_getElem? (i := 1025) (by decide +kernel)⟩
theorem lw_p55 : lw_okq (⟨"GriefGlueModel", "isNumber", "(II)Z"⟩, 23) := ⟨⟨by decide +kernel, by decide +kernel⟩, List.mem_of_getElem? (i := 783) (by decide +kernel), List.mem_of_getElem? (i := 1028) (by decide +kernel), List.mem_of_getElem? (i := 1029) (by decide +kernel)⟩
theorem lw_p56 : lw_okq (⟨"GriefGlueModel", "readBoil", "()V"⟩, 23) := ⟨⟨by decide +kernel, by decide +kernel⟩, List.mem_of_getElem? (i := 783) (by decide +kernel), List.mem_of_getElem? (i := 1032) (by decide +kernel), List.mem_of_getElem? (i := 1033) (by decide +kernel)⟩
theorem lw_p57 : lw_okq (⟨"GriefGlueModel", "readRow", "(I)V"⟩, 23) := ⟨⟨by decide +kernel, by decide +kernel⟩, List.mem_of_getElem? (i := 783) (by decide +kernel), List.mem_of_getElem? (i := 1036) (by decide +kernel), List.mem_of_getElem? (i := 1037) (by decide +kernel)⟩
theorem lw_p58 : lw_okq (⟨"GriefGlueModel", "copy", "(II)V"⟩, 23) := ⟨⟨by decide +kernel, by decide +kernel⟩, List.mem_of_getElem? (i := 783) (by decide +kernel), List.mem_of_getElem? (i := 1040) (by decide +kernel), List.mem_of_getElem? (i := 1041) (by decide +kernel)⟩
theorem lw_p59 : lw_okq (⟨"GriefGlueModel", "isLasting", "(I)Z"⟩, 23) := ⟨⟨by decide +kernel, by decide +kernel⟩, List.mem_of_getElem? (i := 783) (by decide +kernel), List.mem_of_getElem? (i := 1056) (by decide +kernel), List.mem_of_getElem? (i := 1057) (by decide +kernel)⟩
theorem lw_p60 : lw_okq (⟨"GriefGlueModel", "findNeeds", "()V"⟩, 23) := ⟨⟨by decide +kernel, by decide +kernel⟩, List.mem_of_getElem? (i := 783) (by decide +kernel), List.mem_of_getElem? (i := 1068) (by decide +kernel), List.mem_of_getElem? (i := 1069) (by decide +kernel)⟩
theorem lw_p61 : lw_okq (⟨"GriefGlueModel", "hired", "(I)I"⟩, 23) := ⟨⟨by decide +kernel, by decide +kernel⟩, List.mem_of_getElem? (i := 783) (by decide +kernel), List.mem_of_getElem? (i := 1072) (by decide +kernel), List.mem_of_getElem? (i := 1073) (by decide +kernel)⟩
theorem lw_p62 : lw_okq (⟨"GriefGlueModel", "priceOf", "(I)I"⟩, 23) := ⟨⟨by decide +kernel, by decide +kernel⟩, List.mem_of_getElem? (i := 783) (by decide +kernel), List.mem_of_getElem? (i := 1076) (by decide +kernel), List.mem_of_getElem? (i := 1077) (by decide +kernel)⟩
theorem lw_p63 : lw_okq (⟨"GriefGlueModel", "whoOf", "(II)I"⟩, 23) := ⟨⟨by decide +kernel, by decide +kernel⟩, List.mem_of_getElem? (i := 783) (by decide +kernel), List.mem_of_getElem? (i := 1080) (by decide +kernel), List.mem_of_getElem? (i := 1081) (by decide +kernel)⟩
def lw_privs_4 : List (MethodName × Nat) := [(⟨"GriefGlueModel", "openNow", "()I"⟩, 23), (⟨"GriefGlueModel", "isBoiled", "(I)Z"⟩, 23), (⟨"GriefGlueModel", "next", "()V"⟩, 23), (⟨"GriefGlueModel", "here", "()I"⟩, 23), (⟨"GriefGlueModel", "readItem", "()V"⟩, 23), (⟨"GriefGlueModel", "mayBe", "(I)Z"⟩, 23), (⟨"GriefGlueModel", "due", "(Z)I"⟩, 23), (⟨"GriefGlueModel", "isNumber", "(II)Z"⟩, 23), (⟨"GriefGlueModel", "readBoil", "()V"⟩, 23), (⟨"GriefGlueModel", "readRow", "(I)V"⟩, 23), (⟨"GriefGlueModel", "copy", "(II)V"⟩, 23), (⟨"GriefGlueModel", "isLasting", "(I)Z"⟩, 23), (⟨"GriefGlueModel", "findNeeds", "()V"⟩, 23), (⟨"GriefGlueModel", "hired", "(I)I"⟩, 23), (⟨"GriefGlueModel", "priceOf", "(I)I"⟩, 23), (⟨"GriefGlueModel", "whoOf", "(II)I"⟩, 23)]
theorem lw_r4 : ∀ q ∈ lw_privs_4, lw_okq q := List.forall_mem_cons.mpr ⟨lw_p48, List.forall_mem_cons.mpr ⟨lw_p49, List.forall_mem_cons.mpr ⟨lw_p50, List.forall_mem_cons.mpr ⟨lw_p51, List.forall_mem_cons.mpr ⟨lw_p52, List.forall_mem_cons.mpr ⟨lw_p53, List.forall_mem_cons.mpr ⟨lw_p54, List.forall_mem_cons.mpr ⟨lw_p55, List.forall_mem_cons.mpr ⟨lw_p56, List.forall_mem_cons.mpr ⟨lw_p57, List.forall_mem_cons.mpr ⟨lw_p58, List.forall_mem_cons.mpr ⟨lw_p59, List.forall_mem_cons.mpr ⟨lw_p60, List.forall_mem_cons.mpr ⟨lw_p61, List.forall_mem_cons.mpr ⟨lw_p62, List.forall_mem_cons.mpr ⟨lw_p63, fun _ h => absurd h List.not_mem_nil⟩⟩⟩⟩⟩⟩⟩⟩⟩⟩⟩⟩⟩⟩⟩⟩
theorem lw_p64 : lw_okq (⟨"GriefGlueModel", "wouldHold", "(III)Z"⟩, 23) := ⟨⟨by decide +kernel, by decide +kernel⟩, List.mem_of_getElem? (i := 783) (by decide +kernel), List.mem_of_getElem? (i := 1084) (by decide +kernel), List.mem_of_getElem? (i := 1085) (by decide +kernel)⟩
theorem lw_p65 : lw_okq (⟨"GriefGlueModel", "isLikely", "(II)Z"⟩, 23) := ⟨⟨by decide +kernel, by decide +kernel⟩, List.mem_of_getElem? (i := 783) (by decide +kernel), List.mem_of_getElem? (i := 1112) (by decide +kernel), List.mem_of_getElem? (i := 1113) (by decide +kernel)⟩
theorem lw_p66 : lw_okq (⟨"GriefGlueModel", "digestRow", "(II)V"⟩, 23) := ⟨⟨by decide +kernel, by decide +kernel⟩, List.mem_of_getElem? (i := 783) (by decide +kernel), List.mem_of_getElem? (i := 1150) (by decide +kernel), List.mem_of_getElem? (i := 1151) (by decide +kernel)⟩
def lw_privs_5 : List (MethodName × Nat) := [(⟨"GriefGlueModel", "wouldHold", "(III)Z"⟩, 23), (⟨"GriefGlueModel", "isLikely", "(II)Z"⟩, 23), (⟨"GriefGlueModel", "digestRow", "(II)V"⟩, 23)]
theorem lw_r5 : ∀ q ∈ lw_privs_5, lw_okq q := List.forall_mem_cons.mpr ⟨lw_p64, List.forall_mem_cons.mpr ⟨lw_p65, List.forall_mem_cons.mpr ⟨lw_p66, fun _ h => absurd h List.not_mem_nil⟩⟩⟩
def lw_privs : List (MethodName × Nat) := lw_privs_1 ++ (lw_privs_2 ++ (lw_privs_3 ++ (lw_privs_4 ++ (lw_privs_5))))
def lw_tbl : List Cond := k2_sels lw_privs ++ tables_1
theorem lw_privs_ok : ∀ q ∈ lw_privs, lw_okq q := by
  show ∀ q ∈ lw_privs_1 ++ (lw_privs_2 ++ (lw_privs_3 ++ (lw_privs_4 ++ (lw_privs_5)))), lw_okq q
  exact List.forall_mem_append.mpr ⟨lw_r1, List.forall_mem_append.mpr ⟨lw_r2, List.forall_mem_append.mpr ⟨lw_r3, List.forall_mem_append.mpr ⟨lw_r4, lw_r5⟩⟩⟩⟩
end
section
def RHI : String := "GriefGlue$Hiring"
def RLE : String := "GriefGlue$Ledger"
def ROU : String := "GriefGlue$Outlook"
def RRE : String := "GriefGlue$Reader"
def RSH : String := "GriefGlue$Shop"
def RGG : String := "GriefGlue"
def RMO : String := "GriefGlueModel"
def RKI : String := "GriefGlue$Kinds"
def RLA : String := "GriefGlueLaw"
def RAR : String := "java/util/Arrays"
def RIN : String := "java/lang/Integer"
def RMA : String := "java/lang/Math"
def RST : String := "java/lang/String"
def RSL : String := "java/lang/StringLatin1"
def RSU : String := "java/lang/StringUTF16"
def RSY : String := "java/lang/System"
def RPR : String := "jdk/internal/util/Preconditions"
def THI : u_T := fun k => match k with
  | 0 => ("GriefGlue$Hiring", "tills", "[I", true)
  | 1 => ("GriefGlue$Hiring", "fits", "[J", true)
  | 2 => ("GriefGlue$Hiring", "prices", "[I", true)
  | _ => ("GriefGlue$Hiring", "mourners", "I", false)
def GHI : Nat → FieldType := fun k => match k with
  | 0 => .array .int
  | 1 => .array .long
  | 2 => .array .int
  | _ => .int
theorem nm_HI : ∀ a, a < 4 → ∀ b, b < 4 → a ≠ b → (THI a).2.1 ≠ (THI b).2.1 := by decide +kernel
theorem ty_HI : ∀ k, k < 4 → parseFieldDescriptor (THI k).2.2.1 = some (GHI k) := by decide +kernel
theorem iw_HI : ∀ w ∈ u_ws RHI THI 4, w ∈ lw_tbl := by decide +kernel
def TLE : u_T := fun k => match k with
  | 0 => ("GriefGlue$Ledger", "limit", "I", true)
  | 1 => ("GriefGlue$Ledger", "width", "I", true)
  | 2 => ("GriefGlue$Ledger", "cells", "[I", true)
  | _ => ("GriefGlue$Ledger", "size", "I", false)
def GLE : Nat → FieldType := fun k => match k with
  | 0 => .int
  | 1 => .int
  | 2 => .array .int
  | _ => .int
theorem nm_LE : ∀ a, a < 4 → ∀ b, b < 4 → a ≠ b → (TLE a).2.1 ≠ (TLE b).2.1 := by decide +kernel
theorem ty_LE : ∀ k, k < 4 → parseFieldDescriptor (TLE k).2.2.1 = some (GLE k) := by decide +kernel
theorem iw_LE : ∀ w ∈ u_ws RLE TLE 4, w ∈ lw_tbl := by decide +kernel
def TOU : u_T := fun k => match k with
  | 0 => ("GriefGlue$Outlook", "row", "[I", true)
  | 1 => ("GriefGlue$Outlook", "next", "[I", true)
  | 2 => ("GriefGlue$Outlook", "onions", "[I", true)
  | 3 => ("GriefGlue$Outlook", "onionsThen", "[I", true)
  | 4 => ("GriefGlue$Outlook", "chances", "[J", true)
  | _ => ("GriefGlue$Outlook", "chancesThen", "[J", true)
def GOU : Nat → FieldType := fun k => match k with
  | 0 => .array .int
  | 1 => .array .int
  | 2 => .array .int
  | 3 => .array .int
  | 4 => .array .long
  | _ => .array .long
theorem nm_OU : ∀ a, a < 6 → ∀ b, b < 6 → a ≠ b → (TOU a).2.1 ≠ (TOU b).2.1 := by decide +kernel
theorem ty_OU : ∀ k, k < 6 → parseFieldDescriptor (TOU k).2.2.1 = some (GOU k) := by decide +kernel
theorem iw_OU : ∀ w ∈ u_ws ROU TOU 6, w ∈ lw_tbl := by decide +kernel
def TRE : u_T := fun k => match k with
  | 0 => ("GriefGlue$Reader", "text", "[I", true)
  | 1 => ("GriefGlue$Reader", "length", "I", false)
  | 2 => ("GriefGlue$Reader", "place", "I", false)
  | 3 => ("GriefGlue$Reader", "fault", "I", false)
  | 4 => ("GriefGlue$Reader", "shop", "LGriefGlue$Shop;", true)
  | 5 => ("GriefGlue$Reader", "sort", "I", false)
  | 6 => ("GriefGlue$Reader", "start", "I", false)
  | _ => ("GriefGlue$Reader", "value", "I", false)
def GRE : Nat → FieldType := fun k => match k with
  | 0 => .array .int
  | 1 => .int
  | 2 => .int
  | 3 => .int
  | 4 => .object "GriefGlue$Shop"
  | 5 => .int
  | 6 => .int
  | _ => .int
theorem nm_RE : ∀ a, a < 8 → ∀ b, b < 8 → a ≠ b → (TRE a).2.1 ≠ (TRE b).2.1 := by decide +kernel
theorem ty_RE : ∀ k, k < 8 → parseFieldDescriptor (TRE k).2.2.1 = some (GRE k) := by decide +kernel
theorem iw_RE : ∀ w ∈ u_ws RRE TRE 8, w ∈ lw_tbl := by decide +kernel
def TSH : u_T := fun k => match k with
  | 0 => ("GriefGlue$Shop", "mourners", "LGriefGlue$Ledger;", true)
  | 1 => ("GriefGlue$Shop", "joints", "LGriefGlue$Ledger;", true)
  | 2 => ("GriefGlue$Shop", "pieces", "LGriefGlue$Ledger;", true)
  | 3 => ("GriefGlue$Shop", "feasts", "LGriefGlue$Ledger;", true)
  | 4 => ("GriefGlue$Shop", "facts", "LGriefGlue$Ledger;", true)
  | 5 => ("GriefGlue$Shop", "griefs", "[[I", true)
  | 6 => ("GriefGlue$Shop", "boils", "[I", true)
  | 7 => ("GriefGlue$Shop", "past", "[I", true)
  | 8 => ("GriefGlue$Shop", "pasts", "I", false)
  | _ => ("GriefGlue$Shop", "day", "I", false)
def GSH : Nat → FieldType := fun k => match k with
  | 0 => .object "GriefGlue$Ledger"
  | 1 => .object "GriefGlue$Ledger"
  | 2 => .object "GriefGlue$Ledger"
  | 3 => .object "GriefGlue$Ledger"
  | 4 => .object "GriefGlue$Ledger"
  | 5 => .array (.array .int)
  | 6 => .array .int
  | 7 => .array .int
  | 8 => .int
  | _ => .int
theorem nm_SH : ∀ a, a < 10 → ∀ b, b < 10 → a ≠ b → (TSH a).2.1 ≠ (TSH b).2.1 := by decide +kernel
theorem ty_SH : ∀ k, k < 10 → parseFieldDescriptor (TSH k).2.2.1 = some (GSH k) := by decide +kernel
theorem iw_SH : ∀ w ∈ u_ws RSH TSH 10, w ∈ lw_tbl := by decide +kernel
def TGG : u_T := fun k => match k with
  | 0 => ("GriefGlue", "shop", "LGriefGlue$Shop;", true)
  | 1 => ("GriefGlue", "images", "[LGriefGlue$Shop;", true)
  | 2 => ("GriefGlue", "kept", "[Z", true)
  | 3 => ("GriefGlue", "reader", "LGriefGlue$Reader;", true)
  | 4 => ("GriefGlue", "hiring", "LGriefGlue$Hiring;", true)
  | 5 => ("GriefGlue", "outlook", "LGriefGlue$Outlook;", true)
  | 6 => ("GriefGlue", "above", "J", false)
  | 7 => ("GriefGlue", "below", "J", false)
  | 8 => ("GriefGlue", "bads", "I", false)
  | 9 => ("GriefGlue", "noes", "I", false)
  | _ => ("GriefGlue", "fulls", "I", false)
def GGG : Nat → FieldType := fun k => match k with
  | 0 => .object "GriefGlue$Shop"
  | 1 => .array (.object "GriefGlue$Shop")
  | 2 => .array .boolean
  | 3 => .object "GriefGlue$Reader"
  | 4 => .object "GriefGlue$Hiring"
  | 5 => .object "GriefGlue$Outlook"
  | 6 => .long
  | 7 => .long
  | 8 => .int
  | 9 => .int
  | _ => .int
theorem nm_GG : ∀ a, a < 11 → ∀ b, b < 11 → a ≠ b → (TGG a).2.1 ≠ (TGG b).2.1 := by decide +kernel
theorem ty_GG : ∀ k, k < 11 → parseFieldDescriptor (TGG k).2.2.1 = some (GGG k) := by decide +kernel
theorem iw_GG : ∀ w ∈ u_ws RGG TGG 11, w ∈ lw_tbl := by decide +kernel
def TMO : u_T := fun k => match k with
  | 0 => ("GriefGlueModel", "now", "[I", true)
  | 1 => ("GriefGlueModel", "base", "I", false)
  | 2 => ("GriefGlueModel", "isKept", "[Z", true)
  | 3 => ("GriefGlueModel", "refused", "[I", true)
  | 4 => ("GriefGlueModel", "above", "J", false)
  | 5 => ("GriefGlueModel", "below", "J", false)
  | 6 => ("GriefGlueModel", "text", "[B", true)
  | 7 => ("GriefGlueModel", "typed", "I", false)
  | 8 => ("GriefGlueModel", "at", "I", false)
  | 9 => ("GriefGlueModel", "start", "I", false)
  | 10 => ("GriefGlueModel", "sort", "I", false)
  | 11 => ("GriefGlueModel", "value", "I", false)
  | 12 => ("GriefGlueModel", "fault", "I", false)
  | 13 => ("GriefGlueModel", "without", "I", false)
  | 14 => ("GriefGlueModel", "griefs", "[I", true)
  | 15 => ("GriefGlueModel", "till", "[I", true)
  | 16 => ("GriefGlueModel", "fewest", "[I", true)
  | 17 => ("GriefGlueModel", "fewestThen", "[I", true)
  | 18 => ("GriefGlueModel", "days", "[I", true)
  | 19 => ("GriefGlueModel", "ways", "[J", true)
  | 20 => ("GriefGlueModel", "then", "[J", true)
  | 21 => ("GriefGlueModel", "opened", "[I", true)
  | _ => ("GriefGlueModel", "digested", "J", false)
def GMO : Nat → FieldType := fun k => match k with
  | 0 => .array .int
  | 1 => .int
  | 2 => .array .boolean
  | 3 => .array .int
  | 4 => .long
  | 5 => .long
  | 6 => .array .byte
  | 7 => .int
  | 8 => .int
  | 9 => .int
  | 10 => .int
  | 11 => .int
  | 12 => .int
  | 13 => .int
  | 14 => .array .int
  | 15 => .array .int
  | 16 => .array .int
  | 17 => .array .int
  | 18 => .array .int
  | 19 => .array .long
  | 20 => .array .long
  | 21 => .array .int
  | _ => .long
theorem nm_MO : ∀ a, a < 23 → ∀ b, b < 23 → a ≠ b → (TMO a).2.1 ≠ (TMO b).2.1 := by decide +kernel
theorem ty_MO : ∀ k, k < 23 → parseFieldDescriptor (TMO k).2.2.1 = some (GMO k) := by decide +kernel
theorem iw_MO : ∀ w ∈ u_ws RMO TMO 23, w ∈ lw_tbl := by decide +kernel
def vcl : List vw_C := [(RHI, THI, 4), (RLE, TLE, 4), (ROU, TOU, 6), (RRE, TRE, 8), (RSH, TSH, 10), (RGG, TGG, 11), (RMO, TMO, 23)]
theorem vcl_0 : vcl[0]? = some (RHI, THI, 4) := rfl
theorem vcl_1 : vcl[1]? = some (RLE, TLE, 4) := rfl
theorem vcl_2 : vcl[2]? = some (ROU, TOU, 6) := rfl
theorem vcl_3 : vcl[3]? = some (RRE, TRE, 8) := rfl
theorem vcl_4 : vcl[4]? = some (RSH, TSH, 10) := rfl
theorem vcl_5 : vcl[5]? = some (RGG, TGG, 11) := rfl
theorem vcl_6 : vcl[6]? = some (RMO, TMO, 23) := rfl
abbrev bb_HI_init : ByteArray := prog_2_method_1_code
def yy_HI_init : MethodName := ⟨RHI, "<init>", "()V"⟩
abbrev bb_HI_lookAt : ByteArray := prog_2_method_2_code
def yy_HI_lookAt : MethodName := ⟨RHI, "lookAt", "(LGriefGlue$Shop;)V"⟩
abbrev bb_HI_lookForNeeds : ByteArray := prog_2_method_3_code
def yy_HI_lookForNeeds : MethodName := ⟨RHI, "lookForNeeds", "(LGriefGlue$Shop;)V"⟩
abbrev bb_HI_fitsOf : ByteArray := prog_2_method_4_code
def yy_HI_fitsOf : MethodName := ⟨RHI, "fitsOf", "(LGriefGlue$Shop;I)J"⟩
abbrev bb_HI_pairBit : ByteArray := prog_2_method_5_code
def yy_HI_pairBit : MethodName := ⟨RHI, "pairBit", "(II)J"⟩
abbrev bb_HI_isNeedy : ByteArray := prog_2_method_6_code
def yy_HI_isNeedy : MethodName := ⟨RHI, "isNeedy", "(I)Z"⟩
abbrev bb_HI_priceOf : ByteArray := prog_2_method_7_code
def yy_HI_priceOf : MethodName := ⟨RHI, "priceOf", "(I)I"⟩
abbrev bb_HI_cheapest : ByteArray := prog_2_method_8_code
def yy_HI_cheapest : MethodName := ⟨RHI, "cheapest", "(I)I"⟩
abbrev bb_HI_isEnough : ByteArray := prog_2_method_9_code
def yy_HI_isEnough : MethodName := ⟨RHI, "isEnough", "(I)Z"⟩
abbrev bb_HI_boilersFor : ByteArray := prog_2_method_10_code
def yy_HI_boilersFor : MethodName := ⟨RHI, "boilersFor", "(II)I"⟩
abbrev bb_HI_isIn : ByteArray := prog_2_method_11_code
def yy_HI_isIn : MethodName := ⟨RHI, "isIn", "(II)Z"⟩
abbrev bb_KI_stepOf : ByteArray := prog_3_method_2_code
def yy_KI_stepOf : MethodName := ⟨RKI, "stepOf", "(III)I"⟩
abbrev bb_KI_mournerStep : ByteArray := prog_3_method_3_code
def yy_KI_mournerStep : MethodName := ⟨RKI, "mournerStep", "(I)I"⟩
abbrev bb_KI_widowStep : ByteArray := prog_3_method_4_code
def yy_KI_widowStep : MethodName := ⟨RKI, "widowStep", "(II)I"⟩
abbrev bb_KI_heirStep : ByteArray := prog_3_method_5_code
def yy_KI_heirStep : MethodName := ⟨RKI, "heirStep", "(I)I"⟩
abbrev bb_KI_feastOf : ByteArray := prog_3_method_6_code
def yy_KI_feastOf : MethodName := ⟨RKI, "feastOf", "(II)I"⟩
abbrev bb_LE_init : ByteArray := prog_4_method_1_code
def yy_LE_init : MethodName := ⟨RLE, "<init>", "(II)V"⟩
abbrev bb_LE_isFull : ByteArray := prog_4_method_2_code
def yy_LE_isFull : MethodName := ⟨RLE, "isFull", "()Z"⟩
abbrev bb_LE_has : ByteArray := prog_4_method_3_code
def yy_LE_has : MethodName := ⟨RLE, "has", "(I)Z"⟩
abbrev bb_LE_at : ByteArray := prog_4_method_4_code
def yy_LE_at : MethodName := ⟨RLE, "at", "(II)I"⟩
abbrev bb_LE_add : ByteArray := prog_4_method_5_code
def yy_LE_add : MethodName := ⟨RLE, "add", "(III)I"⟩
abbrev bb_LE_dropLast : ByteArray := prog_4_method_6_code
def yy_LE_dropLast : MethodName := ⟨RLE, "dropLast", "()V"⟩
abbrev bb_LE_copyFrom : ByteArray := prog_4_method_7_code
def yy_LE_copyFrom : MethodName := ⟨RLE, "copyFrom", "(LGriefGlue$Ledger;)V"⟩
abbrev bb_LE_mixInto : ByteArray := prog_4_method_8_code
def yy_LE_mixInto : MethodName := ⟨RLE, "mixInto", "(J)J"⟩
abbrev bb_OU_init : ByteArray := prog_5_method_1_code
def yy_OU_init : MethodName := ⟨ROU, "<init>", "()V"⟩
abbrev bb_OU_fewestOnions : ByteArray := prog_5_method_2_code
def yy_OU_fewestOnions : MethodName := ⟨ROU, "fewestOnions", "(LGriefGlue$Shop;III)I"⟩
abbrev bb_OU_weepADay : ByteArray := prog_5_method_3_code
def yy_OU_weepADay : MethodName := ⟨ROU, "weepADay", "(I)V"⟩
abbrev bb_OU_chancesToHold : ByteArray := prog_5_method_4_code
def yy_OU_chancesToHold : MethodName := ⟨ROU, "chancesToHold", "(LGriefGlue$Shop;IIII)J"⟩
abbrev bb_OU_weddingADay : ByteArray := prog_5_method_5_code
def yy_OU_weddingADay : MethodName := ⟨ROU, "weddingADay", "(I)V"⟩
abbrev bb_OU_firstGriefs : ByteArray := prog_5_method_6_code
def yy_OU_firstGriefs : MethodName := ⟨ROU, "firstGriefs", "(LGriefGlue$Ledger;II)I"⟩
abbrev bb_OU_isByFacts : ByteArray := prog_5_method_7_code
def yy_OU_isByFacts : MethodName := ⟨ROU, "isByFacts", "(LGriefGlue$Ledger;II)Z"⟩
abbrev bb_OU_harmOf : ByteArray := prog_5_method_8_code
def yy_OU_harmOf : MethodName := ⟨ROU, "harmOf", "(LGriefGlue$Shop;I)I"⟩
abbrev bb_OU_griefsWithout : ByteArray := prog_5_method_9_code
def yy_OU_griefsWithout : MethodName := ⟨ROU, "griefsWithout", "(LGriefGlue$Shop;II)[I"⟩
abbrev bb_RE_init : ByteArray := prog_6_method_1_code
def yy_RE_init : MethodName := ⟨RRE, "<init>", "()V"⟩
abbrev bb_RE_addByte : ByteArray := prog_6_method_2_code
def yy_RE_addByte : MethodName := ⟨RRE, "addByte", "(I)V"⟩
abbrev bb_RE_readItems : ByteArray := prog_6_method_3_code
def yy_RE_readItems : MethodName := ⟨RRE, "readItems", "()I"⟩
abbrev bb_RE_readMourner : ByteArray := prog_6_method_4_code
def yy_RE_readMourner : MethodName := ⟨RRE, "readMourner", "()V"⟩
abbrev bb_RE_readJoint : ByteArray := prog_6_method_5_code
def yy_RE_readJoint : MethodName := ⟨RRE, "readJoint", "()V"⟩
abbrev bb_RE_readPiece : ByteArray := prog_6_method_6_code
def yy_RE_readPiece : MethodName := ⟨RRE, "readPiece", "()V"⟩
abbrev bb_RE_readFeast : ByteArray := prog_6_method_7_code
def yy_RE_readFeast : MethodName := ⟨RRE, "readFeast", "(I)V"⟩
abbrev bb_RE_readDay : ByteArray := prog_6_method_8_code
def yy_RE_readDay : MethodName := ⟨RRE, "readDay", "()V"⟩
abbrev bb_RE_readBoil : ByteArray := prog_6_method_9_code
def yy_RE_readBoil : MethodName := ⟨RRE, "readBoil", "()V"⟩
abbrev bb_RE_wantRoom : ByteArray := prog_6_method_10_code
def yy_RE_wantRoom : MethodName := ⟨RRE, "wantRoom", "(LGriefGlue$Ledger;)V"⟩
abbrev bb_RE_readNumber : ByteArray := prog_6_method_11_code
def yy_RE_readNumber : MethodName := ⟨RRE, "readNumber", "(II)I"⟩
abbrev bb_RE_wantNumber : ByteArray := prog_6_method_12_code
def yy_RE_wantNumber : MethodName := ⟨RRE, "wantNumber", "(II)V"⟩
abbrev bb_RE_readStop : ByteArray := prog_6_method_13_code
def yy_RE_readStop : MethodName := ⟨RRE, "readStop", "()V"⟩
abbrev bb_RE_wantStop : ByteArray := prog_6_method_14_code
def yy_RE_wantStop : MethodName := ⟨RRE, "wantStop", "()V"⟩
abbrev bb_RE_blame : ByteArray := prog_6_method_15_code
def yy_RE_blame : MethodName := ⟨RRE, "blame", "()V"⟩
abbrev bb_RE_nextToken : ByteArray := prog_6_method_16_code
def yy_RE_nextToken : MethodName := ⟨RRE, "nextToken", "()V"⟩
abbrev bb_RE_readLetters : ByteArray := prog_6_method_17_code
def yy_RE_readLetters : MethodName := ⟨RRE, "readLetters", "()V"⟩
abbrev bb_RE_readFigures : ByteArray := prog_6_method_18_code
def yy_RE_readFigures : MethodName := ⟨RRE, "readFigures", "()V"⟩
abbrev bb_RE_isLetter : ByteArray := prog_6_method_19_code
def yy_RE_isLetter : MethodName := ⟨RRE, "isLetter", "(I)Z"⟩
abbrev bb_RE_isFigure : ByteArray := prog_6_method_20_code
def yy_RE_isFigure : MethodName := ⟨RRE, "isFigure", "(I)Z"⟩
abbrev bb_RE_isWord : ByteArray := prog_6_method_21_code
def yy_RE_isWord : MethodName := ⟨RRE, "isWord", "(Ljava/lang/String;)Z"⟩
abbrev bb_SH_init : ByteArray := prog_7_method_1_code
def yy_SH_init : MethodName := ⟨RSH, "<init>", "()V"⟩
abbrev bb_SH_makeEmpty : ByteArray := prog_7_method_2_code
def yy_SH_makeEmpty : MethodName := ⟨RSH, "makeEmpty", "()V"⟩
abbrev bb_SH_copyFrom : ByteArray := prog_7_method_3_code
def yy_SH_copyFrom : MethodName := ⟨RSH, "copyFrom", "(LGriefGlue$Shop;)V"⟩
abbrev bb_SH_allJoints : ByteArray := prog_7_method_4_code
def yy_SH_allJoints : MethodName := ⟨RSH, "allJoints", "()I"⟩
abbrev bb_SH_addMourner : ByteArray := prog_7_method_5_code
def yy_SH_addMourner : MethodName := ⟨RSH, "addMourner", "(III)I"⟩
abbrev bb_SH_addFeast : ByteArray := prog_7_method_6_code
def yy_SH_addFeast : MethodName := ⟨RSH, "addFeast", "(III)I"⟩
abbrev bb_SH_dropFeast : ByteArray := prog_7_method_7_code
def yy_SH_dropFeast : MethodName := ⟨RSH, "dropFeast", "()V"⟩
abbrev bb_SH_renewAllGriefs : ByteArray := prog_7_method_8_code
def yy_SH_renewAllGriefs : MethodName := ⟨RSH, "renewAllGriefs", "()V"⟩
abbrev bb_SH_renewGriefs : ByteArray := prog_7_method_9_code
def yy_SH_renewGriefs : MethodName := ⟨RSH, "renewGriefs", "(I)V"⟩
abbrev bb_SH_fillGriefs : ByteArray := prog_7_method_10_code
def yy_SH_fillGriefs : MethodName := ⟨RSH, "fillGriefs", "([III)V"⟩
abbrev bb_SH_fillNextGriefs : ByteArray := prog_7_method_11_code
def yy_SH_fillNextGriefs : MethodName := ⟨RSH, "fillNextGriefs", "([III)V"⟩
abbrev bb_SH_isFeastOf : ByteArray := prog_7_method_12_code
def yy_SH_isFeastOf : MethodName := ⟨RSH, "isFeastOf", "(III)Z"⟩
abbrev bb_SH_griefsOf : ByteArray := prog_7_method_13_code
def yy_SH_griefsOf : MethodName := ⟨RSH, "griefsOf", "(I)[I"⟩
abbrev bb_SH_griefOn : ByteArray := prog_7_method_14_code
def yy_SH_griefOn : MethodName := ⟨RSH, "griefOn", "(II)I"⟩
abbrev bb_SH_boilNow : ByteArray := prog_7_method_15_code
def yy_SH_boilNow : MethodName := ⟨RSH, "boilNow", "(III)V"⟩
abbrev bb_SH_boiledOn : ByteArray := prog_7_method_16_code
def yy_SH_boiledOn : MethodName := ⟨RSH, "boiledOn", "(I)I"⟩
abbrev bb_SH_firstBoiler : ByteArray := prog_7_method_17_code
def yy_SH_firstBoiler : MethodName := ⟨RSH, "firstBoiler", "(I)I"⟩
abbrev bb_SH_secondBoiler : ByteArray := prog_7_method_18_code
def yy_SH_secondBoiler : MethodName := ⟨RSH, "secondBoiler", "(I)I"⟩
abbrev bb_SH_openingOf : ByteArray := prog_7_method_19_code
def yy_SH_openingOf : MethodName := ⟨RSH, "openingOf", "(I)I"⟩
abbrev bb_SH_firstWeakDay : ByteArray := prog_7_method_20_code
def yy_SH_firstWeakDay : MethodName := ⟨RSH, "firstWeakDay", "([I[IIII)I"⟩
abbrev bb_SH_openJoints : ByteArray := prog_7_method_21_code
def yy_SH_openJoints : MethodName := ⟨RSH, "openJoints", "()I"⟩
abbrev bb_SH_isLasting : ByteArray := prog_7_method_22_code
def yy_SH_isLasting : MethodName := ⟨RSH, "isLasting", "(I)Z"⟩
abbrev bb_SH_isPartOf : ByteArray := prog_7_method_23_code
def yy_SH_isPartOf : MethodName := ⟨RSH, "isPartOf", "(II)Z"⟩
abbrev bb_SH_keepPast : ByteArray := prog_7_method_24_code
def yy_SH_keepPast : MethodName := ⟨RSH, "keepPast", "()V"⟩
abbrev bb_SH_goBack : ByteArray := prog_7_method_25_code
def yy_SH_goBack : MethodName := ⟨RSH, "goBack", "()V"⟩
abbrev bb_SH_mixJointsInto : ByteArray := prog_7_method_26_code
def yy_SH_mixJointsInto : MethodName := ⟨RSH, "mixJointsInto", "(J)J"⟩
abbrev bb_GG_init : ByteArray := prog_1_method_1_code
def yy_GG_init : MethodName := ⟨RGG, "<init>", "()V"⟩
abbrev bb_GG_mourner : ByteArray := prog_1_method_2_code
def yy_GG_mourner : MethodName := ⟨RGG, "mourner", "(III)I"⟩
abbrev bb_GG_joint : ByteArray := prog_1_method_3_code
def yy_GG_joint : MethodName := ⟨RGG, "joint", "(I)I"⟩
abbrev bb_GG_piece : ByteArray := prog_1_method_4_code
def yy_GG_piece : MethodName := ⟨RGG, "piece", "(II)I"⟩
abbrev bb_GG_feast : ByteArray := prog_1_method_5_code
def yy_GG_feast : MethodName := ⟨RGG, "feast", "(III)I"⟩
abbrev bb_GG_skip : ByteArray := prog_1_method_6_code
def yy_GG_skip : MethodName := ⟨RGG, "skip", "()I"⟩
abbrev bb_GG_boil : ByteArray := prog_1_method_7_code
def yy_GG_boil : MethodName := ⟨RGG, "boil", "(III)I"⟩
abbrev bb_GG_day : ByteArray := prog_1_method_8_code
def yy_GG_day : MethodName := ⟨RGG, "day", "(I)I"⟩
abbrev bb_GG_undo : ByteArray := prog_1_method_9_code
def yy_GG_undo : MethodName := ⟨RGG, "undo", "()I"⟩
abbrev bb_GG_type : ByteArray := prog_1_method_10_code
def yy_GG_type : MethodName := ⟨RGG, "type", "(JI)I"⟩
abbrev bb_GG_clear : ByteArray := prog_1_method_11_code
def yy_GG_clear : MethodName := ⟨RGG, "clear", "()I"⟩
abbrev bb_GG_read : ByteArray := prog_1_method_12_code
def yy_GG_read : MethodName := ⟨RGG, "read", "()I"⟩
abbrev bb_GG_grief : ByteArray := prog_1_method_13_code
def yy_GG_grief : MethodName := ⟨RGG, "grief", "(II)I"⟩
abbrev bb_GG_opens : ByteArray := prog_1_method_14_code
def yy_GG_opens : MethodName := ⟨RGG, "opens", "(I)I"⟩
abbrev bb_GG_lasts : ByteArray := prog_1_method_15_code
def yy_GG_lasts : MethodName := ⟨RGG, "lasts", "(I)I"⟩
abbrev bb_GG_open : ByteArray := prog_1_method_16_code
def yy_GG_open : MethodName := ⟨RGG, "open", "()I"⟩
abbrev bb_GG_hire : ByteArray := prog_1_method_17_code
def yy_GG_hire : MethodName := ⟨RGG, "hire", "(I)I"⟩
abbrev bb_GG_who : ByteArray := prog_1_method_18_code
def yy_GG_who : MethodName := ⟨RGG, "who", "(I)I"⟩
abbrev bb_GG_saves : ByteArray := prog_1_method_19_code
def yy_GG_saves : MethodName := ⟨RGG, "saves", "(I)I"⟩
abbrev bb_GG_tears : ByteArray := prog_1_method_20_code
def yy_GG_tears : MethodName := ⟨RGG, "tears", "(III)I"⟩
abbrev bb_GG_fact : ByteArray := prog_1_method_21_code
def yy_GG_fact : MethodName := ⟨RGG, "fact", "(III)I"⟩
abbrev bb_GG_forget : ByteArray := prog_1_method_22_code
def yy_GG_forget : MethodName := ⟨RGG, "forget", "()I"⟩
abbrev bb_GG_likely : ByteArray := prog_1_method_23_code
def yy_GG_likely : MethodName := ⟨RGG, "likely", "(II)I"⟩
abbrev bb_GG_odds : ByteArray := prog_1_method_24_code
def yy_GG_odds : MethodName := ⟨RGG, "odds", "(IIII)I"⟩
abbrev bb_GG_harm : ByteArray := prog_1_method_25_code
def yy_GG_harm : MethodName := ⟨RGG, "harm", "(I)I"⟩
abbrev bb_GG_part : ByteArray := prog_1_method_26_code
def yy_GG_part : MethodName := ⟨RGG, "part", "(I)J"⟩
abbrev bb_GG_image : ByteArray := prog_1_method_27_code
def yy_GG_image : MethodName := ⟨RGG, "image", "(I)I"⟩
abbrev bb_GG_from : ByteArray := prog_1_method_28_code
def yy_GG_from : MethodName := ⟨RGG, "from", "(I)I"⟩
abbrev bb_GG_status : ByteArray := prog_1_method_29_code
def yy_GG_status : MethodName := ⟨RGG, "status", "(I)I"⟩
abbrev bb_GG_count : ByteArray := prog_1_method_30_code
def yy_GG_count : MethodName := ⟨RGG, "count", "(I)I"⟩
abbrev bb_GG_digest : ByteArray := prog_1_method_31_code
def yy_GG_digest : MethodName := ⟨RGG, "digest", "()J"⟩
abbrev bb_GG_countOf : ByteArray := prog_1_method_32_code
def yy_GG_countOf : MethodName := ⟨RGG, "countOf", "(I)I"⟩
abbrev bb_GG_refuseBad : ByteArray := prog_1_method_33_code
def yy_GG_refuseBad : MethodName := ⟨RGG, "refuseBad", "()I"⟩
abbrev bb_GG_refuseNo : ByteArray := prog_1_method_34_code
def yy_GG_refuseNo : MethodName := ⟨RGG, "refuseNo", "()I"⟩
abbrev bb_GG_refuseFull : ByteArray := prog_1_method_35_code
def yy_GG_refuseFull : MethodName := ⟨RGG, "refuseFull", "()I"⟩
abbrev bb_GG_isWithin : ByteArray := prog_1_method_36_code
def yy_GG_isWithin : MethodName := ⟨RGG, "isWithin", "(III)Z"⟩
abbrev bb_GG_tenTo : ByteArray := prog_1_method_37_code
def yy_GG_tenTo : MethodName := ⟨RGG, "tenTo", "(I)J"⟩
abbrev bb_GG_commonDivisor : ByteArray := prog_1_method_38_code
def yy_GG_commonDivisor : MethodName := ⟨RGG, "commonDivisor", "(JJ)J"⟩
abbrev bb_MO_init : ByteArray := prog_9_method_1_code
def yy_MO_init : MethodName := ⟨RMO, "<init>", "()V"⟩
abbrev bb_MO_in : ByteArray := prog_9_method_3_code
def yy_MO_in : MethodName := ⟨RMO, "in", "(III)Z"⟩
abbrev bb_MO_bad : ByteArray := prog_9_method_4_code
def yy_MO_bad : MethodName := ⟨RMO, "bad", "()I"⟩
abbrev bb_MO_no : ByteArray := prog_9_method_5_code
def yy_MO_no : MethodName := ⟨RMO, "no", "()I"⟩
abbrev bb_MO_full : ByteArray := prog_9_method_6_code
def yy_MO_full : MethodName := ⟨RMO, "full", "()I"⟩
abbrev bb_MO_get : ByteArray := prog_9_method_7_code
def yy_MO_get : MethodName := ⟨RMO, "get", "(I)I"⟩
abbrev bb_MO_set : ByteArray := prog_9_method_8_code
def yy_MO_set : MethodName := ⟨RMO, "set", "(II)V"⟩
abbrev bb_MO_copy : ByteArray := prog_9_method_9_code
def yy_MO_copy : MethodName := ⟨RMO, "copy", "(II)V"⟩
abbrev bb_MO_isMourner : ByteArray := prog_9_method_10_code
def yy_MO_isMourner : MethodName := ⟨RMO, "isMourner", "(I)Z"⟩
abbrev bb_MO_isJoint : ByteArray := prog_9_method_11_code
def yy_MO_isJoint : MethodName := ⟨RMO, "isJoint", "(I)Z"⟩
abbrev bb_MO_addMourner : ByteArray := prog_9_method_12_code
def yy_MO_addMourner : MethodName := ⟨RMO, "addMourner", "(III)V"⟩
abbrev bb_MO_addJoint : ByteArray := prog_9_method_13_code
def yy_MO_addJoint : MethodName := ⟨RMO, "addJoint", "(I)V"⟩
abbrev bb_MO_isSet : ByteArray := prog_9_method_14_code
def yy_MO_isSet : MethodName := ⟨RMO, "isSet", "(I)Z"⟩
abbrev bb_MO_addPiece : ByteArray := prog_9_method_15_code
def yy_MO_addPiece : MethodName := ⟨RMO, "addPiece", "(II)V"⟩
abbrev bb_MO_addFeast : ByteArray := prog_9_method_16_code
def yy_MO_addFeast : MethodName := ⟨RMO, "addFeast", "(III)V"⟩
abbrev bb_MO_boiled : ByteArray := prog_9_method_17_code
def yy_MO_boiled : MethodName := ⟨RMO, "boiled", "(III)V"⟩
abbrev bb_MO_mourner : ByteArray := prog_9_method_18_code
def yy_MO_mourner : MethodName := ⟨RMO, "mourner", "(III)I"⟩
abbrev bb_MO_joint : ByteArray := prog_9_method_19_code
def yy_MO_joint : MethodName := ⟨RMO, "joint", "(I)I"⟩
abbrev bb_MO_piece : ByteArray := prog_9_method_20_code
def yy_MO_piece : MethodName := ⟨RMO, "piece", "(II)I"⟩
abbrev bb_MO_feast : ByteArray := prog_9_method_21_code
def yy_MO_feast : MethodName := ⟨RMO, "feast", "(III)I"⟩
abbrev bb_MO_skip : ByteArray := prog_9_method_22_code
def yy_MO_skip : MethodName := ⟨RMO, "skip", "()I"⟩
abbrev bb_MO_know : ByteArray := prog_9_method_23_code
def yy_MO_know : MethodName := ⟨RMO, "know", "()V"⟩
abbrev bb_MO_undo : ByteArray := prog_9_method_24_code
def yy_MO_undo : MethodName := ⟨RMO, "undo", "()I"⟩
abbrev bb_MO_boil : ByteArray := prog_9_method_25_code
def yy_MO_boil : MethodName := ⟨RMO, "boil", "(III)I"⟩
abbrev bb_MO_day : ByteArray := prog_9_method_26_code
def yy_MO_day : MethodName := ⟨RMO, "day", "(I)I"⟩
abbrev bb_MO_type : ByteArray := prog_9_method_27_code
def yy_MO_type : MethodName := ⟨RMO, "type", "(JI)I"⟩
abbrev bb_MO_clear : ByteArray := prog_9_method_28_code
def yy_MO_clear : MethodName := ⟨RMO, "clear", "()I"⟩
abbrev bb_MO_here : ByteArray := prog_9_method_29_code
def yy_MO_here : MethodName := ⟨RMO, "here", "()I"⟩
abbrev bb_MO_meaning : ByteArray := prog_9_method_30_code
def yy_MO_meaning : MethodName := ⟨RMO, "meaning", "(II)I"⟩
abbrev bb_MO_next : ByteArray := prog_9_method_31_code
def yy_MO_next : MethodName := ⟨RMO, "next", "()V"⟩
abbrev bb_MO_due : ByteArray := prog_9_method_32_code
def yy_MO_due : MethodName := ⟨RMO, "due", "(Z)I"⟩
abbrev bb_MO_isNumber : ByteArray := prog_9_method_33_code
def yy_MO_isNumber : MethodName := ⟨RMO, "isNumber", "(II)Z"⟩
abbrev bb_MO_mayBe : ByteArray := prog_9_method_34_code
def yy_MO_mayBe : MethodName := ⟨RMO, "mayBe", "(I)Z"⟩
abbrev bb_MO_readBoil : ByteArray := prog_9_method_35_code
def yy_MO_readBoil : MethodName := ⟨RMO, "readBoil", "()V"⟩
abbrev bb_MO_readRow : ByteArray := prog_9_method_36_code
def yy_MO_readRow : MethodName := ⟨RMO, "readRow", "(I)V"⟩
abbrev bb_MO_readItem : ByteArray := prog_9_method_37_code
def yy_MO_readItem : MethodName := ⟨RMO, "readItem", "()V"⟩
abbrev bb_MO_read : ByteArray := prog_9_method_38_code
def yy_MO_read : MethodName := ⟨RMO, "read", "()I"⟩
abbrev bb_MO_less : ByteArray := prog_9_method_39_code
def yy_MO_less : MethodName := ⟨RMO, "less", "(II)I"⟩
abbrev bb_MO_widow : ByteArray := prog_9_method_40_code
def yy_MO_widow : MethodName := ⟨RMO, "widow", "(II)I"⟩
abbrev bb_MO_step : ByteArray := prog_9_method_41_code
def yy_MO_step : MethodName := ⟨RMO, "step", "(III)I"⟩
abbrev bb_MO_more : ByteArray := prog_9_method_42_code
def yy_MO_more : MethodName := ⟨RMO, "more", "(I)I"⟩
abbrev bb_MO_onDay : ByteArray := prog_9_method_43_code
def yy_MO_onDay : MethodName := ⟨RMO, "onDay", "(III)I"⟩
abbrev bb_MO_findGriefs : ByteArray := prog_9_method_44_code
def yy_MO_findGriefs : MethodName := ⟨RMO, "findGriefs", "(I)V"⟩
abbrev bb_MO_grief : ByteArray := prog_9_method_45_code
def yy_MO_grief : MethodName := ⟨RMO, "grief", "(II)I"⟩
abbrev bb_MO_strength : ByteArray := prog_9_method_46_code
def yy_MO_strength : MethodName := ⟨RMO, "strength", "(III)I"⟩
abbrev bb_MO_opensBy : ByteArray := prog_9_method_47_code
def yy_MO_opensBy : MethodName := ⟨RMO, "opensBy", "(I)I"⟩
abbrev bb_MO_isBoiled : ByteArray := prog_9_method_48_code
def yy_MO_isBoiled : MethodName := ⟨RMO, "isBoiled", "(I)Z"⟩
abbrev bb_MO_opensOn : ByteArray := prog_9_method_49_code
def yy_MO_opensOn : MethodName := ⟨RMO, "opensOn", "(I)I"⟩
abbrev bb_MO_opens : ByteArray := prog_9_method_50_code
def yy_MO_opens : MethodName := ⟨RMO, "opens", "(I)I"⟩
abbrev bb_MO_isLasting : ByteArray := prog_9_method_51_code
def yy_MO_isLasting : MethodName := ⟨RMO, "isLasting", "(I)Z"⟩
abbrev bb_MO_lasts : ByteArray := prog_9_method_52_code
def yy_MO_lasts : MethodName := ⟨RMO, "lasts", "(I)I"⟩
abbrev bb_MO_openNow : ByteArray := prog_9_method_53_code
def yy_MO_openNow : MethodName := ⟨RMO, "openNow", "()I"⟩
abbrev bb_MO_open : ByteArray := prog_9_method_54_code
def yy_MO_open : MethodName := ⟨RMO, "open", "()I"⟩
abbrev bb_MO_findNeeds : ByteArray := prog_9_method_55_code
def yy_MO_findNeeds : MethodName := ⟨RMO, "findNeeds", "()V"⟩
abbrev bb_MO_wouldHold : ByteArray := prog_9_method_56_code
def yy_MO_wouldHold : MethodName := ⟨RMO, "wouldHold", "(III)Z"⟩
abbrev bb_MO_whoOf : ByteArray := prog_9_method_57_code
def yy_MO_whoOf : MethodName := ⟨RMO, "whoOf", "(II)I"⟩
abbrev bb_MO_priceOf : ByteArray := prog_9_method_58_code
def yy_MO_priceOf : MethodName := ⟨RMO, "priceOf", "(I)I"⟩
abbrev bb_MO_hired : ByteArray := prog_9_method_59_code
def yy_MO_hired : MethodName := ⟨RMO, "hired", "(I)I"⟩
abbrev bb_MO_hire : ByteArray := prog_9_method_60_code
def yy_MO_hire : MethodName := ⟨RMO, "hire", "(I)I"⟩
abbrev bb_MO_who : ByteArray := prog_9_method_61_code
def yy_MO_who : MethodName := ⟨RMO, "who", "(I)I"⟩
abbrev bb_MO_saves : ByteArray := prog_9_method_62_code
def yy_MO_saves : MethodName := ⟨RMO, "saves", "(I)I"⟩
abbrev bb_MO_tears : ByteArray := prog_9_method_63_code
def yy_MO_tears : MethodName := ⟨RMO, "tears", "(III)I"⟩
abbrev bb_MO_fact : ByteArray := prog_9_method_64_code
def yy_MO_fact : MethodName := ⟨RMO, "fact", "(III)I"⟩
abbrev bb_MO_forget : ByteArray := prog_9_method_65_code
def yy_MO_forget : MethodName := ⟨RMO, "forget", "()I"⟩
abbrev bb_MO_isLikely : ByteArray := prog_9_method_66_code
def yy_MO_isLikely : MethodName := ⟨RMO, "isLikely", "(II)Z"⟩
abbrev bb_MO_likely : ByteArray := prog_9_method_67_code
def yy_MO_likely : MethodName := ⟨RMO, "likely", "(II)I"⟩
abbrev bb_MO_odds : ByteArray := prog_9_method_68_code
def yy_MO_odds : MethodName := ⟨RMO, "odds", "(IIII)I"⟩
abbrev bb_MO_harm : ByteArray := prog_9_method_69_code
def yy_MO_harm : MethodName := ⟨RMO, "harm", "(I)I"⟩
abbrev bb_MO_part : ByteArray := prog_9_method_70_code
def yy_MO_part : MethodName := ⟨RMO, "part", "(I)J"⟩
abbrev bb_MO_image : ByteArray := prog_9_method_71_code
def yy_MO_image : MethodName := ⟨RMO, "image", "(I)I"⟩
abbrev bb_MO_from : ByteArray := prog_9_method_72_code
def yy_MO_from : MethodName := ⟨RMO, "from", "(I)I"⟩
abbrev bb_MO_status : ByteArray := prog_9_method_73_code
def yy_MO_status : MethodName := ⟨RMO, "status", "(I)I"⟩
abbrev bb_MO_count : ByteArray := prog_9_method_74_code
def yy_MO_count : MethodName := ⟨RMO, "count", "(I)I"⟩
abbrev bb_MO_digestRow : ByteArray := prog_9_method_75_code
def yy_MO_digestRow : MethodName := ⟨RMO, "digestRow", "(II)V"⟩
abbrev bb_MO_digest : ByteArray := prog_9_method_76_code
def yy_MO_digest : MethodName := ⟨RMO, "digest", "()J"⟩
abbrev bb_IN_bitCount : ByteArray := prog_10_method_49_code
def yy_IN_bitCount : MethodName := ⟨RIN, "bitCount", "(I)I"⟩
abbrev bb_MA_max : ByteArray := prog_11_method_65_code
def yy_MA_max : MethodName := ⟨RMA, "max", "(II)I"⟩
abbrev bb_MA_min : ByteArray := prog_11_method_69_code
def yy_MA_min : MethodName := ⟨RMA, "min", "(II)I"⟩
abbrev bb_ST_length : ByteArray := prog_12_method_54_code
def yy_ST_length : MethodName := ⟨RST, "length", "()I"⟩
abbrev bb_ST_charAt : ByteArray := prog_12_method_56_code
def yy_ST_charAt : MethodName := ⟨RST, "charAt", "(I)C"⟩
abbrev bb_ST_coder : ByteArray := prog_12_method_152_code
def yy_ST_coder : MethodName := ⟨RST, "coder", "()B"⟩
abbrev bb_ST_isLatin1 : ByteArray := prog_12_method_154_code
def yy_ST_isLatin1 : MethodName := ⟨RST, "isLatin1", "()Z"⟩
abbrev bb_ST_checkIndex : ByteArray := prog_12_method_155_code
def yy_ST_checkIndex : MethodName := ⟨RST, "checkIndex", "(II)V"⟩
abbrev bb_SL_charAt : ByteArray := prog_13_method_2_code
def yy_SL_charAt : MethodName := ⟨RSL, "charAt", "([BI)C"⟩
abbrev bb_SU_getChar : ByteArray := prog_14_method_5_code
def yy_SU_getChar : MethodName := ⟨RSU, "getChar", "([BI)C"⟩
abbrev bb_SU_length : ByteArray := prog_14_method_6_code
def yy_SU_length : MethodName := ⟨RSU, "length", "([B)I"⟩
abbrev bb_SU_charAt : ByteArray := prog_14_method_83_code
def yy_SU_charAt : MethodName := ⟨RSU, "charAt", "([BI)C"⟩
abbrev bb_SU_checkIndex : ByteArray := prog_14_method_91_code
def yy_SU_checkIndex : MethodName := ⟨RSU, "checkIndex", "(I[B)V"⟩
abbrev bb_AR_fillJ : ByteArray := prog_16_method_101_code
def yy_AR_fillJ : MethodName := ⟨RAR, "fill", "([JJ)V"⟩
abbrev bb_AR_fillI : ByteArray := prog_16_method_103_code
def yy_AR_fillI : MethodName := ⟨RAR, "fill", "([II)V"⟩
abbrev bb_PR_checkIndex : ByteArray := prog_17_method_11_code
def yy_PR_checkIndex : MethodName := ⟨RPR, "checkIndex", "(IILjava/util/function/BiFunction;)I"⟩
end
section
/-! the state of a world: ints and longs by cell and place -/
abbrev St : Type := (Nat → Nat → Int32) × (Nat → Nat → Int64)
def gi (x : St) (q k : Nat) : Int32 := x.1 q k
def gl (x : St) (q k : Nat) : Int64 := x.2 q k
def si (x : St) (q k : Nat) (v : Int32) : St := (fun a b => if a = q ∧ b = k then v else x.1 a b, x.2)
def sl (x : St) (q k : Nat) (v : Int64) : St := (x.1, fun a b => if a = q ∧ b = k then v else x.2 a b)
/-- n places of cell q from sp on, copied to cell d from dp on -/
def cpi (x : St) (q sp d dp n : Nat) : St := (fun a b => if a = d ∧ dp ≤ b ∧ b < dp + n then x.1 q (sp + (b - dp)) else x.1 a b, x.2)
def cpl (x : St) (q sp d dp n : Nat) : St := (x.1, fun a b => if a = d ∧ dp ≤ b ∧ b < dp + n then x.2 q (sp + (b - dp)) else x.2 a b)
theorem gi_si_s (x : St) (q k : Nat) (v : Int32) : gi (si x q k v) q k = v := by simp [gi, si]
theorem gi_si_n (x : St) (q k : Nat) (v : Int32) {a b : Nat} (h : ¬ (a = q ∧ b = k)) : gi (si x q k v) a b = gi x a b := by simp [gi, si, h]
theorem gi_si (x : St) (q k : Nat) (v : Int32) (a b : Nat) : gi (si x q k v) a b = if a = q ∧ b = k then v else gi x a b := rfl
theorem gl_si (x : St) (q k : Nat) (v : Int32) (a b : Nat) : gl (si x q k v) a b = gl x a b := rfl
theorem gi_sl (x : St) (q k : Nat) (v : Int64) (a b : Nat) : gi (sl x q k v) a b = gi x a b := rfl
theorem gl_sl (x : St) (q k : Nat) (v : Int64) (a b : Nat) : gl (sl x q k v) a b = if a = q ∧ b = k then v else gl x a b := rfl
theorem gi_cpi (x : St) (q sp d dp n a b : Nat) : gi (cpi x q sp d dp n) a b = if a = d ∧ dp ≤ b ∧ b < dp + n then gi x q (sp + (b - dp)) else gi x a b := rfl
theorem gl_cpi (x : St) (q sp d dp n a b : Nat) : gl (cpi x q sp d dp n) a b = gl x a b := rfl
theorem gi_cpl (x : St) (q sp d dp n a b : Nat) : gi (cpl x q sp d dp n) a b = gi x a b := rfl
theorem gl_cpl (x : St) (q sp d dp n a b : Nat) : gl (cpl x q sp d dp n) a b = if a = d ∧ dp ≤ b ∧ b < dp + n then gl x q (sp + (b - dp)) else gl x a b := rfl
/-! runs that may fail -/
def bnd {α β : Type} (o : Option (α × St)) (k : α → St → Option β) : Option β := match o with
  | none => none
  | some (a, x) => k a x
theorem bnd_some {α β : Type} (a : α) (x : St) (k : α → St → Option β) : bnd (some (a, x)) k = k a x := rfl
theorem of_bnd {α β : Type} {o : Option (α × St)} {k : α → St → Option β} {z : β} (h : bnd o k = some z) : ∃ a x, o = some (a, x) ∧ k a x = some z := by
  match o, h with
  | some (a, x), h => exact ⟨a, x, rfl, h⟩
theorem of_ifb {β : Type} {b : Bool} {o : Option β} {z : β} (h : (if b = true then o else none) = some z) : b = true ∧ o = some z := by
  cases b with
  | true => exact ⟨rfl, h⟩
  | false => cases h
theorem of_ifp {β : Type} {c : Prop} [Decidable c] {o : Option β} {z : β} (h : (if c then o else none) = some z) : c ∧ o = some z := by
  by_cases hc : c
  · exact ⟨hc, (if_pos hc).symm.trans h⟩
  · rw [if_neg hc] at h; cases h
theorem of_ret {α : Type} {v r : α} {x y : St} (h : some (v, x) = some (r, y)) : v = r ∧ x = y := by cases h; exact ⟨rfl, rfl⟩
theorem of_no {β : Type} {P : Prop} {z : β} (h : (none : Option β) = some z) : P := by cases h
/-- the index i lies in a row of n -/
def ixb (i : Int32) (n : Nat) : Bool := !decide (i < 0) && decide (i.toNatClampNeg < n)
theorem ixb_in {i : Int32} {n : Nat} (h : ixb i n = true) : vp_in i n := by
  unfold ixb at h
  simp only [Bool.and_eq_true, Bool.not_eq_true', decide_eq_false_iff_not, decide_eq_true_eq] at h
  exact fun q => q.elim h.1 (fun z => by omega)
abbrev ix (i : Int32) : Nat := i.toNatClampNeg
/-- a stretch of n from sp on lies in a row of len -/
def spb (sp n : Int32) (len : Nat) : Bool := !decide (sp < 0) && (!decide (n < 0) && decide (sp.toNatClampNeg + n.toNatClampNeg ≤ len))
theorem spb_in {sp n : Int32} {len : Nat} (h : spb sp n len = true) : ¬ sp < 0 ∧ ¬ n < 0 ∧ sp.toNatClampNeg + n.toNatClampNeg ≤ len := by
  unfold spb at h
  simp only [Bool.and_eq_true, Bool.not_eq_true', decide_eq_false_iff_not, decide_eq_true_eq] at h
  exact h
def FU : Nat := 2000
/-! the cells: kinds, lengths, references; the class's 0 .. 95, the reference's 100 .. 112 -/
def kdL : List Nat := [5, 24, 22, 3, 20, 0, 20, 23, 20, 2, 20, 20, 20, 20, 23, 23, 4, 1, 20, 1, 20, 1, 20, 1, 20, 1, 20, 25, 20, 20, 20, 20, 20, 20, 20, 20, 4, 1, 20, 1, 20, 1, 20, 1, 20, 1, 20, 25, 20, 20, 20, 20, 20, 20, 20, 20, 4, 1, 20, 1, 20, 1, 20, 1, 20, 1, 20, 25, 20, 20, 20, 20, 20, 20, 20, 20, 4, 1, 20, 1, 20, 1, 20, 1, 20, 1, 20, 25, 20, 20, 20, 20, 20, 20, 20, 20, 99, 99, 99, 99, 6, 20, 22, 20, 21, 20, 20, 20, 20, 20, 23, 23, 20]
def lnL : List Nat := [0, 2, 2, 0, 250, 0, 6, 6, 6, 0, 100, 100, 100, 100, 100, 100, 0, 0, 18, 0, 6, 0, 8, 0, 30, 0, 18, 6, 100, 100, 100, 100, 100, 100, 18, 190, 0, 0, 18, 0, 6, 0, 8, 0, 30, 0, 18, 6, 100, 100, 100, 100, 100, 100, 18, 190, 0, 0, 18, 0, 6, 0, 8, 0, 30, 0, 18, 6, 100, 100, 100, 100, 100, 100, 18, 190, 0, 0, 18, 0, 6, 0, 8, 0, 30, 0, 18, 6, 100, 100, 100, 100, 100, 100, 18, 190, 0, 0, 0, 0, 0, 1260, 2, 3, 250, 600, 6, 100, 100, 100, 100, 100, 6]
def rfL : List (List Nat) := [[16, 1, 2, 3, 5, 9, 0, 0, 0, 0, 0], [36, 56], [], [4, 0, 0, 0, 76, 0, 0, 0], [], [6, 7, 8, 0], [], [], [], [10, 11, 12, 13, 14, 15], [], [], [], [], [], [], [17, 19, 21, 23, 25, 27, 34, 35, 0, 0], [0, 0, 18, 0], [], [0, 0, 20, 0], [], [0, 0, 22, 0], [], [0, 0, 24, 0], [], [0, 0, 26, 0], [], [28, 29, 30, 31, 32, 33], [], [], [], [], [], [], [], [], [37, 39, 41, 43, 45, 47, 54, 55, 0, 0], [0, 0, 38, 0], [], [0, 0, 40, 0], [], [0, 0, 42, 0], [], [0, 0, 44, 0], [], [0, 0, 46, 0], [], [48, 49, 50, 51, 52, 53], [], [], [], [], [], [], [], [], [57, 59, 61, 63, 65, 67, 74, 75, 0, 0], [0, 0, 58, 0], [], [0, 0, 60, 0], [], [0, 0, 62, 0], [], [0, 0, 64, 0], [], [0, 0, 66, 0], [], [68, 69, 70, 71, 72, 73], [], [], [], [], [], [], [], [], [77, 79, 81, 83, 85, 87, 94, 95, 0, 0], [0, 0, 78, 0], [], [0, 0, 80, 0], [], [0, 0, 82, 0], [], [0, 0, 84, 0], [], [0, 0, 86, 0], [], [88, 89, 90, 91, 92, 93], [], [], [], [], [], [], [], [], [], [], [], [], [101, 0, 102, 103, 0, 0, 104, 0, 0, 0, 0, 0, 0, 0, 105, 106, 107, 108, 109, 110, 111, 112, 0], [], [], [], [], [], [], [], [], [], [], [], []]
def kd (q : Nat) : Nat := kdL.getD q 99
def ln (q : Nat) : Nat := lnL.getD q 0
def rf (q k : Nat) : Nat := (rfL.getD q []).getD k 0
def ftL : List (List Nat) := [[2, 2, 2, 0], [0, 0, 2, 0], [2, 2, 2, 2, 2, 2], [2, 0, 0, 0, 2, 0, 0, 0], [2, 2, 2, 2, 2, 2, 2, 2, 0, 0], [2, 2, 2, 2, 2, 2, 1, 1, 0, 0, 0], [2, 0, 2, 2, 1, 1, 2, 0, 0, 0, 0, 0, 0, 0, 2, 2, 2, 2, 2, 2, 2, 2, 1]]
def ft (c k : Nat) : Nat := (ftL.getD c []).getD k 9
def nf (c : Nat) : Nat := (ftL.getD c []).length
def ixC : List Nat := List.range 96
def ixM : List Nat := List.range' 100 13
theorem ndC : ixC.Nodup := List.nodup_range
theorem ndM : ixM.Nodup := List.nodup_range'
/-- a cell of kind k -/
def isO (js : List Nat) (q k : Nat) : Prop := q ∈ js ∧ kd q = k
def fv (ad : Nat → Nat) (x : St) (q k : Nat) : Value := if ft (kd q) k = 0 then .int (gi x q k) else if ft (kd q) k = 1 then .long (gl x q k) else .ref (ad (rf q k))
def ent (cA : Nat → ClassId) (ad : Nat → Nat) (x : St) (q : Nat) : va_E :=
  if kd q = 20 then .inl (cA 0, ln q, .inl (gi x q))
  else if kd q = 21 then .inl (cA 1, ln q, .inl (gi x q))
  else if kd q = 22 then .inl (cA 2, ln q, .inl (gi x q))
  else if kd q = 23 then .inl (cA 3, ln q, .inr (.inl (gl x q)))
  else if kd q = 24 then .inl (cA 4, ln q, .inr (.inr (.inr (.inr (fun i => some (ad (rf q i)))))))
  else if kd q = 25 then .inl (cA 5, ln q, .inr (.inr (.inr (.inr (fun i => some (ad (rf q i)))))))
  else .inr (kd q, (List.range (nf (kd q))).map (fv ad x q))
def tyl (cA : Nat → ClassId) : List (ClassId × FieldType) := [(cA 0, .int), (cA 1, .byte), (cA 2, .boolean), (cA 3, .long), (cA 4, .object "GriefGlue$Shop"), (cA 5, .array .int)]
def wl (cA : Nat → ClassId) (ad : Nat → Nat) (js : List Nat) (x : St) : va_W := js.map fun q => (ad q, ent cA ad x q)
/-- what the start gives: classes and slots, array classes, the addresses of the String constants and of their bytes -/
abbrev Ev : Type := va_G × (Nat → ClassId) × (Nat → Nat) × (Nat → Nat)
def Wd (E : Ev) (ad : Nat → Nat) (js : List Nat) (x : St) (H : Heap) : Prop := va_P E.1 vcl (wl E.2.1 ad js x) H
def isNest : Cond → Bool
  | .fieldLinkNest .. => true
  | .methodLinkNest .. => true
  | _ => false
def nst : List Cond := lw_tbl.filter isNest
def gtb : List Cond := lw_tbl.filter goodWord
theorem gtb_of {w : Cond} (h : w ∈ lw_tbl) (g : goodWord w = true) : w ∈ gtb := List.mem_filter.mpr ⟨h, g⟩
theorem nst_of {w : Cond} (h : w ∈ lw_tbl) (g : isNest w = true) : w ∈ nst := List.mem_filter.mpr ⟨h, g⟩
theorem nst_tab {w : Cond} (h : w ∈ nst) : w.onTables = true := by
  have h2 := (List.mem_filter.mp h).2
  cases w <;> first | rfl | cases h2
theorem nst_warm {w : Cond} (h : w ∈ nst) {s U : State} (hW : s.WarmedH U.vm) (hZ : va_Nw w s) : va_Nw w U := by
  have h2 := (List.mem_filter.mp h).2
  cases w <;> first | exact va_Nw.warmF hW hZ | exact va_Nw.warmM hW hZ | cases h2
def strI : List Nat := [41, 50, 55, 60, 66, 68, 73]
def strT : List String := ["mourner", "joint", "piece", "wedding", "onion", "day", "boil"]
def strL : List Nat := [7, 5, 5, 7, 5, 3, 4]
def strB : List (List Int32) := [[109, 111, 117, 114, 110, 101, 114], [106, 111, 105, 110, 116], [112, 105, 101, 99, 101], [119, 101, 100, 100, 105, 110, 103], [111, 110, 105, 111, 110], [100, 97, 121], [98, 111, 105, 108]]
/-- what holds of the machine at a method's entry -/
def Kd (E : Ev) (A : Nat → Prop) (U : State) : Prop := va_K E.1 vcl (tyl E.2.1) U ∧ (∀ w ∈ nst, va_Nw w U) ∧ vk_S 7 strL strB E.2.2.1 E.2.2.2 A U U.heap ∧ (∀ i, i < 7 → vk_R "GriefGlue$Reader" (strI.getD i 0) (strT.getD i "") (E.2.2.1 i) U) ∧ va_Z "java/lang/String" "COMPACT_STRINGS" "Z" (.int 1) A U U.heap
theorem Kd.to {E : Ev} {A : Nat → Prop} {s U : State} {H : Heap} {locs : List Loc} (h : Kd E A s) (hS : va_S A s.heap H locs) (hU : U.heap = H) (hW : s.WarmedH U.vm) : Kd E A U := by
  obtain ⟨h1, h2, h3, h4, h5⟩ := h
  refine ⟨va_K.moved hW.alike h1, fun w hw => nst_warm hw hW (h2 w hw), ?_, fun i hi => vk_R.warm hW (h4 i hi), ?_⟩
  · rw [hU]; exact vk_S.moved hW.alike (h3.kept hS.2.1)
  · rw [hU]; exact va_Z.moved hW.alike (h5.kept hS.2.1)
theorem Kd.same {E : Ev} {A : Nat → Prop} {s U : State} (h : Kd E A s) (hh : U.heap = s.heap) (hv : U.vm = s.vm) : Kd E A U := by
  obtain ⟨h1, h2, h3, h4, h5⟩ := h
  have ha : s.vm.Alike U.vm := by rw [hv]; exact Vm.Alike.refl _
  refine ⟨va_K.moved ha h1, fun w hw => (h2 w hw).same (nst_tab hw) hv.symm, ?_, fun i hi => vk_R.same hv (h4 i hi), ?_⟩
  · rw [hh]; exact vk_S.moved ha h3
  · rw [hh]; exact va_Z.moved ha h5
def Ap (ad : Nat → Nat) (js : List Nat) (A : Nat → Prop) : Prop := js.Nodup ∧ (∀ q ∈ js, ∀ r ∈ js, ad q = ad r → q = r) ∧ ∀ q ∈ js, A (ad q)
theorem wl_at {cA : Nat → ClassId} {ad : Nat → Nat} {js : List Nat} {x : St} {q : Nat} (h : q ∈ js) : ∃ k : Nat, js[k]? = some q ∧ (wl cA ad js x)[k]? = some (ad q, ent cA ad x q) := by
  obtain ⟨k, hk⟩ := List.getElem?_of_mem h
  exact ⟨k, hk, by unfold wl; rw [List.getElem?_map, hk]; rfl⟩
theorem wl_get {cA : Nat → ClassId} {ad : Nat → Nat} {js : List Nat} {x : St} {k : Nat} {z : Nat × va_E} (h : (wl cA ad js x)[k]? = some z) : ∃ q : Nat, js[k]? = some q ∧ z = (ad q, ent cA ad x q) := by
  unfold wl at h
  rw [List.getElem?_map] at h
  cases hq : js[k]? with
  | none => rw [hq] at h; cases h
  | some q => rw [hq] at h; exact ⟨q, rfl, (Option.some.inj h).symm⟩
theorem nd_ix {js : List Nat} (h : js.Nodup) {i j q : Nat} (hi : js[i]? = some q) (hj : js[j]? = some q) : i = j := by
  obtain ⟨li, ei⟩ := List.getElem?_eq_some_iff.mp hi
  obtain ⟨lj, ej⟩ := List.getElem?_eq_some_iff.mp hj
  exact (List.getElem_inj h).mp (ei.trans ej.symm)
theorem Ap.D {cA : Nat → ClassId} {ad : Nat → Nat} {js : List Nat} {A : Nat → Prop} {x : St} (h : Ap ad js A) : va_D A (wl cA ad js x) := by
  refine ⟨fun i j p q hi hj hpq => ?_, fun k q hk => ?_⟩
  · obtain ⟨a, ha, rfl⟩ := wl_get hi
    obtain ⟨b, hb, rfl⟩ := wl_get hj
    have e := h.2.1 a (List.mem_of_getElem? ha) b (List.mem_of_getElem? hb) hpq
    subst e
    exact nd_ix h.1 ha hb
  · obtain ⟨a, ha, rfl⟩ := wl_get hk
    exact h.2.2 a (List.mem_of_getElem? ha)
theorem wl_set {cA : Nat → ClassId} {ad : Nat → Nat} {js : List Nat} {x y : St} {k q : Nat} (hn : js.Nodup) (hk : js[k]? = some q) (ho : ∀ r, r ≠ q → ent cA ad y r = ent cA ad x r) : (wl cA ad js x).set k (ad q, ent cA ad y q) = wl cA ad js y := by
  apply List.ext_getElem?
  intro i
  by_cases hi : i = k
  · subst hi
    rw [List.getElem?_set_self (by unfold wl; rw [List.length_map]; exact (List.getElem?_eq_some_iff.mp hk).1)]
    unfold wl
    rw [List.getElem?_map, hk]
    rfl
  · rw [List.getElem?_set_ne (Ne.symm hi)]
    unfold wl
    rw [List.getElem?_map, List.getElem?_map]
    cases hq : js[i]? with
    | none => rfl
    | some r =>
      have hr : r ≠ q := fun e => hi (nd_ix hn (e ▸ hq) hk)
      show some (ad r, ent cA ad x r) = some (ad r, ent cA ad y r)
      rw [ho r hr]
theorem ent_loc {cA : Nat → ClassId} {ad : Nat → Nat} {x y : St} {r : Nat} (h1 : ∀ k, gi y r k = gi x r k) (h2 : ∀ k, gl y r k = gl x r k) : ent cA ad y r = ent cA ad x r := by
  have e1 : gi y r = gi x r := funext h1
  have e2 : gl y r = gl x r := funext h2
  have e3 : fv ad y r = fv ad x r := by funext k; simp only [fv, h1 k, h2 k]
  unfold ent
  rw [e1, e2, e3]
theorem ent_si {cA : Nat → ClassId} {ad : Nat → Nat} {x : St} {q k : Nat} {v : Int32} {r : Nat} (h : r ≠ q) : ent cA ad (si x q k v) r = ent cA ad x r := ent_loc (fun j => gi_si_n _ _ _ _ (fun e => h e.1)) (fun _ => rfl)
theorem ent_sl {cA : Nat → ClassId} {ad : Nat → Nat} {x : St} {q k : Nat} {v : Int64} {r : Nat} (h : r ≠ q) : ent cA ad (sl x q k v) r = ent cA ad x r := ent_loc (fun _ => rfl) (fun j => by rw [gl_sl, if_neg (fun e => h e.1)])
theorem ent_cpi {cA : Nat → ClassId} {ad : Nat → Nat} {x : St} {q sp d dp n r : Nat} (h : r ≠ d) : ent cA ad (cpi x q sp d dp n) r = ent cA ad x r := ent_loc (fun j => by rw [gi_cpi, if_neg (fun e => h e.1)]) (fun _ => rfl)
theorem ent_cpl {cA : Nat → ClassId} {ad : Nat → Nat} {x : St} {q sp d dp n r : Nat} (h : r ≠ d) : ent cA ad (cpl x q sp d dp n) r = ent cA ad x r := ent_loc (fun _ => rfl) (fun j => by rw [gl_cpl, if_neg (fun e => h e.1)])
theorem ent_o {cA : Nat → ClassId} {ad : Nat → Nat} {x : St} {q c : Nat} (h : kd q = c) (hc : c < 20) : ent cA ad x q = .inr (c, (List.range (nf c)).map (fv ad x q)) := by
  unfold ent
  rw [h, if_neg (by omega), if_neg (by omega), if_neg (by omega), if_neg (by omega), if_neg (by omega), if_neg (by omega)]
theorem ent_20 {cA : Nat → ClassId} {ad : Nat → Nat} {x : St} {q : Nat} (h : kd q = 20) : ent cA ad x q = .inl (cA 0, ln q, .inl (gi x q)) := by unfold ent; rw [if_pos h]
theorem ent_21 {cA : Nat → ClassId} {ad : Nat → Nat} {x : St} {q : Nat} (h : kd q = 21) : ent cA ad x q = .inl (cA 1, ln q, .inl (gi x q)) := by unfold ent; rw [if_neg (by omega), if_pos h]
theorem ent_22 {cA : Nat → ClassId} {ad : Nat → Nat} {x : St} {q : Nat} (h : kd q = 22) : ent cA ad x q = .inl (cA 2, ln q, .inl (gi x q)) := by unfold ent; rw [if_neg (by omega), if_neg (by omega), if_pos h]
theorem ent_23 {cA : Nat → ClassId} {ad : Nat → Nat} {x : St} {q : Nat} (h : kd q = 23) : ent cA ad x q = .inl (cA 3, ln q, .inr (.inl (gl x q))) := by unfold ent; rw [if_neg (by omega), if_neg (by omega), if_neg (by omega), if_pos h]
theorem ent_24 {cA : Nat → ClassId} {ad : Nat → Nat} {x : St} {q : Nat} (h : kd q = 24) : ent cA ad x q = .inl (cA 4, ln q, .inr (.inr (.inr (.inr (fun i => some (ad (rf q i))))))) := by unfold ent; rw [if_neg (by omega), if_neg (by omega), if_neg (by omega), if_neg (by omega), if_pos h]
theorem ent_25 {cA : Nat → ClassId} {ad : Nat → Nat} {x : St} {q : Nat} (h : kd q = 25) : ent cA ad x q = .inl (cA 5, ln q, .inr (.inr (.inr (.inr (fun i => some (ad (rf q i))))))) := by unfold ent; rw [if_neg (by omega), if_neg (by omega), if_neg (by omega), if_neg (by omega), if_neg (by omega), if_pos h]
theorem fs_at {ad : Nat → Nat} {x : St} {q n k : Nat} (h : k < n) : ((List.range n).map (fv ad x q))[k]? = some (fv ad x q k) := by
  rw [List.getElem?_map, List.getElem?_range h]; rfl
theorem fs_set {ad : Nat → Nat} {x y : St} {q n k : Nat} (ho : ∀ j, j ≠ k → fv ad y q j = fv ad x q j) : ((List.range n).map (fv ad x q)).set k (fv ad y q k) = (List.range n).map (fv ad y q) := by
  apply List.ext_getElem?
  intro i
  by_cases hn : i < n
  · by_cases hi : i = k
    · subst hi
      rw [List.getElem?_set_self (by simp [hn]), fs_at hn]
    · rw [List.getElem?_set_ne (Ne.symm hi), fs_at hn, fs_at hn, ho i hi]
  · rw [List.getElem?_eq_none (by simp; omega), List.getElem?_eq_none (by simp; omega)]
theorem fs_si {ad : Nat → Nat} {x : St} {q n k : Nat} {v : Int32} (h : ft (kd q) k = 0) : ((List.range n).map (fv ad x q)).set k (.int v) = (List.range n).map (fv ad (si x q k v) q) := by
  have e : fv ad (si x q k v) q k = .int v := by unfold fv; rw [if_pos h, gi_si_s]
  rw [← e]
  exact fs_set fun j hj => by
    unfold fv
    rw [gi_si_n _ _ _ _ (fun z => hj z.2), gl_si]
theorem fs_sl {ad : Nat → Nat} {x : St} {q n k : Nat} {v : Int64} (h : ft (kd q) k = 1) : ((List.range n).map (fv ad x q)).set k (.long v) = (List.range n).map (fv ad (sl x q k v) q) := by
  have e : fv ad (sl x q k v) q k = .long v := by unfold fv; rw [if_neg (by omega), if_pos h, gl_sl, if_pos ⟨rfl, rfl⟩]
  rw [← e]
  exact fs_set fun j hj => by
    have e2 : gl (sl x q k v) q j = gl x q j := by rw [gl_sl, if_neg (fun z => hj z.2)]
    unfold fv
    rw [e2, gi_sl]
theorem gi_row (x : St) (q k : Nat) (v : Int32) : gi (si x q k v) q = upd (gi x q) k v := by
  funext j
  simp [gi, si, upd]
theorem gl_row (x : St) (q k : Nat) (v : Int64) : gl (sl x q k v) q = vp_updL (gl x q) k v := by
  funext j
  simp [gl, sl, vp_updL]
theorem gi_cprow (x : St) (q sp d dp n : Nat) : gi (cpi x q sp d dp n) d = va_cpy (gi x q) (gi x d) sp dp n := by
  funext j
  simp [gi, cpi, va_cpy]
theorem gl_cprow (x : St) (q sp d dp n : Nat) : gl (cpl x q sp d dp n) d = va_cpy (gl x q) (gl x d) sp dp n := by
  funext j
  simp [gl, cpl, va_cpy]
/-- a method's world at its start -/
def PB (E : Ev) (A : Nat → Prop) (ad : Nat → Nat) (js : List Nat) (x : St) (U : State) : Prop := Wd E ad js x U.heap ∧ Kd E A U
/-- a method's end: its answer, its world -/
def QX (E : Ev) (ad : Nat → Nat) (js : List Nat) (A : Nat → Prop) (rv : Option Value) (x : St) : Array Value → State → Outcome → State → Prop := fun _ st oc t => (oc = .returned rv ∧ Wd E ad js x t.heap) ∧ va_F A st t
def Cx (E : Ev) (A : Nat → Prop) (own : String) (cc : ByteArray) (nL : Nat) (rt : Option FieldType) (p : Program) (s : State) (m : MethodId) (args : Array Value) (meth : Method) (c : Code) : Prop :=
  p.tables.exec = Jvm.exec ∧ c.code = cc ∧ c.maxLocals = nL ∧ meth.sig.returnType = rt ∧ s.vm.findClass own = some m.cls ∧ (∀ w ∈ gtb, w.before args s = true) ∧ meth.locks = false ∧ Kd E A s
section Rows
variable {p : Program} {l : Launch} {e : Env} {R : Room} {s : State} {m : MethodId} {args : Array Value} {below : List Frame} {meth : Method} {c : Code} {H : Heap} {locs : List Loc} {cells slots : Nat} {Q : State → Prop}
variable {cc : ByteArray} {pc : Nat} {ls : Array Slot} {rest : List Value} {E : Ev} {A : Nat → Prop} {ad : Nat → Nat} {js : List Nat} {x : St} {own : String} {nL : Nat} {rt : Option FieldType}
theorem rgI (C0 : Cx E A own cc nL rt p s m args meth c) (hP : Wd E ad js x H) {q ci k index N : Nat} {C : String} {T : u_T} (ho : isO js q ci) (hc : vcl[ci]? = some (C, T, N)) (hci : ci < 20) (hN : nf ci = N) (hin : ∀ w ∈ u_ws C T N, w ∈ gtb) (hk : k < N) (hft : ft ci k = 0) (hd : (T k).1 = C) (hl : Cond.fieldLink own index C (T k).2.1 (T k).2.2.1 ∈ gtb) (hdg : decode cc pc = .ok (.getfield index, 3))
    (kk : W p l e R s m args below meth c H locs cells slots Q (F0 m (pc + 3) ls (.int (gi x q k) :: rest))) : W p l e R s m args below meth c H locs cells slots Q (F0 m pc ls (.ref (ad q) :: rest)) := by
  obtain ⟨hx, hb, -, -, hown, hts, -, hK⟩ := C0
  obtain ⟨n, -, h2⟩ := wl_at (cA := E.2.1) (ad := ad) (x := x) ho.1
  rw [ent_o ho.2 hci, hN] at h2
  exact va_get hx hb hts hin hown hK.1 hP n h2 hc k hk (hts _ hl) (fun _ h => by rw [hd] at h; exact h) (v := .int (gi x q k)) (by rw [fs_at hk]; simp [fv, ho.2, hft]) hdg kk
theorem rgL (C0 : Cx E A own cc nL rt p s m args meth c) (hP : Wd E ad js x H) {q ci k index N : Nat} {C : String} {T : u_T} (ho : isO js q ci) (hc : vcl[ci]? = some (C, T, N)) (hci : ci < 20) (hN : nf ci = N) (hin : ∀ w ∈ u_ws C T N, w ∈ gtb) (hk : k < N) (hft : ft ci k = 1) (hd : (T k).1 = C) (hl : Cond.fieldLink own index C (T k).2.1 (T k).2.2.1 ∈ gtb) (hdg : decode cc pc = .ok (.getfield index, 3))
    (kk : W p l e R s m args below meth c H locs cells slots Q (F0 m (pc + 3) ls (.long (gl x q k) :: rest))) : W p l e R s m args below meth c H locs cells slots Q (F0 m pc ls (.ref (ad q) :: rest)) := by
  obtain ⟨hx, hb, -, -, hown, hts, -, hK⟩ := C0
  obtain ⟨n, -, h2⟩ := wl_at (cA := E.2.1) (ad := ad) (x := x) ho.1
  rw [ent_o ho.2 hci, hN] at h2
  exact va_get hx hb hts hin hown hK.1 hP n h2 hc k hk (hts _ hl) (fun _ h => by rw [hd] at h; exact h) (v := .long (gl x q k)) (by rw [fs_at hk]; simp [fv, ho.2, hft]) hdg kk
theorem rgR (C0 : Cx E A own cc nL rt p s m args meth c) (hP : Wd E ad js x H) {q ci k index N : Nat} {C : String} {T : u_T} (ho : isO js q ci) (hc : vcl[ci]? = some (C, T, N)) (hci : ci < 20) (hN : nf ci = N) (hin : ∀ w ∈ u_ws C T N, w ∈ gtb) (hk : k < N) (hft : ft ci k = 2) (hd : (T k).1 = C) (hl : Cond.fieldLink own index C (T k).2.1 (T k).2.2.1 ∈ gtb) (hdg : decode cc pc = .ok (.getfield index, 3))
    (kk : W p l e R s m args below meth c H locs cells slots Q (F0 m (pc + 3) ls (.ref (ad (rf q k)) :: rest))) : W p l e R s m args below meth c H locs cells slots Q (F0 m pc ls (.ref (ad q) :: rest)) := by
  obtain ⟨hx, hb, -, -, hown, hts, -, hK⟩ := C0
  obtain ⟨n, -, h2⟩ := wl_at (cA := E.2.1) (ad := ad) (x := x) ho.1
  rw [ent_o ho.2 hci, hN] at h2
  exact va_get hx hb hts hin hown hK.1 hP n h2 hc k hk (hts _ hl) (fun _ h => by rw [hd] at h; exact h) (v := .ref (ad (rf q k))) (by rw [fs_at hk]; simp [fv, ho.2, hft]) hdg kk
theorem rgIN (C0 : Cx E A own cc nL rt p s m args meth c) (hP : Wd E ad js x H) {q ci k index N : Nat} {C host : String} {T : u_T} (ho : isO js q ci) (hc : vcl[ci]? = some (C, T, N)) (hci : ci < 20) (hN : nf ci = N) (hin : ∀ w ∈ u_ws C T N, w ∈ gtb) (hk : k < N) (hft : ft ci k = 0) (hd : (T k).1 = C) (hl : Cond.fieldLinkNest own index C (T k).2.1 (T k).2.2.1 host ∈ nst) (hdg : decode cc pc = .ok (.getfield index, 3))
    (kk : W p l e R s m args below meth c H locs cells slots Q (F0 m (pc + 3) ls (.int (gi x q k) :: rest))) : W p l e R s m args below meth c H locs cells slots Q (F0 m pc ls (.ref (ad q) :: rest)) := by
  obtain ⟨hx, hb, -, -, hown, hts, -, hK⟩ := C0
  obtain ⟨n, -, h2⟩ := wl_at (cA := E.2.1) (ad := ad) (x := x) ho.1
  rw [ent_o ho.2 hci, hN] at h2
  exact va_getN hx hb hts hin hown hK.1 hP n h2 hc k hk ((hK.2.1 _ hl).use rfl) (fun _ h => by rw [hd] at h; exact h) (v := .int (gi x q k)) (by rw [fs_at hk]; simp [fv, ho.2, hft]) hdg kk
theorem rgRN (C0 : Cx E A own cc nL rt p s m args meth c) (hP : Wd E ad js x H) {q ci k index N : Nat} {C host : String} {T : u_T} (ho : isO js q ci) (hc : vcl[ci]? = some (C, T, N)) (hci : ci < 20) (hN : nf ci = N) (hin : ∀ w ∈ u_ws C T N, w ∈ gtb) (hk : k < N) (hft : ft ci k = 2) (hd : (T k).1 = C) (hl : Cond.fieldLinkNest own index C (T k).2.1 (T k).2.2.1 host ∈ nst) (hdg : decode cc pc = .ok (.getfield index, 3))
    (kk : W p l e R s m args below meth c H locs cells slots Q (F0 m (pc + 3) ls (.ref (ad (rf q k)) :: rest))) : W p l e R s m args below meth c H locs cells slots Q (F0 m pc ls (.ref (ad q) :: rest)) := by
  obtain ⟨hx, hb, -, -, hown, hts, -, hK⟩ := C0
  obtain ⟨n, -, h2⟩ := wl_at (cA := E.2.1) (ad := ad) (x := x) ho.1
  rw [ent_o ho.2 hci, hN] at h2
  exact va_getN hx hb hts hin hown hK.1 hP n h2 hc k hk ((hK.2.1 _ hl).use rfl) (fun _ h => by rw [hd] at h; exact h) (v := .ref (ad (rf q k))) (by rw [fs_at hk]; simp [fv, ho.2, hft]) hdg kk
theorem rpI (C0 : Cx E A own cc nL rt p s m args meth c) (hap : Ap ad js A) (hP : Wd E ad js x H) (hS : va_S A s.heap H locs) {q ci k index N : Nat} {C : String} {T : u_T} {v : Int32} {G : Nat → FieldType} (ho : isO js q ci) (hc : vcl[ci]? = some (C, T, N)) (hci : ci < 20) (hN : nf ci = N) (hin : ∀ w ∈ u_ws C T N, w ∈ gtb) (hty : ∀ k, k < N → parseFieldDescriptor (T k).2.2.1 = some (G k)) (hnm : ∀ a, a < N → ∀ b, b < N → a ≠ b → (T a).2.1 ≠ (T b).2.1) (hk : k < N) (hft : ft ci k = 0) (hG : G k = .int) (hfin : (T k).2.2.2 = false) (hd : (T k).1 = C) (hl : Cond.fieldLink own index C (T k).2.1 (T k).2.2.1 ∈ gtb) (hdg : decode cc pc = .ok (.putfield index, 3))
    (kk : ∀ H1 locs1, Wd E ad js (si x q k v) H1 → va_S A s.heap H1 locs1 → W p l e R s m args below meth c H1 locs1 cells slots Q (F0 m (pc + 3) ls rest)) : W p l e R s m args below meth c H locs cells slots Q (F0 m pc ls (.int v :: .ref (ad q) :: rest)) := by
  obtain ⟨hx, hb, -, -, hown, hts, -, hK⟩ := C0
  obtain ⟨n, h1, h2⟩ := wl_at (cA := E.2.1) (ad := ad) (x := x) ho.1
  rw [ent_o ho.2 hci, hN] at h2
  refine va_put hx hb hts hin G hty hnm hown hK.1 hP hap.D hS n h2 hc k hk (hts _ hl) (fun _ h => by rw [hd] at h; exact h) hfin (ty := .int) (v := .int v) (by rw [hty k hk, hG]) rfl rfl (by rw [List.length_map, List.length_range]; exact hk) hdg (fun H1 locs1 g1 _ g3 => kk H1 locs1 ?_ g3)
  rw [fs_si (by rw [ho.2]; exact hft), ← hN, ← ent_o (cA := E.2.1) (x := si x q k v) ho.2 hci] at g1
  rw [wl_set hap.1 h1 (fun r hr => ent_si hr)] at g1
  exact g1
theorem rpL (C0 : Cx E A own cc nL rt p s m args meth c) (hap : Ap ad js A) (hP : Wd E ad js x H) (hS : va_S A s.heap H locs) {q ci k index N : Nat} {C : String} {T : u_T} {v : Int64} {G : Nat → FieldType} (ho : isO js q ci) (hc : vcl[ci]? = some (C, T, N)) (hci : ci < 20) (hN : nf ci = N) (hin : ∀ w ∈ u_ws C T N, w ∈ gtb) (hty : ∀ k, k < N → parseFieldDescriptor (T k).2.2.1 = some (G k)) (hnm : ∀ a, a < N → ∀ b, b < N → a ≠ b → (T a).2.1 ≠ (T b).2.1) (hk : k < N) (hft : ft ci k = 1) (hG : G k = .long) (hfin : (T k).2.2.2 = false) (hd : (T k).1 = C) (hl : Cond.fieldLink own index C (T k).2.1 (T k).2.2.1 ∈ gtb) (hdg : decode cc pc = .ok (.putfield index, 3))
    (kk : ∀ H1 locs1, Wd E ad js (sl x q k v) H1 → va_S A s.heap H1 locs1 → W p l e R s m args below meth c H1 locs1 cells slots Q (F0 m (pc + 3) ls rest)) : W p l e R s m args below meth c H locs cells slots Q (F0 m pc ls (.long v :: .ref (ad q) :: rest)) := by
  obtain ⟨hx, hb, -, -, hown, hts, -, hK⟩ := C0
  obtain ⟨n, h1, h2⟩ := wl_at (cA := E.2.1) (ad := ad) (x := x) ho.1
  rw [ent_o ho.2 hci, hN] at h2
  refine va_put hx hb hts hin G hty hnm hown hK.1 hP hap.D hS n h2 hc k hk (hts _ hl) (fun _ h => by rw [hd] at h; exact h) hfin (ty := .long) (v := .long v) (by rw [hty k hk, hG]) rfl rfl (by rw [List.length_map, List.length_range]; exact hk) hdg (fun H1 locs1 g1 _ g3 => kk H1 locs1 ?_ g3)
  rw [fs_sl (by rw [ho.2]; exact hft), ← hN, ← ent_o (cA := E.2.1) (x := sl x q k v) ho.2 hci] at g1
  rw [wl_set hap.1 h1 (fun r hr => ent_sl hr)] at g1
  exact g1
theorem rpIN (C0 : Cx E A own cc nL rt p s m args meth c) (hap : Ap ad js A) (hP : Wd E ad js x H) (hS : va_S A s.heap H locs) {q ci k index N : Nat} {C host : String} {T : u_T} {v : Int32} {G : Nat → FieldType} (ho : isO js q ci) (hc : vcl[ci]? = some (C, T, N)) (hci : ci < 20) (hN : nf ci = N) (hin : ∀ w ∈ u_ws C T N, w ∈ gtb) (hty : ∀ k, k < N → parseFieldDescriptor (T k).2.2.1 = some (G k)) (hnm : ∀ a, a < N → ∀ b, b < N → a ≠ b → (T a).2.1 ≠ (T b).2.1) (hk : k < N) (hft : ft ci k = 0) (hG : G k = .int) (hfin : (T k).2.2.2 = false) (hd : (T k).1 = C) (hl : Cond.fieldLinkNest own index C (T k).2.1 (T k).2.2.1 host ∈ nst) (hdg : decode cc pc = .ok (.putfield index, 3))
    (kk : ∀ H1 locs1, Wd E ad js (si x q k v) H1 → va_S A s.heap H1 locs1 → W p l e R s m args below meth c H1 locs1 cells slots Q (F0 m (pc + 3) ls rest)) : W p l e R s m args below meth c H locs cells slots Q (F0 m pc ls (.int v :: .ref (ad q) :: rest)) := by
  obtain ⟨hx, hb, -, -, hown, hts, -, hK⟩ := C0
  obtain ⟨n, h1, h2⟩ := wl_at (cA := E.2.1) (ad := ad) (x := x) ho.1
  rw [ent_o ho.2 hci, hN] at h2
  refine va_putN hx hb hts hin G hty hnm hown hK.1 hP hap.D hS n h2 hc k hk ((hK.2.1 _ hl).use rfl) (fun _ h => by rw [hd] at h; exact h) hfin (ty := .int) (v := .int v) (by rw [hty k hk, hG]) rfl rfl (by rw [List.length_map, List.length_range]; exact hk) hdg (fun H1 locs1 g1 _ g3 => kk H1 locs1 ?_ g3)
  rw [fs_si (by rw [ho.2]; exact hft), ← hN, ← ent_o (cA := E.2.1) (x := si x q k v) ho.2 hci] at g1
  rw [wl_set hap.1 h1 (fun r hr => ent_si hr)] at g1
  exact g1
theorem raI (C0 : Cx E A own cc nL rt p s m args meth c) (hP : Wd E ad js x H) {q : Nat} (ho : isO js q 20) {i : Int32} (hi : ixb i (ln q) = true) (hdg : decode cc pc = .ok (.iaload, 1))
    (kk : W p l e R s m args below meth c H locs cells slots Q (F0 m (pc + 1) ls (.int (gi x q (ix i)) :: rest))) : W p l e R s m args below meth c H locs cells slots Q (F0 m pc ls (.int i :: .ref (ad q) :: rest)) := by
  obtain ⟨hx, hb, -, -, hown, hts, -, hK⟩ := C0
  obtain ⟨n, -, h2⟩ := wl_at (cA := E.2.1) (ad := ad) (x := x) ho.1
  rw [ent_20 ho.2] at h2
  exact va_iald hx hb hK.1 hP n 0 h2 rfl (ixb_in hi) hdg kk
theorem raB (C0 : Cx E A own cc nL rt p s m args meth c) (hP : Wd E ad js x H) {q : Nat} (ho : isO js q 21) {i : Int32} (hi : ixb i (ln q) = true) (hdg : decode cc pc = .ok (.baload, 1))
    (kk : W p l e R s m args below meth c H locs cells slots Q (F0 m (pc + 1) ls (.int (gi x q (ix i)) :: rest))) : W p l e R s m args below meth c H locs cells slots Q (F0 m pc ls (.int i :: .ref (ad q) :: rest)) := by
  obtain ⟨hx, hb, -, -, hown, hts, -, hK⟩ := C0
  obtain ⟨n, -, h2⟩ := wl_at (cA := E.2.1) (ad := ad) (x := x) ho.1
  rw [ent_21 ho.2] at h2
  exact va_bald hx hb hK.1 hP n 1 h2 rfl (ixb_in hi) hdg kk
theorem raZ (C0 : Cx E A own cc nL rt p s m args meth c) (hP : Wd E ad js x H) {q : Nat} (ho : isO js q 22) {i : Int32} (hi : ixb i (ln q) = true) (hdg : decode cc pc = .ok (.baload, 1))
    (kk : W p l e R s m args below meth c H locs cells slots Q (F0 m (pc + 1) ls (.int (gi x q (ix i)) :: rest))) : W p l e R s m args below meth c H locs cells slots Q (F0 m pc ls (.int i :: .ref (ad q) :: rest)) := by
  obtain ⟨hx, hb, -, -, hown, hts, -, hK⟩ := C0
  obtain ⟨n, -, h2⟩ := wl_at (cA := E.2.1) (ad := ad) (x := x) ho.1
  rw [ent_22 ho.2] at h2
  exact va_zald hx hb hK.1 hP n 2 h2 rfl (ixb_in hi) hdg kk
theorem raL (C0 : Cx E A own cc nL rt p s m args meth c) (hP : Wd E ad js x H) {q : Nat} (ho : isO js q 23) {i : Int32} (hi : ixb i (ln q) = true) (hdg : decode cc pc = .ok (.laload, 1))
    (kk : W p l e R s m args below meth c H locs cells slots Q (F0 m (pc + 1) ls (.long (gl x q (ix i)) :: rest))) : W p l e R s m args below meth c H locs cells slots Q (F0 m pc ls (.int i :: .ref (ad q) :: rest)) := by
  obtain ⟨hx, hb, -, -, hown, hts, -, hK⟩ := C0
  obtain ⟨n, -, h2⟩ := wl_at (cA := E.2.1) (ad := ad) (x := x) ho.1
  rw [ent_23 ho.2] at h2
  exact va_lald hx hb hK.1 hP n 3 h2 rfl (ixb_in hi) hdg kk
theorem raS (C0 : Cx E A own cc nL rt p s m args meth c) (hP : Wd E ad js x H) {q : Nat} (ho : isO js q 24) {i : Int32} (hi : ixb i (ln q) = true) (hdg : decode cc pc = .ok (.aaload, 1))
    (kk : W p l e R s m args below meth c H locs cells slots Q (F0 m (pc + 1) ls (.ref (ad (rf q (ix i))) :: rest))) : W p l e R s m args below meth c H locs cells slots Q (F0 m pc ls (.int i :: .ref (ad q) :: rest)) := by
  obtain ⟨hx, hb, -, -, hown, hts, -, hK⟩ := C0
  obtain ⟨n, -, h2⟩ := wl_at (cA := E.2.1) (ad := ad) (x := x) ho.1
  rw [ent_24 ho.2] at h2
  exact va_aldq hx hb hK.1 hP n 4 h2 rfl (ixb_in hi) hdg kk
theorem raA (C0 : Cx E A own cc nL rt p s m args meth c) (hP : Wd E ad js x H) {q : Nat} (ho : isO js q 25) {i : Int32} (hi : ixb i (ln q) = true) (hdg : decode cc pc = .ok (.aaload, 1))
    (kk : W p l e R s m args below meth c H locs cells slots Q (F0 m (pc + 1) ls (.ref (ad (rf q (ix i))) :: rest))) : W p l e R s m args below meth c H locs cells slots Q (F0 m pc ls (.int i :: .ref (ad q) :: rest)) := by
  obtain ⟨hx, hb, -, -, hown, hts, -, hK⟩ := C0
  obtain ⟨n, -, h2⟩ := wl_at (cA := E.2.1) (ad := ad) (x := x) ho.1
  rw [ent_25 ho.2] at h2
  have hin := ixb_in hi
  have hlt : i.toNatClampNeg < ln q := Nat.not_le.mp fun z => hin (Or.inr z)
  exact W.aald (v := .ref (ad (rf q (ix i)))) (ty := .array .int) hx hb (hP n _ h2) ((hK.1.2 5 _ rfl).1 (ln q) (fun j => va_rf (some (ad (rf q j))))) rfl (fun z => by cases z) (by show ¬ (i < 0 ∨ (arrV _ _ _).slots.size ≤ _); rw [arrV_size]; exact hin) (by show (arrV _ _ _).slots[_]? = _; rw [arrV_read _ _ hlt]; rfl) rfl rfl hdg kk
theorem rlen (C0 : Cx E A own cc nL rt p s m args meth c) (hP : Wd E ad js x H) {q : Nat} (ho : isO js q 20) (hdg : decode cc pc = .ok (.arraylength, 1))
    (kk : W p l e R s m args below meth c H locs cells slots Q (F0 m (pc + 1) ls (.int (Int32.ofNat (ln q)) :: rest))) : W p l e R s m args below meth c H locs cells slots Q (F0 m pc ls (.ref (ad q) :: rest)) := by
  obtain ⟨hx, hb, -, -, hown, hts, -, hK⟩ := C0
  obtain ⟨n, -, h2⟩ := wl_at (cA := E.2.1) (ad := ad) (x := x) ho.1
  rw [ent_20 ho.2] at h2
  exact va_alen hx hb hK.1 hP n 0 h2 (ty := .int) rfl rfl hdg kk
theorem rlenL (C0 : Cx E A own cc nL rt p s m args meth c) (hP : Wd E ad js x H) {q : Nat} (ho : isO js q 23) (hdg : decode cc pc = .ok (.arraylength, 1))
    (kk : W p l e R s m args below meth c H locs cells slots Q (F0 m (pc + 1) ls (.int (Int32.ofNat (ln q)) :: rest))) : W p l e R s m args below meth c H locs cells slots Q (F0 m pc ls (.ref (ad q) :: rest)) := by
  obtain ⟨hx, hb, -, -, hown, hts, -, hK⟩ := C0
  obtain ⟨n, -, h2⟩ := wl_at (cA := E.2.1) (ad := ad) (x := x) ho.1
  rw [ent_23 ho.2] at h2
  exact va_alen hx hb hK.1 hP n 3 h2 (ty := .long) rfl rfl hdg kk
theorem rsI (C0 : Cx E A own cc nL rt p s m args meth c) (hap : Ap ad js A) (hP : Wd E ad js x H) (hS : va_S A s.heap H locs) {q : Nat} (ho : isO js q 20) {i v : Int32} (hi : ixb i (ln q) = true) (hdg : decode cc pc = .ok (.iastore, 1))
    (kk : ∀ H1 locs1, Wd E ad js (si x q (ix i) v) H1 → va_S A s.heap H1 locs1 → W p l e R s m args below meth c H1 locs1 cells slots Q (F0 m (pc + 1) ls rest)) : W p l e R s m args below meth c H locs cells slots Q (F0 m pc ls (.int v :: .int i :: .ref (ad q) :: rest)) := by
  obtain ⟨hx, hb, -, -, hown, hts, -, hK⟩ := C0
  obtain ⟨n, h1, h2⟩ := wl_at (cA := E.2.1) (ad := ad) (x := x) ho.1
  rw [ent_20 ho.2] at h2
  refine va_iast hx hb hK.1 hP hap.D hS n 0 h2 rfl (ixb_in hi) hdg (fun H1 locs1 g1 _ g3 => kk H1 locs1 ?_ g3)
  rw [← gi_row, ← ent_20 (cA := E.2.1) (ad := ad) ho.2, wl_set hap.1 h1 (fun r hr => ent_si hr)] at g1
  exact g1
theorem rsB (C0 : Cx E A own cc nL rt p s m args meth c) (hap : Ap ad js A) (hP : Wd E ad js x H) (hS : va_S A s.heap H locs) {q : Nat} (ho : isO js q 21) {i v : Int32} (hi : ixb i (ln q) = true) (hdg : decode cc pc = .ok (.bastore, 1))
    (kk : ∀ H1 locs1, Wd E ad js (si x q (ix i) (vp_nar .byte v)) H1 → va_S A s.heap H1 locs1 → W p l e R s m args below meth c H1 locs1 cells slots Q (F0 m (pc + 1) ls rest)) : W p l e R s m args below meth c H locs cells slots Q (F0 m pc ls (.int v :: .int i :: .ref (ad q) :: rest)) := by
  obtain ⟨hx, hb, -, -, hown, hts, -, hK⟩ := C0
  obtain ⟨n, h1, h2⟩ := wl_at (cA := E.2.1) (ad := ad) (x := x) ho.1
  rw [ent_21 ho.2] at h2
  refine va_bast hx hb hK.1 hP hap.D hS n 1 h2 rfl (ixb_in hi) hdg (fun H1 locs1 g1 _ g3 => kk H1 locs1 ?_ g3)
  rw [← gi_row, ← ent_21 (cA := E.2.1) (ad := ad) ho.2, wl_set hap.1 h1 (fun r hr => ent_si hr)] at g1
  exact g1
theorem rsZ (C0 : Cx E A own cc nL rt p s m args meth c) (hap : Ap ad js A) (hP : Wd E ad js x H) (hS : va_S A s.heap H locs) {q : Nat} (ho : isO js q 22) {i v : Int32} (hi : ixb i (ln q) = true) (hdg : decode cc pc = .ok (.bastore, 1))
    (kk : ∀ H1 locs1, Wd E ad js (si x q (ix i) (vp_nar .boolean v)) H1 → va_S A s.heap H1 locs1 → W p l e R s m args below meth c H1 locs1 cells slots Q (F0 m (pc + 1) ls rest)) : W p l e R s m args below meth c H locs cells slots Q (F0 m pc ls (.int v :: .int i :: .ref (ad q) :: rest)) := by
  obtain ⟨hx, hb, -, -, hown, hts, -, hK⟩ := C0
  obtain ⟨n, h1, h2⟩ := wl_at (cA := E.2.1) (ad := ad) (x := x) ho.1
  rw [ent_22 ho.2] at h2
  refine va_zast hx hb hK.1 hP hap.D hS n 2 h2 rfl (ixb_in hi) hdg (fun H1 locs1 g1 _ g3 => kk H1 locs1 ?_ g3)
  rw [← gi_row, ← ent_22 (cA := E.2.1) (ad := ad) ho.2, wl_set hap.1 h1 (fun r hr => ent_si hr)] at g1
  exact g1
theorem rsL (C0 : Cx E A own cc nL rt p s m args meth c) (hap : Ap ad js A) (hP : Wd E ad js x H) (hS : va_S A s.heap H locs) {q : Nat} (ho : isO js q 23) {i : Int32} {v : Int64} (hi : ixb i (ln q) = true) (hdg : decode cc pc = .ok (.lastore, 1))
    (kk : ∀ H1 locs1, Wd E ad js (sl x q (ix i) v) H1 → va_S A s.heap H1 locs1 → W p l e R s m args below meth c H1 locs1 cells slots Q (F0 m (pc + 1) ls rest)) : W p l e R s m args below meth c H locs cells slots Q (F0 m pc ls (.long v :: .int i :: .ref (ad q) :: rest)) := by
  obtain ⟨hx, hb, -, -, hown, hts, -, hK⟩ := C0
  obtain ⟨n, h1, h2⟩ := wl_at (cA := E.2.1) (ad := ad) (x := x) ho.1
  rw [ent_23 ho.2] at h2
  refine va_last hx hb hK.1 hP hap.D hS n 3 h2 rfl (ixb_in hi) hdg (fun H1 locs1 g1 _ g3 => kk H1 locs1 ?_ g3)
  rw [← gl_row, ← ent_23 (cA := E.2.1) (ad := ad) ho.2, wl_set hap.1 h1 (fun r hr => ent_sl hr)] at g1
  exact g1
theorem rcpI (C0 : Cx E A own cc nL rt p s m args meth c) (hap : Ap ad js A) (hP : Wd E ad js x H) (hS : va_S A s.heap H locs) {q d index : Nat} (ho : isO js q 20) (ho2 : isO js d 20) {sp dp n : Int32} (h1 : spb sp n (ln q) = true) (h2 : spb dp n (ln d) = true) (hls : ls.size = nL) (hl : Cond.methodLink own index arraycopyName ∈ gtb) (hn : Cond.native arraycopyName ∈ gtb) (hst : Cond.static arraycopyName ∈ gtb) (hi : Cond.initialized "java/lang/System" ∈ gtb)
    (hframes : 1 ≤ R.frames) (hlocals : (rest.map fun v => v.category).sum + (nativeFrameWords "java/lang/System" "arraycopy" 5 + 11) ≤ R.locals) (hdg : decode cc pc = .ok (.invokestatic index, 3))
    (kk : ∀ H1 locs1, Wd E ad js (cpi x q (ix sp) d (ix dp) (ix n)) H1 → va_S A s.heap H1 locs1 → W p l e R s m args below meth c H1 locs1 cells slots Q (F0 m (pc + 3) ls rest)) : W p l e R s m args below meth c H locs cells slots Q (F0 m pc ls (.int n :: .int dp :: .ref (ad d) :: .int sp :: .ref (ad q) :: rest)) := by
  obtain ⟨hx, hb, hml, -, hown, hts, -, hK⟩ := C0
  obtain ⟨n1, g1, g2⟩ := wl_at (cA := E.2.1) (ad := ad) (x := x) ho.1
  obtain ⟨n2, k1, k2⟩ := wl_at (cA := E.2.1) (ad := ad) (x := x) ho2.1
  rw [ent_20 ho.2] at g2
  rw [ent_20 ho2.2] at k2
  obtain ⟨a1, a2, a3⟩ := spb_in h1
  obtain ⟨b1, b2, b3⟩ := spb_in h2
  refine va_copyi hx hb (hml.trans hls.symm) hown (hts _ hl) (hts _ hn) (hts _ hst) (hts _ hi) hK.1 hP hap.D hS n1 n2 0 0 g2 k2 (ty := .int) rfl rfl rfl a1 b1 a2 a3 b3 (fun _ _ => rfl) hframes hlocals hdg (fun H1 locs1 z1 _ z3 => kk H1 locs1 ?_ z3)
  rw [← gi_cprow, ← ent_20 (cA := E.2.1) (ad := ad) ho2.2, wl_set hap.1 k1 (fun r hr => ent_cpi hr)] at z1
  exact z1
theorem rcpL (C0 : Cx E A own cc nL rt p s m args meth c) (hap : Ap ad js A) (hP : Wd E ad js x H) (hS : va_S A s.heap H locs) {q d index : Nat} (ho : isO js q 23) (ho2 : isO js d 23) {sp dp n : Int32} (h1 : spb sp n (ln q) = true) (h2 : spb dp n (ln d) = true) (hls : ls.size = nL) (hl : Cond.methodLink own index arraycopyName ∈ gtb) (hn : Cond.native arraycopyName ∈ gtb) (hst : Cond.static arraycopyName ∈ gtb) (hi : Cond.initialized "java/lang/System" ∈ gtb)
    (hframes : 1 ≤ R.frames) (hlocals : (rest.map fun v => v.category).sum + (nativeFrameWords "java/lang/System" "arraycopy" 5 + 11) ≤ R.locals) (hdg : decode cc pc = .ok (.invokestatic index, 3))
    (kk : ∀ H1 locs1, Wd E ad js (cpl x q (ix sp) d (ix dp) (ix n)) H1 → va_S A s.heap H1 locs1 → W p l e R s m args below meth c H1 locs1 cells slots Q (F0 m (pc + 3) ls rest)) : W p l e R s m args below meth c H locs cells slots Q (F0 m pc ls (.int n :: .int dp :: .ref (ad d) :: .int sp :: .ref (ad q) :: rest)) := by
  obtain ⟨hx, hb, hml, -, hown, hts, -, hK⟩ := C0
  obtain ⟨n1, g1, g2⟩ := wl_at (cA := E.2.1) (ad := ad) (x := x) ho.1
  obtain ⟨n2, k1, k2⟩ := wl_at (cA := E.2.1) (ad := ad) (x := x) ho2.1
  rw [ent_23 ho.2] at g2
  rw [ent_23 ho2.2] at k2
  obtain ⟨a1, a2, a3⟩ := spb_in h1
  obtain ⟨b1, b2, b3⟩ := spb_in h2
  refine va_copyl hx hb (hml.trans hls.symm) hown (hts _ hl) (hts _ hn) (hts _ hst) (hts _ hi) hK.1 hP hap.D hS n1 n2 3 3 g2 k2 (ty := .long) rfl rfl rfl a1 b1 a2 a3 b3 (fun _ _ => rfl) hframes hlocals hdg (fun H1 locs1 z1 _ z3 => kk H1 locs1 ?_ z3)
  rw [← gl_cprow, ← ent_23 (cA := E.2.1) (ad := ad) ho2.2, wl_set hap.1 k1 (fun r hr => ent_cpl hr)] at z1
  exact z1
/-- a reference, or null, of a local -/
theorem raQn {k : Fin 4} {i : Nat} {o : Option Nat} (hexec : p.tables.exec = Jvm.exec) (hb : c.code = cc) (hdg : decode cc pc = .ok (.aload_n k, 1)) (hi : (k : Nat) = i) (hl : ls[i]? = some (.val (va_re ad o)))
    (kk : W p l e R s m args below meth c H locs cells slots Q (F0 m (pc + 1) ls (va_re ad o :: rest))) : W p l e R s m args below meth c H locs cells slots Q (F0 m pc ls rest) := by
  cases o with
  | none => exact lv_aload_nN hexec hb hdg hi hl kk
  | some q => exact lv_aload_n hexec hb hdg hi hl kk
theorem raQ {i : Nat} {o : Option Nat} (hexec : p.tables.exec = Jvm.exec) (hb : c.code = cc) (hdg : decode cc pc = .ok (.aload i, 2)) (hl : ls[i]? = some (.val (va_re ad o)))
    (kk : W p l e R s m args below meth c H locs cells slots Q (F0 m (pc + 2) ls (va_re ad o :: rest))) : W p l e R s m args below meth c H locs cells slots Q (F0 m pc ls rest) := by
  cases o with
  | none => exact lv_aloadN hexec hb hdg hl kk
  | some q => exact lv_aload hexec hb hdg hl kk
theorem rqS {i nL' : Nat} {o : Option Nat} {lv lv' : List (Nat × Value)} (hexec : p.tables.exec = Jvm.exec) (hb : c.code = cc) (hdg : decode cc pc = .ok (.astore i, 2)) (h : lv_has ls nL' lv) (hn : i < nL') (hl : (i, va_re ad o) :: lv.filter (fun q => !(q.1 == i) && !(q.1 + 1 == i && q.2.category == 2)) = lv')
    (kk : ∀ ls' : Array Slot, lv_has ls' nL' lv' → W p l e R s m args below meth c H locs cells slots Q (F0 m (pc + 2) ls' rest)) : W p l e R s m args below meth c H locs cells slots Q (F0 m pc ls (va_re ad o :: rest)) := by
  cases o with
  | none => exact lv_astoreN hexec hb hdg h hn hl kk
  | some q => exact lv_astore hexec hb hdg h hn hl kk
/-! calls -/
theorem rc0 {mc ms : Nat} {st0 : List Value} {rv : Option Value} {x' : St} {a : Array Value} (hr : va_Run p l e R s m args below meth c H locs cells slots mc ms (F0 m pc ls st0) rest (QX E ad js A rv x' a) A) (hS : va_S A s.heap H locs)
    (kk : ∀ H1 locs1, Wd E ad js x' H1 → H.size ≤ H1.size → (∀ q : Nat, q < H.size → ¬ A q → H1[q]? = H[q]?) → va_S A s.heap H1 locs1 → W p l e R s m args below meth c H1 locs1 (cells + mc) (slots + ms) Q (F0 m (pc + 3) ls (rv.toList ++ rest))) : W p l e R s m args below meth c H locs cells slots Q (F0 m pc ls st0) := by
  intro T hT X
  obtain ⟨v, st₀, t, T', L, h0, X', hL, e1, e2, ⟨⟨hv, hp⟩, hz, hk⟩, st⟩ := hr T hT X
  cases hv
  rw [h0] at hz hk
  obtain ⟨t2, a1, b1⟩ := kk T'.heap (locs ++ L) (by rw [e1]; exact hp) (by rw [e1]; exact hz) (fun q h1 h2 => by rw [e1]; exact hk q h1 h2)
    ⟨Nat.le_trans hS.1 (by rw [e1]; exact hz), fun q h1 h2 => by rw [e1, hk q (Nat.lt_of_lt_of_le h1 hS.1) h2]; exact hS.2.1 q h1 h2, fun q hq => by
      rcases List.mem_append.mp hq with h | h
      · exact hS.2.2 q h
      · exact hL q h⟩ T' rfl X'
  exact ⟨t2, st t2 a1, b1⟩
theorem good_call {w : Cond} (h : w ∈ gtb) : GoodIn gtb (w :: gtb) := by
  intro z hz
  have hm : z ∈ gtb := (List.mem_cons.mp hz).elim (fun e => e ▸ h) (fun q => q)
  exact ⟨hm, good_of_word (List.mem_filter.mp hm).2⟩
theorem PB.blind {av : List Value} : FrameBlind (va_Pc av (PB E A ad js x)) := by
  intro a U g mk h
  exact ⟨h.1, h.2.1, h.2.2.same rfl rfl⟩
theorem rcV {y : MethodName} {b : ByteArray} {mL n index N ci q : Nat} {ret : Option FieldType} {rm : Room} {As st0 : List Value} {rv : Option Value} {x' : St} {C : String} {T : u_T} (C0 : Cx E A own cc nL rt p s m args meth c)
    (hM : Met l y (Cond.code y b mL ret :: gtb) rm (va_Pc (.ref (ad q) :: As) (PB E A ad js x)) (QX E ad js A rv x') 0 0 A) (hP : Wd E ad js x H) (hS : va_S A s.heap H locs) (ho : isO js q ci) (hc : vcl[ci]? = some (C, T, N)) (hci : ci < 20)
    (hwc : Cond.code y b mL ret ∈ gtb) (hwl : Cond.methodLink own index y ∈ gtb) (hwi : Cond.instanceMethod y ∈ gtb) (hws : Cond.selects C y y ∈ gtb) (hwn : Cond.initialized y.cls ∈ gtb) (hrc : rm.cells = 0) (hrs : rm.slots = 0) (hd : y.cls ≠ "java/lang/invoke/MethodHandle" ∧ y.cls ≠ "java/lang/invoke/VarHandle" ∧ (parseMethodDescriptor y.desc).map (fun d => d.parameters.length) = some n) (hn : As.length = n)
    (hR : rm.frames + 1 ≤ R.frames ∧ 8 + (mL + 11) + rm.locals ≤ R.locals) (hls : ls.size = nL) (hst : st0 = As.reverse ++ .ref (ad q) :: rest) (hroom : (rest.map fun v => v.category).sum ≤ 8) (hdg : decode cc pc = .ok (.invokevirtual index, 3)) (hf : cells ≤ R.cells ∧ slots ≤ R.slots)
    (kk : ∀ H1 locs1, Wd E ad js x' H1 → H.size ≤ H1.size → (∀ q : Nat, q < H.size → ¬ A q → H1[q]? = H[q]?) → va_S A s.heap H1 locs1 → W p l e R s m args below meth c H1 locs1 cells slots Q (F0 m (pc + 3) ls (rv.toList ++ rest))) : W p l e R s m args below meth c H locs cells slots Q (F0 m pc ls st0) := by
  obtain ⟨hx, hb, hml, -, hown, hts, -, hK⟩ := id C0
  obtain ⟨k0, -, h2⟩ := wl_at (cA := E.2.1) (ad := ad) (x := x) ho.1
  rw [ent_o ho.2 hci] at h2
  exact rc0 (rest := rest) (va_runV (As := As) (C := C) (n := n) (bytes := b) (maxL := mL) (ret := ret) ⟨hx, hb, hml, hown, hts⟩ hM ⟨callB_of n hts (good_call hwc) rfl hrc hrs (hts _ hwn) (hts _ hwl) hd hR, hts _ hwi, hts _ hws⟩ ⟨PB.blind, va_recv (q := (C, T, N)) hK.1 hP hc h2, fun U hU hW => ⟨rfl, by rw [hU]; exact hP, hK.to hS hU hW⟩⟩ rfl hn hls hst (lv_room hroom) hdg hf) hS kk
theorem rcS {y : MethodName} {b : ByteArray} {mL n index : Nat} {ret : Option FieldType} {rm : Room} {As st0 : List Value} {rv : Option Value} {x' : St} (C0 : Cx E A own cc nL rt p s m args meth c)
    (hM : Met l y (Cond.code y b mL ret :: gtb) rm (va_Pc As (PB E A ad js x)) (QX E ad js A rv x') 0 0 A) (hP : Wd E ad js x H) (hS : va_S A s.heap H locs)
    (hwc : Cond.code y b mL ret ∈ gtb) (hwl : Cond.methodLink own index y ∈ gtb) (hwi : Cond.static y ∈ gtb) (hwn : Cond.initialized y.cls ∈ gtb) (hrc : rm.cells = 0) (hrs : rm.slots = 0) (hd : y.cls ≠ "java/lang/invoke/MethodHandle" ∧ y.cls ≠ "java/lang/invoke/VarHandle" ∧ (parseMethodDescriptor y.desc).map (fun d => d.parameters.length) = some n) (hn : As.length = n)
    (hR : rm.frames + 1 ≤ R.frames ∧ 8 + (mL + 11) + rm.locals ≤ R.locals) (hls : ls.size = nL) (hst : st0 = As.reverse ++ rest) (hroom : (rest.map fun v => v.category).sum ≤ 8) (hdg : decode cc pc = .ok (.invokestatic index, 3)) (hf : cells ≤ R.cells ∧ slots ≤ R.slots)
    (kk : ∀ H1 locs1, Wd E ad js x' H1 → H.size ≤ H1.size → (∀ q : Nat, q < H.size → ¬ A q → H1[q]? = H[q]?) → va_S A s.heap H1 locs1 → W p l e R s m args below meth c H1 locs1 cells slots Q (F0 m (pc + 3) ls (rv.toList ++ rest))) : W p l e R s m args below meth c H locs cells slots Q (F0 m pc ls st0) := by
  obtain ⟨hx, hb, hml, -, hown, hts, -, hK⟩ := id C0
  exact rc0 (rest := rest) (va_runS (As := As) (n := n) (bytes := b) (maxL := mL) (ret := ret) ⟨hx, hb, hml, hown, hts⟩ hM ⟨callB_of n hts (good_call hwc) rfl hrc hrs (hts _ hwn) (hts _ hwl) hd hR, hts _ hwi⟩ ⟨PB.blind, fun U hU hW => ⟨rfl, by rw [hU]; exact hP, hK.to hS hU hW⟩⟩ rfl hn hls hst (lv_room hroom) hdg hf) hS kk
theorem rcSN {y : MethodName} {b : ByteArray} {mL n index : Nat} {host : String} {ret : Option FieldType} {rm : Room} {As st0 : List Value} {rv : Option Value} {x' : St} (C0 : Cx E A own cc nL rt p s m args meth c)
    (hM : Met l y (Cond.code y b mL ret :: gtb) rm (va_Pc As (PB E A ad js x)) (QX E ad js A rv x') 0 0 A) (hP : Wd E ad js x H) (hS : va_S A s.heap H locs)
    (hwc : Cond.code y b mL ret ∈ gtb) (hwl : Cond.methodLinkNest own index y host ∈ nst) (hwi : Cond.static y ∈ gtb) (hwn : Cond.initialized y.cls ∈ gtb) (hrc : rm.cells = 0) (hrs : rm.slots = 0) (hd : y.cls ≠ "java/lang/invoke/MethodHandle" ∧ y.cls ≠ "java/lang/invoke/VarHandle" ∧ (parseMethodDescriptor y.desc).map (fun d => d.parameters.length) = some n) (hn : As.length = n)
    (hR : rm.frames + 1 ≤ R.frames ∧ 8 + (mL + 11) + rm.locals ≤ R.locals) (hls : ls.size = nL) (hst : st0 = As.reverse ++ rest) (hroom : (rest.map fun v => v.category).sum ≤ 8) (hdg : decode cc pc = .ok (.invokestatic index, 3)) (hf : cells ≤ R.cells ∧ slots ≤ R.slots)
    (kk : ∀ H1 locs1, Wd E ad js x' H1 → H.size ≤ H1.size → (∀ q : Nat, q < H.size → ¬ A q → H1[q]? = H[q]?) → va_S A s.heap H1 locs1 → W p l e R s m args below meth c H1 locs1 cells slots Q (F0 m (pc + 3) ls (rv.toList ++ rest))) : W p l e R s m args below meth c H locs cells slots Q (F0 m pc ls st0) := by
  obtain ⟨hx, hb, hml, -, hown, hts, -, hK⟩ := id C0
  exact rc0 (rest := rest) (va_runSN (As := As) (n := n) (bytes := b) (maxL := mL) (ret := ret) (host := host) ⟨hx, hb, hml, hown, hts⟩ hM ⟨va_cnB n hts (good_call hwc) rfl hrc hrs (hK.2.1 _ hwl) (hts _ hwn) hd hR, hts _ hwi, trivial⟩ ⟨PB.blind, fun U hU hW => ⟨rfl, by rw [hU]; exact hP, hK.to hS hU hW⟩⟩ rfl hn hls hst (lv_room hroom) hdg hf) hS kk
/-! returns -/
theorem rrI (C0 : Cx E A own cc nL (some .int) p s m args meth c) (hP : Wd E ad js x H) (hS : va_S A s.heap H locs) {v r : Int32} {x' : St} (hdg : decode cc pc = .ok (.ireturn, 1)) (hf : some (v, x) = some (r, x')) : W p l e R s m args below meth c H locs cells slots (MQ below (QX E ad js A (some (.int r)) x') args s cells slots A) (F0 m pc ls [.int v]) := by
  obtain ⟨rfl, rfl⟩ := of_ret hf
  obtain ⟨hx, hb, -, hr, -, -, hlk, -⟩ := C0
  exact W.iret hx hb hr (fun t ht _ => ⟨⟨rfl, by rw [ht]; exact hP⟩, hS.F ht⟩) hS.2.2 hdg hlk
theorem rrZ (C0 : Cx E A own cc nL (some .boolean) p s m args meth c) (hP : Wd E ad js x H) (hS : va_S A s.heap H locs) {v r : Int32} {x' : St} (hz : v = 0 ∨ v = 1) (hdg : decode cc pc = .ok (.ireturn, 1)) (hf : some (v, x) = some (r, x')) : W p l e R s m args below meth c H locs cells slots (MQ below (QX E ad js A (some (.int r)) x') args s cells slots A) (F0 m pc ls [.int v]) := by
  obtain ⟨rfl, rfl⟩ := of_ret hf
  obtain ⟨hx, hb, -, hr, -, -, hlk, -⟩ := C0
  exact W.zret hx hb hr (by rcases hz with rfl | rfl <;> rfl) (fun t ht _ => ⟨⟨rfl, by rw [ht]; exact hP⟩, hS.F ht⟩) hS.2.2 hdg hlk
theorem rrL (C0 : Cx E A own cc nL (some .long) p s m args meth c) (hP : Wd E ad js x H) (hS : va_S A s.heap H locs) {v r : Int64} {x' : St} (hdg : decode cc pc = .ok (.lreturn, 1)) (hf : some (v, x) = some (r, x')) : W p l e R s m args below meth c H locs cells slots (MQ below (QX E ad js A (some (.long r)) x') args s cells slots A) (F0 m pc ls [.long v]) := by
  obtain ⟨rfl, rfl⟩ := of_ret hf
  obtain ⟨hx, hb, -, hr, -, -, hlk, -⟩ := C0
  exact W.lret hx hb hr (fun t ht _ => ⟨⟨rfl, by rw [ht]; exact hP⟩, hS.F ht⟩) hS.2.2 hdg hlk
theorem rrV (C0 : Cx E A own cc nL none p s m args meth c) (hP : Wd E ad js x H) (hS : va_S A s.heap H locs) {v r : Unit} {x' : St} (hdg : decode cc pc = .ok (.return_, 1)) (hf : some (v, x) = some (r, x')) : W p l e R s m args below meth c H locs cells slots (MQ below (QX E ad js A none x') args s cells slots A) (F0 m pc ls []) := by
  obtain ⟨rfl, rfl⟩ := of_ret hf
  obtain ⟨hx, hb, -, hr, -, -, hlk, -⟩ := C0
  exact W.vret hx hb hr (fun t ht _ => ⟨⟨rfl, by rw [ht]; exact hP⟩, hS.F ht⟩) hS.2.2 hdg hlk
theorem rrQ (C0 : Cx E A own cc nL (some (.array .int)) p s m args meth c) (hP : Wd E ad js x H) (hS : va_S A s.heap H locs) {v r : Option Nat} {x' : St} (hdg : decode cc pc = .ok (.areturn, 1)) (hf : some (v, x) = some (r, x')) : W p l e R s m args below meth c H locs cells slots (MQ below (QX E ad js A (some (va_re ad r)) x') args s cells slots A) (F0 m pc ls [va_re ad v]) := by
  obtain ⟨rfl, rfl⟩ := of_ret hf
  obtain ⟨hx, hb, -, hr, -, -, hlk, -⟩ := C0
  exact W.aret hx hb hr (Or.inr ⟨_, rfl⟩) (by cases v with | none => exact Or.inl rfl | some q => exact Or.inr ⟨_, rfl⟩) (fun t ht _ => ⟨⟨rfl, by rw [ht]; exact hP⟩, hS.F ht⟩) hS.2.2 hdg hlk
end Rows
/-- a method's entry: the context, the locals -/
theorem enter {l : Launch} {y : MethodName} {b : ByteArray} {mL : Nat} {ret : Option FieldType} {rm : Room} {E : Ev} {A : Nat → Prop} {ad : Nat → Nat} {js : List Nat} {x : St} {av : List Value} {Qc : Array Value → State → Outcome → State → Prop} (hy : plainName y.cls = true) (hlen : (lg_sl av).length ≤ mL)
    (body : ∀ (p : Program) (e : Env) (s : State) (m : MethodId) (below : List Frame) (meth : Method) (c : Code) (ls : Array Slot), Cx E A y.cls b mL ret p s m av.toArray meth c → Wd E ad js x s.heap → va_S A s.heap s.heap [] → lv_has ls mL (lv_args 0 av) →
      W p l e rm s m av.toArray below meth c s.heap [] 0 0 (MQ below Qc av.toArray s 0 0 A) (F0 m 0 ls [])) : Met l y (Cond.code y b mL ret :: gtb) rm (va_Pc av (PB E A ad js x)) Qc 0 0 A := by
  refine Met.ofW (cc := b) (maxL := mL) (ret := ret) hy rfl ?_
  intro p e s m args below meth c s₁ B hml hv
  obtain ⟨rfl, hP, hK⟩ := hv
  have hts := atoms_spec (ws := Cond.code y b mL ret :: gtb) B.pre
  have hl := lv_entry av (n := mL) hlen
  rw [lg_entry_eq]
  exact body p e s m below meth c _ ⟨B.exec, B.bytes, hml, B.returns, findClass_of_methodNamed B.named, fun w hw => hts w (List.mem_cons_of_mem _ hw), B.notSynchronized, hK⟩ hP va_S.rf hl
end
section
/-! lets: a state, a number -/
def st {β : Type} (y : St) (k : St → Option β) : Option β := k y
theorem of_st {β : Type} {y : St} {k : St → Option β} {z : β} (h : st y k = some z) : ∃ w, y = w ∧ k w = some z := ⟨y, rfl, h⟩
def li {β : Type} (v : Int32) (k : Int32 → Option β) : Option β := k v
theorem of_li {β : Type} {v : Int32} {k : Int32 → Option β} {z : β} (h : li v k = some z) : ∃ w, v = w ∧ k w = some z := ⟨v, rfl, h⟩
def lj {β : Type} (v : Int64) (k : Int64 → Option β) : Option β := k v
theorem of_lj {β : Type} {v : Int64} {k : Int64 → Option β} {z : β} (h : lj v k = some z) : ∃ w, v = w ∧ k w = some z := ⟨v, rfl, h⟩
def qc {β : Type} (o : Option Nat) (a : β) (k : Nat → β) : β := match o with
  | none => a
  | some q => k q
def imax (x y : Int32) : Int32 := if x < y then y else x
def imin (x y : Int32) : Int32 := if y < x then y else x
def zb (v : Int32) : Bool := decide (v = 0) || decide (v = 1)
theorem zb_or {v : Int32} (h : zb v = true) : v = 0 ∨ v = 1 := by
  unfold zb at h
  simp only [Bool.or_eq_true, decide_eq_true_eq] at h
  exact h
theorem ix_lt {i : Int32} {n : Nat} (h : ixb i n = true) : ix i < n := by
  unfold ixb at h
  simp only [Bool.and_eq_true, Bool.not_eq_true', decide_eq_false_iff_not, decide_eq_true_eq] at h
  exact h.2
theorem gw_code_GG_init : Cond.code yy_GG_init bb_GG_init 1 (Option.none) ∈ gtb := gtb_of (List.mem_of_getElem? (i := 88) (by decide +kernel)) rfl
theorem gw_code_SH_init : Cond.code yy_SH_init bb_SH_init 1 (Option.none) ∈ gtb := gtb_of (List.mem_of_getElem? (i := 96) (by decide +kernel)) rfl
theorem gw_code_LE_init : Cond.code yy_LE_init bb_LE_init 3 (Option.none) ∈ gtb := gtb_of (List.mem_of_getElem? (i := 102) (by decide +kernel)) rfl
theorem gw_code_MA_max : Cond.code yy_MA_max bb_MA_max 2 (Option.some  FieldType.int) ∈ gtb := gtb_of (List.mem_of_getElem? (i := 106) (by decide +kernel)) rfl
theorem gw_code_AR_fillI : Cond.code yy_AR_fillI bb_AR_fillI 4 (Option.none) ∈ gtb := gtb_of (List.mem_of_getElem? (i := 130) (by decide +kernel)) rfl
theorem gw_code_RE_init : Cond.code yy_RE_init bb_RE_init 1 (Option.none) ∈ gtb := gtb_of (List.mem_of_getElem? (i := 186) (by decide +kernel)) rfl
theorem gw_code_HI_init : Cond.code yy_HI_init bb_HI_init 1 (Option.none) ∈ gtb := gtb_of (List.mem_of_getElem? (i := 223) (by decide +kernel)) rfl
theorem gw_code_OU_init : Cond.code yy_OU_init bb_OU_init 1 (Option.none) ∈ gtb := gtb_of (List.mem_of_getElem? (i := 243) (by decide +kernel)) rfl
theorem gw_code_GG_mourner : Cond.code yy_GG_mourner bb_GG_mourner 4 (Option.some  FieldType.int) ∈ gtb := gtb_of (List.mem_of_getElem? (i := 301) (by decide +kernel)) rfl
theorem gw_code_GG_isWithin : Cond.code yy_GG_isWithin bb_GG_isWithin 3 (Option.some  FieldType.boolean) ∈ gtb := gtb_of (List.mem_of_getElem? (i := 304) (by decide +kernel)) rfl
theorem gw_code_GG_refuseBad : Cond.code yy_GG_refuseBad bb_GG_refuseBad 1 (Option.some  FieldType.int) ∈ gtb := gtb_of (List.mem_of_getElem? (i := 308) (by decide +kernel)) rfl
theorem gw_code_LE_isFull : Cond.code yy_LE_isFull bb_LE_isFull 1 (Option.some  FieldType.boolean) ∈ gtb := gtb_of (List.mem_of_getElem? (i := 312) (by decide +kernel)) rfl
theorem gw_code_GG_refuseFull : Cond.code yy_GG_refuseFull bb_GG_refuseFull 1 (Option.some  FieldType.int) ∈ gtb := gtb_of (List.mem_of_getElem? (i := 316) (by decide +kernel)) rfl
theorem gw_code_SH_addMourner : Cond.code yy_SH_addMourner bb_SH_addMourner 5 (Option.some  FieldType.int) ∈ gtb := gtb_of (List.mem_of_getElem? (i := 320) (by decide +kernel)) rfl
theorem gw_code_LE_add : Cond.code yy_LE_add bb_LE_add 5 (Option.some  FieldType.int) ∈ gtb := gtb_of (List.mem_of_getElem? (i := 324) (by decide +kernel)) rfl
theorem gw_code_SH_renewGriefs : Cond.code yy_SH_renewGriefs bb_SH_renewGriefs 2 (Option.none) ∈ gtb := gtb_of (List.mem_of_getElem? (i := 329) (by decide +kernel)) rfl
theorem gw_code_LE_has : Cond.code yy_LE_has bb_LE_has 2 (Option.some  FieldType.boolean) ∈ gtb := gtb_of (List.mem_of_getElem? (i := 333) (by decide +kernel)) rfl
theorem gw_code_SH_fillGriefs : Cond.code yy_SH_fillGriefs bb_SH_fillGriefs 8 (Option.none) ∈ gtb := gtb_of (List.mem_of_getElem? (i := 337) (by decide +kernel)) rfl
theorem gw_code_LE_at : Cond.code yy_LE_at bb_LE_at 3 (Option.some  FieldType.int) ∈ gtb := gtb_of (List.mem_of_getElem? (i := 341) (by decide +kernel)) rfl
theorem gw_code_KI_stepOf : Cond.code yy_KI_stepOf bb_KI_stepOf 3 (Option.some  FieldType.int) ∈ gtb := gtb_of (List.mem_of_getElem? (i := 345) (by decide +kernel)) rfl
theorem gw_code_KI_widowStep : Cond.code yy_KI_widowStep bb_KI_widowStep 2 (Option.some  FieldType.int) ∈ gtb := gtb_of (List.mem_of_getElem? (i := 348) (by decide +kernel)) rfl
theorem gw_code_KI_mournerStep : Cond.code yy_KI_mournerStep bb_KI_mournerStep 1 (Option.some  FieldType.int) ∈ gtb := gtb_of (List.mem_of_getElem? (i := 351) (by decide +kernel)) rfl
theorem gw_code_KI_heirStep : Cond.code yy_KI_heirStep bb_KI_heirStep 1 (Option.some  FieldType.int) ∈ gtb := gtb_of (List.mem_of_getElem? (i := 354) (by decide +kernel)) rfl
theorem gw_code_SH_isFeastOf : Cond.code yy_SH_isFeastOf bb_SH_isFeastOf 4 (Option.some  FieldType.boolean) ∈ gtb := gtb_of (List.mem_of_getElem? (i := 358) (by decide +kernel)) rfl
theorem gw_code_KI_feastOf : Cond.code yy_KI_feastOf bb_KI_feastOf 2 (Option.some  FieldType.int) ∈ gtb := gtb_of (List.mem_of_getElem? (i := 361) (by decide +kernel)) rfl
theorem gw_code_MA_min : Cond.code yy_MA_min bb_MA_min 2 (Option.some  FieldType.int) ∈ gtb := gtb_of (List.mem_of_getElem? (i := 364) (by decide +kernel)) rfl
theorem gw_code_GG_joint : Cond.code yy_GG_joint bb_GG_joint 2 (Option.some  FieldType.int) ∈ gtb := gtb_of (List.mem_of_getElem? (i := 368) (by decide +kernel)) rfl
theorem gw_code_GG_piece : Cond.code yy_GG_piece bb_GG_piece 3 (Option.some  FieldType.int) ∈ gtb := gtb_of (List.mem_of_getElem? (i := 373) (by decide +kernel)) rfl
theorem gw_code_SH_allJoints : Cond.code yy_SH_allJoints bb_SH_allJoints 1 (Option.some  FieldType.int) ∈ gtb := gtb_of (List.mem_of_getElem? (i := 377) (by decide +kernel)) rfl
theorem gw_code_GG_feast : Cond.code yy_GG_feast bb_GG_feast 4 (Option.some  FieldType.int) ∈ gtb := gtb_of (List.mem_of_getElem? (i := 381) (by decide +kernel)) rfl
theorem gw_code_SH_addFeast : Cond.code yy_SH_addFeast bb_SH_addFeast 5 (Option.some  FieldType.int) ∈ gtb := gtb_of (List.mem_of_getElem? (i := 386) (by decide +kernel)) rfl
theorem gw_code_GG_skip : Cond.code yy_GG_skip bb_GG_skip 1 (Option.some  FieldType.int) ∈ gtb := gtb_of (List.mem_of_getElem? (i := 390) (by decide +kernel)) rfl
theorem gw_code_GG_refuseNo : Cond.code yy_GG_refuseNo bb_GG_refuseNo 1 (Option.some  FieldType.int) ∈ gtb := gtb_of (List.mem_of_getElem? (i := 394) (by decide +kernel)) rfl
theorem gw_code_SH_dropFeast : Cond.code yy_SH_dropFeast bb_SH_dropFeast 2 (Option.none) ∈ gtb := gtb_of (List.mem_of_getElem? (i := 398) (by decide +kernel)) rfl
theorem gw_code_LE_dropLast : Cond.code yy_LE_dropLast bb_LE_dropLast 1 (Option.none) ∈ gtb := gtb_of (List.mem_of_getElem? (i := 402) (by decide +kernel)) rfl
theorem gw_code_GG_boil : Cond.code yy_GG_boil bb_GG_boil 4 (Option.some  FieldType.int) ∈ gtb := gtb_of (List.mem_of_getElem? (i := 406) (by decide +kernel)) rfl
theorem gw_code_SH_keepPast : Cond.code yy_SH_keepPast bb_SH_keepPast 1 (Option.none) ∈ gtb := gtb_of (List.mem_of_getElem? (i := 410) (by decide +kernel)) rfl
theorem gw_code_SH_boilNow : Cond.code yy_SH_boilNow bb_SH_boilNow 4 (Option.none) ∈ gtb := gtb_of (List.mem_of_getElem? (i := 417) (by decide +kernel)) rfl
theorem gw_code_SH_openingOf : Cond.code yy_SH_openingOf bb_SH_openingOf 5 (Option.some  FieldType.int) ∈ gtb := gtb_of (List.mem_of_getElem? (i := 421) (by decide +kernel)) rfl
theorem gw_code_SH_boiledOn : Cond.code yy_SH_boiledOn bb_SH_boiledOn 2 (Option.some  FieldType.int) ∈ gtb := gtb_of (List.mem_of_getElem? (i := 425) (by decide +kernel)) rfl
theorem gw_code_SH_firstBoiler : Cond.code yy_SH_firstBoiler bb_SH_firstBoiler 2 (Option.some  FieldType.int) ∈ gtb := gtb_of (List.mem_of_getElem? (i := 429) (by decide +kernel)) rfl
theorem gw_code_SH_griefsOf : Cond.code yy_SH_griefsOf bb_SH_griefsOf 2 (Option.some ( FieldType.array  FieldType.int)) ∈ gtb := gtb_of (List.mem_of_getElem? (i := 433) (by decide +kernel)) rfl
theorem gw_code_SH_secondBoiler : Cond.code yy_SH_secondBoiler bb_SH_secondBoiler 2 (Option.some  FieldType.int) ∈ gtb := gtb_of (List.mem_of_getElem? (i := 437) (by decide +kernel)) rfl
theorem gw_code_SH_firstWeakDay : Cond.code yy_SH_firstWeakDay bb_SH_firstWeakDay 7 (Option.some  FieldType.int) ∈ gtb := gtb_of (List.mem_of_getElem? (i := 440) (by decide +kernel)) rfl
theorem gw_code_GG_day : Cond.code yy_GG_day bb_GG_day 2 (Option.some  FieldType.int) ∈ gtb := gtb_of (List.mem_of_getElem? (i := 445) (by decide +kernel)) rfl
theorem gw_code_SH_openJoints : Cond.code yy_SH_openJoints bb_SH_openJoints 3 (Option.some  FieldType.int) ∈ gtb := gtb_of (List.mem_of_getElem? (i := 449) (by decide +kernel)) rfl
theorem gw_code_IN_bitCount : Cond.code yy_IN_bitCount bb_IN_bitCount 1 (Option.some  FieldType.int) ∈ gtb := gtb_of (List.mem_of_getElem? (i := 453) (by decide +kernel)) rfl
theorem gw_code_GG_undo : Cond.code yy_GG_undo bb_GG_undo 1 (Option.some  FieldType.int) ∈ gtb := gtb_of (List.mem_of_getElem? (i := 460) (by decide +kernel)) rfl
theorem gw_code_SH_goBack : Cond.code yy_SH_goBack bb_SH_goBack 1 (Option.none) ∈ gtb := gtb_of (List.mem_of_getElem? (i := 464) (by decide +kernel)) rfl
theorem gw_code_GG_type : Cond.code yy_GG_type bb_GG_type 5 (Option.some  FieldType.int) ∈ gtb := gtb_of (List.mem_of_getElem? (i := 468) (by decide +kernel)) rfl
theorem gw_code_RE_addByte : Cond.code yy_RE_addByte bb_RE_addByte 2 (Option.none) ∈ gtb := gtb_of (List.mem_of_getElem? (i := 472) (by decide +kernel)) rfl
theorem gw_code_GG_clear : Cond.code yy_GG_clear bb_GG_clear 2 (Option.some  FieldType.int) ∈ gtb := gtb_of (List.mem_of_getElem? (i := 476) (by decide +kernel)) rfl
theorem gw_code_GG_read : Cond.code yy_GG_read bb_GG_read 2 (Option.some  FieldType.int) ∈ gtb := gtb_of (List.mem_of_getElem? (i := 480) (by decide +kernel)) rfl
theorem gw_code_RE_readItems : Cond.code yy_RE_readItems bb_RE_readItems 3 (Option.some  FieldType.int) ∈ gtb := gtb_of (List.mem_of_getElem? (i := 484) (by decide +kernel)) rfl
theorem gw_code_SH_makeEmpty : Cond.code yy_SH_makeEmpty bb_SH_makeEmpty 1 (Option.none) ∈ gtb := gtb_of (List.mem_of_getElem? (i := 488) (by decide +kernel)) rfl
theorem gw_code_RE_nextToken : Cond.code yy_RE_nextToken bb_RE_nextToken 1 (Option.none) ∈ gtb := gtb_of (List.mem_of_getElem? (i := 492) (by decide +kernel)) rfl
theorem gw_code_RE_isLetter : Cond.code yy_RE_isLetter bb_RE_isLetter 1 (Option.some  FieldType.boolean) ∈ gtb := gtb_of (List.mem_of_getElem? (i := 495) (by decide +kernel)) rfl
theorem gw_code_RE_readLetters : Cond.code yy_RE_readLetters bb_RE_readLetters 1 (Option.none) ∈ gtb := gtb_of (List.mem_of_getElem? (i := 499) (by decide +kernel)) rfl
theorem gw_code_RE_isFigure : Cond.code yy_RE_isFigure bb_RE_isFigure 1 (Option.some  FieldType.boolean) ∈ gtb := gtb_of (List.mem_of_getElem? (i := 502) (by decide +kernel)) rfl
theorem gw_code_RE_readFigures : Cond.code yy_RE_readFigures bb_RE_readFigures 1 (Option.none) ∈ gtb := gtb_of (List.mem_of_getElem? (i := 506) (by decide +kernel)) rfl
theorem gw_code_RE_isWord : Cond.code yy_RE_isWord bb_RE_isWord 3 (Option.some  FieldType.boolean) ∈ gtb := gtb_of (List.mem_of_getElem? (i := 511) (by decide +kernel)) rfl
theorem gw_code_ST_length : Cond.code yy_ST_length bb_ST_length 1 (Option.some  FieldType.int) ∈ gtb := gtb_of (List.mem_of_getElem? (i := 515) (by decide +kernel)) rfl
theorem gw_code_ST_coder : Cond.code yy_ST_coder bb_ST_coder 1 (Option.some  FieldType.byte) ∈ gtb := gtb_of (List.mem_of_getElem? (i := 519) (by decide +kernel)) rfl
theorem gw_code_ST_charAt : Cond.code yy_ST_charAt bb_ST_charAt 2 (Option.some  FieldType.char) ∈ gtb := gtb_of (List.mem_of_getElem? (i := 525) (by decide +kernel)) rfl
theorem gw_code_ST_isLatin1 : Cond.code yy_ST_isLatin1 bb_ST_isLatin1 1 (Option.some  FieldType.boolean) ∈ gtb := gtb_of (List.mem_of_getElem? (i := 529) (by decide +kernel)) rfl
theorem gw_code_SL_charAt : Cond.code yy_SL_charAt bb_SL_charAt 2 (Option.some  FieldType.char) ∈ gtb := gtb_of (List.mem_of_getElem? (i := 532) (by decide +kernel)) rfl
theorem gw_code_ST_checkIndex : Cond.code yy_ST_checkIndex bb_ST_checkIndex 2 (Option.none) ∈ gtb := gtb_of (List.mem_of_getElem? (i := 535) (by decide +kernel)) rfl
theorem gw_code_PR_checkIndex : Cond.code yy_PR_checkIndex bb_PR_checkIndex 3 (Option.some  FieldType.int) ∈ gtb := gtb_of (List.mem_of_getElem? (i := 540) (by decide +kernel)) rfl
theorem gw_code_SU_charAt : Cond.code yy_SU_charAt bb_SU_charAt 2 (Option.some  FieldType.char) ∈ gtb := gtb_of (List.mem_of_getElem? (i := 543) (by decide +kernel)) rfl
theorem gw_code_SU_checkIndex : Cond.code yy_SU_checkIndex bb_SU_checkIndex 2 (Option.none) ∈ gtb := gtb_of (List.mem_of_getElem? (i := 546) (by decide +kernel)) rfl
theorem gw_code_SU_length : Cond.code yy_SU_length bb_SU_length 1 (Option.some  FieldType.int) ∈ gtb := gtb_of (List.mem_of_getElem? (i := 549) (by decide +kernel)) rfl
theorem gw_code_SU_getChar : Cond.code yy_SU_getChar bb_SU_getChar 2 (Option.some  FieldType.char) ∈ gtb := gtb_of (List.mem_of_getElem? (i := 553) (by decide +kernel)) rfl
theorem gw_code_RE_readMourner : Cond.code yy_RE_readMourner bb_RE_readMourner 4 (Option.none) ∈ gtb := gtb_of (List.mem_of_getElem? (i := 563) (by decide +kernel)) rfl
theorem gw_code_RE_wantRoom : Cond.code yy_RE_wantRoom bb_RE_wantRoom 2 (Option.none) ∈ gtb := gtb_of (List.mem_of_getElem? (i := 567) (by decide +kernel)) rfl
theorem gw_code_RE_blame : Cond.code yy_RE_blame bb_RE_blame 1 (Option.none) ∈ gtb := gtb_of (List.mem_of_getElem? (i := 572) (by decide +kernel)) rfl
theorem gw_code_RE_readNumber : Cond.code yy_RE_readNumber bb_RE_readNumber 3 (Option.some  FieldType.int) ∈ gtb := gtb_of (List.mem_of_getElem? (i := 576) (by decide +kernel)) rfl
theorem gw_code_RE_wantNumber : Cond.code yy_RE_wantNumber bb_RE_wantNumber 3 (Option.none) ∈ gtb := gtb_of (List.mem_of_getElem? (i := 580) (by decide +kernel)) rfl
theorem gw_code_RE_readStop : Cond.code yy_RE_readStop bb_RE_readStop 1 (Option.none) ∈ gtb := gtb_of (List.mem_of_getElem? (i := 585) (by decide +kernel)) rfl
theorem gw_code_RE_wantStop : Cond.code yy_RE_wantStop bb_RE_wantStop 1 (Option.none) ∈ gtb := gtb_of (List.mem_of_getElem? (i := 589) (by decide +kernel)) rfl
theorem gw_code_RE_readJoint : Cond.code yy_RE_readJoint bb_RE_readJoint 2 (Option.none) ∈ gtb := gtb_of (List.mem_of_getElem? (i := 595) (by decide +kernel)) rfl
theorem gw_code_RE_readPiece : Cond.code yy_RE_readPiece bb_RE_readPiece 3 (Option.none) ∈ gtb := gtb_of (List.mem_of_getElem? (i := 600) (by decide +kernel)) rfl
theorem gw_code_RE_readFeast : Cond.code yy_RE_readFeast bb_RE_readFeast 4 (Option.none) ∈ gtb := gtb_of (List.mem_of_getElem? (i := 606) (by decide +kernel)) rfl
theorem gw_code_RE_readDay : Cond.code yy_RE_readDay bb_RE_readDay 2 (Option.none) ∈ gtb := gtb_of (List.mem_of_getElem? (i := 612) (by decide +kernel)) rfl
theorem gw_code_RE_readBoil : Cond.code yy_RE_readBoil bb_RE_readBoil 4 (Option.none) ∈ gtb := gtb_of (List.mem_of_getElem? (i := 617) (by decide +kernel)) rfl
theorem gw_code_SH_copyFrom : Cond.code yy_SH_copyFrom bb_SH_copyFrom 3 (Option.none) ∈ gtb := gtb_of (List.mem_of_getElem? (i := 622) (by decide +kernel)) rfl
theorem gw_code_LE_copyFrom : Cond.code yy_LE_copyFrom bb_LE_copyFrom 2 (Option.none) ∈ gtb := gtb_of (List.mem_of_getElem? (i := 626) (by decide +kernel)) rfl
theorem gw_code_SH_renewAllGriefs : Cond.code yy_SH_renewAllGriefs bb_SH_renewAllGriefs 2 (Option.none) ∈ gtb := gtb_of (List.mem_of_getElem? (i := 631) (by decide +kernel)) rfl
theorem gw_code_GG_grief : Cond.code yy_GG_grief bb_GG_grief 3 (Option.some  FieldType.int) ∈ gtb := gtb_of (List.mem_of_getElem? (i := 636) (by decide +kernel)) rfl
theorem gw_code_SH_griefOn : Cond.code yy_SH_griefOn bb_SH_griefOn 3 (Option.some  FieldType.int) ∈ gtb := gtb_of (List.mem_of_getElem? (i := 640) (by decide +kernel)) rfl
theorem gw_code_GG_opens : Cond.code yy_GG_opens bb_GG_opens 2 (Option.some  FieldType.int) ∈ gtb := gtb_of (List.mem_of_getElem? (i := 645) (by decide +kernel)) rfl
theorem gw_code_GG_lasts : Cond.code yy_GG_lasts bb_GG_lasts 2 (Option.some  FieldType.int) ∈ gtb := gtb_of (List.mem_of_getElem? (i := 649) (by decide +kernel)) rfl
theorem gw_code_SH_isLasting : Cond.code yy_SH_isLasting bb_SH_isLasting 4 (Option.some  FieldType.boolean) ∈ gtb := gtb_of (List.mem_of_getElem? (i := 653) (by decide +kernel)) rfl
theorem gw_code_SH_isPartOf : Cond.code yy_SH_isPartOf bb_SH_isPartOf 3 (Option.some  FieldType.boolean) ∈ gtb := gtb_of (List.mem_of_getElem? (i := 657) (by decide +kernel)) rfl
theorem gw_code_GG_open : Cond.code yy_GG_open bb_GG_open 1 (Option.some  FieldType.int) ∈ gtb := gtb_of (List.mem_of_getElem? (i := 661) (by decide +kernel)) rfl
theorem gw_code_GG_hire : Cond.code yy_GG_hire bb_GG_hire 3 (Option.some  FieldType.int) ∈ gtb := gtb_of (List.mem_of_getElem? (i := 665) (by decide +kernel)) rfl
theorem gw_code_HI_lookAt : Cond.code yy_HI_lookAt bb_HI_lookAt 3 (Option.none) ∈ gtb := gtb_of (List.mem_of_getElem? (i := 669) (by decide +kernel)) rfl
theorem gw_code_HI_lookForNeeds : Cond.code yy_HI_lookForNeeds bb_HI_lookForNeeds 5 (Option.none) ∈ gtb := gtb_of (List.mem_of_getElem? (i := 675) (by decide +kernel)) rfl
theorem gw_code_HI_fitsOf : Cond.code yy_HI_fitsOf bb_HI_fitsOf 10 (Option.some  FieldType.long) ∈ gtb := gtb_of (List.mem_of_getElem? (i := 683) (by decide +kernel)) rfl
theorem gw_code_HI_pairBit : Cond.code yy_HI_pairBit bb_HI_pairBit 2 (Option.some  FieldType.long) ∈ gtb := gtb_of (List.mem_of_getElem? (i := 688) (by decide +kernel)) rfl
theorem gw_code_HI_cheapest : Cond.code yy_HI_cheapest bb_HI_cheapest 6 (Option.some  FieldType.int) ∈ gtb := gtb_of (List.mem_of_getElem? (i := 692) (by decide +kernel)) rfl
theorem gw_code_HI_isIn : Cond.code yy_HI_isIn bb_HI_isIn 2 (Option.some  FieldType.boolean) ∈ gtb := gtb_of (List.mem_of_getElem? (i := 695) (by decide +kernel)) rfl
theorem gw_code_HI_priceOf : Cond.code yy_HI_priceOf bb_HI_priceOf 4 (Option.some  FieldType.int) ∈ gtb := gtb_of (List.mem_of_getElem? (i := 699) (by decide +kernel)) rfl
theorem gw_code_HI_isEnough : Cond.code yy_HI_isEnough bb_HI_isEnough 3 (Option.some  FieldType.boolean) ∈ gtb := gtb_of (List.mem_of_getElem? (i := 703) (by decide +kernel)) rfl
theorem gw_code_HI_boilersFor : Cond.code yy_HI_boilersFor bb_HI_boilersFor 5 (Option.some  FieldType.int) ∈ gtb := gtb_of (List.mem_of_getElem? (i := 707) (by decide +kernel)) rfl
theorem gw_code_GG_who : Cond.code yy_GG_who bb_GG_who 3 (Option.some  FieldType.int) ∈ gtb := gtb_of (List.mem_of_getElem? (i := 713) (by decide +kernel)) rfl
theorem gw_code_HI_isNeedy : Cond.code yy_HI_isNeedy bb_HI_isNeedy 2 (Option.some  FieldType.boolean) ∈ gtb := gtb_of (List.mem_of_getElem? (i := 717) (by decide +kernel)) rfl
theorem gw_code_GG_saves : Cond.code yy_GG_saves bb_GG_saves 4 (Option.some  FieldType.int) ∈ gtb := gtb_of (List.mem_of_getElem? (i := 722) (by decide +kernel)) rfl
theorem gw_code_GG_tears : Cond.code yy_GG_tears bb_GG_tears 4 (Option.some  FieldType.int) ∈ gtb := gtb_of (List.mem_of_getElem? (i := 726) (by decide +kernel)) rfl
theorem gw_code_OU_fewestOnions : Cond.code yy_OU_fewestOnions bb_OU_fewestOnions 8 (Option.some  FieldType.int) ∈ gtb := gtb_of (List.mem_of_getElem? (i := 730) (by decide +kernel)) rfl
theorem gw_code_SH_fillNextGriefs : Cond.code yy_SH_fillNextGriefs bb_SH_fillNextGriefs 7 (Option.none) ∈ gtb := gtb_of (List.mem_of_getElem? (i := 738) (by decide +kernel)) rfl
theorem gw_code_OU_weepADay : Cond.code yy_OU_weepADay bb_OU_weepADay 5 (Option.none) ∈ gtb := gtb_of (List.mem_of_getElem? (i := 742) (by decide +kernel)) rfl
theorem gw_code_GG_fact : Cond.code yy_GG_fact bb_GG_fact 4 (Option.some  FieldType.int) ∈ gtb := gtb_of (List.mem_of_getElem? (i := 748) (by decide +kernel)) rfl
theorem gw_code_GG_forget : Cond.code yy_GG_forget bb_GG_forget 2 (Option.some  FieldType.int) ∈ gtb := gtb_of (List.mem_of_getElem? (i := 752) (by decide +kernel)) rfl
theorem gw_code_GG_likely : Cond.code yy_GG_likely bb_GG_likely 3 (Option.some  FieldType.int) ∈ gtb := gtb_of (List.mem_of_getElem? (i := 756) (by decide +kernel)) rfl
theorem gw_code_OU_firstGriefs : Cond.code yy_OU_firstGriefs bb_OU_firstGriefs 8 (Option.some  FieldType.int) ∈ gtb := gtb_of (List.mem_of_getElem? (i := 760) (by decide +kernel)) rfl
theorem gw_code_OU_isByFacts : Cond.code yy_OU_isByFacts bb_OU_isByFacts 8 (Option.some  FieldType.boolean) ∈ gtb := gtb_of (List.mem_of_getElem? (i := 764) (by decide +kernel)) rfl
theorem gw_code_GG_odds : Cond.code yy_GG_odds bb_GG_odds 11 (Option.some  FieldType.int) ∈ gtb := gtb_of (List.mem_of_getElem? (i := 771) (by decide +kernel)) rfl
theorem gw_code_OU_chancesToHold : Cond.code yy_OU_chancesToHold bb_OU_chancesToHold 10 (Option.some  FieldType.long) ∈ gtb := gtb_of (List.mem_of_getElem? (i := 775) (by decide +kernel)) rfl
theorem gw_code_AR_fillJ : Cond.code yy_AR_fillJ bb_AR_fillJ 5 (Option.none) ∈ gtb := gtb_of (List.mem_of_getElem? (i := 778) (by decide +kernel)) rfl
theorem gw_code_OU_weddingADay : Cond.code yy_OU_weddingADay bb_OU_weddingADay 4 (Option.none) ∈ gtb := gtb_of (List.mem_of_getElem? (i := 782) (by decide +kernel)) rfl
theorem gw_code_GG_tenTo : Cond.code yy_GG_tenTo bb_GG_tenTo 4 (Option.some  FieldType.long) ∈ gtb := gtb_of (List.mem_of_getElem? (i := 786) (by decide +kernel)) rfl
theorem gw_code_GG_commonDivisor : Cond.code yy_GG_commonDivisor bb_GG_commonDivisor 11 (Option.some  FieldType.long) ∈ gtb := gtb_of (List.mem_of_getElem? (i := 790) (by decide +kernel)) rfl
theorem gw_code_GG_harm : Cond.code yy_GG_harm bb_GG_harm 2 (Option.some  FieldType.int) ∈ gtb := gtb_of (List.mem_of_getElem? (i := 794) (by decide +kernel)) rfl
theorem gw_code_OU_harmOf : Cond.code yy_OU_harmOf bb_OU_harmOf 11 (Option.some  FieldType.int) ∈ gtb := gtb_of (List.mem_of_getElem? (i := 798) (by decide +kernel)) rfl
theorem gw_code_OU_griefsWithout : Cond.code yy_OU_griefsWithout bb_OU_griefsWithout 4 (Option.some ( FieldType.array  FieldType.int)) ∈ gtb := gtb_of (List.mem_of_getElem? (i := 805) (by decide +kernel)) rfl
theorem gw_code_GG_part : Cond.code yy_GG_part bb_GG_part 2 (Option.some  FieldType.long) ∈ gtb := gtb_of (List.mem_of_getElem? (i := 812) (by decide +kernel)) rfl
theorem gw_code_GG_image : Cond.code yy_GG_image bb_GG_image 2 (Option.some  FieldType.int) ∈ gtb := gtb_of (List.mem_of_getElem? (i := 816) (by decide +kernel)) rfl
theorem gw_code_GG_from : Cond.code yy_GG_from bb_GG_from 2 (Option.some  FieldType.int) ∈ gtb := gtb_of (List.mem_of_getElem? (i := 820) (by decide +kernel)) rfl
theorem gw_code_GG_status : Cond.code yy_GG_status bb_GG_status 2 (Option.some  FieldType.int) ∈ gtb := gtb_of (List.mem_of_getElem? (i := 824) (by decide +kernel)) rfl
theorem gw_code_GG_count : Cond.code yy_GG_count bb_GG_count 2 (Option.some  FieldType.int) ∈ gtb := gtb_of (List.mem_of_getElem? (i := 828) (by decide +kernel)) rfl
theorem gw_code_GG_countOf : Cond.code yy_GG_countOf bb_GG_countOf 2 (Option.some  FieldType.int) ∈ gtb := gtb_of (List.mem_of_getElem? (i := 832) (by decide +kernel)) rfl
theorem gw_code_GG_digest : Cond.code yy_GG_digest bb_GG_digest 4 (Option.some  FieldType.long) ∈ gtb := gtb_of (List.mem_of_getElem? (i := 836) (by decide +kernel)) rfl
theorem gw_code_LE_mixInto : Cond.code yy_LE_mixInto bb_LE_mixInto 6 (Option.some  FieldType.long) ∈ gtb := gtb_of (List.mem_of_getElem? (i := 842) (by decide +kernel)) rfl
theorem gw_code_SH_mixJointsInto : Cond.code yy_SH_mixJointsInto bb_SH_mixJointsInto 6 (Option.some  FieldType.long) ∈ gtb := gtb_of (List.mem_of_getElem? (i := 847) (by decide +kernel)) rfl
theorem gw_code_MO_init : Cond.code yy_MO_init bb_MO_init 1 (Option.none) ∈ gtb := gtb_of (List.mem_of_getElem? (i := 853) (by decide +kernel)) rfl
theorem gw_code_MO_mourner : Cond.code yy_MO_mourner bb_MO_mourner 4 (Option.some  FieldType.int) ∈ gtb := gtb_of (List.mem_of_getElem? (i := 928) (by decide +kernel)) rfl
theorem gw_code_MO_in : Cond.code yy_MO_in bb_MO_in 3 (Option.some  FieldType.boolean) ∈ gtb := gtb_of (List.mem_of_getElem? (i := 931) (by decide +kernel)) rfl
theorem gw_code_MO_bad : Cond.code yy_MO_bad bb_MO_bad 1 (Option.some  FieldType.int) ∈ gtb := gtb_of (List.mem_of_getElem? (i := 935) (by decide +kernel)) rfl
theorem gw_code_MO_get : Cond.code yy_MO_get bb_MO_get 2 (Option.some  FieldType.int) ∈ gtb := gtb_of (List.mem_of_getElem? (i := 939) (by decide +kernel)) rfl
theorem gw_code_MO_full : Cond.code yy_MO_full bb_MO_full 1 (Option.some  FieldType.int) ∈ gtb := gtb_of (List.mem_of_getElem? (i := 943) (by decide +kernel)) rfl
theorem gw_code_MO_addMourner : Cond.code yy_MO_addMourner bb_MO_addMourner 5 (Option.none) ∈ gtb := gtb_of (List.mem_of_getElem? (i := 947) (by decide +kernel)) rfl
theorem gw_code_MO_set : Cond.code yy_MO_set bb_MO_set 3 (Option.none) ∈ gtb := gtb_of (List.mem_of_getElem? (i := 951) (by decide +kernel)) rfl
theorem gw_code_MO_joint : Cond.code yy_MO_joint bb_MO_joint 2 (Option.some  FieldType.int) ∈ gtb := gtb_of (List.mem_of_getElem? (i := 955) (by decide +kernel)) rfl
theorem gw_code_MO_addJoint : Cond.code yy_MO_addJoint bb_MO_addJoint 3 (Option.none) ∈ gtb := gtb_of (List.mem_of_getElem? (i := 959) (by decide +kernel)) rfl
theorem gw_code_MO_piece : Cond.code yy_MO_piece bb_MO_piece 3 (Option.some  FieldType.int) ∈ gtb := gtb_of (List.mem_of_getElem? (i := 963) (by decide +kernel)) rfl
theorem gw_code_MO_isSet : Cond.code yy_MO_isSet bb_MO_isSet 2 (Option.some  FieldType.boolean) ∈ gtb := gtb_of (List.mem_of_getElem? (i := 967) (by decide +kernel)) rfl
theorem gw_code_MO_addPiece : Cond.code yy_MO_addPiece bb_MO_addPiece 4 (Option.none) ∈ gtb := gtb_of (List.mem_of_getElem? (i := 971) (by decide +kernel)) rfl
theorem gw_code_MO_feast : Cond.code yy_MO_feast bb_MO_feast 4 (Option.some  FieldType.int) ∈ gtb := gtb_of (List.mem_of_getElem? (i := 975) (by decide +kernel)) rfl
theorem gw_code_MO_isMourner : Cond.code yy_MO_isMourner bb_MO_isMourner 2 (Option.some  FieldType.boolean) ∈ gtb := gtb_of (List.mem_of_getElem? (i := 979) (by decide +kernel)) rfl
theorem gw_code_MO_addFeast : Cond.code yy_MO_addFeast bb_MO_addFeast 5 (Option.none) ∈ gtb := gtb_of (List.mem_of_getElem? (i := 983) (by decide +kernel)) rfl
theorem gw_code_MO_skip : Cond.code yy_MO_skip bb_MO_skip 1 (Option.some  FieldType.int) ∈ gtb := gtb_of (List.mem_of_getElem? (i := 987) (by decide +kernel)) rfl
theorem gw_code_MO_no : Cond.code yy_MO_no bb_MO_no 1 (Option.some  FieldType.int) ∈ gtb := gtb_of (List.mem_of_getElem? (i := 991) (by decide +kernel)) rfl
theorem gw_code_MO_undo : Cond.code yy_MO_undo bb_MO_undo 4 (Option.some  FieldType.int) ∈ gtb := gtb_of (List.mem_of_getElem? (i := 995) (by decide +kernel)) rfl
theorem gw_code_MO_boil : Cond.code yy_MO_boil bb_MO_boil 4 (Option.some  FieldType.int) ∈ gtb := gtb_of (List.mem_of_getElem? (i := 999) (by decide +kernel)) rfl
theorem gw_code_MO_isJoint : Cond.code yy_MO_isJoint bb_MO_isJoint 2 (Option.some  FieldType.boolean) ∈ gtb := gtb_of (List.mem_of_getElem? (i := 1003) (by decide +kernel)) rfl
theorem gw_code_MO_know : Cond.code yy_MO_know bb_MO_know 4 (Option.none) ∈ gtb := gtb_of (List.mem_of_getElem? (i := 1007) (by decide +kernel)) rfl
theorem gw_code_MO_boiled : Cond.code yy_MO_boiled bb_MO_boiled 5 (Option.none) ∈ gtb := gtb_of (List.mem_of_getElem? (i := 1011) (by decide +kernel)) rfl
theorem gw_code_MO_opensOn : Cond.code yy_MO_opensOn bb_MO_opensOn 2 (Option.some  FieldType.int) ∈ gtb := gtb_of (List.mem_of_getElem? (i := 1015) (by decide +kernel)) rfl
theorem gw_code_MO_findGriefs : Cond.code yy_MO_findGriefs bb_MO_findGriefs 4 (Option.none) ∈ gtb := gtb_of (List.mem_of_getElem? (i := 1019) (by decide +kernel)) rfl
theorem gw_code_MO_onDay : Cond.code yy_MO_onDay bb_MO_onDay 7 (Option.some  FieldType.int) ∈ gtb := gtb_of (List.mem_of_getElem? (i := 1023) (by decide +kernel)) rfl
theorem gw_code_MO_step : Cond.code yy_MO_step bb_MO_step 3 (Option.some  FieldType.int) ∈ gtb := gtb_of (List.mem_of_getElem? (i := 1026) (by decide +kernel)) rfl
theorem gw_code_MO_less : Cond.code yy_MO_less bb_MO_less 2 (Option.some  FieldType.int) ∈ gtb := gtb_of (List.mem_of_getElem? (i := 1029) (by decide +kernel)) rfl
theorem gw_code_MO_widow : Cond.code yy_MO_widow bb_MO_widow 2 (Option.some  FieldType.int) ∈ gtb := gtb_of (List.mem_of_getElem? (i := 1032) (by decide +kernel)) rfl
theorem gw_code_MO_more : Cond.code yy_MO_more bb_MO_more 1 (Option.some  FieldType.int) ∈ gtb := gtb_of (List.mem_of_getElem? (i := 1035) (by decide +kernel)) rfl
theorem gw_code_MO_opensBy : Cond.code yy_MO_opensBy bb_MO_opensBy 4 (Option.some  FieldType.int) ∈ gtb := gtb_of (List.mem_of_getElem? (i := 1039) (by decide +kernel)) rfl
theorem gw_code_MO_strength : Cond.code yy_MO_strength bb_MO_strength 4 (Option.some  FieldType.int) ∈ gtb := gtb_of (List.mem_of_getElem? (i := 1043) (by decide +kernel)) rfl
theorem gw_code_MO_day : Cond.code yy_MO_day bb_MO_day 5 (Option.some  FieldType.int) ∈ gtb := gtb_of (List.mem_of_getElem? (i := 1047) (by decide +kernel)) rfl
theorem gw_code_MO_openNow : Cond.code yy_MO_openNow bb_MO_openNow 3 (Option.some  FieldType.int) ∈ gtb := gtb_of (List.mem_of_getElem? (i := 1051) (by decide +kernel)) rfl
theorem gw_code_MO_isBoiled : Cond.code yy_MO_isBoiled bb_MO_isBoiled 2 (Option.some  FieldType.boolean) ∈ gtb := gtb_of (List.mem_of_getElem? (i := 1055) (by decide +kernel)) rfl
theorem gw_code_MO_type : Cond.code yy_MO_type bb_MO_type 5 (Option.some  FieldType.int) ∈ gtb := gtb_of (List.mem_of_getElem? (i := 1059) (by decide +kernel)) rfl
theorem gw_code_MO_clear : Cond.code yy_MO_clear bb_MO_clear 2 (Option.some  FieldType.int) ∈ gtb := gtb_of (List.mem_of_getElem? (i := 1064) (by decide +kernel)) rfl
theorem gw_code_MO_read : Cond.code yy_MO_read bb_MO_read 2 (Option.some  FieldType.int) ∈ gtb := gtb_of (List.mem_of_getElem? (i := 1068) (by decide +kernel)) rfl
theorem gw_code_MO_next : Cond.code yy_MO_next bb_MO_next 5 (Option.none) ∈ gtb := gtb_of (List.mem_of_getElem? (i := 1072) (by decide +kernel)) rfl
theorem gw_code_MO_here : Cond.code yy_MO_here bb_MO_here 1 (Option.some  FieldType.int) ∈ gtb := gtb_of (List.mem_of_getElem? (i := 1076) (by decide +kernel)) rfl
theorem gw_code_MO_meaning : Cond.code yy_MO_meaning bb_MO_meaning 2 (Option.some  FieldType.int) ∈ gtb := gtb_of (List.mem_of_getElem? (i := 1079) (by decide +kernel)) rfl
theorem gw_code_MO_readItem : Cond.code yy_MO_readItem bb_MO_readItem 3 (Option.none) ∈ gtb := gtb_of (List.mem_of_getElem? (i := 1085) (by decide +kernel)) rfl
theorem gw_code_MO_mayBe : Cond.code yy_MO_mayBe bb_MO_mayBe 2 (Option.some  FieldType.boolean) ∈ gtb := gtb_of (List.mem_of_getElem? (i := 1089) (by decide +kernel)) rfl
theorem gw_code_MO_due : Cond.code yy_MO_due bb_MO_due 3 (Option.some  FieldType.int) ∈ gtb := gtb_of (List.mem_of_getElem? (i := 1093) (by decide +kernel)) rfl
theorem gw_code_MO_isNumber : Cond.code yy_MO_isNumber bb_MO_isNumber 3 (Option.some  FieldType.boolean) ∈ gtb := gtb_of (List.mem_of_getElem? (i := 1097) (by decide +kernel)) rfl
theorem gw_code_MO_readBoil : Cond.code yy_MO_readBoil bb_MO_readBoil 4 (Option.none) ∈ gtb := gtb_of (List.mem_of_getElem? (i := 1101) (by decide +kernel)) rfl
theorem gw_code_MO_readRow : Cond.code yy_MO_readRow bb_MO_readRow 5 (Option.none) ∈ gtb := gtb_of (List.mem_of_getElem? (i := 1105) (by decide +kernel)) rfl
theorem gw_code_MO_copy : Cond.code yy_MO_copy bb_MO_copy 4 (Option.none) ∈ gtb := gtb_of (List.mem_of_getElem? (i := 1109) (by decide +kernel)) rfl
theorem gw_code_MO_grief : Cond.code yy_MO_grief bb_MO_grief 3 (Option.some  FieldType.int) ∈ gtb := gtb_of (List.mem_of_getElem? (i := 1113) (by decide +kernel)) rfl
theorem gw_code_MO_opens : Cond.code yy_MO_opens bb_MO_opens 2 (Option.some  FieldType.int) ∈ gtb := gtb_of (List.mem_of_getElem? (i := 1117) (by decide +kernel)) rfl
theorem gw_code_MO_lasts : Cond.code yy_MO_lasts bb_MO_lasts 2 (Option.some  FieldType.int) ∈ gtb := gtb_of (List.mem_of_getElem? (i := 1121) (by decide +kernel)) rfl
theorem gw_code_MO_isLasting : Cond.code yy_MO_isLasting bb_MO_isLasting 6 (Option.some  FieldType.boolean) ∈ gtb := gtb_of (List.mem_of_getElem? (i := 1125) (by decide +kernel)) rfl
theorem gw_code_MO_open : Cond.code yy_MO_open bb_MO_open 1 (Option.some  FieldType.int) ∈ gtb := gtb_of (List.mem_of_getElem? (i := 1129) (by decide +kernel)) rfl
theorem gw_code_MO_hire : Cond.code yy_MO_hire bb_MO_hire 3 (Option.some  FieldType.int) ∈ gtb := gtb_of (List.mem_of_getElem? (i := 1133) (by decide +kernel)) rfl
theorem gw_code_MO_findNeeds : Cond.code yy_MO_findNeeds bb_MO_findNeeds 4 (Option.none) ∈ gtb := gtb_of (List.mem_of_getElem? (i := 1137) (by decide +kernel)) rfl
theorem gw_code_MO_hired : Cond.code yy_MO_hired bb_MO_hired 6 (Option.some  FieldType.int) ∈ gtb := gtb_of (List.mem_of_getElem? (i := 1141) (by decide +kernel)) rfl
theorem gw_code_MO_priceOf : Cond.code yy_MO_priceOf bb_MO_priceOf 4 (Option.some  FieldType.int) ∈ gtb := gtb_of (List.mem_of_getElem? (i := 1145) (by decide +kernel)) rfl
theorem gw_code_MO_whoOf : Cond.code yy_MO_whoOf bb_MO_whoOf 5 (Option.some  FieldType.int) ∈ gtb := gtb_of (List.mem_of_getElem? (i := 1149) (by decide +kernel)) rfl
theorem gw_code_MO_wouldHold : Cond.code yy_MO_wouldHold bb_MO_wouldHold 6 (Option.some  FieldType.boolean) ∈ gtb := gtb_of (List.mem_of_getElem? (i := 1153) (by decide +kernel)) rfl
theorem gw_code_MO_who : Cond.code yy_MO_who bb_MO_who 3 (Option.some  FieldType.int) ∈ gtb := gtb_of (List.mem_of_getElem? (i := 1157) (by decide +kernel)) rfl
theorem gw_code_MO_saves : Cond.code yy_MO_saves bb_MO_saves 4 (Option.some  FieldType.int) ∈ gtb := gtb_of (List.mem_of_getElem? (i := 1161) (by decide +kernel)) rfl
theorem gw_code_MO_tears : Cond.code yy_MO_tears bb_MO_tears 9 (Option.some  FieldType.int) ∈ gtb := gtb_of (List.mem_of_getElem? (i := 1165) (by decide +kernel)) rfl
theorem gw_code_MO_fact : Cond.code yy_MO_fact bb_MO_fact 5 (Option.some  FieldType.int) ∈ gtb := gtb_of (List.mem_of_getElem? (i := 1169) (by decide +kernel)) rfl
theorem gw_code_MO_forget : Cond.code yy_MO_forget bb_MO_forget 2 (Option.some  FieldType.int) ∈ gtb := gtb_of (List.mem_of_getElem? (i := 1173) (by decide +kernel)) rfl
theorem gw_code_MO_likely : Cond.code yy_MO_likely bb_MO_likely 7 (Option.some  FieldType.int) ∈ gtb := gtb_of (List.mem_of_getElem? (i := 1177) (by decide +kernel)) rfl
theorem gw_code_MO_isLikely : Cond.code yy_MO_isLikely bb_MO_isLikely 8 (Option.some  FieldType.boolean) ∈ gtb := gtb_of (List.mem_of_getElem? (i := 1181) (by decide +kernel)) rfl
theorem gw_code_MO_odds : Cond.code yy_MO_odds bb_MO_odds 15 (Option.some  FieldType.int) ∈ gtb := gtb_of (List.mem_of_getElem? (i := 1185) (by decide +kernel)) rfl
theorem gw_code_MO_harm : Cond.code yy_MO_harm bb_MO_harm 5 (Option.some  FieldType.int) ∈ gtb := gtb_of (List.mem_of_getElem? (i := 1190) (by decide +kernel)) rfl
theorem gw_code_MO_part : Cond.code yy_MO_part bb_MO_part 2 (Option.some  FieldType.long) ∈ gtb := gtb_of (List.mem_of_getElem? (i := 1194) (by decide +kernel)) rfl
theorem gw_code_MO_image : Cond.code yy_MO_image bb_MO_image 2 (Option.some  FieldType.int) ∈ gtb := gtb_of (List.mem_of_getElem? (i := 1198) (by decide +kernel)) rfl
theorem gw_code_MO_from : Cond.code yy_MO_from bb_MO_from 2 (Option.some  FieldType.int) ∈ gtb := gtb_of (List.mem_of_getElem? (i := 1202) (by decide +kernel)) rfl
theorem gw_code_MO_status : Cond.code yy_MO_status bb_MO_status 2 (Option.some  FieldType.int) ∈ gtb := gtb_of (List.mem_of_getElem? (i := 1206) (by decide +kernel)) rfl
theorem gw_code_MO_count : Cond.code yy_MO_count bb_MO_count 2 (Option.some  FieldType.int) ∈ gtb := gtb_of (List.mem_of_getElem? (i := 1210) (by decide +kernel)) rfl
theorem gw_code_MO_digest : Cond.code yy_MO_digest bb_MO_digest 1 (Option.some  FieldType.long) ∈ gtb := gtb_of (List.mem_of_getElem? (i := 1214) (by decide +kernel)) rfl
theorem gw_code_MO_digestRow : Cond.code yy_MO_digestRow bb_MO_digestRow 4 (Option.none) ∈ gtb := gtb_of (List.mem_of_getElem? (i := 1219) (by decide +kernel)) rfl
theorem gw_sel_GG_refuseBad : Cond.selects RGG yy_GG_refuseBad yy_GG_refuseBad ∈ gtb := gtb_of (List.mem_of_getElem? (i := 0) (by decide +kernel)) rfl
theorem gw_sel_GG_refuseFull : Cond.selects RGG yy_GG_refuseFull yy_GG_refuseFull ∈ gtb := gtb_of (List.mem_of_getElem? (i := 1) (by decide +kernel)) rfl
theorem gw_sel_SH_renewGriefs : Cond.selects RSH yy_SH_renewGriefs yy_SH_renewGriefs ∈ gtb := gtb_of (List.mem_of_getElem? (i := 2) (by decide +kernel)) rfl
theorem gw_sel_SH_isFeastOf : Cond.selects RSH yy_SH_isFeastOf yy_SH_isFeastOf ∈ gtb := gtb_of (List.mem_of_getElem? (i := 3) (by decide +kernel)) rfl
theorem gw_sel_GG_refuseNo : Cond.selects RGG yy_GG_refuseNo yy_GG_refuseNo ∈ gtb := gtb_of (List.mem_of_getElem? (i := 4) (by decide +kernel)) rfl
theorem gw_sel_RE_nextToken : Cond.selects RRE yy_RE_nextToken yy_RE_nextToken ∈ gtb := gtb_of (List.mem_of_getElem? (i := 5) (by decide +kernel)) rfl
theorem gw_sel_RE_readLetters : Cond.selects RRE yy_RE_readLetters yy_RE_readLetters ∈ gtb := gtb_of (List.mem_of_getElem? (i := 6) (by decide +kernel)) rfl
theorem gw_sel_RE_readFigures : Cond.selects RRE yy_RE_readFigures yy_RE_readFigures ∈ gtb := gtb_of (List.mem_of_getElem? (i := 7) (by decide +kernel)) rfl
theorem gw_sel_RE_isWord : Cond.selects RRE yy_RE_isWord yy_RE_isWord ∈ gtb := gtb_of (List.mem_of_getElem? (i := 8) (by decide +kernel)) rfl
theorem gw_sel_RE_readMourner : Cond.selects RRE yy_RE_readMourner yy_RE_readMourner ∈ gtb := gtb_of (List.mem_of_getElem? (i := 9) (by decide +kernel)) rfl
theorem gw_sel_RE_wantRoom : Cond.selects RRE yy_RE_wantRoom yy_RE_wantRoom ∈ gtb := gtb_of (List.mem_of_getElem? (i := 10) (by decide +kernel)) rfl
theorem gw_sel_RE_blame : Cond.selects RRE yy_RE_blame yy_RE_blame ∈ gtb := gtb_of (List.mem_of_getElem? (i := 11) (by decide +kernel)) rfl
theorem gw_sel_RE_readNumber : Cond.selects RRE yy_RE_readNumber yy_RE_readNumber ∈ gtb := gtb_of (List.mem_of_getElem? (i := 12) (by decide +kernel)) rfl
theorem gw_sel_RE_wantNumber : Cond.selects RRE yy_RE_wantNumber yy_RE_wantNumber ∈ gtb := gtb_of (List.mem_of_getElem? (i := 13) (by decide +kernel)) rfl
theorem gw_sel_RE_readStop : Cond.selects RRE yy_RE_readStop yy_RE_readStop ∈ gtb := gtb_of (List.mem_of_getElem? (i := 14) (by decide +kernel)) rfl
theorem gw_sel_RE_wantStop : Cond.selects RRE yy_RE_wantStop yy_RE_wantStop ∈ gtb := gtb_of (List.mem_of_getElem? (i := 15) (by decide +kernel)) rfl
theorem gw_sel_RE_readJoint : Cond.selects RRE yy_RE_readJoint yy_RE_readJoint ∈ gtb := gtb_of (List.mem_of_getElem? (i := 16) (by decide +kernel)) rfl
theorem gw_sel_RE_readPiece : Cond.selects RRE yy_RE_readPiece yy_RE_readPiece ∈ gtb := gtb_of (List.mem_of_getElem? (i := 17) (by decide +kernel)) rfl
theorem gw_sel_RE_readFeast : Cond.selects RRE yy_RE_readFeast yy_RE_readFeast ∈ gtb := gtb_of (List.mem_of_getElem? (i := 18) (by decide +kernel)) rfl
theorem gw_sel_RE_readDay : Cond.selects RRE yy_RE_readDay yy_RE_readDay ∈ gtb := gtb_of (List.mem_of_getElem? (i := 19) (by decide +kernel)) rfl
theorem gw_sel_RE_readBoil : Cond.selects RRE yy_RE_readBoil yy_RE_readBoil ∈ gtb := gtb_of (List.mem_of_getElem? (i := 20) (by decide +kernel)) rfl
theorem gw_sel_HI_lookForNeeds : Cond.selects RHI yy_HI_lookForNeeds yy_HI_lookForNeeds ∈ gtb := gtb_of (List.mem_of_getElem? (i := 21) (by decide +kernel)) rfl
theorem gw_sel_HI_fitsOf : Cond.selects RHI yy_HI_fitsOf yy_HI_fitsOf ∈ gtb := gtb_of (List.mem_of_getElem? (i := 22) (by decide +kernel)) rfl
theorem gw_sel_HI_isEnough : Cond.selects RHI yy_HI_isEnough yy_HI_isEnough ∈ gtb := gtb_of (List.mem_of_getElem? (i := 23) (by decide +kernel)) rfl
theorem gw_sel_OU_weepADay : Cond.selects ROU yy_OU_weepADay yy_OU_weepADay ∈ gtb := gtb_of (List.mem_of_getElem? (i := 24) (by decide +kernel)) rfl
theorem gw_sel_OU_isByFacts : Cond.selects ROU yy_OU_isByFacts yy_OU_isByFacts ∈ gtb := gtb_of (List.mem_of_getElem? (i := 25) (by decide +kernel)) rfl
theorem gw_sel_OU_weddingADay : Cond.selects ROU yy_OU_weddingADay yy_OU_weddingADay ∈ gtb := gtb_of (List.mem_of_getElem? (i := 26) (by decide +kernel)) rfl
theorem gw_sel_OU_griefsWithout : Cond.selects ROU yy_OU_griefsWithout yy_OU_griefsWithout ∈ gtb := gtb_of (List.mem_of_getElem? (i := 27) (by decide +kernel)) rfl
theorem gw_sel_GG_countOf : Cond.selects RGG yy_GG_countOf yy_GG_countOf ∈ gtb := gtb_of (List.mem_of_getElem? (i := 28) (by decide +kernel)) rfl
theorem gw_sel_MO_bad : Cond.selects RMO yy_MO_bad yy_MO_bad ∈ gtb := gtb_of (List.mem_of_getElem? (i := 29) (by decide +kernel)) rfl
theorem gw_sel_MO_get : Cond.selects RMO yy_MO_get yy_MO_get ∈ gtb := gtb_of (List.mem_of_getElem? (i := 30) (by decide +kernel)) rfl
theorem gw_sel_MO_full : Cond.selects RMO yy_MO_full yy_MO_full ∈ gtb := gtb_of (List.mem_of_getElem? (i := 31) (by decide +kernel)) rfl
theorem gw_sel_MO_addMourner : Cond.selects RMO yy_MO_addMourner yy_MO_addMourner ∈ gtb := gtb_of (List.mem_of_getElem? (i := 32) (by decide +kernel)) rfl
theorem gw_sel_MO_set : Cond.selects RMO yy_MO_set yy_MO_set ∈ gtb := gtb_of (List.mem_of_getElem? (i := 33) (by decide +kernel)) rfl
theorem gw_sel_MO_addJoint : Cond.selects RMO yy_MO_addJoint yy_MO_addJoint ∈ gtb := gtb_of (List.mem_of_getElem? (i := 34) (by decide +kernel)) rfl
theorem gw_sel_MO_isSet : Cond.selects RMO yy_MO_isSet yy_MO_isSet ∈ gtb := gtb_of (List.mem_of_getElem? (i := 35) (by decide +kernel)) rfl
theorem gw_sel_MO_addPiece : Cond.selects RMO yy_MO_addPiece yy_MO_addPiece ∈ gtb := gtb_of (List.mem_of_getElem? (i := 36) (by decide +kernel)) rfl
theorem gw_sel_MO_isMourner : Cond.selects RMO yy_MO_isMourner yy_MO_isMourner ∈ gtb := gtb_of (List.mem_of_getElem? (i := 37) (by decide +kernel)) rfl
theorem gw_sel_MO_addFeast : Cond.selects RMO yy_MO_addFeast yy_MO_addFeast ∈ gtb := gtb_of (List.mem_of_getElem? (i := 38) (by decide +kernel)) rfl
theorem gw_sel_MO_no : Cond.selects RMO yy_MO_no yy_MO_no ∈ gtb := gtb_of (List.mem_of_getElem? (i := 39) (by decide +kernel)) rfl
theorem gw_sel_MO_isJoint : Cond.selects RMO yy_MO_isJoint yy_MO_isJoint ∈ gtb := gtb_of (List.mem_of_getElem? (i := 40) (by decide +kernel)) rfl
theorem gw_sel_MO_know : Cond.selects RMO yy_MO_know yy_MO_know ∈ gtb := gtb_of (List.mem_of_getElem? (i := 41) (by decide +kernel)) rfl
theorem gw_sel_MO_boiled : Cond.selects RMO yy_MO_boiled yy_MO_boiled ∈ gtb := gtb_of (List.mem_of_getElem? (i := 42) (by decide +kernel)) rfl
theorem gw_sel_MO_opensOn : Cond.selects RMO yy_MO_opensOn yy_MO_opensOn ∈ gtb := gtb_of (List.mem_of_getElem? (i := 43) (by decide +kernel)) rfl
theorem gw_sel_MO_findGriefs : Cond.selects RMO yy_MO_findGriefs yy_MO_findGriefs ∈ gtb := gtb_of (List.mem_of_getElem? (i := 44) (by decide +kernel)) rfl
theorem gw_sel_MO_onDay : Cond.selects RMO yy_MO_onDay yy_MO_onDay ∈ gtb := gtb_of (List.mem_of_getElem? (i := 45) (by decide +kernel)) rfl
theorem gw_sel_MO_opensBy : Cond.selects RMO yy_MO_opensBy yy_MO_opensBy ∈ gtb := gtb_of (List.mem_of_getElem? (i := 46) (by decide +kernel)) rfl
theorem gw_sel_MO_strength : Cond.selects RMO yy_MO_strength yy_MO_strength ∈ gtb := gtb_of (List.mem_of_getElem? (i := 47) (by decide +kernel)) rfl
theorem gw_sel_MO_openNow : Cond.selects RMO yy_MO_openNow yy_MO_openNow ∈ gtb := gtb_of (List.mem_of_getElem? (i := 48) (by decide +kernel)) rfl
theorem gw_sel_MO_isBoiled : Cond.selects RMO yy_MO_isBoiled yy_MO_isBoiled ∈ gtb := gtb_of (List.mem_of_getElem? (i := 49) (by decide +kernel)) rfl
theorem gw_sel_MO_next : Cond.selects RMO yy_MO_next yy_MO_next ∈ gtb := gtb_of (List.mem_of_getElem? (i := 50) (by decide +kernel)) rfl
theorem gw_sel_MO_here : Cond.selects RMO yy_MO_here yy_MO_here ∈ gtb := gtb_of (List.mem_of_getElem? (i := 51) (by decide +kernel)) rfl
theorem gw_sel_MO_readItem : Cond.selects RMO yy_MO_readItem yy_MO_readItem ∈ gtb := gtb_of (List.mem_of_getElem? (i := 52) (by decide +kernel)) rfl
theorem gw_sel_MO_mayBe : Cond.selects RMO yy_MO_mayBe yy_MO_mayBe ∈ gtb := gtb_of (List.mem_of_getElem? (i := 53) (by decide +kernel)) rfl
theorem gw_sel_MO_due : Cond.selects RMO yy_MO_due yy_MO_due ∈ gtb := gtb_of (List.mem_of_getElem? (i := 54) (by decide +kernel)) rfl
theorem gw_sel_MO_isNumber : Cond.selects RMO yy_MO_isNumber yy_MO_isNumber ∈ gtb := gtb_of (List.mem_of_getElem? (i := 55) (by decide +kernel)) rfl
theorem gw_sel_MO_readBoil : Cond.selects RMO yy_MO_readBoil yy_MO_readBoil ∈ gtb := gtb_of (List.mem_of_getElem? (i := 56) (by decide +kernel)) rfl
theorem gw_sel_MO_readRow : Cond.selects RMO yy_MO_readRow yy_MO_readRow ∈ gtb := gtb_of (List.mem_of_getElem? (i := 57) (by decide +kernel)) rfl
theorem gw_sel_MO_copy : Cond.selects RMO yy_MO_copy yy_MO_copy ∈ gtb := gtb_of (List.mem_of_getElem? (i := 58) (by decide +kernel)) rfl
theorem gw_sel_MO_isLasting : Cond.selects RMO yy_MO_isLasting yy_MO_isLasting ∈ gtb := gtb_of (List.mem_of_getElem? (i := 59) (by decide +kernel)) rfl
theorem gw_sel_MO_findNeeds : Cond.selects RMO yy_MO_findNeeds yy_MO_findNeeds ∈ gtb := gtb_of (List.mem_of_getElem? (i := 60) (by decide +kernel)) rfl
theorem gw_sel_MO_hired : Cond.selects RMO yy_MO_hired yy_MO_hired ∈ gtb := gtb_of (List.mem_of_getElem? (i := 61) (by decide +kernel)) rfl
theorem gw_sel_MO_priceOf : Cond.selects RMO yy_MO_priceOf yy_MO_priceOf ∈ gtb := gtb_of (List.mem_of_getElem? (i := 62) (by decide +kernel)) rfl
theorem gw_sel_MO_whoOf : Cond.selects RMO yy_MO_whoOf yy_MO_whoOf ∈ gtb := gtb_of (List.mem_of_getElem? (i := 63) (by decide +kernel)) rfl
theorem gw_sel_MO_wouldHold : Cond.selects RMO yy_MO_wouldHold yy_MO_wouldHold ∈ gtb := gtb_of (List.mem_of_getElem? (i := 64) (by decide +kernel)) rfl
theorem gw_sel_MO_isLikely : Cond.selects RMO yy_MO_isLikely yy_MO_isLikely ∈ gtb := gtb_of (List.mem_of_getElem? (i := 65) (by decide +kernel)) rfl
theorem gw_sel_MO_digestRow : Cond.selects RMO yy_MO_digestRow yy_MO_digestRow ∈ gtb := gtb_of (List.mem_of_getElem? (i := 66) (by decide +kernel)) rfl
theorem gw_ini_LA : Cond.initialized RLA ∈ gtb := gtb_of (List.mem_of_getElem? (i := 67) (by decide +kernel)) rfl
theorem gw_ini_GG : Cond.initialized RGG ∈ gtb := gtb_of (List.mem_of_getElem? (i := 68) (by decide +kernel)) rfl
theorem gw_ini_SH : Cond.initialized RSH ∈ gtb := gtb_of (List.mem_of_getElem? (i := 69) (by decide +kernel)) rfl
theorem gw_ini_LE : Cond.initialized RLE ∈ gtb := gtb_of (List.mem_of_getElem? (i := 70) (by decide +kernel)) rfl
theorem gw_ini_MA : Cond.initialized RMA ∈ gtb := gtb_of (List.mem_of_getElem? (i := 71) (by decide +kernel)) rfl
theorem gw_ini_AR : Cond.initialized RAR ∈ gtb := gtb_of (List.mem_of_getElem? (i := 72) (by decide +kernel)) rfl
theorem gw_ini_RE : Cond.initialized RRE ∈ gtb := gtb_of (List.mem_of_getElem? (i := 73) (by decide +kernel)) rfl
theorem gw_ini_HI : Cond.initialized RHI ∈ gtb := gtb_of (List.mem_of_getElem? (i := 74) (by decide +kernel)) rfl
theorem gw_ini_OU : Cond.initialized ROU ∈ gtb := gtb_of (List.mem_of_getElem? (i := 75) (by decide +kernel)) rfl
theorem gw_ini_MO : Cond.initialized RMO ∈ gtb := gtb_of (List.mem_of_getElem? (i := 76) (by decide +kernel)) rfl
theorem gw_ini_KI : Cond.initialized RKI ∈ gtb := gtb_of (List.mem_of_getElem? (i := 77) (by decide +kernel)) rfl
theorem gw_ini_SY : Cond.initialized RSY ∈ gtb := gtb_of (List.mem_of_getElem? (i := 78) (by decide +kernel)) rfl
theorem gw_ini_IN : Cond.initialized RIN ∈ gtb := gtb_of (List.mem_of_getElem? (i := 79) (by decide +kernel)) rfl
theorem gw_ini_ST : Cond.initialized RST ∈ gtb := gtb_of (List.mem_of_getElem? (i := 80) (by decide +kernel)) rfl
theorem gw_ini_SL : Cond.initialized RSL ∈ gtb := gtb_of (List.mem_of_getElem? (i := 81) (by decide +kernel)) rfl
theorem gw_ini_PR : Cond.initialized RPR ∈ gtb := gtb_of (List.mem_of_getElem? (i := 82) (by decide +kernel)) rfl
theorem gw_ini_SU : Cond.initialized RSU ∈ gtb := gtb_of (List.mem_of_getElem? (i := 83) (by decide +kernel)) rfl
theorem gw_inst_GG_init : Cond.instanceMethod yy_GG_init ∈ gtb := gtb_of (List.mem_of_getElem? (i := 87) (by decide +kernel)) rfl
theorem gw_inst_SH_init : Cond.instanceMethod yy_SH_init ∈ gtb := gtb_of (List.mem_of_getElem? (i := 95) (by decide +kernel)) rfl
theorem gw_inst_LE_init : Cond.instanceMethod yy_LE_init ∈ gtb := gtb_of (List.mem_of_getElem? (i := 101) (by decide +kernel)) rfl
theorem gw_static_MA_max : Cond.static yy_MA_max ∈ gtb := gtb_of (List.mem_of_getElem? (i := 105) (by decide +kernel)) rfl
theorem gw_static_AR_fillI : Cond.static yy_AR_fillI ∈ gtb := gtb_of (List.mem_of_getElem? (i := 129) (by decide +kernel)) rfl
theorem gw_inst_RE_init : Cond.instanceMethod yy_RE_init ∈ gtb := gtb_of (List.mem_of_getElem? (i := 185) (by decide +kernel)) rfl
theorem gw_inst_HI_init : Cond.instanceMethod yy_HI_init ∈ gtb := gtb_of (List.mem_of_getElem? (i := 222) (by decide +kernel)) rfl
theorem gw_inst_OU_init : Cond.instanceMethod yy_OU_init ∈ gtb := gtb_of (List.mem_of_getElem? (i := 242) (by decide +kernel)) rfl
theorem gw_inst_GG_mourner : Cond.instanceMethod yy_GG_mourner ∈ gtb := gtb_of (List.mem_of_getElem? (i := 299) (by decide +kernel)) rfl
theorem gw_sel_GG_mourner : Cond.selects RGG yy_GG_mourner yy_GG_mourner ∈ gtb := gtb_of (List.mem_of_getElem? (i := 300) (by decide +kernel)) rfl
theorem gw_static_GG_isWithin : Cond.static yy_GG_isWithin ∈ gtb := gtb_of (List.mem_of_getElem? (i := 303) (by decide +kernel)) rfl
theorem gw_inst_GG_refuseBad : Cond.instanceMethod yy_GG_refuseBad ∈ gtb := gtb_of (List.mem_of_getElem? (i := 307) (by decide +kernel)) rfl
theorem gw_inst_LE_isFull : Cond.instanceMethod yy_LE_isFull ∈ gtb := gtb_of (List.mem_of_getElem? (i := 310) (by decide +kernel)) rfl
theorem gw_sel_LE_isFull : Cond.selects RLE yy_LE_isFull yy_LE_isFull ∈ gtb := gtb_of (List.mem_of_getElem? (i := 311) (by decide +kernel)) rfl
theorem gw_inst_GG_refuseFull : Cond.instanceMethod yy_GG_refuseFull ∈ gtb := gtb_of (List.mem_of_getElem? (i := 315) (by decide +kernel)) rfl
theorem gw_inst_SH_addMourner : Cond.instanceMethod yy_SH_addMourner ∈ gtb := gtb_of (List.mem_of_getElem? (i := 318) (by decide +kernel)) rfl
theorem gw_sel_SH_addMourner : Cond.selects RSH yy_SH_addMourner yy_SH_addMourner ∈ gtb := gtb_of (List.mem_of_getElem? (i := 319) (by decide +kernel)) rfl
theorem gw_inst_LE_add : Cond.instanceMethod yy_LE_add ∈ gtb := gtb_of (List.mem_of_getElem? (i := 322) (by decide +kernel)) rfl
theorem gw_sel_LE_add : Cond.selects RLE yy_LE_add yy_LE_add ∈ gtb := gtb_of (List.mem_of_getElem? (i := 323) (by decide +kernel)) rfl
theorem gw_inst_SH_renewGriefs : Cond.instanceMethod yy_SH_renewGriefs ∈ gtb := gtb_of (List.mem_of_getElem? (i := 328) (by decide +kernel)) rfl
theorem gw_inst_LE_has : Cond.instanceMethod yy_LE_has ∈ gtb := gtb_of (List.mem_of_getElem? (i := 331) (by decide +kernel)) rfl
theorem gw_sel_LE_has : Cond.selects RLE yy_LE_has yy_LE_has ∈ gtb := gtb_of (List.mem_of_getElem? (i := 332) (by decide +kernel)) rfl
theorem gw_inst_SH_fillGriefs : Cond.instanceMethod yy_SH_fillGriefs ∈ gtb := gtb_of (List.mem_of_getElem? (i := 335) (by decide +kernel)) rfl
theorem gw_sel_SH_fillGriefs : Cond.selects RSH yy_SH_fillGriefs yy_SH_fillGriefs ∈ gtb := gtb_of (List.mem_of_getElem? (i := 336) (by decide +kernel)) rfl
theorem gw_inst_LE_at : Cond.instanceMethod yy_LE_at ∈ gtb := gtb_of (List.mem_of_getElem? (i := 339) (by decide +kernel)) rfl
theorem gw_sel_LE_at : Cond.selects RLE yy_LE_at yy_LE_at ∈ gtb := gtb_of (List.mem_of_getElem? (i := 340) (by decide +kernel)) rfl
theorem gw_static_KI_stepOf : Cond.static yy_KI_stepOf ∈ gtb := gtb_of (List.mem_of_getElem? (i := 344) (by decide +kernel)) rfl
theorem gw_static_KI_widowStep : Cond.static yy_KI_widowStep ∈ gtb := gtb_of (List.mem_of_getElem? (i := 347) (by decide +kernel)) rfl
theorem gw_static_KI_mournerStep : Cond.static yy_KI_mournerStep ∈ gtb := gtb_of (List.mem_of_getElem? (i := 350) (by decide +kernel)) rfl
theorem gw_static_KI_heirStep : Cond.static yy_KI_heirStep ∈ gtb := gtb_of (List.mem_of_getElem? (i := 353) (by decide +kernel)) rfl
theorem gw_inst_SH_isFeastOf : Cond.instanceMethod yy_SH_isFeastOf ∈ gtb := gtb_of (List.mem_of_getElem? (i := 357) (by decide +kernel)) rfl
theorem gw_static_KI_feastOf : Cond.static yy_KI_feastOf ∈ gtb := gtb_of (List.mem_of_getElem? (i := 360) (by decide +kernel)) rfl
theorem gw_static_MA_min : Cond.static yy_MA_min ∈ gtb := gtb_of (List.mem_of_getElem? (i := 363) (by decide +kernel)) rfl
theorem gw_inst_GG_joint : Cond.instanceMethod yy_GG_joint ∈ gtb := gtb_of (List.mem_of_getElem? (i := 366) (by decide +kernel)) rfl
theorem gw_sel_GG_joint : Cond.selects RGG yy_GG_joint yy_GG_joint ∈ gtb := gtb_of (List.mem_of_getElem? (i := 367) (by decide +kernel)) rfl
theorem gw_inst_GG_piece : Cond.instanceMethod yy_GG_piece ∈ gtb := gtb_of (List.mem_of_getElem? (i := 371) (by decide +kernel)) rfl
theorem gw_sel_GG_piece : Cond.selects RGG yy_GG_piece yy_GG_piece ∈ gtb := gtb_of (List.mem_of_getElem? (i := 372) (by decide +kernel)) rfl
theorem gw_inst_SH_allJoints : Cond.instanceMethod yy_SH_allJoints ∈ gtb := gtb_of (List.mem_of_getElem? (i := 375) (by decide +kernel)) rfl
theorem gw_sel_SH_allJoints : Cond.selects RSH yy_SH_allJoints yy_SH_allJoints ∈ gtb := gtb_of (List.mem_of_getElem? (i := 376) (by decide +kernel)) rfl
theorem gw_inst_GG_feast : Cond.instanceMethod yy_GG_feast ∈ gtb := gtb_of (List.mem_of_getElem? (i := 379) (by decide +kernel)) rfl
theorem gw_sel_GG_feast : Cond.selects RGG yy_GG_feast yy_GG_feast ∈ gtb := gtb_of (List.mem_of_getElem? (i := 380) (by decide +kernel)) rfl
theorem gw_inst_SH_addFeast : Cond.instanceMethod yy_SH_addFeast ∈ gtb := gtb_of (List.mem_of_getElem? (i := 384) (by decide +kernel)) rfl
theorem gw_sel_SH_addFeast : Cond.selects RSH yy_SH_addFeast yy_SH_addFeast ∈ gtb := gtb_of (List.mem_of_getElem? (i := 385) (by decide +kernel)) rfl
theorem gw_inst_GG_skip : Cond.instanceMethod yy_GG_skip ∈ gtb := gtb_of (List.mem_of_getElem? (i := 388) (by decide +kernel)) rfl
theorem gw_sel_GG_skip : Cond.selects RGG yy_GG_skip yy_GG_skip ∈ gtb := gtb_of (List.mem_of_getElem? (i := 389) (by decide +kernel)) rfl
theorem gw_inst_GG_refuseNo : Cond.instanceMethod yy_GG_refuseNo ∈ gtb := gtb_of (List.mem_of_getElem? (i := 393) (by decide +kernel)) rfl
theorem gw_inst_SH_dropFeast : Cond.instanceMethod yy_SH_dropFeast ∈ gtb := gtb_of (List.mem_of_getElem? (i := 396) (by decide +kernel)) rfl
theorem gw_sel_SH_dropFeast : Cond.selects RSH yy_SH_dropFeast yy_SH_dropFeast ∈ gtb := gtb_of (List.mem_of_getElem? (i := 397) (by decide +kernel)) rfl
theorem gw_inst_LE_dropLast : Cond.instanceMethod yy_LE_dropLast ∈ gtb := gtb_of (List.mem_of_getElem? (i := 400) (by decide +kernel)) rfl
theorem gw_sel_LE_dropLast : Cond.selects RLE yy_LE_dropLast yy_LE_dropLast ∈ gtb := gtb_of (List.mem_of_getElem? (i := 401) (by decide +kernel)) rfl
theorem gw_inst_GG_boil : Cond.instanceMethod yy_GG_boil ∈ gtb := gtb_of (List.mem_of_getElem? (i := 404) (by decide +kernel)) rfl
theorem gw_sel_GG_boil : Cond.selects RGG yy_GG_boil yy_GG_boil ∈ gtb := gtb_of (List.mem_of_getElem? (i := 405) (by decide +kernel)) rfl
theorem gw_inst_SH_keepPast : Cond.instanceMethod yy_SH_keepPast ∈ gtb := gtb_of (List.mem_of_getElem? (i := 408) (by decide +kernel)) rfl
theorem gw_sel_SH_keepPast : Cond.selects RSH yy_SH_keepPast yy_SH_keepPast ∈ gtb := gtb_of (List.mem_of_getElem? (i := 409) (by decide +kernel)) rfl
theorem gw_static_SY_arraycopy : Cond.static arraycopyName ∈ gtb := gtb_of (List.mem_of_getElem? (i := 412) (by decide +kernel)) rfl
theorem gw_native : Cond.native arraycopyName ∈ gtb := gtb_of (List.mem_of_getElem? (i := 413) (by decide +kernel)) rfl
theorem gw_inst_SH_boilNow : Cond.instanceMethod yy_SH_boilNow ∈ gtb := gtb_of (List.mem_of_getElem? (i := 415) (by decide +kernel)) rfl
theorem gw_sel_SH_boilNow : Cond.selects RSH yy_SH_boilNow yy_SH_boilNow ∈ gtb := gtb_of (List.mem_of_getElem? (i := 416) (by decide +kernel)) rfl
theorem gw_inst_SH_openingOf : Cond.instanceMethod yy_SH_openingOf ∈ gtb := gtb_of (List.mem_of_getElem? (i := 419) (by decide +kernel)) rfl
theorem gw_sel_SH_openingOf : Cond.selects RSH yy_SH_openingOf yy_SH_openingOf ∈ gtb := gtb_of (List.mem_of_getElem? (i := 420) (by decide +kernel)) rfl
theorem gw_inst_SH_boiledOn : Cond.instanceMethod yy_SH_boiledOn ∈ gtb := gtb_of (List.mem_of_getElem? (i := 423) (by decide +kernel)) rfl
theorem gw_sel_SH_boiledOn : Cond.selects RSH yy_SH_boiledOn yy_SH_boiledOn ∈ gtb := gtb_of (List.mem_of_getElem? (i := 424) (by decide +kernel)) rfl
theorem gw_inst_SH_firstBoiler : Cond.instanceMethod yy_SH_firstBoiler ∈ gtb := gtb_of (List.mem_of_getElem? (i := 427) (by decide +kernel)) rfl
theorem gw_sel_SH_firstBoiler : Cond.selects RSH yy_SH_firstBoiler yy_SH_firstBoiler ∈ gtb := gtb_of (List.mem_of_getElem? (i := 428) (by decide +kernel)) rfl
theorem gw_inst_SH_griefsOf : Cond.instanceMethod yy_SH_griefsOf ∈ gtb := gtb_of (List.mem_of_getElem? (i := 431) (by decide +kernel)) rfl
theorem gw_sel_SH_griefsOf : Cond.selects RSH yy_SH_griefsOf yy_SH_griefsOf ∈ gtb := gtb_of (List.mem_of_getElem? (i := 432) (by decide +kernel)) rfl
theorem gw_inst_SH_secondBoiler : Cond.instanceMethod yy_SH_secondBoiler ∈ gtb := gtb_of (List.mem_of_getElem? (i := 435) (by decide +kernel)) rfl
theorem gw_sel_SH_secondBoiler : Cond.selects RSH yy_SH_secondBoiler yy_SH_secondBoiler ∈ gtb := gtb_of (List.mem_of_getElem? (i := 436) (by decide +kernel)) rfl
theorem gw_static_SH_firstWeakDay : Cond.static yy_SH_firstWeakDay ∈ gtb := gtb_of (List.mem_of_getElem? (i := 439) (by decide +kernel)) rfl
theorem gw_inst_GG_day : Cond.instanceMethod yy_GG_day ∈ gtb := gtb_of (List.mem_of_getElem? (i := 443) (by decide +kernel)) rfl
theorem gw_sel_GG_day : Cond.selects RGG yy_GG_day yy_GG_day ∈ gtb := gtb_of (List.mem_of_getElem? (i := 444) (by decide +kernel)) rfl
theorem gw_inst_SH_openJoints : Cond.instanceMethod yy_SH_openJoints ∈ gtb := gtb_of (List.mem_of_getElem? (i := 447) (by decide +kernel)) rfl
theorem gw_sel_SH_openJoints : Cond.selects RSH yy_SH_openJoints yy_SH_openJoints ∈ gtb := gtb_of (List.mem_of_getElem? (i := 448) (by decide +kernel)) rfl
theorem gw_static_IN_bitCount : Cond.static yy_IN_bitCount ∈ gtb := gtb_of (List.mem_of_getElem? (i := 452) (by decide +kernel)) rfl
theorem gw_inst_GG_undo : Cond.instanceMethod yy_GG_undo ∈ gtb := gtb_of (List.mem_of_getElem? (i := 458) (by decide +kernel)) rfl
theorem gw_sel_GG_undo : Cond.selects RGG yy_GG_undo yy_GG_undo ∈ gtb := gtb_of (List.mem_of_getElem? (i := 459) (by decide +kernel)) rfl
theorem gw_inst_SH_goBack : Cond.instanceMethod yy_SH_goBack ∈ gtb := gtb_of (List.mem_of_getElem? (i := 462) (by decide +kernel)) rfl
theorem gw_sel_SH_goBack : Cond.selects RSH yy_SH_goBack yy_SH_goBack ∈ gtb := gtb_of (List.mem_of_getElem? (i := 463) (by decide +kernel)) rfl
theorem gw_inst_GG_type : Cond.instanceMethod yy_GG_type ∈ gtb := gtb_of (List.mem_of_getElem? (i := 466) (by decide +kernel)) rfl
theorem gw_sel_GG_type : Cond.selects RGG yy_GG_type yy_GG_type ∈ gtb := gtb_of (List.mem_of_getElem? (i := 467) (by decide +kernel)) rfl
theorem gw_inst_RE_addByte : Cond.instanceMethod yy_RE_addByte ∈ gtb := gtb_of (List.mem_of_getElem? (i := 470) (by decide +kernel)) rfl
theorem gw_sel_RE_addByte : Cond.selects RRE yy_RE_addByte yy_RE_addByte ∈ gtb := gtb_of (List.mem_of_getElem? (i := 471) (by decide +kernel)) rfl
theorem gw_inst_GG_clear : Cond.instanceMethod yy_GG_clear ∈ gtb := gtb_of (List.mem_of_getElem? (i := 474) (by decide +kernel)) rfl
theorem gw_sel_GG_clear : Cond.selects RGG yy_GG_clear yy_GG_clear ∈ gtb := gtb_of (List.mem_of_getElem? (i := 475) (by decide +kernel)) rfl
theorem gw_inst_GG_read : Cond.instanceMethod yy_GG_read ∈ gtb := gtb_of (List.mem_of_getElem? (i := 478) (by decide +kernel)) rfl
theorem gw_sel_GG_read : Cond.selects RGG yy_GG_read yy_GG_read ∈ gtb := gtb_of (List.mem_of_getElem? (i := 479) (by decide +kernel)) rfl
theorem gw_inst_RE_readItems : Cond.instanceMethod yy_RE_readItems ∈ gtb := gtb_of (List.mem_of_getElem? (i := 482) (by decide +kernel)) rfl
theorem gw_sel_RE_readItems : Cond.selects RRE yy_RE_readItems yy_RE_readItems ∈ gtb := gtb_of (List.mem_of_getElem? (i := 483) (by decide +kernel)) rfl
theorem gw_inst_SH_makeEmpty : Cond.instanceMethod yy_SH_makeEmpty ∈ gtb := gtb_of (List.mem_of_getElem? (i := 486) (by decide +kernel)) rfl
theorem gw_sel_SH_makeEmpty : Cond.selects RSH yy_SH_makeEmpty yy_SH_makeEmpty ∈ gtb := gtb_of (List.mem_of_getElem? (i := 487) (by decide +kernel)) rfl
theorem gw_inst_RE_nextToken : Cond.instanceMethod yy_RE_nextToken ∈ gtb := gtb_of (List.mem_of_getElem? (i := 491) (by decide +kernel)) rfl
theorem gw_static_RE_isLetter : Cond.static yy_RE_isLetter ∈ gtb := gtb_of (List.mem_of_getElem? (i := 494) (by decide +kernel)) rfl
theorem gw_inst_RE_readLetters : Cond.instanceMethod yy_RE_readLetters ∈ gtb := gtb_of (List.mem_of_getElem? (i := 498) (by decide +kernel)) rfl
theorem gw_static_RE_isFigure : Cond.static yy_RE_isFigure ∈ gtb := gtb_of (List.mem_of_getElem? (i := 501) (by decide +kernel)) rfl
theorem gw_inst_RE_readFigures : Cond.instanceMethod yy_RE_readFigures ∈ gtb := gtb_of (List.mem_of_getElem? (i := 505) (by decide +kernel)) rfl
theorem gw_inst_RE_isWord : Cond.instanceMethod yy_RE_isWord ∈ gtb := gtb_of (List.mem_of_getElem? (i := 510) (by decide +kernel)) rfl
theorem gw_inst_ST_length : Cond.instanceMethod yy_ST_length ∈ gtb := gtb_of (List.mem_of_getElem? (i := 513) (by decide +kernel)) rfl
theorem gw_sel_ST_length : Cond.selects RST yy_ST_length yy_ST_length ∈ gtb := gtb_of (List.mem_of_getElem? (i := 514) (by decide +kernel)) rfl
theorem gw_inst_ST_coder : Cond.instanceMethod yy_ST_coder ∈ gtb := gtb_of (List.mem_of_getElem? (i := 517) (by decide +kernel)) rfl
theorem gw_sel_ST_coder : Cond.selects RST yy_ST_coder yy_ST_coder ∈ gtb := gtb_of (List.mem_of_getElem? (i := 518) (by decide +kernel)) rfl
theorem gw_inst_ST_charAt : Cond.instanceMethod yy_ST_charAt ∈ gtb := gtb_of (List.mem_of_getElem? (i := 523) (by decide +kernel)) rfl
theorem gw_sel_ST_charAt : Cond.selects RST yy_ST_charAt yy_ST_charAt ∈ gtb := gtb_of (List.mem_of_getElem? (i := 524) (by decide +kernel)) rfl
theorem gw_inst_ST_isLatin1 : Cond.instanceMethod yy_ST_isLatin1 ∈ gtb := gtb_of (List.mem_of_getElem? (i := 527) (by decide +kernel)) rfl
theorem gw_sel_ST_isLatin1 : Cond.selects RST yy_ST_isLatin1 yy_ST_isLatin1 ∈ gtb := gtb_of (List.mem_of_getElem? (i := 528) (by decide +kernel)) rfl
theorem gw_static_SL_charAt : Cond.static yy_SL_charAt ∈ gtb := gtb_of (List.mem_of_getElem? (i := 531) (by decide +kernel)) rfl
theorem gw_static_ST_checkIndex : Cond.static yy_ST_checkIndex ∈ gtb := gtb_of (List.mem_of_getElem? (i := 534) (by decide +kernel)) rfl
theorem gw_static_PR_checkIndex : Cond.static yy_PR_checkIndex ∈ gtb := gtb_of (List.mem_of_getElem? (i := 539) (by decide +kernel)) rfl
theorem gw_static_SU_charAt : Cond.static yy_SU_charAt ∈ gtb := gtb_of (List.mem_of_getElem? (i := 542) (by decide +kernel)) rfl
theorem gw_static_SU_checkIndex : Cond.static yy_SU_checkIndex ∈ gtb := gtb_of (List.mem_of_getElem? (i := 545) (by decide +kernel)) rfl
theorem gw_static_SU_length : Cond.static yy_SU_length ∈ gtb := gtb_of (List.mem_of_getElem? (i := 548) (by decide +kernel)) rfl
theorem gw_static_SU_getChar : Cond.static yy_SU_getChar ∈ gtb := gtb_of (List.mem_of_getElem? (i := 552) (by decide +kernel)) rfl
theorem gw_inst_RE_readMourner : Cond.instanceMethod yy_RE_readMourner ∈ gtb := gtb_of (List.mem_of_getElem? (i := 562) (by decide +kernel)) rfl
theorem gw_inst_RE_wantRoom : Cond.instanceMethod yy_RE_wantRoom ∈ gtb := gtb_of (List.mem_of_getElem? (i := 566) (by decide +kernel)) rfl
theorem gw_inst_RE_blame : Cond.instanceMethod yy_RE_blame ∈ gtb := gtb_of (List.mem_of_getElem? (i := 571) (by decide +kernel)) rfl
theorem gw_inst_RE_readNumber : Cond.instanceMethod yy_RE_readNumber ∈ gtb := gtb_of (List.mem_of_getElem? (i := 575) (by decide +kernel)) rfl
theorem gw_inst_RE_wantNumber : Cond.instanceMethod yy_RE_wantNumber ∈ gtb := gtb_of (List.mem_of_getElem? (i := 579) (by decide +kernel)) rfl
theorem gw_inst_RE_readStop : Cond.instanceMethod yy_RE_readStop ∈ gtb := gtb_of (List.mem_of_getElem? (i := 584) (by decide +kernel)) rfl
theorem gw_inst_RE_wantStop : Cond.instanceMethod yy_RE_wantStop ∈ gtb := gtb_of (List.mem_of_getElem? (i := 588) (by decide +kernel)) rfl
theorem gw_inst_RE_readJoint : Cond.instanceMethod yy_RE_readJoint ∈ gtb := gtb_of (List.mem_of_getElem? (i := 594) (by decide +kernel)) rfl
theorem gw_inst_RE_readPiece : Cond.instanceMethod yy_RE_readPiece ∈ gtb := gtb_of (List.mem_of_getElem? (i := 599) (by decide +kernel)) rfl
theorem gw_inst_RE_readFeast : Cond.instanceMethod yy_RE_readFeast ∈ gtb := gtb_of (List.mem_of_getElem? (i := 605) (by decide +kernel)) rfl
theorem gw_inst_RE_readDay : Cond.instanceMethod yy_RE_readDay ∈ gtb := gtb_of (List.mem_of_getElem? (i := 611) (by decide +kernel)) rfl
theorem gw_inst_RE_readBoil : Cond.instanceMethod yy_RE_readBoil ∈ gtb := gtb_of (List.mem_of_getElem? (i := 616) (by decide +kernel)) rfl
theorem gw_inst_SH_copyFrom : Cond.instanceMethod yy_SH_copyFrom ∈ gtb := gtb_of (List.mem_of_getElem? (i := 620) (by decide +kernel)) rfl
theorem gw_sel_SH_copyFrom : Cond.selects RSH yy_SH_copyFrom yy_SH_copyFrom ∈ gtb := gtb_of (List.mem_of_getElem? (i := 621) (by decide +kernel)) rfl
theorem gw_inst_LE_copyFrom : Cond.instanceMethod yy_LE_copyFrom ∈ gtb := gtb_of (List.mem_of_getElem? (i := 624) (by decide +kernel)) rfl
theorem gw_sel_LE_copyFrom : Cond.selects RLE yy_LE_copyFrom yy_LE_copyFrom ∈ gtb := gtb_of (List.mem_of_getElem? (i := 625) (by decide +kernel)) rfl
theorem gw_inst_SH_renewAllGriefs : Cond.instanceMethod yy_SH_renewAllGriefs ∈ gtb := gtb_of (List.mem_of_getElem? (i := 629) (by decide +kernel)) rfl
theorem gw_sel_SH_renewAllGriefs : Cond.selects RSH yy_SH_renewAllGriefs yy_SH_renewAllGriefs ∈ gtb := gtb_of (List.mem_of_getElem? (i := 630) (by decide +kernel)) rfl
theorem gw_inst_GG_grief : Cond.instanceMethod yy_GG_grief ∈ gtb := gtb_of (List.mem_of_getElem? (i := 634) (by decide +kernel)) rfl
theorem gw_sel_GG_grief : Cond.selects RGG yy_GG_grief yy_GG_grief ∈ gtb := gtb_of (List.mem_of_getElem? (i := 635) (by decide +kernel)) rfl
theorem gw_inst_SH_griefOn : Cond.instanceMethod yy_SH_griefOn ∈ gtb := gtb_of (List.mem_of_getElem? (i := 638) (by decide +kernel)) rfl
theorem gw_sel_SH_griefOn : Cond.selects RSH yy_SH_griefOn yy_SH_griefOn ∈ gtb := gtb_of (List.mem_of_getElem? (i := 639) (by decide +kernel)) rfl
theorem gw_inst_GG_opens : Cond.instanceMethod yy_GG_opens ∈ gtb := gtb_of (List.mem_of_getElem? (i := 643) (by decide +kernel)) rfl
theorem gw_sel_GG_opens : Cond.selects RGG yy_GG_opens yy_GG_opens ∈ gtb := gtb_of (List.mem_of_getElem? (i := 644) (by decide +kernel)) rfl
theorem gw_inst_GG_lasts : Cond.instanceMethod yy_GG_lasts ∈ gtb := gtb_of (List.mem_of_getElem? (i := 647) (by decide +kernel)) rfl
theorem gw_sel_GG_lasts : Cond.selects RGG yy_GG_lasts yy_GG_lasts ∈ gtb := gtb_of (List.mem_of_getElem? (i := 648) (by decide +kernel)) rfl
theorem gw_inst_SH_isLasting : Cond.instanceMethod yy_SH_isLasting ∈ gtb := gtb_of (List.mem_of_getElem? (i := 651) (by decide +kernel)) rfl
theorem gw_sel_SH_isLasting : Cond.selects RSH yy_SH_isLasting yy_SH_isLasting ∈ gtb := gtb_of (List.mem_of_getElem? (i := 652) (by decide +kernel)) rfl
theorem gw_inst_SH_isPartOf : Cond.instanceMethod yy_SH_isPartOf ∈ gtb := gtb_of (List.mem_of_getElem? (i := 655) (by decide +kernel)) rfl
theorem gw_sel_SH_isPartOf : Cond.selects RSH yy_SH_isPartOf yy_SH_isPartOf ∈ gtb := gtb_of (List.mem_of_getElem? (i := 656) (by decide +kernel)) rfl
theorem gw_inst_GG_open : Cond.instanceMethod yy_GG_open ∈ gtb := gtb_of (List.mem_of_getElem? (i := 659) (by decide +kernel)) rfl
theorem gw_sel_GG_open : Cond.selects RGG yy_GG_open yy_GG_open ∈ gtb := gtb_of (List.mem_of_getElem? (i := 660) (by decide +kernel)) rfl
theorem gw_inst_GG_hire : Cond.instanceMethod yy_GG_hire ∈ gtb := gtb_of (List.mem_of_getElem? (i := 663) (by decide +kernel)) rfl
theorem gw_sel_GG_hire : Cond.selects RGG yy_GG_hire yy_GG_hire ∈ gtb := gtb_of (List.mem_of_getElem? (i := 664) (by decide +kernel)) rfl
theorem gw_inst_HI_lookAt : Cond.instanceMethod yy_HI_lookAt ∈ gtb := gtb_of (List.mem_of_getElem? (i := 667) (by decide +kernel)) rfl
theorem gw_sel_HI_lookAt : Cond.selects RHI yy_HI_lookAt yy_HI_lookAt ∈ gtb := gtb_of (List.mem_of_getElem? (i := 668) (by decide +kernel)) rfl
theorem gw_inst_HI_lookForNeeds : Cond.instanceMethod yy_HI_lookForNeeds ∈ gtb := gtb_of (List.mem_of_getElem? (i := 674) (by decide +kernel)) rfl
theorem gw_inst_HI_fitsOf : Cond.instanceMethod yy_HI_fitsOf ∈ gtb := gtb_of (List.mem_of_getElem? (i := 682) (by decide +kernel)) rfl
theorem gw_static_HI_pairBit : Cond.static yy_HI_pairBit ∈ gtb := gtb_of (List.mem_of_getElem? (i := 687) (by decide +kernel)) rfl
theorem gw_inst_HI_cheapest : Cond.instanceMethod yy_HI_cheapest ∈ gtb := gtb_of (List.mem_of_getElem? (i := 690) (by decide +kernel)) rfl
theorem gw_sel_HI_cheapest : Cond.selects RHI yy_HI_cheapest yy_HI_cheapest ∈ gtb := gtb_of (List.mem_of_getElem? (i := 691) (by decide +kernel)) rfl
theorem gw_static_HI_isIn : Cond.static yy_HI_isIn ∈ gtb := gtb_of (List.mem_of_getElem? (i := 694) (by decide +kernel)) rfl
theorem gw_inst_HI_priceOf : Cond.instanceMethod yy_HI_priceOf ∈ gtb := gtb_of (List.mem_of_getElem? (i := 697) (by decide +kernel)) rfl
theorem gw_sel_HI_priceOf : Cond.selects RHI yy_HI_priceOf yy_HI_priceOf ∈ gtb := gtb_of (List.mem_of_getElem? (i := 698) (by decide +kernel)) rfl
theorem gw_inst_HI_isEnough : Cond.instanceMethod yy_HI_isEnough ∈ gtb := gtb_of (List.mem_of_getElem? (i := 702) (by decide +kernel)) rfl
theorem gw_inst_HI_boilersFor : Cond.instanceMethod yy_HI_boilersFor ∈ gtb := gtb_of (List.mem_of_getElem? (i := 705) (by decide +kernel)) rfl
theorem gw_sel_HI_boilersFor : Cond.selects RHI yy_HI_boilersFor yy_HI_boilersFor ∈ gtb := gtb_of (List.mem_of_getElem? (i := 706) (by decide +kernel)) rfl
theorem gw_inst_GG_who : Cond.instanceMethod yy_GG_who ∈ gtb := gtb_of (List.mem_of_getElem? (i := 711) (by decide +kernel)) rfl
theorem gw_sel_GG_who : Cond.selects RGG yy_GG_who yy_GG_who ∈ gtb := gtb_of (List.mem_of_getElem? (i := 712) (by decide +kernel)) rfl
theorem gw_inst_HI_isNeedy : Cond.instanceMethod yy_HI_isNeedy ∈ gtb := gtb_of (List.mem_of_getElem? (i := 715) (by decide +kernel)) rfl
theorem gw_sel_HI_isNeedy : Cond.selects RHI yy_HI_isNeedy yy_HI_isNeedy ∈ gtb := gtb_of (List.mem_of_getElem? (i := 716) (by decide +kernel)) rfl
theorem gw_inst_GG_saves : Cond.instanceMethod yy_GG_saves ∈ gtb := gtb_of (List.mem_of_getElem? (i := 720) (by decide +kernel)) rfl
theorem gw_sel_GG_saves : Cond.selects RGG yy_GG_saves yy_GG_saves ∈ gtb := gtb_of (List.mem_of_getElem? (i := 721) (by decide +kernel)) rfl
theorem gw_inst_GG_tears : Cond.instanceMethod yy_GG_tears ∈ gtb := gtb_of (List.mem_of_getElem? (i := 724) (by decide +kernel)) rfl
theorem gw_sel_GG_tears : Cond.selects RGG yy_GG_tears yy_GG_tears ∈ gtb := gtb_of (List.mem_of_getElem? (i := 725) (by decide +kernel)) rfl
theorem gw_inst_OU_fewestOnions : Cond.instanceMethod yy_OU_fewestOnions ∈ gtb := gtb_of (List.mem_of_getElem? (i := 728) (by decide +kernel)) rfl
theorem gw_sel_OU_fewestOnions : Cond.selects ROU yy_OU_fewestOnions yy_OU_fewestOnions ∈ gtb := gtb_of (List.mem_of_getElem? (i := 729) (by decide +kernel)) rfl
theorem gw_inst_SH_fillNextGriefs : Cond.instanceMethod yy_SH_fillNextGriefs ∈ gtb := gtb_of (List.mem_of_getElem? (i := 736) (by decide +kernel)) rfl
theorem gw_sel_SH_fillNextGriefs : Cond.selects RSH yy_SH_fillNextGriefs yy_SH_fillNextGriefs ∈ gtb := gtb_of (List.mem_of_getElem? (i := 737) (by decide +kernel)) rfl
theorem gw_inst_OU_weepADay : Cond.instanceMethod yy_OU_weepADay ∈ gtb := gtb_of (List.mem_of_getElem? (i := 741) (by decide +kernel)) rfl
theorem gw_inst_GG_fact : Cond.instanceMethod yy_GG_fact ∈ gtb := gtb_of (List.mem_of_getElem? (i := 746) (by decide +kernel)) rfl
theorem gw_sel_GG_fact : Cond.selects RGG yy_GG_fact yy_GG_fact ∈ gtb := gtb_of (List.mem_of_getElem? (i := 747) (by decide +kernel)) rfl
theorem gw_inst_GG_forget : Cond.instanceMethod yy_GG_forget ∈ gtb := gtb_of (List.mem_of_getElem? (i := 750) (by decide +kernel)) rfl
theorem gw_sel_GG_forget : Cond.selects RGG yy_GG_forget yy_GG_forget ∈ gtb := gtb_of (List.mem_of_getElem? (i := 751) (by decide +kernel)) rfl
theorem gw_inst_GG_likely : Cond.instanceMethod yy_GG_likely ∈ gtb := gtb_of (List.mem_of_getElem? (i := 754) (by decide +kernel)) rfl
theorem gw_sel_GG_likely : Cond.selects RGG yy_GG_likely yy_GG_likely ∈ gtb := gtb_of (List.mem_of_getElem? (i := 755) (by decide +kernel)) rfl
theorem gw_inst_OU_firstGriefs : Cond.instanceMethod yy_OU_firstGriefs ∈ gtb := gtb_of (List.mem_of_getElem? (i := 758) (by decide +kernel)) rfl
theorem gw_sel_OU_firstGriefs : Cond.selects ROU yy_OU_firstGriefs yy_OU_firstGriefs ∈ gtb := gtb_of (List.mem_of_getElem? (i := 759) (by decide +kernel)) rfl
theorem gw_inst_OU_isByFacts : Cond.instanceMethod yy_OU_isByFacts ∈ gtb := gtb_of (List.mem_of_getElem? (i := 763) (by decide +kernel)) rfl
theorem gw_inst_GG_odds : Cond.instanceMethod yy_GG_odds ∈ gtb := gtb_of (List.mem_of_getElem? (i := 769) (by decide +kernel)) rfl
theorem gw_sel_GG_odds : Cond.selects RGG yy_GG_odds yy_GG_odds ∈ gtb := gtb_of (List.mem_of_getElem? (i := 770) (by decide +kernel)) rfl
theorem gw_inst_OU_chancesToHold : Cond.instanceMethod yy_OU_chancesToHold ∈ gtb := gtb_of (List.mem_of_getElem? (i := 773) (by decide +kernel)) rfl
theorem gw_sel_OU_chancesToHold : Cond.selects ROU yy_OU_chancesToHold yy_OU_chancesToHold ∈ gtb := gtb_of (List.mem_of_getElem? (i := 774) (by decide +kernel)) rfl
theorem gw_static_AR_fillJ : Cond.static yy_AR_fillJ ∈ gtb := gtb_of (List.mem_of_getElem? (i := 777) (by decide +kernel)) rfl
theorem gw_inst_OU_weddingADay : Cond.instanceMethod yy_OU_weddingADay ∈ gtb := gtb_of (List.mem_of_getElem? (i := 781) (by decide +kernel)) rfl
theorem gw_static_GG_tenTo : Cond.static yy_GG_tenTo ∈ gtb := gtb_of (List.mem_of_getElem? (i := 785) (by decide +kernel)) rfl
theorem gw_static_GG_commonDivisor : Cond.static yy_GG_commonDivisor ∈ gtb := gtb_of (List.mem_of_getElem? (i := 789) (by decide +kernel)) rfl
theorem gw_inst_GG_harm : Cond.instanceMethod yy_GG_harm ∈ gtb := gtb_of (List.mem_of_getElem? (i := 792) (by decide +kernel)) rfl
theorem gw_sel_GG_harm : Cond.selects RGG yy_GG_harm yy_GG_harm ∈ gtb := gtb_of (List.mem_of_getElem? (i := 793) (by decide +kernel)) rfl
theorem gw_inst_OU_harmOf : Cond.instanceMethod yy_OU_harmOf ∈ gtb := gtb_of (List.mem_of_getElem? (i := 796) (by decide +kernel)) rfl
theorem gw_sel_OU_harmOf : Cond.selects ROU yy_OU_harmOf yy_OU_harmOf ∈ gtb := gtb_of (List.mem_of_getElem? (i := 797) (by decide +kernel)) rfl
theorem gw_inst_OU_griefsWithout : Cond.instanceMethod yy_OU_griefsWithout ∈ gtb := gtb_of (List.mem_of_getElem? (i := 804) (by decide +kernel)) rfl
theorem gw_inst_GG_part : Cond.instanceMethod yy_GG_part ∈ gtb := gtb_of (List.mem_of_getElem? (i := 810) (by decide +kernel)) rfl
theorem gw_sel_GG_part : Cond.selects RGG yy_GG_part yy_GG_part ∈ gtb := gtb_of (List.mem_of_getElem? (i := 811) (by decide +kernel)) rfl
theorem gw_inst_GG_image : Cond.instanceMethod yy_GG_image ∈ gtb := gtb_of (List.mem_of_getElem? (i := 814) (by decide +kernel)) rfl
theorem gw_sel_GG_image : Cond.selects RGG yy_GG_image yy_GG_image ∈ gtb := gtb_of (List.mem_of_getElem? (i := 815) (by decide +kernel)) rfl
theorem gw_inst_GG_from : Cond.instanceMethod yy_GG_from ∈ gtb := gtb_of (List.mem_of_getElem? (i := 818) (by decide +kernel)) rfl
theorem gw_sel_GG_from : Cond.selects RGG yy_GG_from yy_GG_from ∈ gtb := gtb_of (List.mem_of_getElem? (i := 819) (by decide +kernel)) rfl
theorem gw_inst_GG_status : Cond.instanceMethod yy_GG_status ∈ gtb := gtb_of (List.mem_of_getElem? (i := 822) (by decide +kernel)) rfl
theorem gw_sel_GG_status : Cond.selects RGG yy_GG_status yy_GG_status ∈ gtb := gtb_of (List.mem_of_getElem? (i := 823) (by decide +kernel)) rfl
theorem gw_inst_GG_count : Cond.instanceMethod yy_GG_count ∈ gtb := gtb_of (List.mem_of_getElem? (i := 826) (by decide +kernel)) rfl
theorem gw_sel_GG_count : Cond.selects RGG yy_GG_count yy_GG_count ∈ gtb := gtb_of (List.mem_of_getElem? (i := 827) (by decide +kernel)) rfl
theorem gw_inst_GG_countOf : Cond.instanceMethod yy_GG_countOf ∈ gtb := gtb_of (List.mem_of_getElem? (i := 831) (by decide +kernel)) rfl
theorem gw_inst_GG_digest : Cond.instanceMethod yy_GG_digest ∈ gtb := gtb_of (List.mem_of_getElem? (i := 834) (by decide +kernel)) rfl
theorem gw_sel_GG_digest : Cond.selects RGG yy_GG_digest yy_GG_digest ∈ gtb := gtb_of (List.mem_of_getElem? (i := 835) (by decide +kernel)) rfl
theorem gw_inst_LE_mixInto : Cond.instanceMethod yy_LE_mixInto ∈ gtb := gtb_of (List.mem_of_getElem? (i := 840) (by decide +kernel)) rfl
theorem gw_sel_LE_mixInto : Cond.selects RLE yy_LE_mixInto yy_LE_mixInto ∈ gtb := gtb_of (List.mem_of_getElem? (i := 841) (by decide +kernel)) rfl
theorem gw_inst_SH_mixJointsInto : Cond.instanceMethod yy_SH_mixJointsInto ∈ gtb := gtb_of (List.mem_of_getElem? (i := 845) (by decide +kernel)) rfl
theorem gw_sel_SH_mixJointsInto : Cond.selects RSH yy_SH_mixJointsInto yy_SH_mixJointsInto ∈ gtb := gtb_of (List.mem_of_getElem? (i := 846) (by decide +kernel)) rfl
theorem gw_inst_MO_init : Cond.instanceMethod yy_MO_init ∈ gtb := gtb_of (List.mem_of_getElem? (i := 852) (by decide +kernel)) rfl
theorem gw_inst_MO_mourner : Cond.instanceMethod yy_MO_mourner ∈ gtb := gtb_of (List.mem_of_getElem? (i := 926) (by decide +kernel)) rfl
theorem gw_sel_MO_mourner : Cond.selects RMO yy_MO_mourner yy_MO_mourner ∈ gtb := gtb_of (List.mem_of_getElem? (i := 927) (by decide +kernel)) rfl
theorem gw_static_MO_in : Cond.static yy_MO_in ∈ gtb := gtb_of (List.mem_of_getElem? (i := 930) (by decide +kernel)) rfl
theorem gw_inst_MO_bad : Cond.instanceMethod yy_MO_bad ∈ gtb := gtb_of (List.mem_of_getElem? (i := 934) (by decide +kernel)) rfl
theorem gw_inst_MO_get : Cond.instanceMethod yy_MO_get ∈ gtb := gtb_of (List.mem_of_getElem? (i := 938) (by decide +kernel)) rfl
theorem gw_inst_MO_full : Cond.instanceMethod yy_MO_full ∈ gtb := gtb_of (List.mem_of_getElem? (i := 942) (by decide +kernel)) rfl
theorem gw_inst_MO_addMourner : Cond.instanceMethod yy_MO_addMourner ∈ gtb := gtb_of (List.mem_of_getElem? (i := 946) (by decide +kernel)) rfl
theorem gw_inst_MO_set : Cond.instanceMethod yy_MO_set ∈ gtb := gtb_of (List.mem_of_getElem? (i := 950) (by decide +kernel)) rfl
theorem gw_inst_MO_joint : Cond.instanceMethod yy_MO_joint ∈ gtb := gtb_of (List.mem_of_getElem? (i := 953) (by decide +kernel)) rfl
theorem gw_sel_MO_joint : Cond.selects RMO yy_MO_joint yy_MO_joint ∈ gtb := gtb_of (List.mem_of_getElem? (i := 954) (by decide +kernel)) rfl
theorem gw_inst_MO_addJoint : Cond.instanceMethod yy_MO_addJoint ∈ gtb := gtb_of (List.mem_of_getElem? (i := 958) (by decide +kernel)) rfl
theorem gw_inst_MO_piece : Cond.instanceMethod yy_MO_piece ∈ gtb := gtb_of (List.mem_of_getElem? (i := 961) (by decide +kernel)) rfl
theorem gw_sel_MO_piece : Cond.selects RMO yy_MO_piece yy_MO_piece ∈ gtb := gtb_of (List.mem_of_getElem? (i := 962) (by decide +kernel)) rfl
theorem gw_inst_MO_isSet : Cond.instanceMethod yy_MO_isSet ∈ gtb := gtb_of (List.mem_of_getElem? (i := 966) (by decide +kernel)) rfl
theorem gw_inst_MO_addPiece : Cond.instanceMethod yy_MO_addPiece ∈ gtb := gtb_of (List.mem_of_getElem? (i := 970) (by decide +kernel)) rfl
theorem gw_inst_MO_feast : Cond.instanceMethod yy_MO_feast ∈ gtb := gtb_of (List.mem_of_getElem? (i := 973) (by decide +kernel)) rfl
theorem gw_sel_MO_feast : Cond.selects RMO yy_MO_feast yy_MO_feast ∈ gtb := gtb_of (List.mem_of_getElem? (i := 974) (by decide +kernel)) rfl
theorem gw_inst_MO_isMourner : Cond.instanceMethod yy_MO_isMourner ∈ gtb := gtb_of (List.mem_of_getElem? (i := 978) (by decide +kernel)) rfl
theorem gw_inst_MO_addFeast : Cond.instanceMethod yy_MO_addFeast ∈ gtb := gtb_of (List.mem_of_getElem? (i := 982) (by decide +kernel)) rfl
theorem gw_inst_MO_skip : Cond.instanceMethod yy_MO_skip ∈ gtb := gtb_of (List.mem_of_getElem? (i := 985) (by decide +kernel)) rfl
theorem gw_sel_MO_skip : Cond.selects RMO yy_MO_skip yy_MO_skip ∈ gtb := gtb_of (List.mem_of_getElem? (i := 986) (by decide +kernel)) rfl
theorem gw_inst_MO_no : Cond.instanceMethod yy_MO_no ∈ gtb := gtb_of (List.mem_of_getElem? (i := 990) (by decide +kernel)) rfl
theorem gw_inst_MO_undo : Cond.instanceMethod yy_MO_undo ∈ gtb := gtb_of (List.mem_of_getElem? (i := 993) (by decide +kernel)) rfl
theorem gw_sel_MO_undo : Cond.selects RMO yy_MO_undo yy_MO_undo ∈ gtb := gtb_of (List.mem_of_getElem? (i := 994) (by decide +kernel)) rfl
theorem gw_inst_MO_boil : Cond.instanceMethod yy_MO_boil ∈ gtb := gtb_of (List.mem_of_getElem? (i := 997) (by decide +kernel)) rfl
theorem gw_sel_MO_boil : Cond.selects RMO yy_MO_boil yy_MO_boil ∈ gtb := gtb_of (List.mem_of_getElem? (i := 998) (by decide +kernel)) rfl
theorem gw_inst_MO_isJoint : Cond.instanceMethod yy_MO_isJoint ∈ gtb := gtb_of (List.mem_of_getElem? (i := 1002) (by decide +kernel)) rfl
theorem gw_inst_MO_know : Cond.instanceMethod yy_MO_know ∈ gtb := gtb_of (List.mem_of_getElem? (i := 1006) (by decide +kernel)) rfl
theorem gw_inst_MO_boiled : Cond.instanceMethod yy_MO_boiled ∈ gtb := gtb_of (List.mem_of_getElem? (i := 1010) (by decide +kernel)) rfl
theorem gw_inst_MO_opensOn : Cond.instanceMethod yy_MO_opensOn ∈ gtb := gtb_of (List.mem_of_getElem? (i := 1014) (by decide +kernel)) rfl
theorem gw_inst_MO_findGriefs : Cond.instanceMethod yy_MO_findGriefs ∈ gtb := gtb_of (List.mem_of_getElem? (i := 1018) (by decide +kernel)) rfl
theorem gw_inst_MO_onDay : Cond.instanceMethod yy_MO_onDay ∈ gtb := gtb_of (List.mem_of_getElem? (i := 1022) (by decide +kernel)) rfl
theorem gw_static_MO_step : Cond.static yy_MO_step ∈ gtb := gtb_of (List.mem_of_getElem? (i := 1025) (by decide +kernel)) rfl
theorem gw_static_MO_less : Cond.static yy_MO_less ∈ gtb := gtb_of (List.mem_of_getElem? (i := 1028) (by decide +kernel)) rfl
theorem gw_static_MO_widow : Cond.static yy_MO_widow ∈ gtb := gtb_of (List.mem_of_getElem? (i := 1031) (by decide +kernel)) rfl
theorem gw_static_MO_more : Cond.static yy_MO_more ∈ gtb := gtb_of (List.mem_of_getElem? (i := 1034) (by decide +kernel)) rfl
theorem gw_inst_MO_opensBy : Cond.instanceMethod yy_MO_opensBy ∈ gtb := gtb_of (List.mem_of_getElem? (i := 1038) (by decide +kernel)) rfl
theorem gw_inst_MO_strength : Cond.instanceMethod yy_MO_strength ∈ gtb := gtb_of (List.mem_of_getElem? (i := 1042) (by decide +kernel)) rfl
theorem gw_inst_MO_day : Cond.instanceMethod yy_MO_day ∈ gtb := gtb_of (List.mem_of_getElem? (i := 1045) (by decide +kernel)) rfl
theorem gw_sel_MO_day : Cond.selects RMO yy_MO_day yy_MO_day ∈ gtb := gtb_of (List.mem_of_getElem? (i := 1046) (by decide +kernel)) rfl
theorem gw_inst_MO_openNow : Cond.instanceMethod yy_MO_openNow ∈ gtb := gtb_of (List.mem_of_getElem? (i := 1050) (by decide +kernel)) rfl
theorem gw_inst_MO_isBoiled : Cond.instanceMethod yy_MO_isBoiled ∈ gtb := gtb_of (List.mem_of_getElem? (i := 1054) (by decide +kernel)) rfl
theorem gw_inst_MO_type : Cond.instanceMethod yy_MO_type ∈ gtb := gtb_of (List.mem_of_getElem? (i := 1057) (by decide +kernel)) rfl
theorem gw_sel_MO_type : Cond.selects RMO yy_MO_type yy_MO_type ∈ gtb := gtb_of (List.mem_of_getElem? (i := 1058) (by decide +kernel)) rfl
theorem gw_inst_MO_clear : Cond.instanceMethod yy_MO_clear ∈ gtb := gtb_of (List.mem_of_getElem? (i := 1062) (by decide +kernel)) rfl
theorem gw_sel_MO_clear : Cond.selects RMO yy_MO_clear yy_MO_clear ∈ gtb := gtb_of (List.mem_of_getElem? (i := 1063) (by decide +kernel)) rfl
theorem gw_inst_MO_read : Cond.instanceMethod yy_MO_read ∈ gtb := gtb_of (List.mem_of_getElem? (i := 1066) (by decide +kernel)) rfl
theorem gw_sel_MO_read : Cond.selects RMO yy_MO_read yy_MO_read ∈ gtb := gtb_of (List.mem_of_getElem? (i := 1067) (by decide +kernel)) rfl
theorem gw_inst_MO_next : Cond.instanceMethod yy_MO_next ∈ gtb := gtb_of (List.mem_of_getElem? (i := 1071) (by decide +kernel)) rfl
theorem gw_inst_MO_here : Cond.instanceMethod yy_MO_here ∈ gtb := gtb_of (List.mem_of_getElem? (i := 1075) (by decide +kernel)) rfl
theorem gw_static_MO_meaning : Cond.static yy_MO_meaning ∈ gtb := gtb_of (List.mem_of_getElem? (i := 1078) (by decide +kernel)) rfl
theorem gw_inst_MO_readItem : Cond.instanceMethod yy_MO_readItem ∈ gtb := gtb_of (List.mem_of_getElem? (i := 1084) (by decide +kernel)) rfl
theorem gw_inst_MO_mayBe : Cond.instanceMethod yy_MO_mayBe ∈ gtb := gtb_of (List.mem_of_getElem? (i := 1088) (by decide +kernel)) rfl
theorem gw_inst_MO_due : Cond.instanceMethod yy_MO_due ∈ gtb := gtb_of (List.mem_of_getElem? (i := 1092) (by decide +kernel)) rfl
theorem gw_inst_MO_isNumber : Cond.instanceMethod yy_MO_isNumber ∈ gtb := gtb_of (List.mem_of_getElem? (i := 1096) (by decide +kernel)) rfl
theorem gw_inst_MO_readBoil : Cond.instanceMethod yy_MO_readBoil ∈ gtb := gtb_of (List.mem_of_getElem? (i := 1100) (by decide +kernel)) rfl
theorem gw_inst_MO_readRow : Cond.instanceMethod yy_MO_readRow ∈ gtb := gtb_of (List.mem_of_getElem? (i := 1104) (by decide +kernel)) rfl
theorem gw_inst_MO_copy : Cond.instanceMethod yy_MO_copy ∈ gtb := gtb_of (List.mem_of_getElem? (i := 1108) (by decide +kernel)) rfl
theorem gw_inst_MO_grief : Cond.instanceMethod yy_MO_grief ∈ gtb := gtb_of (List.mem_of_getElem? (i := 1111) (by decide +kernel)) rfl
theorem gw_sel_MO_grief : Cond.selects RMO yy_MO_grief yy_MO_grief ∈ gtb := gtb_of (List.mem_of_getElem? (i := 1112) (by decide +kernel)) rfl
theorem gw_inst_MO_opens : Cond.instanceMethod yy_MO_opens ∈ gtb := gtb_of (List.mem_of_getElem? (i := 1115) (by decide +kernel)) rfl
theorem gw_sel_MO_opens : Cond.selects RMO yy_MO_opens yy_MO_opens ∈ gtb := gtb_of (List.mem_of_getElem? (i := 1116) (by decide +kernel)) rfl
theorem gw_inst_MO_lasts : Cond.instanceMethod yy_MO_lasts ∈ gtb := gtb_of (List.mem_of_getElem? (i := 1119) (by decide +kernel)) rfl
theorem gw_sel_MO_lasts : Cond.selects RMO yy_MO_lasts yy_MO_lasts ∈ gtb := gtb_of (List.mem_of_getElem? (i := 1120) (by decide +kernel)) rfl
theorem gw_inst_MO_isLasting : Cond.instanceMethod yy_MO_isLasting ∈ gtb := gtb_of (List.mem_of_getElem? (i := 1124) (by decide +kernel)) rfl
theorem gw_inst_MO_open : Cond.instanceMethod yy_MO_open ∈ gtb := gtb_of (List.mem_of_getElem? (i := 1127) (by decide +kernel)) rfl
theorem gw_sel_MO_open : Cond.selects RMO yy_MO_open yy_MO_open ∈ gtb := gtb_of (List.mem_of_getElem? (i := 1128) (by decide +kernel)) rfl
theorem gw_inst_MO_hire : Cond.instanceMethod yy_MO_hire ∈ gtb := gtb_of (List.mem_of_getElem? (i := 1131) (by decide +kernel)) rfl
theorem gw_sel_MO_hire : Cond.selects RMO yy_MO_hire yy_MO_hire ∈ gtb := gtb_of (List.mem_of_getElem? (i := 1132) (by decide +kernel)) rfl
theorem gw_inst_MO_findNeeds : Cond.instanceMethod yy_MO_findNeeds ∈ gtb := gtb_of (List.mem_of_getElem? (i := 1136) (by decide +kernel)) rfl
theorem gw_inst_MO_hired : Cond.instanceMethod yy_MO_hired ∈ gtb := gtb_of (List.mem_of_getElem? (i := 1140) (by decide +kernel)) rfl
theorem gw_inst_MO_priceOf : Cond.instanceMethod yy_MO_priceOf ∈ gtb := gtb_of (List.mem_of_getElem? (i := 1144) (by decide +kernel)) rfl
theorem gw_inst_MO_whoOf : Cond.instanceMethod yy_MO_whoOf ∈ gtb := gtb_of (List.mem_of_getElem? (i := 1148) (by decide +kernel)) rfl
theorem gw_inst_MO_wouldHold : Cond.instanceMethod yy_MO_wouldHold ∈ gtb := gtb_of (List.mem_of_getElem? (i := 1152) (by decide +kernel)) rfl
theorem gw_inst_MO_who : Cond.instanceMethod yy_MO_who ∈ gtb := gtb_of (List.mem_of_getElem? (i := 1155) (by decide +kernel)) rfl
theorem gw_sel_MO_who : Cond.selects RMO yy_MO_who yy_MO_who ∈ gtb := gtb_of (List.mem_of_getElem? (i := 1156) (by decide +kernel)) rfl
theorem gw_inst_MO_saves : Cond.instanceMethod yy_MO_saves ∈ gtb := gtb_of (List.mem_of_getElem? (i := 1159) (by decide +kernel)) rfl
theorem gw_sel_MO_saves : Cond.selects RMO yy_MO_saves yy_MO_saves ∈ gtb := gtb_of (List.mem_of_getElem? (i := 1160) (by decide +kernel)) rfl
theorem gw_inst_MO_tears : Cond.instanceMethod yy_MO_tears ∈ gtb := gtb_of (List.mem_of_getElem? (i := 1163) (by decide +kernel)) rfl
theorem gw_sel_MO_tears : Cond.selects RMO yy_MO_tears yy_MO_tears ∈ gtb := gtb_of (List.mem_of_getElem? (i := 1164) (by decide +kernel)) rfl
theorem gw_inst_MO_fact : Cond.instanceMethod yy_MO_fact ∈ gtb := gtb_of (List.mem_of_getElem? (i := 1167) (by decide +kernel)) rfl
theorem gw_sel_MO_fact : Cond.selects RMO yy_MO_fact yy_MO_fact ∈ gtb := gtb_of (List.mem_of_getElem? (i := 1168) (by decide +kernel)) rfl
theorem gw_inst_MO_forget : Cond.instanceMethod yy_MO_forget ∈ gtb := gtb_of (List.mem_of_getElem? (i := 1171) (by decide +kernel)) rfl
theorem gw_sel_MO_forget : Cond.selects RMO yy_MO_forget yy_MO_forget ∈ gtb := gtb_of (List.mem_of_getElem? (i := 1172) (by decide +kernel)) rfl
theorem gw_inst_MO_likely : Cond.instanceMethod yy_MO_likely ∈ gtb := gtb_of (List.mem_of_getElem? (i := 1175) (by decide +kernel)) rfl
theorem gw_sel_MO_likely : Cond.selects RMO yy_MO_likely yy_MO_likely ∈ gtb := gtb_of (List.mem_of_getElem? (i := 1176) (by decide +kernel)) rfl
theorem gw_inst_MO_isLikely : Cond.instanceMethod yy_MO_isLikely ∈ gtb := gtb_of (List.mem_of_getElem? (i := 1180) (by decide +kernel)) rfl
theorem gw_inst_MO_odds : Cond.instanceMethod yy_MO_odds ∈ gtb := gtb_of (List.mem_of_getElem? (i := 1183) (by decide +kernel)) rfl
theorem gw_sel_MO_odds : Cond.selects RMO yy_MO_odds yy_MO_odds ∈ gtb := gtb_of (List.mem_of_getElem? (i := 1184) (by decide +kernel)) rfl
theorem gw_inst_MO_harm : Cond.instanceMethod yy_MO_harm ∈ gtb := gtb_of (List.mem_of_getElem? (i := 1188) (by decide +kernel)) rfl
theorem gw_sel_MO_harm : Cond.selects RMO yy_MO_harm yy_MO_harm ∈ gtb := gtb_of (List.mem_of_getElem? (i := 1189) (by decide +kernel)) rfl
theorem gw_inst_MO_part : Cond.instanceMethod yy_MO_part ∈ gtb := gtb_of (List.mem_of_getElem? (i := 1192) (by decide +kernel)) rfl
theorem gw_sel_MO_part : Cond.selects RMO yy_MO_part yy_MO_part ∈ gtb := gtb_of (List.mem_of_getElem? (i := 1193) (by decide +kernel)) rfl
theorem gw_inst_MO_image : Cond.instanceMethod yy_MO_image ∈ gtb := gtb_of (List.mem_of_getElem? (i := 1196) (by decide +kernel)) rfl
theorem gw_sel_MO_image : Cond.selects RMO yy_MO_image yy_MO_image ∈ gtb := gtb_of (List.mem_of_getElem? (i := 1197) (by decide +kernel)) rfl
theorem gw_inst_MO_from : Cond.instanceMethod yy_MO_from ∈ gtb := gtb_of (List.mem_of_getElem? (i := 1200) (by decide +kernel)) rfl
theorem gw_sel_MO_from : Cond.selects RMO yy_MO_from yy_MO_from ∈ gtb := gtb_of (List.mem_of_getElem? (i := 1201) (by decide +kernel)) rfl
theorem gw_inst_MO_status : Cond.instanceMethod yy_MO_status ∈ gtb := gtb_of (List.mem_of_getElem? (i := 1204) (by decide +kernel)) rfl
theorem gw_sel_MO_status : Cond.selects RMO yy_MO_status yy_MO_status ∈ gtb := gtb_of (List.mem_of_getElem? (i := 1205) (by decide +kernel)) rfl
theorem gw_inst_MO_count : Cond.instanceMethod yy_MO_count ∈ gtb := gtb_of (List.mem_of_getElem? (i := 1208) (by decide +kernel)) rfl
theorem gw_sel_MO_count : Cond.selects RMO yy_MO_count yy_MO_count ∈ gtb := gtb_of (List.mem_of_getElem? (i := 1209) (by decide +kernel)) rfl
theorem gw_inst_MO_digest : Cond.instanceMethod yy_MO_digest ∈ gtb := gtb_of (List.mem_of_getElem? (i := 1212) (by decide +kernel)) rfl
theorem gw_sel_MO_digest : Cond.selects RMO yy_MO_digest yy_MO_digest ∈ gtb := gtb_of (List.mem_of_getElem? (i := 1213) (by decide +kernel)) rfl
theorem gw_inst_MO_digestRow : Cond.instanceMethod yy_MO_digestRow ∈ gtb := gtb_of (List.mem_of_getElem? (i := 1218) (by decide +kernel)) rfl
theorem gw_m_LA_9 : Cond.methodLink RLA 9 yy_GG_init ∈ gtb := gtb_of (List.mem_of_getElem? (i := 86) (by decide +kernel)) rfl
theorem gw_m_GG_11 : Cond.methodLink RGG 11 yy_SH_init ∈ gtb := gtb_of (List.mem_of_getElem? (i := 94) (by decide +kernel)) rfl
theorem gw_m_SH_11 : Cond.methodLink RSH 11 yy_LE_init ∈ gtb := gtb_of (List.mem_of_getElem? (i := 100) (by decide +kernel)) rfl
theorem gw_m_LE_9 : Cond.methodLink RLE 9 yy_MA_max ∈ gtb := gtb_of (List.mem_of_getElem? (i := 104) (by decide +kernel)) rfl
theorem gw_m_SH_44 : Cond.methodLink RSH 44 yy_AR_fillI ∈ gtb := gtb_of (List.mem_of_getElem? (i := 128) (by decide +kernel)) rfl
theorem gw_m_GG_26 : Cond.methodLinkNest RGG 26 yy_RE_init RGG ∈ nst := nst_of (List.mem_of_getElem? (i := 184) (by decide +kernel)) rfl
theorem gw_m_RE_21 : Cond.methodLink RRE 21 yy_SH_init ∈ gtb := gtb_of (List.mem_of_getElem? (i := 189) (by decide +kernel)) rfl
theorem gw_m_GG_33 : Cond.methodLinkNest RGG 33 yy_HI_init RGG ∈ nst := nst_of (List.mem_of_getElem? (i := 221) (by decide +kernel)) rfl
theorem gw_m_GG_40 : Cond.methodLinkNest RGG 40 yy_OU_init RGG ∈ nst := nst_of (List.mem_of_getElem? (i := 241) (by decide +kernel)) rfl
theorem gw_m_LA_13 : Cond.methodLink RLA 13 yy_GG_mourner ∈ gtb := gtb_of (List.mem_of_getElem? (i := 298) (by decide +kernel)) rfl
theorem gw_m_GG_49 : Cond.methodLink RGG 49 yy_GG_isWithin ∈ gtb := gtb_of (List.mem_of_getElem? (i := 302) (by decide +kernel)) rfl
theorem gw_m_GG_53 : Cond.methodLink RGG 53 yy_GG_refuseBad ∈ gtb := gtb_of (List.mem_of_getElem? (i := 305) (by decide +kernel)) rfl
theorem gw_m_GG_61 : Cond.methodLink RGG 61 yy_LE_isFull ∈ gtb := gtb_of (List.mem_of_getElem? (i := 309) (by decide +kernel)) rfl
theorem gw_m_GG_67 : Cond.methodLink RGG 67 yy_GG_refuseFull ∈ gtb := gtb_of (List.mem_of_getElem? (i := 313) (by decide +kernel)) rfl
theorem gw_m_GG_70 : Cond.methodLink RGG 70 yy_SH_addMourner ∈ gtb := gtb_of (List.mem_of_getElem? (i := 317) (by decide +kernel)) rfl
theorem gw_m_SH_70 : Cond.methodLink RSH 70 yy_LE_add ∈ gtb := gtb_of (List.mem_of_getElem? (i := 321) (by decide +kernel)) rfl
theorem gw_m_LE_35 : Cond.methodLink RLE 35 yy_LE_isFull ∈ gtb := gtb_of (List.mem_of_getElem? (i := 325) (by decide +kernel)) rfl
theorem gw_m_SH_74 : Cond.methodLink RSH 74 yy_SH_renewGriefs ∈ gtb := gtb_of (List.mem_of_getElem? (i := 326) (by decide +kernel)) rfl
theorem gw_m_SH_85 : Cond.methodLink RSH 85 yy_LE_has ∈ gtb := gtb_of (List.mem_of_getElem? (i := 330) (by decide +kernel)) rfl
theorem gw_m_SH_89 : Cond.methodLink RSH 89 yy_SH_fillGriefs ∈ gtb := gtb_of (List.mem_of_getElem? (i := 334) (by decide +kernel)) rfl
theorem gw_m_SH_78 : Cond.methodLink RSH 78 yy_LE_at ∈ gtb := gtb_of (List.mem_of_getElem? (i := 338) (by decide +kernel)) rfl
theorem gw_m_LE_31 : Cond.methodLink RLE 31 yy_LE_has ∈ gtb := gtb_of (List.mem_of_getElem? (i := 342) (by decide +kernel)) rfl
theorem gw_m_SH_93 : Cond.methodLink RSH 93 yy_KI_stepOf ∈ gtb := gtb_of (List.mem_of_getElem? (i := 343) (by decide +kernel)) rfl
theorem gw_m_KI_9 : Cond.methodLink RKI 9 yy_KI_widowStep ∈ gtb := gtb_of (List.mem_of_getElem? (i := 346) (by decide +kernel)) rfl
theorem gw_m_KI_19 : Cond.methodLink RKI 19 yy_KI_mournerStep ∈ gtb := gtb_of (List.mem_of_getElem? (i := 349) (by decide +kernel)) rfl
theorem gw_m_KI_15 : Cond.methodLink RKI 15 yy_KI_heirStep ∈ gtb := gtb_of (List.mem_of_getElem? (i := 352) (by decide +kernel)) rfl
theorem gw_m_SH_98 : Cond.methodLink RSH 98 yy_SH_isFeastOf ∈ gtb := gtb_of (List.mem_of_getElem? (i := 355) (by decide +kernel)) rfl
theorem gw_m_SH_102 : Cond.methodLink RSH 102 yy_KI_feastOf ∈ gtb := gtb_of (List.mem_of_getElem? (i := 359) (by decide +kernel)) rfl
theorem gw_m_KI_22 : Cond.methodLink RKI 22 yy_MA_min ∈ gtb := gtb_of (List.mem_of_getElem? (i := 362) (by decide +kernel)) rfl
theorem gw_m_LA_18 : Cond.methodLink RLA 18 yy_GG_joint ∈ gtb := gtb_of (List.mem_of_getElem? (i := 365) (by decide +kernel)) rfl
theorem gw_m_GG_77 : Cond.methodLink RGG 77 yy_LE_add ∈ gtb := gtb_of (List.mem_of_getElem? (i := 369) (by decide +kernel)) rfl
theorem gw_m_LA_23 : Cond.methodLink RLA 23 yy_GG_piece ∈ gtb := gtb_of (List.mem_of_getElem? (i := 370) (by decide +kernel)) rfl
theorem gw_m_GG_80 : Cond.methodLink RGG 80 yy_SH_allJoints ∈ gtb := gtb_of (List.mem_of_getElem? (i := 374) (by decide +kernel)) rfl
theorem gw_m_LA_28 : Cond.methodLink RLA 28 yy_GG_feast ∈ gtb := gtb_of (List.mem_of_getElem? (i := 378) (by decide +kernel)) rfl
theorem gw_m_GG_86 : Cond.methodLink RGG 86 yy_LE_has ∈ gtb := gtb_of (List.mem_of_getElem? (i := 382) (by decide +kernel)) rfl
theorem gw_m_GG_93 : Cond.methodLink RGG 93 yy_SH_addFeast ∈ gtb := gtb_of (List.mem_of_getElem? (i := 383) (by decide +kernel)) rfl
theorem gw_m_LA_32 : Cond.methodLink RLA 32 yy_GG_skip ∈ gtb := gtb_of (List.mem_of_getElem? (i := 387) (by decide +kernel)) rfl
theorem gw_m_GG_100 : Cond.methodLink RGG 100 yy_GG_refuseNo ∈ gtb := gtb_of (List.mem_of_getElem? (i := 391) (by decide +kernel)) rfl
theorem gw_m_GG_103 : Cond.methodLink RGG 103 yy_SH_dropFeast ∈ gtb := gtb_of (List.mem_of_getElem? (i := 395) (by decide +kernel)) rfl
theorem gw_m_SH_82 : Cond.methodLink RSH 82 yy_LE_dropLast ∈ gtb := gtb_of (List.mem_of_getElem? (i := 399) (by decide +kernel)) rfl
theorem gw_m_LA_37 : Cond.methodLink RLA 37 yy_GG_boil ∈ gtb := gtb_of (List.mem_of_getElem? (i := 403) (by decide +kernel)) rfl
theorem gw_m_GG_106 : Cond.methodLink RGG 106 yy_SH_keepPast ∈ gtb := gtb_of (List.mem_of_getElem? (i := 407) (by decide +kernel)) rfl
theorem gw_m_SH_64 : Cond.methodLink RSH 64 arraycopyName ∈ gtb := gtb_of (List.mem_of_getElem? (i := 411) (by decide +kernel)) rfl
theorem gw_m_GG_109 : Cond.methodLink RGG 109 yy_SH_boilNow ∈ gtb := gtb_of (List.mem_of_getElem? (i := 414) (by decide +kernel)) rfl
theorem gw_m_GG_113 : Cond.methodLink RGG 113 yy_SH_openingOf ∈ gtb := gtb_of (List.mem_of_getElem? (i := 418) (by decide +kernel)) rfl
theorem gw_m_SH_108 : Cond.methodLink RSH 108 yy_SH_boiledOn ∈ gtb := gtb_of (List.mem_of_getElem? (i := 422) (by decide +kernel)) rfl
theorem gw_m_SH_112 : Cond.methodLink RSH 112 yy_SH_firstBoiler ∈ gtb := gtb_of (List.mem_of_getElem? (i := 426) (by decide +kernel)) rfl
theorem gw_m_SH_115 : Cond.methodLink RSH 115 yy_SH_griefsOf ∈ gtb := gtb_of (List.mem_of_getElem? (i := 430) (by decide +kernel)) rfl
theorem gw_m_SH_119 : Cond.methodLink RSH 119 yy_SH_secondBoiler ∈ gtb := gtb_of (List.mem_of_getElem? (i := 434) (by decide +kernel)) rfl
theorem gw_m_SH_122 : Cond.methodLink RSH 122 yy_SH_firstWeakDay ∈ gtb := gtb_of (List.mem_of_getElem? (i := 438) (by decide +kernel)) rfl
theorem gw_m_SH_126 : Cond.methodLink RSH 126 yy_MA_max ∈ gtb := gtb_of (List.mem_of_getElem? (i := 441) (by decide +kernel)) rfl
theorem gw_m_LA_41 : Cond.methodLink RLA 41 yy_GG_day ∈ gtb := gtb_of (List.mem_of_getElem? (i := 442) (by decide +kernel)) rfl
theorem gw_m_GG_120 : Cond.methodLink RGG 120 yy_SH_openJoints ∈ gtb := gtb_of (List.mem_of_getElem? (i := 446) (by decide +kernel)) rfl
theorem gw_m_SH_131 : Cond.methodLink RSH 131 yy_SH_openingOf ∈ gtb := gtb_of (List.mem_of_getElem? (i := 450) (by decide +kernel)) rfl
theorem gw_m_GG_123 : Cond.methodLink RGG 123 yy_IN_bitCount ∈ gtb := gtb_of (List.mem_of_getElem? (i := 451) (by decide +kernel)) rfl
theorem gw_m_LA_45 : Cond.methodLink RLA 45 yy_GG_undo ∈ gtb := gtb_of (List.mem_of_getElem? (i := 457) (by decide +kernel)) rfl
theorem gw_m_GG_131 : Cond.methodLink RGG 131 yy_SH_goBack ∈ gtb := gtb_of (List.mem_of_getElem? (i := 461) (by decide +kernel)) rfl
theorem gw_m_LA_51 : Cond.methodLink RLA 51 yy_GG_type ∈ gtb := gtb_of (List.mem_of_getElem? (i := 465) (by decide +kernel)) rfl
theorem gw_m_GG_137 : Cond.methodLink RGG 137 yy_RE_addByte ∈ gtb := gtb_of (List.mem_of_getElem? (i := 469) (by decide +kernel)) rfl
theorem gw_m_LA_56 : Cond.methodLink RLA 56 yy_GG_clear ∈ gtb := gtb_of (List.mem_of_getElem? (i := 473) (by decide +kernel)) rfl
theorem gw_m_LA_60 : Cond.methodLink RLA 60 yy_GG_read ∈ gtb := gtb_of (List.mem_of_getElem? (i := 477) (by decide +kernel)) rfl
theorem gw_m_GG_141 : Cond.methodLink RGG 141 yy_RE_readItems ∈ gtb := gtb_of (List.mem_of_getElem? (i := 481) (by decide +kernel)) rfl
theorem gw_m_RE_29 : Cond.methodLink RRE 29 yy_SH_makeEmpty ∈ gtb := gtb_of (List.mem_of_getElem? (i := 485) (by decide +kernel)) rfl
theorem gw_m_RE_35 : Cond.methodLink RRE 35 yy_RE_nextToken ∈ gtb := gtb_of (List.mem_of_getElem? (i := 489) (by decide +kernel)) rfl
theorem gw_m_RE_145 : Cond.methodLink RRE 145 yy_RE_isLetter ∈ gtb := gtb_of (List.mem_of_getElem? (i := 493) (by decide +kernel)) rfl
theorem gw_m_RE_149 : Cond.methodLink RRE 149 yy_RE_readLetters ∈ gtb := gtb_of (List.mem_of_getElem? (i := 496) (by decide +kernel)) rfl
theorem gw_m_RE_152 : Cond.methodLink RRE 152 yy_RE_isFigure ∈ gtb := gtb_of (List.mem_of_getElem? (i := 500) (by decide +kernel)) rfl
theorem gw_m_RE_155 : Cond.methodLink RRE 155 yy_RE_readFigures ∈ gtb := gtb_of (List.mem_of_getElem? (i := 503) (by decide +kernel)) rfl
theorem gw_m_RE_43 : Cond.methodLink RRE 43 yy_RE_isWord ∈ gtb := gtb_of (List.mem_of_getElem? (i := 508) (by decide +kernel)) rfl
theorem gw_m_RE_158 : Cond.methodLink RRE 158 yy_ST_length ∈ gtb := gtb_of (List.mem_of_getElem? (i := 512) (by decide +kernel)) rfl
theorem gw_m_ST_335 : Cond.methodLink RST 335 yy_ST_coder ∈ gtb := gtb_of (List.mem_of_getElem? (i := 516) (by decide +kernel)) rfl
theorem gw_m_RE_162 : Cond.methodLink RRE 162 yy_ST_charAt ∈ gtb := gtb_of (List.mem_of_getElem? (i := 522) (by decide +kernel)) rfl
theorem gw_m_ST_492 : Cond.methodLink RST 492 yy_ST_isLatin1 ∈ gtb := gtb_of (List.mem_of_getElem? (i := 526) (by decide +kernel)) rfl
theorem gw_m_ST_495 : Cond.methodLink RST 495 yy_SL_charAt ∈ gtb := gtb_of (List.mem_of_getElem? (i := 530) (by decide +kernel)) rfl
theorem gw_m_SL_9 : Cond.methodLink RSL 9 yy_ST_checkIndex ∈ gtb := gtb_of (List.mem_of_getElem? (i := 533) (by decide +kernel)) rfl
theorem gw_m_ST_1059 : Cond.methodLink RST 1059 yy_PR_checkIndex ∈ gtb := gtb_of (List.mem_of_getElem? (i := 538) (by decide +kernel)) rfl
theorem gw_m_ST_498 : Cond.methodLink RST 498 yy_SU_charAt ∈ gtb := gtb_of (List.mem_of_getElem? (i := 541) (by decide +kernel)) rfl
theorem gw_m_SU_67 : Cond.methodLink RSU 67 yy_SU_checkIndex ∈ gtb := gtb_of (List.mem_of_getElem? (i := 544) (by decide +kernel)) rfl
theorem gw_m_SU_48 : Cond.methodLink RSU 48 yy_SU_length ∈ gtb := gtb_of (List.mem_of_getElem? (i := 547) (by decide +kernel)) rfl
theorem gw_m_SU_414 : Cond.methodLink RSU 414 yy_ST_checkIndex ∈ gtb := gtb_of (List.mem_of_getElem? (i := 550) (by decide +kernel)) rfl
theorem gw_m_SU_71 : Cond.methodLink RSU 71 yy_SU_getChar ∈ gtb := gtb_of (List.mem_of_getElem? (i := 551) (by decide +kernel)) rfl
theorem gw_m_RE_47 : Cond.methodLink RRE 47 yy_RE_readMourner ∈ gtb := gtb_of (List.mem_of_getElem? (i := 560) (by decide +kernel)) rfl
theorem gw_m_RE_85 : Cond.methodLink RRE 85 yy_RE_wantRoom ∈ gtb := gtb_of (List.mem_of_getElem? (i := 564) (by decide +kernel)) rfl
theorem gw_m_RE_134 : Cond.methodLink RRE 134 yy_LE_isFull ∈ gtb := gtb_of (List.mem_of_getElem? (i := 568) (by decide +kernel)) rfl
theorem gw_m_RE_78 : Cond.methodLink RRE 78 yy_RE_blame ∈ gtb := gtb_of (List.mem_of_getElem? (i := 569) (by decide +kernel)) rfl
theorem gw_m_RE_89 : Cond.methodLink RRE 89 yy_RE_readNumber ∈ gtb := gtb_of (List.mem_of_getElem? (i := 573) (by decide +kernel)) rfl
theorem gw_m_RE_123 : Cond.methodLink RRE 123 yy_RE_wantNumber ∈ gtb := gtb_of (List.mem_of_getElem? (i := 577) (by decide +kernel)) rfl
theorem gw_m_RE_138 : Cond.methodLinkNest RRE 138 yy_GG_isWithin RGG ∈ nst := nst_of (List.mem_of_getElem? (i := 581) (by decide +kernel)) rfl
theorem gw_m_RE_93 : Cond.methodLink RRE 93 yy_RE_readStop ∈ gtb := gtb_of (List.mem_of_getElem? (i := 582) (by decide +kernel)) rfl
theorem gw_m_RE_127 : Cond.methodLink RRE 127 yy_RE_wantStop ∈ gtb := gtb_of (List.mem_of_getElem? (i := 586) (by decide +kernel)) rfl
theorem gw_m_RE_96 : Cond.methodLink RRE 96 yy_LE_add ∈ gtb := gtb_of (List.mem_of_getElem? (i := 590) (by decide +kernel)) rfl
theorem gw_m_RE_52 : Cond.methodLink RRE 52 yy_RE_readJoint ∈ gtb := gtb_of (List.mem_of_getElem? (i := 592) (by decide +kernel)) rfl
theorem gw_m_RE_57 : Cond.methodLink RRE 57 yy_RE_readPiece ∈ gtb := gtb_of (List.mem_of_getElem? (i := 597) (by decide +kernel)) rfl
theorem gw_m_RE_108 : Cond.methodLink RRE 108 yy_SH_allJoints ∈ gtb := gtb_of (List.mem_of_getElem? (i := 601) (by decide +kernel)) rfl
theorem gw_m_RE_62 : Cond.methodLink RRE 62 yy_RE_readFeast ∈ gtb := gtb_of (List.mem_of_getElem? (i := 603) (by decide +kernel)) rfl
theorem gw_m_RE_70 : Cond.methodLink RRE 70 yy_RE_readDay ∈ gtb := gtb_of (List.mem_of_getElem? (i := 609) (by decide +kernel)) rfl
theorem gw_m_RE_75 : Cond.methodLink RRE 75 yy_RE_readBoil ∈ gtb := gtb_of (List.mem_of_getElem? (i := 614) (by decide +kernel)) rfl
theorem gw_m_RE_130 : Cond.methodLink RRE 130 yy_SH_boilNow ∈ gtb := gtb_of (List.mem_of_getElem? (i := 618) (by decide +kernel)) rfl
theorem gw_m_GG_148 : Cond.methodLink RGG 148 yy_SH_copyFrom ∈ gtb := gtb_of (List.mem_of_getElem? (i := 619) (by decide +kernel)) rfl
theorem gw_m_SH_60 : Cond.methodLink RSH 60 yy_LE_copyFrom ∈ gtb := gtb_of (List.mem_of_getElem? (i := 623) (by decide +kernel)) rfl
theorem gw_m_LE_39 : Cond.methodLink RLE 39 arraycopyName ∈ gtb := gtb_of (List.mem_of_getElem? (i := 627) (by decide +kernel)) rfl
theorem gw_m_GG_152 : Cond.methodLink RGG 152 yy_SH_renewAllGriefs ∈ gtb := gtb_of (List.mem_of_getElem? (i := 628) (by decide +kernel)) rfl
theorem gw_m_LA_64 : Cond.methodLink RLA 64 yy_GG_grief ∈ gtb := gtb_of (List.mem_of_getElem? (i := 633) (by decide +kernel)) rfl
theorem gw_m_GG_155 : Cond.methodLink RGG 155 yy_SH_griefOn ∈ gtb := gtb_of (List.mem_of_getElem? (i := 637) (by decide +kernel)) rfl
theorem gw_m_SH_105 : Cond.methodLinkNest RSH 105 yy_GG_isWithin RGG ∈ nst := nst_of (List.mem_of_getElem? (i := 641) (by decide +kernel)) rfl
theorem gw_m_LA_68 : Cond.methodLink RLA 68 yy_GG_opens ∈ gtb := gtb_of (List.mem_of_getElem? (i := 642) (by decide +kernel)) rfl
theorem gw_m_LA_72 : Cond.methodLink RLA 72 yy_GG_lasts ∈ gtb := gtb_of (List.mem_of_getElem? (i := 646) (by decide +kernel)) rfl
theorem gw_m_GG_159 : Cond.methodLink RGG 159 yy_SH_isLasting ∈ gtb := gtb_of (List.mem_of_getElem? (i := 650) (by decide +kernel)) rfl
theorem gw_m_SH_134 : Cond.methodLink RSH 134 yy_SH_isPartOf ∈ gtb := gtb_of (List.mem_of_getElem? (i := 654) (by decide +kernel)) rfl
theorem gw_m_LA_76 : Cond.methodLink RLA 76 yy_GG_open ∈ gtb := gtb_of (List.mem_of_getElem? (i := 658) (by decide +kernel)) rfl
theorem gw_m_LA_80 : Cond.methodLink RLA 80 yy_GG_hire ∈ gtb := gtb_of (List.mem_of_getElem? (i := 662) (by decide +kernel)) rfl
theorem gw_m_GG_162 : Cond.methodLink RGG 162 yy_HI_lookAt ∈ gtb := gtb_of (List.mem_of_getElem? (i := 666) (by decide +kernel)) rfl
theorem gw_m_HI_34 : Cond.methodLink RHI 34 yy_MA_min ∈ gtb := gtb_of (List.mem_of_getElem? (i := 670) (by decide +kernel)) rfl
theorem gw_m_HI_42 : Cond.methodLink RHI 42 yy_LE_at ∈ gtb := gtb_of (List.mem_of_getElem? (i := 671) (by decide +kernel)) rfl
theorem gw_m_HI_45 : Cond.methodLink RHI 45 yy_HI_lookForNeeds ∈ gtb := gtb_of (List.mem_of_getElem? (i := 672) (by decide +kernel)) rfl
theorem gw_m_HI_53 : Cond.methodLink RHI 53 yy_AR_fillI ∈ gtb := gtb_of (List.mem_of_getElem? (i := 676) (by decide +kernel)) rfl
theorem gw_m_HI_62 : Cond.methodLink RHI 62 yy_SH_isLasting ∈ gtb := gtb_of (List.mem_of_getElem? (i := 677) (by decide +kernel)) rfl
theorem gw_m_HI_69 : Cond.methodLink RHI 69 yy_MA_max ∈ gtb := gtb_of (List.mem_of_getElem? (i := 678) (by decide +kernel)) rfl
theorem gw_m_HI_72 : Cond.methodLink RHI 72 yy_SH_isPartOf ∈ gtb := gtb_of (List.mem_of_getElem? (i := 679) (by decide +kernel)) rfl
theorem gw_m_HI_49 : Cond.methodLink RHI 49 yy_HI_fitsOf ∈ gtb := gtb_of (List.mem_of_getElem? (i := 680) (by decide +kernel)) rfl
theorem gw_m_HI_79 : Cond.methodLink RHI 79 yy_SH_griefsOf ∈ gtb := gtb_of (List.mem_of_getElem? (i := 684) (by decide +kernel)) rfl
theorem gw_m_HI_83 : Cond.methodLink RHI 83 yy_SH_firstWeakDay ∈ gtb := gtb_of (List.mem_of_getElem? (i := 685) (by decide +kernel)) rfl
theorem gw_m_HI_87 : Cond.methodLink RHI 87 yy_HI_pairBit ∈ gtb := gtb_of (List.mem_of_getElem? (i := 686) (by decide +kernel)) rfl
theorem gw_m_GG_165 : Cond.methodLink RGG 165 yy_HI_cheapest ∈ gtb := gtb_of (List.mem_of_getElem? (i := 689) (by decide +kernel)) rfl
theorem gw_m_HI_95 : Cond.methodLink RHI 95 yy_HI_isIn ∈ gtb := gtb_of (List.mem_of_getElem? (i := 693) (by decide +kernel)) rfl
theorem gw_m_HI_98 : Cond.methodLink RHI 98 yy_HI_priceOf ∈ gtb := gtb_of (List.mem_of_getElem? (i := 696) (by decide +kernel)) rfl
theorem gw_m_HI_102 : Cond.methodLink RHI 102 yy_HI_isEnough ∈ gtb := gtb_of (List.mem_of_getElem? (i := 700) (by decide +kernel)) rfl
theorem gw_m_HI_105 : Cond.methodLink RHI 105 yy_HI_boilersFor ∈ gtb := gtb_of (List.mem_of_getElem? (i := 704) (by decide +kernel)) rfl
theorem gw_m_HI_91 : Cond.methodLinkNest RHI 91 yy_GG_isWithin RGG ∈ nst := nst_of (List.mem_of_getElem? (i := 708) (by decide +kernel)) rfl
theorem gw_m_GG_168 : Cond.methodLink RGG 168 yy_HI_priceOf ∈ gtb := gtb_of (List.mem_of_getElem? (i := 709) (by decide +kernel)) rfl
theorem gw_m_LA_84 : Cond.methodLink RLA 84 yy_GG_who ∈ gtb := gtb_of (List.mem_of_getElem? (i := 710) (by decide +kernel)) rfl
theorem gw_m_GG_171 : Cond.methodLink RGG 171 yy_HI_isNeedy ∈ gtb := gtb_of (List.mem_of_getElem? (i := 714) (by decide +kernel)) rfl
theorem gw_m_GG_174 : Cond.methodLink RGG 174 yy_HI_boilersFor ∈ gtb := gtb_of (List.mem_of_getElem? (i := 718) (by decide +kernel)) rfl
theorem gw_m_LA_88 : Cond.methodLink RLA 88 yy_GG_saves ∈ gtb := gtb_of (List.mem_of_getElem? (i := 719) (by decide +kernel)) rfl
theorem gw_m_LA_92 : Cond.methodLink RLA 92 yy_GG_tears ∈ gtb := gtb_of (List.mem_of_getElem? (i := 723) (by decide +kernel)) rfl
theorem gw_m_GG_177 : Cond.methodLink RGG 177 yy_OU_fewestOnions ∈ gtb := gtb_of (List.mem_of_getElem? (i := 727) (by decide +kernel)) rfl
theorem gw_m_OU_37 : Cond.methodLink ROU 37 yy_SH_griefOn ∈ gtb := gtb_of (List.mem_of_getElem? (i := 731) (by decide +kernel)) rfl
theorem gw_m_OU_41 : Cond.methodLinkNest ROU 41 yy_GG_isWithin RGG ∈ nst := nst_of (List.mem_of_getElem? (i := 732) (by decide +kernel)) rfl
theorem gw_m_OU_46 : Cond.methodLink ROU 46 yy_AR_fillI ∈ gtb := gtb_of (List.mem_of_getElem? (i := 734) (by decide +kernel)) rfl
theorem gw_m_OU_52 : Cond.methodLink ROU 52 yy_SH_fillNextGriefs ∈ gtb := gtb_of (List.mem_of_getElem? (i := 735) (by decide +kernel)) rfl
theorem gw_m_OU_56 : Cond.methodLink ROU 56 yy_OU_weepADay ∈ gtb := gtb_of (List.mem_of_getElem? (i := 739) (by decide +kernel)) rfl
theorem gw_m_OU_60 : Cond.methodLink ROU 60 yy_MA_min ∈ gtb := gtb_of (List.mem_of_getElem? (i := 743) (by decide +kernel)) rfl
theorem gw_m_OU_65 : Cond.methodLink ROU 65 arraycopyName ∈ gtb := gtb_of (List.mem_of_getElem? (i := 744) (by decide +kernel)) rfl
theorem gw_m_LA_96 : Cond.methodLink RLA 96 yy_GG_fact ∈ gtb := gtb_of (List.mem_of_getElem? (i := 745) (by decide +kernel)) rfl
theorem gw_m_LA_100 : Cond.methodLink RLA 100 yy_GG_forget ∈ gtb := gtb_of (List.mem_of_getElem? (i := 749) (by decide +kernel)) rfl
theorem gw_m_LA_104 : Cond.methodLink RLA 104 yy_GG_likely ∈ gtb := gtb_of (List.mem_of_getElem? (i := 753) (by decide +kernel)) rfl
theorem gw_m_GG_184 : Cond.methodLink RGG 184 yy_OU_firstGriefs ∈ gtb := gtb_of (List.mem_of_getElem? (i := 757) (by decide +kernel)) rfl
theorem gw_m_OU_80 : Cond.methodLink ROU 80 yy_OU_isByFacts ∈ gtb := gtb_of (List.mem_of_getElem? (i := 761) (by decide +kernel)) rfl
theorem gw_m_OU_84 : Cond.methodLink ROU 84 yy_KI_stepOf ∈ gtb := gtb_of (List.mem_of_getElem? (i := 765) (by decide +kernel)) rfl
theorem gw_m_OU_95 : Cond.methodLink ROU 95 yy_LE_at ∈ gtb := gtb_of (List.mem_of_getElem? (i := 766) (by decide +kernel)) rfl
theorem gw_m_OU_98 : Cond.methodLink ROU 98 yy_SH_firstWeakDay ∈ gtb := gtb_of (List.mem_of_getElem? (i := 767) (by decide +kernel)) rfl
theorem gw_m_LA_108 : Cond.methodLink RLA 108 yy_GG_odds ∈ gtb := gtb_of (List.mem_of_getElem? (i := 768) (by decide +kernel)) rfl
theorem gw_m_GG_188 : Cond.methodLink RGG 188 yy_OU_chancesToHold ∈ gtb := gtb_of (List.mem_of_getElem? (i := 772) (by decide +kernel)) rfl
theorem gw_m_OU_71 : Cond.methodLink ROU 71 yy_AR_fillJ ∈ gtb := gtb_of (List.mem_of_getElem? (i := 776) (by decide +kernel)) rfl
theorem gw_m_OU_74 : Cond.methodLink ROU 74 yy_OU_weddingADay ∈ gtb := gtb_of (List.mem_of_getElem? (i := 779) (by decide +kernel)) rfl
theorem gw_m_OU_77 : Cond.methodLink ROU 77 yy_MA_max ∈ gtb := gtb_of (List.mem_of_getElem? (i := 783) (by decide +kernel)) rfl
theorem gw_m_GG_192 : Cond.methodLink RGG 192 yy_GG_tenTo ∈ gtb := gtb_of (List.mem_of_getElem? (i := 784) (by decide +kernel)) rfl
theorem gw_m_GG_196 : Cond.methodLink RGG 196 yy_GG_commonDivisor ∈ gtb := gtb_of (List.mem_of_getElem? (i := 788) (by decide +kernel)) rfl
theorem gw_m_LA_113 : Cond.methodLink RLA 113 yy_GG_harm ∈ gtb := gtb_of (List.mem_of_getElem? (i := 791) (by decide +kernel)) rfl
theorem gw_m_GG_203 : Cond.methodLink RGG 203 yy_OU_harmOf ∈ gtb := gtb_of (List.mem_of_getElem? (i := 795) (by decide +kernel)) rfl
theorem gw_m_OU_106 : Cond.methodLink ROU 106 yy_SH_fillGriefs ∈ gtb := gtb_of (List.mem_of_getElem? (i := 799) (by decide +kernel)) rfl
theorem gw_m_OU_112 : Cond.methodLink ROU 112 yy_SH_boiledOn ∈ gtb := gtb_of (List.mem_of_getElem? (i := 800) (by decide +kernel)) rfl
theorem gw_m_OU_116 : Cond.methodLink ROU 116 yy_SH_firstBoiler ∈ gtb := gtb_of (List.mem_of_getElem? (i := 801) (by decide +kernel)) rfl
theorem gw_m_OU_119 : Cond.methodLink ROU 119 yy_OU_griefsWithout ∈ gtb := gtb_of (List.mem_of_getElem? (i := 802) (by decide +kernel)) rfl
theorem gw_m_OU_129 : Cond.methodLink ROU 129 yy_SH_griefsOf ∈ gtb := gtb_of (List.mem_of_getElem? (i := 806) (by decide +kernel)) rfl
theorem gw_m_OU_123 : Cond.methodLink ROU 123 yy_SH_secondBoiler ∈ gtb := gtb_of (List.mem_of_getElem? (i := 807) (by decide +kernel)) rfl
theorem gw_m_OU_126 : Cond.methodLink ROU 126 yy_SH_openingOf ∈ gtb := gtb_of (List.mem_of_getElem? (i := 808) (by decide +kernel)) rfl
theorem gw_m_LA_117 : Cond.methodLink RLA 117 yy_GG_part ∈ gtb := gtb_of (List.mem_of_getElem? (i := 809) (by decide +kernel)) rfl
theorem gw_m_LA_122 : Cond.methodLink RLA 122 yy_GG_image ∈ gtb := gtb_of (List.mem_of_getElem? (i := 813) (by decide +kernel)) rfl
theorem gw_m_LA_126 : Cond.methodLink RLA 126 yy_GG_from ∈ gtb := gtb_of (List.mem_of_getElem? (i := 817) (by decide +kernel)) rfl
theorem gw_m_LA_130 : Cond.methodLink RLA 130 yy_GG_status ∈ gtb := gtb_of (List.mem_of_getElem? (i := 821) (by decide +kernel)) rfl
theorem gw_m_LA_134 : Cond.methodLink RLA 134 yy_GG_count ∈ gtb := gtb_of (List.mem_of_getElem? (i := 825) (by decide +kernel)) rfl
theorem gw_m_GG_216 : Cond.methodLink RGG 216 yy_GG_countOf ∈ gtb := gtb_of (List.mem_of_getElem? (i := 829) (by decide +kernel)) rfl
theorem gw_m_LA_138 : Cond.methodLink RLA 138 yy_GG_digest ∈ gtb := gtb_of (List.mem_of_getElem? (i := 833) (by decide +kernel)) rfl
theorem gw_m_GG_223 : Cond.methodLink RGG 223 yy_LE_mixInto ∈ gtb := gtb_of (List.mem_of_getElem? (i := 839) (by decide +kernel)) rfl
theorem gw_m_GG_227 : Cond.methodLink RGG 227 yy_SH_mixJointsInto ∈ gtb := gtb_of (List.mem_of_getElem? (i := 844) (by decide +kernel)) rfl
theorem gw_m_LA_12 : Cond.methodLink RLA 12 yy_MO_init ∈ gtb := gtb_of (List.mem_of_getElem? (i := 851) (by decide +kernel)) rfl
theorem gw_m_LA_17 : Cond.methodLink RLA 17 yy_MO_mourner ∈ gtb := gtb_of (List.mem_of_getElem? (i := 925) (by decide +kernel)) rfl
theorem gw_m_MO_64 : Cond.methodLink RMO 64 yy_MO_in ∈ gtb := gtb_of (List.mem_of_getElem? (i := 929) (by decide +kernel)) rfl
theorem gw_m_MO_72 : Cond.methodLink RMO 72 yy_MO_bad ∈ gtb := gtb_of (List.mem_of_getElem? (i := 932) (by decide +kernel)) rfl
theorem gw_m_MO_60 : Cond.methodLink RMO 60 yy_MO_get ∈ gtb := gtb_of (List.mem_of_getElem? (i := 936) (by decide +kernel)) rfl
theorem gw_m_MO_76 : Cond.methodLink RMO 76 yy_MO_full ∈ gtb := gtb_of (List.mem_of_getElem? (i := 940) (by decide +kernel)) rfl
theorem gw_m_MO_79 : Cond.methodLink RMO 79 yy_MO_addMourner ∈ gtb := gtb_of (List.mem_of_getElem? (i := 944) (by decide +kernel)) rfl
theorem gw_m_MO_68 : Cond.methodLink RMO 68 yy_MO_set ∈ gtb := gtb_of (List.mem_of_getElem? (i := 948) (by decide +kernel)) rfl
theorem gw_m_LA_22 : Cond.methodLink RLA 22 yy_MO_joint ∈ gtb := gtb_of (List.mem_of_getElem? (i := 952) (by decide +kernel)) rfl
theorem gw_m_MO_83 : Cond.methodLink RMO 83 yy_MO_addJoint ∈ gtb := gtb_of (List.mem_of_getElem? (i := 956) (by decide +kernel)) rfl
theorem gw_m_LA_27 : Cond.methodLink RLA 27 yy_MO_piece ∈ gtb := gtb_of (List.mem_of_getElem? (i := 960) (by decide +kernel)) rfl
theorem gw_m_MO_87 : Cond.methodLink RMO 87 yy_MO_isSet ∈ gtb := gtb_of (List.mem_of_getElem? (i := 964) (by decide +kernel)) rfl
theorem gw_m_MO_91 : Cond.methodLink RMO 91 yy_MO_addPiece ∈ gtb := gtb_of (List.mem_of_getElem? (i := 968) (by decide +kernel)) rfl
theorem gw_m_LA_31 : Cond.methodLink RLA 31 yy_MO_feast ∈ gtb := gtb_of (List.mem_of_getElem? (i := 972) (by decide +kernel)) rfl
theorem gw_m_MO_94 : Cond.methodLink RMO 94 yy_MO_isMourner ∈ gtb := gtb_of (List.mem_of_getElem? (i := 976) (by decide +kernel)) rfl
theorem gw_m_MO_97 : Cond.methodLink RMO 97 yy_MO_addFeast ∈ gtb := gtb_of (List.mem_of_getElem? (i := 980) (by decide +kernel)) rfl
theorem gw_m_LA_36 : Cond.methodLink RLA 36 yy_MO_skip ∈ gtb := gtb_of (List.mem_of_getElem? (i := 984) (by decide +kernel)) rfl
theorem gw_m_MO_100 : Cond.methodLink RMO 100 yy_MO_no ∈ gtb := gtb_of (List.mem_of_getElem? (i := 988) (by decide +kernel)) rfl
theorem gw_m_LA_48 : Cond.methodLink RLA 48 yy_MO_undo ∈ gtb := gtb_of (List.mem_of_getElem? (i := 992) (by decide +kernel)) rfl
theorem gw_m_LA_40 : Cond.methodLink RLA 40 yy_MO_boil ∈ gtb := gtb_of (List.mem_of_getElem? (i := 996) (by decide +kernel)) rfl
theorem gw_m_MO_103 : Cond.methodLink RMO 103 yy_MO_isJoint ∈ gtb := gtb_of (List.mem_of_getElem? (i := 1000) (by decide +kernel)) rfl
theorem gw_m_MO_106 : Cond.methodLink RMO 106 yy_MO_know ∈ gtb := gtb_of (List.mem_of_getElem? (i := 1004) (by decide +kernel)) rfl
theorem gw_m_MO_109 : Cond.methodLink RMO 109 yy_MO_boiled ∈ gtb := gtb_of (List.mem_of_getElem? (i := 1008) (by decide +kernel)) rfl
theorem gw_m_MO_112 : Cond.methodLink RMO 112 yy_MO_opensOn ∈ gtb := gtb_of (List.mem_of_getElem? (i := 1012) (by decide +kernel)) rfl
theorem gw_m_MO_189 : Cond.methodLink RMO 189 yy_MO_findGriefs ∈ gtb := gtb_of (List.mem_of_getElem? (i := 1016) (by decide +kernel)) rfl
theorem gw_m_MO_186 : Cond.methodLink RMO 186 yy_MO_onDay ∈ gtb := gtb_of (List.mem_of_getElem? (i := 1020) (by decide +kernel)) rfl
theorem gw_m_MO_179 : Cond.methodLink RMO 179 yy_MO_step ∈ gtb := gtb_of (List.mem_of_getElem? (i := 1024) (by decide +kernel)) rfl
theorem gw_m_MO_173 : Cond.methodLink RMO 173 yy_MO_less ∈ gtb := gtb_of (List.mem_of_getElem? (i := 1027) (by decide +kernel)) rfl
theorem gw_m_MO_176 : Cond.methodLink RMO 176 yy_MO_widow ∈ gtb := gtb_of (List.mem_of_getElem? (i := 1030) (by decide +kernel)) rfl
theorem gw_m_MO_183 : Cond.methodLink RMO 183 yy_MO_more ∈ gtb := gtb_of (List.mem_of_getElem? (i := 1033) (by decide +kernel)) rfl
theorem gw_m_MO_195 : Cond.methodLink RMO 195 yy_MO_opensBy ∈ gtb := gtb_of (List.mem_of_getElem? (i := 1036) (by decide +kernel)) rfl
theorem gw_m_MO_192 : Cond.methodLink RMO 192 yy_MO_strength ∈ gtb := gtb_of (List.mem_of_getElem? (i := 1040) (by decide +kernel)) rfl
theorem gw_m_LA_44 : Cond.methodLink RLA 44 yy_MO_day ∈ gtb := gtb_of (List.mem_of_getElem? (i := 1044) (by decide +kernel)) rfl
theorem gw_m_MO_115 : Cond.methodLink RMO 115 yy_MO_openNow ∈ gtb := gtb_of (List.mem_of_getElem? (i := 1048) (by decide +kernel)) rfl
theorem gw_m_MO_198 : Cond.methodLink RMO 198 yy_MO_isBoiled ∈ gtb := gtb_of (List.mem_of_getElem? (i := 1052) (by decide +kernel)) rfl
theorem gw_m_LA_55 : Cond.methodLink RLA 55 yy_MO_type ∈ gtb := gtb_of (List.mem_of_getElem? (i := 1056) (by decide +kernel)) rfl
theorem gw_m_LA_59 : Cond.methodLink RLA 59 yy_MO_clear ∈ gtb := gtb_of (List.mem_of_getElem? (i := 1061) (by decide +kernel)) rfl
theorem gw_m_LA_63 : Cond.methodLink RLA 63 yy_MO_read ∈ gtb := gtb_of (List.mem_of_getElem? (i := 1065) (by decide +kernel)) rfl
theorem gw_m_MO_147 : Cond.methodLink RMO 147 yy_MO_next ∈ gtb := gtb_of (List.mem_of_getElem? (i := 1069) (by decide +kernel)) rfl
theorem gw_m_MO_128 : Cond.methodLink RMO 128 yy_MO_here ∈ gtb := gtb_of (List.mem_of_getElem? (i := 1073) (by decide +kernel)) rfl
theorem gw_m_MO_140 : Cond.methodLink RMO 140 yy_MO_meaning ∈ gtb := gtb_of (List.mem_of_getElem? (i := 1077) (by decide +kernel)) rfl
theorem gw_m_MO_167 : Cond.methodLink RMO 167 yy_MO_readItem ∈ gtb := gtb_of (List.mem_of_getElem? (i := 1082) (by decide +kernel)) rfl
theorem gw_m_MO_158 : Cond.methodLink RMO 158 yy_MO_mayBe ∈ gtb := gtb_of (List.mem_of_getElem? (i := 1086) (by decide +kernel)) rfl
theorem gw_m_MO_154 : Cond.methodLink RMO 154 yy_MO_due ∈ gtb := gtb_of (List.mem_of_getElem? (i := 1090) (by decide +kernel)) rfl
theorem gw_m_MO_150 : Cond.methodLink RMO 150 yy_MO_isNumber ∈ gtb := gtb_of (List.mem_of_getElem? (i := 1094) (by decide +kernel)) rfl
theorem gw_m_MO_161 : Cond.methodLink RMO 161 yy_MO_readBoil ∈ gtb := gtb_of (List.mem_of_getElem? (i := 1098) (by decide +kernel)) rfl
theorem gw_m_MO_164 : Cond.methodLink RMO 164 yy_MO_readRow ∈ gtb := gtb_of (List.mem_of_getElem? (i := 1102) (by decide +kernel)) rfl
theorem gw_m_MO_170 : Cond.methodLink RMO 170 yy_MO_copy ∈ gtb := gtb_of (List.mem_of_getElem? (i := 1106) (by decide +kernel)) rfl
theorem gw_m_LA_67 : Cond.methodLink RLA 67 yy_MO_grief ∈ gtb := gtb_of (List.mem_of_getElem? (i := 1110) (by decide +kernel)) rfl
theorem gw_m_LA_71 : Cond.methodLink RLA 71 yy_MO_opens ∈ gtb := gtb_of (List.mem_of_getElem? (i := 1114) (by decide +kernel)) rfl
theorem gw_m_LA_75 : Cond.methodLink RLA 75 yy_MO_lasts ∈ gtb := gtb_of (List.mem_of_getElem? (i := 1118) (by decide +kernel)) rfl
theorem gw_m_MO_201 : Cond.methodLink RMO 201 yy_MO_isLasting ∈ gtb := gtb_of (List.mem_of_getElem? (i := 1122) (by decide +kernel)) rfl
theorem gw_m_LA_79 : Cond.methodLink RLA 79 yy_MO_open ∈ gtb := gtb_of (List.mem_of_getElem? (i := 1126) (by decide +kernel)) rfl
theorem gw_m_LA_83 : Cond.methodLink RLA 83 yy_MO_hire ∈ gtb := gtb_of (List.mem_of_getElem? (i := 1130) (by decide +kernel)) rfl
theorem gw_m_MO_213 : Cond.methodLink RMO 213 yy_MO_findNeeds ∈ gtb := gtb_of (List.mem_of_getElem? (i := 1134) (by decide +kernel)) rfl
theorem gw_m_MO_216 : Cond.methodLink RMO 216 yy_MO_hired ∈ gtb := gtb_of (List.mem_of_getElem? (i := 1138) (by decide +kernel)) rfl
theorem gw_m_MO_207 : Cond.methodLink RMO 207 yy_MO_priceOf ∈ gtb := gtb_of (List.mem_of_getElem? (i := 1142) (by decide +kernel)) rfl
theorem gw_m_MO_210 : Cond.methodLink RMO 210 yy_MO_whoOf ∈ gtb := gtb_of (List.mem_of_getElem? (i := 1146) (by decide +kernel)) rfl
theorem gw_m_MO_204 : Cond.methodLink RMO 204 yy_MO_wouldHold ∈ gtb := gtb_of (List.mem_of_getElem? (i := 1150) (by decide +kernel)) rfl
theorem gw_m_LA_87 : Cond.methodLink RLA 87 yy_MO_who ∈ gtb := gtb_of (List.mem_of_getElem? (i := 1154) (by decide +kernel)) rfl
theorem gw_m_LA_91 : Cond.methodLink RLA 91 yy_MO_saves ∈ gtb := gtb_of (List.mem_of_getElem? (i := 1158) (by decide +kernel)) rfl
theorem gw_m_LA_95 : Cond.methodLink RLA 95 yy_MO_tears ∈ gtb := gtb_of (List.mem_of_getElem? (i := 1162) (by decide +kernel)) rfl
theorem gw_m_LA_99 : Cond.methodLink RLA 99 yy_MO_fact ∈ gtb := gtb_of (List.mem_of_getElem? (i := 1166) (by decide +kernel)) rfl
theorem gw_m_LA_103 : Cond.methodLink RLA 103 yy_MO_forget ∈ gtb := gtb_of (List.mem_of_getElem? (i := 1170) (by decide +kernel)) rfl
theorem gw_m_LA_107 : Cond.methodLink RLA 107 yy_MO_likely ∈ gtb := gtb_of (List.mem_of_getElem? (i := 1174) (by decide +kernel)) rfl
theorem gw_m_MO_219 : Cond.methodLink RMO 219 yy_MO_isLikely ∈ gtb := gtb_of (List.mem_of_getElem? (i := 1178) (by decide +kernel)) rfl
theorem gw_m_LA_112 : Cond.methodLink RLA 112 yy_MO_odds ∈ gtb := gtb_of (List.mem_of_getElem? (i := 1182) (by decide +kernel)) rfl
theorem gw_m_LA_116 : Cond.methodLink RLA 116 yy_MO_harm ∈ gtb := gtb_of (List.mem_of_getElem? (i := 1187) (by decide +kernel)) rfl
theorem gw_m_LA_121 : Cond.methodLink RLA 121 yy_MO_part ∈ gtb := gtb_of (List.mem_of_getElem? (i := 1191) (by decide +kernel)) rfl
theorem gw_m_LA_125 : Cond.methodLink RLA 125 yy_MO_image ∈ gtb := gtb_of (List.mem_of_getElem? (i := 1195) (by decide +kernel)) rfl
theorem gw_m_LA_129 : Cond.methodLink RLA 129 yy_MO_from ∈ gtb := gtb_of (List.mem_of_getElem? (i := 1199) (by decide +kernel)) rfl
theorem gw_m_LA_133 : Cond.methodLink RLA 133 yy_MO_status ∈ gtb := gtb_of (List.mem_of_getElem? (i := 1203) (by decide +kernel)) rfl
theorem gw_m_LA_137 : Cond.methodLink RLA 137 yy_MO_count ∈ gtb := gtb_of (List.mem_of_getElem? (i := 1207) (by decide +kernel)) rfl
theorem gw_m_LA_142 : Cond.methodLink RLA 142 yy_MO_digest ∈ gtb := gtb_of (List.mem_of_getElem? (i := 1211) (by decide +kernel)) rfl
theorem gw_m_MO_234 : Cond.methodLink RMO 234 yy_MO_digestRow ∈ gtb := gtb_of (List.mem_of_getElem? (i := 1216) (by decide +kernel)) rfl
theorem gw_f_LE_15 : Cond.fieldLink RLE 15 RLE (TLE 0).2.1 (TLE 0).2.2.1 ∈ gtb := gtb_of (List.mem_of_getElem? (i := 107) (by decide +kernel)) rfl
theorem gw_f_LE_21 : Cond.fieldLink RLE 21 RLE (TLE 1).2.1 (TLE 1).2.2.1 ∈ gtb := gtb_of (List.mem_of_getElem? (i := 108) (by decide +kernel)) rfl
theorem gw_f_LE_24 : Cond.fieldLink RLE 24 RLE (TLE 2).2.1 (TLE 2).2.2.1 ∈ gtb := gtb_of (List.mem_of_getElem? (i := 109) (by decide +kernel)) rfl
theorem gw_f_LE_28 : Cond.fieldLink RLE 28 RLE (TLE 3).2.1 (TLE 3).2.2.1 ∈ gtb := gtb_of (List.mem_of_getElem? (i := 110) (by decide +kernel)) rfl
theorem gw_f_SH_50 : Cond.fieldLinkNest RSH 50 RLE (TLE 3).2.1 (TLE 3).2.2.1 RGG ∈ nst := nst_of (List.mem_of_getElem? (i := 111) (by decide +kernel)) rfl
theorem gw_f_HI_28 : Cond.fieldLinkNest RHI 28 RLE (TLE 3).2.1 (TLE 3).2.2.1 RGG ∈ nst := nst_of (List.mem_of_getElem? (i := 112) (by decide +kernel)) rfl
theorem gw_f_GG_96 : Cond.fieldLinkNest RGG 96 RLE (TLE 3).2.1 (TLE 3).2.2.1 RGG ∈ nst := nst_of (List.mem_of_getElem? (i := 113) (by decide +kernel)) rfl
theorem gw_f_RE_115 : Cond.fieldLinkNest RRE 115 RLE (TLE 3).2.1 (TLE 3).2.2.1 RGG ∈ nst := nst_of (List.mem_of_getElem? (i := 114) (by decide +kernel)) rfl
theorem gw_f_OU_90 : Cond.fieldLinkNest ROU 90 RLE (TLE 3).2.1 (TLE 3).2.2.1 RGG ∈ nst := nst_of (List.mem_of_getElem? (i := 115) (by decide +kernel)) rfl
theorem gw_f_SH_14 : Cond.fieldLink RSH 14 RSH (TSH 0).2.1 (TSH 0).2.2.1 ∈ gtb := gtb_of (List.mem_of_getElem? (i := 131) (by decide +kernel)) rfl
theorem gw_f_HI_22 : Cond.fieldLinkNest RHI 22 RSH (TSH 0).2.1 (TSH 0).2.2.1 RGG ∈ nst := nst_of (List.mem_of_getElem? (i := 132) (by decide +kernel)) rfl
theorem gw_f_GG_57 : Cond.fieldLinkNest RGG 57 RSH (TSH 0).2.1 (TSH 0).2.2.1 RGG ∈ nst := nst_of (List.mem_of_getElem? (i := 133) (by decide +kernel)) rfl
theorem gw_f_RE_81 : Cond.fieldLinkNest RRE 81 RSH (TSH 0).2.1 (TSH 0).2.2.1 RGG ∈ nst := nst_of (List.mem_of_getElem? (i := 134) (by decide +kernel)) rfl
theorem gw_f_SH_20 : Cond.fieldLink RSH 20 RSH (TSH 1).2.1 (TSH 1).2.2.1 ∈ gtb := gtb_of (List.mem_of_getElem? (i := 135) (by decide +kernel)) rfl
theorem gw_f_GG_74 : Cond.fieldLinkNest RGG 74 RSH (TSH 1).2.1 (TSH 1).2.2.1 RGG ∈ nst := nst_of (List.mem_of_getElem? (i := 136) (by decide +kernel)) rfl
theorem gw_f_HI_76 : Cond.fieldLinkNest RHI 76 RSH (TSH 1).2.1 (TSH 1).2.2.1 RGG ∈ nst := nst_of (List.mem_of_getElem? (i := 137) (by decide +kernel)) rfl
theorem gw_f_RE_102 : Cond.fieldLinkNest RRE 102 RSH (TSH 1).2.1 (TSH 1).2.2.1 RGG ∈ nst := nst_of (List.mem_of_getElem? (i := 138) (by decide +kernel)) rfl
theorem gw_f_OU_109 : Cond.fieldLinkNest ROU 109 RSH (TSH 1).2.1 (TSH 1).2.2.1 RGG ∈ nst := nst_of (List.mem_of_getElem? (i := 139) (by decide +kernel)) rfl
theorem gw_f_SH_23 : Cond.fieldLink RSH 23 RSH (TSH 2).2.1 (TSH 2).2.2.1 ∈ gtb := gtb_of (List.mem_of_getElem? (i := 140) (by decide +kernel)) rfl
theorem gw_f_HI_59 : Cond.fieldLinkNest RHI 59 RSH (TSH 2).2.1 (TSH 2).2.2.1 RGG ∈ nst := nst_of (List.mem_of_getElem? (i := 141) (by decide +kernel)) rfl
theorem gw_f_GG_83 : Cond.fieldLinkNest RGG 83 RSH (TSH 2).2.1 (TSH 2).2.2.1 RGG ∈ nst := nst_of (List.mem_of_getElem? (i := 142) (by decide +kernel)) rfl
theorem gw_f_RE_105 : Cond.fieldLinkNest RRE 105 RSH (TSH 2).2.1 (TSH 2).2.2.1 RGG ∈ nst := nst_of (List.mem_of_getElem? (i := 143) (by decide +kernel)) rfl
theorem gw_f_SH_26 : Cond.fieldLink RSH 26 RSH (TSH 3).2.1 (TSH 3).2.2.1 ∈ gtb := gtb_of (List.mem_of_getElem? (i := 144) (by decide +kernel)) rfl
theorem gw_f_GG_90 : Cond.fieldLinkNest RGG 90 RSH (TSH 3).2.1 (TSH 3).2.2.1 RGG ∈ nst := nst_of (List.mem_of_getElem? (i := 145) (by decide +kernel)) rfl
theorem gw_f_RE_112 : Cond.fieldLinkNest RRE 112 RSH (TSH 3).2.1 (TSH 3).2.2.1 RGG ∈ nst := nst_of (List.mem_of_getElem? (i := 146) (by decide +kernel)) rfl
theorem gw_f_OU_102 : Cond.fieldLinkNest ROU 102 RSH (TSH 3).2.1 (TSH 3).2.2.1 RGG ∈ nst := nst_of (List.mem_of_getElem? (i := 147) (by decide +kernel)) rfl
theorem gw_f_SH_29 : Cond.fieldLink RSH 29 RSH (TSH 4).2.1 (TSH 4).2.2.1 ∈ gtb := gtb_of (List.mem_of_getElem? (i := 148) (by decide +kernel)) rfl
theorem gw_f_GG_181 : Cond.fieldLinkNest RGG 181 RSH (TSH 4).2.1 (TSH 4).2.2.1 RGG ∈ nst := nst_of (List.mem_of_getElem? (i := 149) (by decide +kernel)) rfl
theorem gw_f_SH_34 : Cond.fieldLink RSH 34 RSH (TSH 5).2.1 (TSH 5).2.2.1 ∈ gtb := gtb_of (List.mem_of_getElem? (i := 150) (by decide +kernel)) rfl
theorem gw_f_SH_37 : Cond.fieldLink RSH 37 RSH (TSH 6).2.1 (TSH 6).2.2.1 ∈ gtb := gtb_of (List.mem_of_getElem? (i := 151) (by decide +kernel)) rfl
theorem gw_f_SH_41 : Cond.fieldLink RSH 41 RSH (TSH 7).2.1 (TSH 7).2.2.1 ∈ gtb := gtb_of (List.mem_of_getElem? (i := 152) (by decide +kernel)) rfl
theorem gw_f_SH_54 : Cond.fieldLink RSH 54 RSH (TSH 8).2.1 (TSH 8).2.2.1 ∈ gtb := gtb_of (List.mem_of_getElem? (i := 153) (by decide +kernel)) rfl
theorem gw_f_GG_128 : Cond.fieldLinkNest RGG 128 RSH (TSH 8).2.1 (TSH 8).2.2.1 RGG ∈ nst := nst_of (List.mem_of_getElem? (i := 154) (by decide +kernel)) rfl
theorem gw_f_OU_31 : Cond.fieldLinkNest ROU 31 RSH (TSH 9).2.1 (TSH 9).2.2.1 RGG ∈ nst := nst_of (List.mem_of_getElem? (i := 155) (by decide +kernel)) rfl
theorem gw_f_SH_57 : Cond.fieldLink RSH 57 RSH (TSH 9).2.1 (TSH 9).2.2.1 ∈ gtb := gtb_of (List.mem_of_getElem? (i := 156) (by decide +kernel)) rfl
theorem gw_f_HI_66 : Cond.fieldLinkNest RHI 66 RSH (TSH 9).2.1 (TSH 9).2.2.1 RGG ∈ nst := nst_of (List.mem_of_getElem? (i := 157) (by decide +kernel)) rfl
theorem gw_f_GG_117 : Cond.fieldLinkNest RGG 117 RSH (TSH 9).2.1 (TSH 9).2.2.1 RGG ∈ nst := nst_of (List.mem_of_getElem? (i := 158) (by decide +kernel)) rfl
theorem gw_f_RE_118 : Cond.fieldLinkNest RRE 118 RSH (TSH 9).2.1 (TSH 9).2.2.1 RGG ∈ nst := nst_of (List.mem_of_getElem? (i := 159) (by decide +kernel)) rfl
theorem gw_f_RE_9 : Cond.fieldLink RRE 9 RRE (TRE 0).2.1 (TRE 0).2.2.1 ∈ gtb := gtb_of (List.mem_of_getElem? (i := 190) (by decide +kernel)) rfl
theorem gw_f_RE_26 : Cond.fieldLink RRE 26 RRE (TRE 1).2.1 (TRE 1).2.2.1 ∈ gtb := gtb_of (List.mem_of_getElem? (i := 191) (by decide +kernel)) rfl
theorem gw_f_GG_134 : Cond.fieldLinkNest RGG 134 RRE (TRE 1).2.1 (TRE 1).2.2.1 RGG ∈ nst := nst_of (List.mem_of_getElem? (i := 192) (by decide +kernel)) rfl
theorem gw_f_RE_32 : Cond.fieldLink RRE 32 RRE (TRE 2).2.1 (TRE 2).2.2.1 ∈ gtb := gtb_of (List.mem_of_getElem? (i := 193) (by decide +kernel)) rfl
theorem gw_f_RE_15 : Cond.fieldLink RRE 15 RRE (TRE 3).2.1 (TRE 3).2.2.1 ∈ gtb := gtb_of (List.mem_of_getElem? (i := 194) (by decide +kernel)) rfl
theorem gw_f_GG_144 : Cond.fieldLinkNest RGG 144 RRE (TRE 3).2.1 (TRE 3).2.2.1 RGG ∈ nst := nst_of (List.mem_of_getElem? (i := 195) (by decide +kernel)) rfl
theorem gw_f_RE_22 : Cond.fieldLink RRE 22 RRE (TRE 4).2.1 (TRE 4).2.2.1 ∈ gtb := gtb_of (List.mem_of_getElem? (i := 196) (by decide +kernel)) rfl
theorem gw_f_GG_147 : Cond.fieldLinkNest RGG 147 RRE (TRE 4).2.1 (TRE 4).2.2.1 RGG ∈ nst := nst_of (List.mem_of_getElem? (i := 197) (by decide +kernel)) rfl
theorem gw_f_RE_38 : Cond.fieldLink RRE 38 RRE (TRE 5).2.1 (TRE 5).2.2.1 ∈ gtb := gtb_of (List.mem_of_getElem? (i := 198) (by decide +kernel)) rfl
theorem gw_f_RE_142 : Cond.fieldLink RRE 142 RRE (TRE 6).2.1 (TRE 6).2.2.1 ∈ gtb := gtb_of (List.mem_of_getElem? (i := 199) (by decide +kernel)) rfl
theorem gw_f_RE_120 : Cond.fieldLink RRE 120 RRE (TRE 7).2.1 (TRE 7).2.2.1 ∈ gtb := gtb_of (List.mem_of_getElem? (i := 200) (by decide +kernel)) rfl
theorem gw_f_HI_9 : Cond.fieldLink RHI 9 RHI (THI 0).2.1 (THI 0).2.2.1 ∈ gtb := gtb_of (List.mem_of_getElem? (i := 225) (by decide +kernel)) rfl
theorem gw_f_HI_15 : Cond.fieldLink RHI 15 RHI (THI 1).2.1 (THI 1).2.2.1 ∈ gtb := gtb_of (List.mem_of_getElem? (i := 226) (by decide +kernel)) rfl
theorem gw_f_HI_19 : Cond.fieldLink RHI 19 RHI (THI 2).2.1 (THI 2).2.2.1 ∈ gtb := gtb_of (List.mem_of_getElem? (i := 227) (by decide +kernel)) rfl
theorem gw_f_HI_40 : Cond.fieldLink RHI 40 RHI (THI 3).2.1 (THI 3).2.2.1 ∈ gtb := gtb_of (List.mem_of_getElem? (i := 228) (by decide +kernel)) rfl
theorem gw_f_OU_9 : Cond.fieldLink ROU 9 ROU (TOU 0).2.1 (TOU 0).2.2.1 ∈ gtb := gtb_of (List.mem_of_getElem? (i := 245) (by decide +kernel)) rfl
theorem gw_f_OU_15 : Cond.fieldLink ROU 15 ROU (TOU 1).2.1 (TOU 1).2.2.1 ∈ gtb := gtb_of (List.mem_of_getElem? (i := 246) (by decide +kernel)) rfl
theorem gw_f_OU_18 : Cond.fieldLink ROU 18 ROU (TOU 2).2.1 (TOU 2).2.2.1 ∈ gtb := gtb_of (List.mem_of_getElem? (i := 247) (by decide +kernel)) rfl
theorem gw_f_OU_21 : Cond.fieldLink ROU 21 ROU (TOU 3).2.1 (TOU 3).2.2.1 ∈ gtb := gtb_of (List.mem_of_getElem? (i := 248) (by decide +kernel)) rfl
theorem gw_f_OU_24 : Cond.fieldLink ROU 24 ROU (TOU 4).2.1 (TOU 4).2.2.1 ∈ gtb := gtb_of (List.mem_of_getElem? (i := 249) (by decide +kernel)) rfl
theorem gw_f_OU_28 : Cond.fieldLink ROU 28 ROU (TOU 5).2.1 (TOU 5).2.2.1 ∈ gtb := gtb_of (List.mem_of_getElem? (i := 250) (by decide +kernel)) rfl
theorem gw_f_GG_12 : Cond.fieldLink RGG 12 RGG (TGG 0).2.1 (TGG 0).2.2.1 ∈ gtb := gtb_of (List.mem_of_getElem? (i := 264) (by decide +kernel)) rfl
theorem gw_f_GG_16 : Cond.fieldLink RGG 16 RGG (TGG 1).2.1 (TGG 1).2.2.1 ∈ gtb := gtb_of (List.mem_of_getElem? (i := 265) (by decide +kernel)) rfl
theorem gw_f_GG_20 : Cond.fieldLink RGG 20 RGG (TGG 2).2.1 (TGG 2).2.2.1 ∈ gtb := gtb_of (List.mem_of_getElem? (i := 266) (by decide +kernel)) rfl
theorem gw_f_GG_27 : Cond.fieldLink RGG 27 RGG (TGG 3).2.1 (TGG 3).2.2.1 ∈ gtb := gtb_of (List.mem_of_getElem? (i := 267) (by decide +kernel)) rfl
theorem gw_f_GG_34 : Cond.fieldLink RGG 34 RGG (TGG 4).2.1 (TGG 4).2.2.1 ∈ gtb := gtb_of (List.mem_of_getElem? (i := 268) (by decide +kernel)) rfl
theorem gw_f_GG_41 : Cond.fieldLink RGG 41 RGG (TGG 5).2.1 (TGG 5).2.2.1 ∈ gtb := gtb_of (List.mem_of_getElem? (i := 269) (by decide +kernel)) rfl
theorem gw_f_GG_200 : Cond.fieldLink RGG 200 RGG (TGG 6).2.1 (TGG 6).2.2.1 ∈ gtb := gtb_of (List.mem_of_getElem? (i := 270) (by decide +kernel)) rfl
theorem gw_f_GG_45 : Cond.fieldLink RGG 45 RGG (TGG 7).2.1 (TGG 7).2.2.1 ∈ gtb := gtb_of (List.mem_of_getElem? (i := 271) (by decide +kernel)) rfl
theorem gw_f_GG_207 : Cond.fieldLink RGG 207 RGG (TGG 8).2.1 (TGG 8).2.2.1 ∈ gtb := gtb_of (List.mem_of_getElem? (i := 272) (by decide +kernel)) rfl
theorem gw_f_GG_210 : Cond.fieldLink RGG 210 RGG (TGG 9).2.1 (TGG 9).2.2.1 ∈ gtb := gtb_of (List.mem_of_getElem? (i := 273) (by decide +kernel)) rfl
theorem gw_f_GG_213 : Cond.fieldLink RGG 213 RGG (TGG 10).2.1 (TGG 10).2.2.1 ∈ gtb := gtb_of (List.mem_of_getElem? (i := 274) (by decide +kernel)) rfl
theorem gw_f_MO_7 : Cond.fieldLink RMO 7 RMO (TMO 0).2.1 (TMO 0).2.2.1 ∈ gtb := gtb_of (List.mem_of_getElem? (i := 855) (by decide +kernel)) rfl
theorem gw_f_MO_57 : Cond.fieldLink RMO 57 RMO (TMO 1).2.1 (TMO 1).2.2.1 ∈ gtb := gtb_of (List.mem_of_getElem? (i := 856) (by decide +kernel)) rfl
theorem gw_f_MO_13 : Cond.fieldLink RMO 13 RMO (TMO 2).2.1 (TMO 2).2.2.1 ∈ gtb := gtb_of (List.mem_of_getElem? (i := 857) (by decide +kernel)) rfl
theorem gw_f_MO_17 : Cond.fieldLink RMO 17 RMO (TMO 3).2.1 (TMO 3).2.2.1 ∈ gtb := gtb_of (List.mem_of_getElem? (i := 858) (by decide +kernel)) rfl
theorem gw_f_MO_224 : Cond.fieldLink RMO 224 RMO (TMO 4).2.1 (TMO 4).2.2.1 ∈ gtb := gtb_of (List.mem_of_getElem? (i := 859) (by decide +kernel)) rfl
theorem gw_f_MO_53 : Cond.fieldLink RMO 53 RMO (TMO 5).2.1 (TMO 5).2.2.1 ∈ gtb := gtb_of (List.mem_of_getElem? (i := 860) (by decide +kernel)) rfl
theorem gw_f_MO_20 : Cond.fieldLink RMO 20 RMO (TMO 6).2.1 (TMO 6).2.2.1 ∈ gtb := gtb_of (List.mem_of_getElem? (i := 861) (by decide +kernel)) rfl
theorem gw_f_MO_118 : Cond.fieldLink RMO 118 RMO (TMO 7).2.1 (TMO 7).2.2.1 ∈ gtb := gtb_of (List.mem_of_getElem? (i := 862) (by decide +kernel)) rfl
theorem gw_f_MO_123 : Cond.fieldLink RMO 123 RMO (TMO 8).2.1 (TMO 8).2.2.1 ∈ gtb := gtb_of (List.mem_of_getElem? (i := 863) (by decide +kernel)) rfl
theorem gw_f_MO_131 : Cond.fieldLink RMO 131 RMO (TMO 9).2.1 (TMO 9).2.2.1 ∈ gtb := gtb_of (List.mem_of_getElem? (i := 864) (by decide +kernel)) rfl
theorem gw_f_MO_137 : Cond.fieldLink RMO 137 RMO (TMO 10).2.1 (TMO 10).2.2.1 ∈ gtb := gtb_of (List.mem_of_getElem? (i := 865) (by decide +kernel)) rfl
theorem gw_f_MO_134 : Cond.fieldLink RMO 134 RMO (TMO 11).2.1 (TMO 11).2.2.1 ∈ gtb := gtb_of (List.mem_of_getElem? (i := 866) (by decide +kernel)) rfl
theorem gw_f_MO_144 : Cond.fieldLink RMO 144 RMO (TMO 12).2.1 (TMO 12).2.2.1 ∈ gtb := gtb_of (List.mem_of_getElem? (i := 867) (by decide +kernel)) rfl
theorem gw_f_MO_24 : Cond.fieldLink RMO 24 RMO (TMO 13).2.1 (TMO 13).2.2.1 ∈ gtb := gtb_of (List.mem_of_getElem? (i := 868) (by decide +kernel)) rfl
theorem gw_f_MO_28 : Cond.fieldLink RMO 28 RMO (TMO 14).2.1 (TMO 14).2.2.1 ∈ gtb := gtb_of (List.mem_of_getElem? (i := 869) (by decide +kernel)) rfl
theorem gw_f_MO_31 : Cond.fieldLink RMO 31 RMO (TMO 15).2.1 (TMO 15).2.2.1 ∈ gtb := gtb_of (List.mem_of_getElem? (i := 870) (by decide +kernel)) rfl
theorem gw_f_MO_34 : Cond.fieldLink RMO 34 RMO (TMO 16).2.1 (TMO 16).2.2.1 ∈ gtb := gtb_of (List.mem_of_getElem? (i := 871) (by decide +kernel)) rfl
theorem gw_f_MO_37 : Cond.fieldLink RMO 37 RMO (TMO 17).2.1 (TMO 17).2.2.1 ∈ gtb := gtb_of (List.mem_of_getElem? (i := 872) (by decide +kernel)) rfl
theorem gw_f_MO_40 : Cond.fieldLink RMO 40 RMO (TMO 18).2.1 (TMO 18).2.2.1 ∈ gtb := gtb_of (List.mem_of_getElem? (i := 873) (by decide +kernel)) rfl
theorem gw_f_MO_43 : Cond.fieldLink RMO 43 RMO (TMO 19).2.1 (TMO 19).2.2.1 ∈ gtb := gtb_of (List.mem_of_getElem? (i := 874) (by decide +kernel)) rfl
theorem gw_f_MO_47 : Cond.fieldLink RMO 47 RMO (TMO 20).2.1 (TMO 20).2.2.1 ∈ gtb := gtb_of (List.mem_of_getElem? (i := 875) (by decide +kernel)) rfl
theorem gw_f_MO_50 : Cond.fieldLink RMO 50 RMO (TMO 21).2.1 (TMO 21).2.2.1 ∈ gtb := gtb_of (List.mem_of_getElem? (i := 876) (by decide +kernel)) rfl
theorem gw_f_MO_229 : Cond.fieldLink RMO 229 RMO (TMO 22).2.1 (TMO 22).2.2.1 ∈ gtb := gtb_of (List.mem_of_getElem? (i := 877) (by decide +kernel)) rfl
theorem gw_k_IN_265 : Cond.constant RIN 265 (1431655765) ∈ gtb := gtb_of (List.mem_of_getElem? (i := 454) (by decide +kernel)) rfl
theorem gw_k_IN_266 : Cond.constant RIN 266 (858993459) ∈ gtb := gtb_of (List.mem_of_getElem? (i := 455) (by decide +kernel)) rfl
theorem gw_k_IN_267 : Cond.constant RIN 267 (252645135) ∈ gtb := gtb_of (List.mem_of_getElem? (i := 456) (by decide +kernel)) rfl
theorem gw_k_OU_45 : Cond.constant ROU 45 (1000000) ∈ gtb := gtb_of (List.mem_of_getElem? (i := 733) (by decide +kernel)) rfl
theorem gw_k_MO_126 : Cond.constant RMO 126 (194934254) ∈ gtb := gtb_of (List.mem_of_getElem? (i := 1080) (by decide +kernel)) rfl
theorem gw_k_MO_127 : Cond.constant RMO 127 (332763971) ∈ gtb := gtb_of (List.mem_of_getElem? (i := 1081) (by decide +kernel)) rfl
theorem gw_k_GG_230 : Cond.constantLong RGG 230 (10) ∈ gtb := gtb_of (List.mem_of_getElem? (i := 787) (by decide +kernel)) rfl
theorem gw_k_GG_219 : Cond.constantLong RGG 219 (797) ∈ gtb := gtb_of (List.mem_of_getElem? (i := 837) (by decide +kernel)) rfl
theorem gw_k_GG_221 : Cond.constantLong RGG 221 (31) ∈ gtb := gtb_of (List.mem_of_getElem? (i := 838) (by decide +kernel)) rfl
theorem gw_k_LE_45 : Cond.constantLong RLE 45 (31) ∈ gtb := gtb_of (List.mem_of_getElem? (i := 843) (by decide +kernel)) rfl
theorem gw_k_SH_138 : Cond.constantLong RSH 138 (31) ∈ gtb := gtb_of (List.mem_of_getElem? (i := 848) (by decide +kernel)) rfl
theorem gw_k_MO_121 : Cond.constantLong RMO 121 (255) ∈ gtb := gtb_of (List.mem_of_getElem? (i := 1060) (by decide +kernel)) rfl
theorem gw_k_MO_222 : Cond.constantLong RMO 222 (10) ∈ gtb := gtb_of (List.mem_of_getElem? (i := 1186) (by decide +kernel)) rfl
theorem gw_k_MO_232 : Cond.constantLong RMO 232 (797) ∈ gtb := gtb_of (List.mem_of_getElem? (i := 1215) (by decide +kernel)) rfl
theorem gw_k_MO_227 : Cond.constantLong RMO 227 (31) ∈ gtb := gtb_of (List.mem_of_getElem? (i := 1220) (by decide +kernel)) rfl
theorem gw_k_LA_49 : Cond.constantLong RLA 49 (4294967295) ∈ gtb := gtb_of (List.mem_of_getElem? (i := 1221) (by decide +kernel)) rfl
theorem ig_HI : ∀ w ∈ u_ws RHI THI 4, w ∈ gtb := fun w h => gtb_of (iw_HI w h) ((by decide +kernel : ∀ w ∈ u_ws RHI THI 4, goodWord w = true) w h)
theorem ig_LE : ∀ w ∈ u_ws RLE TLE 4, w ∈ gtb := fun w h => gtb_of (iw_LE w h) ((by decide +kernel : ∀ w ∈ u_ws RLE TLE 4, goodWord w = true) w h)
theorem ig_OU : ∀ w ∈ u_ws ROU TOU 6, w ∈ gtb := fun w h => gtb_of (iw_OU w h) ((by decide +kernel : ∀ w ∈ u_ws ROU TOU 6, goodWord w = true) w h)
theorem ig_RE : ∀ w ∈ u_ws RRE TRE 8, w ∈ gtb := fun w h => gtb_of (iw_RE w h) ((by decide +kernel : ∀ w ∈ u_ws RRE TRE 8, goodWord w = true) w h)
theorem ig_SH : ∀ w ∈ u_ws RSH TSH 10, w ∈ gtb := fun w h => gtb_of (iw_SH w h) ((by decide +kernel : ∀ w ∈ u_ws RSH TSH 10, goodWord w = true) w h)
theorem ig_GG : ∀ w ∈ u_ws RGG TGG 11, w ∈ gtb := fun w h => gtb_of (iw_GG w h) ((by decide +kernel : ∀ w ∈ u_ws RGG TGG 11, goodWord w = true) w h)
theorem ig_MO : ∀ w ∈ u_ws RMO TMO 23, w ∈ gtb := fun w h => gtb_of (iw_MO w h) ((by decide +kernel : ∀ w ∈ u_ws RMO TMO 23, goodWord w = true) w h)
theorem tp_0_0 {q : Nat} (h : isO ixC q 0) : isO ixC (rf q 0) 20 := (by decide +kernel : ∀ q ∈ ixC, kd q = 0 → rf q 0 ∈ ixC ∧ kd (rf q 0) = 20) q h.1 h.2
theorem tp_0_1 {q : Nat} (h : isO ixC q 0) : isO ixC (rf q 1) 23 := (by decide +kernel : ∀ q ∈ ixC, kd q = 0 → rf q 1 ∈ ixC ∧ kd (rf q 1) = 23) q h.1 h.2
theorem tp_0_2 {q : Nat} (h : isO ixC q 0) : isO ixC (rf q 2) 20 := (by decide +kernel : ∀ q ∈ ixC, kd q = 0 → rf q 2 ∈ ixC ∧ kd (rf q 2) = 20) q h.1 h.2
theorem tp_1_2 {q : Nat} (h : isO ixC q 1) : isO ixC (rf q 2) 20 := (by decide +kernel : ∀ q ∈ ixC, kd q = 1 → rf q 2 ∈ ixC ∧ kd (rf q 2) = 20) q h.1 h.2
theorem tp_2_0 {q : Nat} (h : isO ixC q 2) : isO ixC (rf q 0) 20 := (by decide +kernel : ∀ q ∈ ixC, kd q = 2 → rf q 0 ∈ ixC ∧ kd (rf q 0) = 20) q h.1 h.2
theorem tp_2_1 {q : Nat} (h : isO ixC q 2) : isO ixC (rf q 1) 20 := (by decide +kernel : ∀ q ∈ ixC, kd q = 2 → rf q 1 ∈ ixC ∧ kd (rf q 1) = 20) q h.1 h.2
theorem tp_2_2 {q : Nat} (h : isO ixC q 2) : isO ixC (rf q 2) 20 := (by decide +kernel : ∀ q ∈ ixC, kd q = 2 → rf q 2 ∈ ixC ∧ kd (rf q 2) = 20) q h.1 h.2
theorem tp_2_3 {q : Nat} (h : isO ixC q 2) : isO ixC (rf q 3) 20 := (by decide +kernel : ∀ q ∈ ixC, kd q = 2 → rf q 3 ∈ ixC ∧ kd (rf q 3) = 20) q h.1 h.2
theorem tp_2_4 {q : Nat} (h : isO ixC q 2) : isO ixC (rf q 4) 23 := (by decide +kernel : ∀ q ∈ ixC, kd q = 2 → rf q 4 ∈ ixC ∧ kd (rf q 4) = 23) q h.1 h.2
theorem tp_2_5 {q : Nat} (h : isO ixC q 2) : isO ixC (rf q 5) 23 := (by decide +kernel : ∀ q ∈ ixC, kd q = 2 → rf q 5 ∈ ixC ∧ kd (rf q 5) = 23) q h.1 h.2
theorem tp_3_0 {q : Nat} (h : isO ixC q 3) : isO ixC (rf q 0) 20 := (by decide +kernel : ∀ q ∈ ixC, kd q = 3 → rf q 0 ∈ ixC ∧ kd (rf q 0) = 20) q h.1 h.2
theorem tp_3_4 {q : Nat} (h : isO ixC q 3) : isO ixC (rf q 4) 4 := (by decide +kernel : ∀ q ∈ ixC, kd q = 3 → rf q 4 ∈ ixC ∧ kd (rf q 4) = 4) q h.1 h.2
theorem tp_4_0 {q : Nat} (h : isO ixC q 4) : isO ixC (rf q 0) 1 := (by decide +kernel : ∀ q ∈ ixC, kd q = 4 → rf q 0 ∈ ixC ∧ kd (rf q 0) = 1) q h.1 h.2
theorem tp_4_1 {q : Nat} (h : isO ixC q 4) : isO ixC (rf q 1) 1 := (by decide +kernel : ∀ q ∈ ixC, kd q = 4 → rf q 1 ∈ ixC ∧ kd (rf q 1) = 1) q h.1 h.2
theorem tp_4_2 {q : Nat} (h : isO ixC q 4) : isO ixC (rf q 2) 1 := (by decide +kernel : ∀ q ∈ ixC, kd q = 4 → rf q 2 ∈ ixC ∧ kd (rf q 2) = 1) q h.1 h.2
theorem tp_4_3 {q : Nat} (h : isO ixC q 4) : isO ixC (rf q 3) 1 := (by decide +kernel : ∀ q ∈ ixC, kd q = 4 → rf q 3 ∈ ixC ∧ kd (rf q 3) = 1) q h.1 h.2
theorem tp_4_4 {q : Nat} (h : isO ixC q 4) : isO ixC (rf q 4) 1 := (by decide +kernel : ∀ q ∈ ixC, kd q = 4 → rf q 4 ∈ ixC ∧ kd (rf q 4) = 1) q h.1 h.2
theorem tp_4_5 {q : Nat} (h : isO ixC q 4) : isO ixC (rf q 5) 25 := (by decide +kernel : ∀ q ∈ ixC, kd q = 4 → rf q 5 ∈ ixC ∧ kd (rf q 5) = 25) q h.1 h.2
theorem tp_4_6 {q : Nat} (h : isO ixC q 4) : isO ixC (rf q 6) 20 := (by decide +kernel : ∀ q ∈ ixC, kd q = 4 → rf q 6 ∈ ixC ∧ kd (rf q 6) = 20) q h.1 h.2
theorem tp_4_7 {q : Nat} (h : isO ixC q 4) : isO ixC (rf q 7) 20 := (by decide +kernel : ∀ q ∈ ixC, kd q = 4 → rf q 7 ∈ ixC ∧ kd (rf q 7) = 20) q h.1 h.2
theorem tp_5_0 {q : Nat} (h : isO ixC q 5) : isO ixC (rf q 0) 4 := (by decide +kernel : ∀ q ∈ ixC, kd q = 5 → rf q 0 ∈ ixC ∧ kd (rf q 0) = 4) q h.1 h.2
theorem tp_5_1 {q : Nat} (h : isO ixC q 5) : isO ixC (rf q 1) 24 := (by decide +kernel : ∀ q ∈ ixC, kd q = 5 → rf q 1 ∈ ixC ∧ kd (rf q 1) = 24) q h.1 h.2
theorem tp_5_2 {q : Nat} (h : isO ixC q 5) : isO ixC (rf q 2) 22 := (by decide +kernel : ∀ q ∈ ixC, kd q = 5 → rf q 2 ∈ ixC ∧ kd (rf q 2) = 22) q h.1 h.2
theorem tp_5_3 {q : Nat} (h : isO ixC q 5) : isO ixC (rf q 3) 3 := (by decide +kernel : ∀ q ∈ ixC, kd q = 5 → rf q 3 ∈ ixC ∧ kd (rf q 3) = 3) q h.1 h.2
theorem tp_5_4 {q : Nat} (h : isO ixC q 5) : isO ixC (rf q 4) 0 := (by decide +kernel : ∀ q ∈ ixC, kd q = 5 → rf q 4 ∈ ixC ∧ kd (rf q 4) = 0) q h.1 h.2
theorem tp_5_5 {q : Nat} (h : isO ixC q 5) : isO ixC (rf q 5) 2 := (by decide +kernel : ∀ q ∈ ixC, kd q = 5 → rf q 5 ∈ ixC ∧ kd (rf q 5) = 2) q h.1 h.2
theorem tp_6_0 {q : Nat} (h : isO ixM q 6) : isO ixM (rf q 0) 20 := (by decide +kernel : ∀ q ∈ ixM, kd q = 6 → rf q 0 ∈ ixM ∧ kd (rf q 0) = 20) q h.1 h.2
theorem tp_6_2 {q : Nat} (h : isO ixM q 6) : isO ixM (rf q 2) 22 := (by decide +kernel : ∀ q ∈ ixM, kd q = 6 → rf q 2 ∈ ixM ∧ kd (rf q 2) = 22) q h.1 h.2
theorem tp_6_3 {q : Nat} (h : isO ixM q 6) : isO ixM (rf q 3) 20 := (by decide +kernel : ∀ q ∈ ixM, kd q = 6 → rf q 3 ∈ ixM ∧ kd (rf q 3) = 20) q h.1 h.2
theorem tp_6_6 {q : Nat} (h : isO ixM q 6) : isO ixM (rf q 6) 21 := (by decide +kernel : ∀ q ∈ ixM, kd q = 6 → rf q 6 ∈ ixM ∧ kd (rf q 6) = 21) q h.1 h.2
theorem tp_6_14 {q : Nat} (h : isO ixM q 6) : isO ixM (rf q 14) 20 := (by decide +kernel : ∀ q ∈ ixM, kd q = 6 → rf q 14 ∈ ixM ∧ kd (rf q 14) = 20) q h.1 h.2
theorem tp_6_15 {q : Nat} (h : isO ixM q 6) : isO ixM (rf q 15) 20 := (by decide +kernel : ∀ q ∈ ixM, kd q = 6 → rf q 15 ∈ ixM ∧ kd (rf q 15) = 20) q h.1 h.2
theorem tp_6_16 {q : Nat} (h : isO ixM q 6) : isO ixM (rf q 16) 20 := (by decide +kernel : ∀ q ∈ ixM, kd q = 6 → rf q 16 ∈ ixM ∧ kd (rf q 16) = 20) q h.1 h.2
theorem tp_6_17 {q : Nat} (h : isO ixM q 6) : isO ixM (rf q 17) 20 := (by decide +kernel : ∀ q ∈ ixM, kd q = 6 → rf q 17 ∈ ixM ∧ kd (rf q 17) = 20) q h.1 h.2
theorem tp_6_18 {q : Nat} (h : isO ixM q 6) : isO ixM (rf q 18) 20 := (by decide +kernel : ∀ q ∈ ixM, kd q = 6 → rf q 18 ∈ ixM ∧ kd (rf q 18) = 20) q h.1 h.2
theorem tp_6_19 {q : Nat} (h : isO ixM q 6) : isO ixM (rf q 19) 23 := (by decide +kernel : ∀ q ∈ ixM, kd q = 6 → rf q 19 ∈ ixM ∧ kd (rf q 19) = 23) q h.1 h.2
theorem tp_6_20 {q : Nat} (h : isO ixM q 6) : isO ixM (rf q 20) 23 := (by decide +kernel : ∀ q ∈ ixM, kd q = 6 → rf q 20 ∈ ixM ∧ kd (rf q 20) = 23) q h.1 h.2
theorem tp_6_21 {q : Nat} (h : isO ixM q 6) : isO ixM (rf q 21) 20 := (by decide +kernel : ∀ q ∈ ixM, kd q = 6 → rf q 21 ∈ ixM ∧ kd (rf q 21) = 20) q h.1 h.2
theorem tp_24 {q : Nat} {i : Int32} (h : isO ixC q 24) (hi : ixb i (ln q) = true) : isO ixC (rf q (ix i)) 4 := (by decide +kernel : ∀ q ∈ ixC, kd q = 24 → ∀ j, j < ln q → rf q j ∈ ixC ∧ kd (rf q j) = 4) q h.1 h.2 (ix i) (ix_lt hi)
theorem tp_25 {q : Nat} {i : Int32} (h : isO ixC q 25) (hi : ixb i (ln q) = true) : isO ixC (rf q (ix i)) 20 := (by decide +kernel : ∀ q ∈ ixC, kd q = 25 → ∀ j, j < ln q → rf q j ∈ ixC ∧ kd (rf q j) = 20) q h.1 h.2 (ix i) (ix_lt hi)
section Rows2
variable {p : Program} {l : Launch} {e : Env} {R : Room} {s : State} {m : MethodId} {args : Array Value} {below : List Frame} {meth : Method} {c : Code} {H : Heap} {locs : List Loc} {cells slots : Nat} {Q : State → Prop}
variable {cc : ByteArray} {pc : Nat} {ls : Array Slot} {rest : List Value} {E : Ev} {A : Nat → Prop} {ad : Nat → Nat} {js : List Nat} {x y : St} {own : String} {nL : Nat} {rt : Option FieldType}
theorem tpi {v w : Int32} (h : v = w) (k : W p l e R s m args below meth c H locs cells slots Q (F0 m pc ls (.int w :: rest))) : W p l e R s m args below meth c H locs cells slots Q (F0 m pc ls (.int v :: rest)) := h ▸ k
theorem tpj {v w : Int64} (h : v = w) (k : W p l e R s m args below meth c H locs cells slots Q (F0 m pc ls (.long w :: rest))) : W p l e R s m args below meth c H locs cells slots Q (F0 m pc ls (.long v :: rest)) := h ▸ k
theorem sI (C0 : Cx E A own cc nL rt p s m args meth c) (hap : Ap ad js A) (hP : Wd E ad js x H) (hS : va_S A s.heap H locs) {q : Nat} (ho : isO js q 20) {i v : Int32} (hi : ixb i (ln q) = true) (hy : si x q (ix i) v = y) (hdg : decode cc pc = .ok (.iastore, 1))
    (kk : ∀ H1 locs1, Wd E ad js y H1 → va_S A s.heap H1 locs1 → W p l e R s m args below meth c H1 locs1 cells slots Q (F0 m (pc + 1) ls rest)) : W p l e R s m args below meth c H locs cells slots Q (F0 m pc ls (.int v :: .int i :: .ref (ad q) :: rest)) := by
  subst hy; exact rsI C0 hap hP hS ho hi hdg kk
theorem sB (C0 : Cx E A own cc nL rt p s m args meth c) (hap : Ap ad js A) (hP : Wd E ad js x H) (hS : va_S A s.heap H locs) {q : Nat} (ho : isO js q 21) {i v : Int32} (hi : ixb i (ln q) = true) (hy : si x q (ix i) (vp_nar .byte v) = y) (hdg : decode cc pc = .ok (.bastore, 1))
    (kk : ∀ H1 locs1, Wd E ad js y H1 → va_S A s.heap H1 locs1 → W p l e R s m args below meth c H1 locs1 cells slots Q (F0 m (pc + 1) ls rest)) : W p l e R s m args below meth c H locs cells slots Q (F0 m pc ls (.int v :: .int i :: .ref (ad q) :: rest)) := by
  subst hy; exact rsB C0 hap hP hS ho hi hdg kk
theorem sZ (C0 : Cx E A own cc nL rt p s m args meth c) (hap : Ap ad js A) (hP : Wd E ad js x H) (hS : va_S A s.heap H locs) {q : Nat} (ho : isO js q 22) {i v : Int32} (hi : ixb i (ln q) = true) (hy : si x q (ix i) (vp_nar .boolean v) = y) (hdg : decode cc pc = .ok (.bastore, 1))
    (kk : ∀ H1 locs1, Wd E ad js y H1 → va_S A s.heap H1 locs1 → W p l e R s m args below meth c H1 locs1 cells slots Q (F0 m (pc + 1) ls rest)) : W p l e R s m args below meth c H locs cells slots Q (F0 m pc ls (.int v :: .int i :: .ref (ad q) :: rest)) := by
  subst hy; exact rsZ C0 hap hP hS ho hi hdg kk
theorem sL (C0 : Cx E A own cc nL rt p s m args meth c) (hap : Ap ad js A) (hP : Wd E ad js x H) (hS : va_S A s.heap H locs) {q : Nat} (ho : isO js q 23) {i : Int32} {v : Int64} (hi : ixb i (ln q) = true) (hy : sl x q (ix i) v = y) (hdg : decode cc pc = .ok (.lastore, 1))
    (kk : ∀ H1 locs1, Wd E ad js y H1 → va_S A s.heap H1 locs1 → W p l e R s m args below meth c H1 locs1 cells slots Q (F0 m (pc + 1) ls rest)) : W p l e R s m args below meth c H locs cells slots Q (F0 m pc ls (.long v :: .int i :: .ref (ad q) :: rest)) := by
  subst hy; exact rsL C0 hap hP hS ho hi hdg kk
theorem rmax (C0 : Cx E A own cc nL rt p s m args meth c) {index : Nat} {x y : Int32} (hls : ls.size = nL) (hl : Cond.methodLink own index yy_MA_max ∈ gtb) (hroom : (rest.map fun v => v.category).sum ≤ 8) (hR : 1 ≤ R.frames ∧ 21 ≤ R.locals) (hf : cells ≤ R.cells ∧ slots ≤ R.slots) (hdg : decode cc pc = .ok (.invokestatic index, 3))
    (kk : W p l e R s m args below meth c H locs cells slots Q (F0 m (pc + 3) ls (.int (imax x y) :: rest))) : W p l e R s m args below meth c H locs cells slots Q (F0 m pc ls (.int y :: .int x :: rest)) := by
  obtain ⟨hx, hb, hml, -, hown, hts, -, hK⟩ := C0
  exact va_mmax hx hb (hml.trans hls.symm) hown (hts _ hl) (hts _ gw_static_MA_max) (hts _ gw_ini_MA) (hts _ gw_code_MA_max) hR.1 (by omega) hf.1 hf.2 hdg kk
theorem rmin (C0 : Cx E A own cc nL rt p s m args meth c) {index : Nat} {x y : Int32} (hls : ls.size = nL) (hl : Cond.methodLink own index yy_MA_min ∈ gtb) (hroom : (rest.map fun v => v.category).sum ≤ 8) (hR : 1 ≤ R.frames ∧ 21 ≤ R.locals) (hf : cells ≤ R.cells ∧ slots ≤ R.slots) (hdg : decode cc pc = .ok (.invokestatic index, 3))
    (kk : W p l e R s m args below meth c H locs cells slots Q (F0 m (pc + 3) ls (.int (imin x y) :: rest))) : W p l e R s m args below meth c H locs cells slots Q (F0 m pc ls (.int y :: .int x :: rest)) := by
  obtain ⟨hx, hb, hml, -, hown, hts, -, hK⟩ := C0
  exact va_mmin hx hb (hml.trans hls.symm) hown (hts _ hl) (hts _ gw_static_MA_min) (hts _ gw_ini_MA) (hts _ gw_code_MA_min) hR.1 (by omega) hf.1 hf.2 hdg kk
theorem cpI (C0 : Cx E A own cc nL rt p s m args meth c) (hap : Ap ad js A) (hP : Wd E ad js x H) (hS : va_S A s.heap H locs) {q d index : Nat} (ho : isO js q 20) (ho2 : isO js d 20) {sp dp n : Int32} (h1 : spb sp n (ln q) = true) (h2 : spb dp n (ln d) = true) (hy : cpi x q (ix sp) d (ix dp) (ix n) = y) (hls : ls.size = nL) (hl : Cond.methodLink own index arraycopyName ∈ gtb) (hroom : (rest.map fun v => v.category).sum ≤ 8) (hR : 1 ≤ R.frames ∧ 26 ≤ R.locals) (hdg : decode cc pc = .ok (.invokestatic index, 3))
    (kk : ∀ H1 locs1, Wd E ad js y H1 → va_S A s.heap H1 locs1 → W p l e R s m args below meth c H1 locs1 cells slots Q (F0 m (pc + 3) ls rest)) : W p l e R s m args below meth c H locs cells slots Q (F0 m pc ls (.int n :: .int dp :: .ref (ad d) :: .int sp :: .ref (ad q) :: rest)) := by
  subst hy
  refine rcpI C0 hap hP hS ho ho2 h1 h2 hls hl gw_native gw_static_SY_arraycopy gw_ini_SY hR.1 ?_ hdg kk
  have e : nativeFrameWords "java/lang/System" "arraycopy" 5 = 7 := by decide
  omega
theorem cpL (C0 : Cx E A own cc nL rt p s m args meth c) (hap : Ap ad js A) (hP : Wd E ad js x H) (hS : va_S A s.heap H locs) {q d index : Nat} (ho : isO js q 23) (ho2 : isO js d 23) {sp dp n : Int32} (h1 : spb sp n (ln q) = true) (h2 : spb dp n (ln d) = true) (hy : cpl x q (ix sp) d (ix dp) (ix n) = y) (hls : ls.size = nL) (hl : Cond.methodLink own index arraycopyName ∈ gtb) (hroom : (rest.map fun v => v.category).sum ≤ 8) (hR : 1 ≤ R.frames ∧ 26 ≤ R.locals) (hdg : decode cc pc = .ok (.invokestatic index, 3))
    (kk : ∀ H1 locs1, Wd E ad js y H1 → va_S A s.heap H1 locs1 → W p l e R s m args below meth c H1 locs1 cells slots Q (F0 m (pc + 3) ls rest)) : W p l e R s m args below meth c H locs cells slots Q (F0 m pc ls (.int n :: .int dp :: .ref (ad d) :: .int sp :: .ref (ad q) :: rest)) := by
  subst hy
  refine rcpL C0 hap hP hS ho ho2 h1 h2 hls hl gw_native gw_static_SY_arraycopy gw_ini_SY hR.1 ?_ hdg kk
  have e : nativeFrameWords "java/lang/System" "arraycopy" 5 = 7 := by decide
  omega
end Rows2
section FieldRows
variable {p : Program} {l : Launch} {e : Env} {R : Room} {s : State} {m : MethodId} {args : Array Value} {below : List Frame} {meth : Method} {c : Code} {H : Heap} {locs : List Loc} {cells slots : Nat} {Q : State → Prop}
variable {cc : ByteArray} {pc : Nat} {ls : Array Slot} {rest : List Value} {E : Ev} {A : Nat → Prop} {ad : Nat → Nat} {js : List Nat} {x y : St} {nL : Nat} {rt : Option FieldType} {q : Nat}
theorem gf_LE_15 (C0 : Cx E A RLE cc nL rt p s m args meth c) (hP : Wd E ad js x H) (ho : isO js q 1) (hdg : decode cc pc = .ok (.getfield 15, 3)) (kk : W p l e R s m args below meth c H locs cells slots Q (F0 m (pc + 3) ls (.int (gi x q 0) :: rest))) : W p l e R s m args below meth c H locs cells slots Q (F0 m pc ls (.ref (ad q) :: rest)) := rgI C0 hP ho vcl_1 (by decide) rfl ig_LE (by decide) rfl rfl gw_f_LE_15 hdg kk
theorem gf_LE_21 (C0 : Cx E A RLE cc nL rt p s m args meth c) (hP : Wd E ad js x H) (ho : isO js q 1) (hdg : decode cc pc = .ok (.getfield 21, 3)) (kk : W p l e R s m args below meth c H locs cells slots Q (F0 m (pc + 3) ls (.int (gi x q 1) :: rest))) : W p l e R s m args below meth c H locs cells slots Q (F0 m pc ls (.ref (ad q) :: rest)) := rgI C0 hP ho vcl_1 (by decide) rfl ig_LE (by decide) rfl rfl gw_f_LE_21 hdg kk
theorem gf_LE_24 (C0 : Cx E A RLE cc nL rt p s m args meth c) (hP : Wd E ad js x H) (ho : isO js q 1) (hdg : decode cc pc = .ok (.getfield 24, 3)) (kk : W p l e R s m args below meth c H locs cells slots Q (F0 m (pc + 3) ls (.ref (ad (rf q 2)) :: rest))) : W p l e R s m args below meth c H locs cells slots Q (F0 m pc ls (.ref (ad q) :: rest)) := rgR C0 hP ho vcl_1 (by decide) rfl ig_LE (by decide) rfl rfl gw_f_LE_24 hdg kk
theorem gf_LE_28 (C0 : Cx E A RLE cc nL rt p s m args meth c) (hP : Wd E ad js x H) (ho : isO js q 1) (hdg : decode cc pc = .ok (.getfield 28, 3)) (kk : W p l e R s m args below meth c H locs cells slots Q (F0 m (pc + 3) ls (.int (gi x q 3) :: rest))) : W p l e R s m args below meth c H locs cells slots Q (F0 m pc ls (.ref (ad q) :: rest)) := rgI C0 hP ho vcl_1 (by decide) rfl ig_LE (by decide) rfl rfl gw_f_LE_28 hdg kk
theorem pf_LE_28 (C0 : Cx E A RLE cc nL rt p s m args meth c) (hap : Ap ad js A) (hP : Wd E ad js x H) (hS : va_S A s.heap H locs) {v : Int32} (ho : isO js q 1) (hy : si x q 3 v = y) (hdg : decode cc pc = .ok (.putfield 28, 3)) (kk : ∀ H1 locs1, Wd E ad js y H1 → va_S A s.heap H1 locs1 → W p l e R s m args below meth c H1 locs1 cells slots Q (F0 m (pc + 3) ls rest)) : W p l e R s m args below meth c H locs cells slots Q (F0 m pc ls (.int v :: .ref (ad q) :: rest)) := by
  subst hy
  exact rpI C0 hap hP hS ho vcl_1 (by decide) rfl ig_LE ty_LE nm_LE (by decide) rfl rfl rfl rfl gw_f_LE_28 hdg kk
theorem gf_SH_50 (C0 : Cx E A RSH cc nL rt p s m args meth c) (hP : Wd E ad js x H) (ho : isO js q 1) (hdg : decode cc pc = .ok (.getfield 50, 3)) (kk : W p l e R s m args below meth c H locs cells slots Q (F0 m (pc + 3) ls (.int (gi x q 3) :: rest))) : W p l e R s m args below meth c H locs cells slots Q (F0 m pc ls (.ref (ad q) :: rest)) := rgIN C0 hP ho vcl_1 (by decide) rfl ig_LE (by decide) rfl rfl gw_f_SH_50 hdg kk
theorem pf_SH_50 (C0 : Cx E A RSH cc nL rt p s m args meth c) (hap : Ap ad js A) (hP : Wd E ad js x H) (hS : va_S A s.heap H locs) {v : Int32} (ho : isO js q 1) (hy : si x q 3 v = y) (hdg : decode cc pc = .ok (.putfield 50, 3)) (kk : ∀ H1 locs1, Wd E ad js y H1 → va_S A s.heap H1 locs1 → W p l e R s m args below meth c H1 locs1 cells slots Q (F0 m (pc + 3) ls rest)) : W p l e R s m args below meth c H locs cells slots Q (F0 m pc ls (.int v :: .ref (ad q) :: rest)) := by
  subst hy
  exact rpIN C0 hap hP hS ho vcl_1 (by decide) rfl ig_LE ty_LE nm_LE (by decide) rfl rfl rfl rfl gw_f_SH_50 hdg kk
theorem gf_HI_28 (C0 : Cx E A RHI cc nL rt p s m args meth c) (hP : Wd E ad js x H) (ho : isO js q 1) (hdg : decode cc pc = .ok (.getfield 28, 3)) (kk : W p l e R s m args below meth c H locs cells slots Q (F0 m (pc + 3) ls (.int (gi x q 3) :: rest))) : W p l e R s m args below meth c H locs cells slots Q (F0 m pc ls (.ref (ad q) :: rest)) := rgIN C0 hP ho vcl_1 (by decide) rfl ig_LE (by decide) rfl rfl gw_f_HI_28 hdg kk
theorem pf_HI_28 (C0 : Cx E A RHI cc nL rt p s m args meth c) (hap : Ap ad js A) (hP : Wd E ad js x H) (hS : va_S A s.heap H locs) {v : Int32} (ho : isO js q 1) (hy : si x q 3 v = y) (hdg : decode cc pc = .ok (.putfield 28, 3)) (kk : ∀ H1 locs1, Wd E ad js y H1 → va_S A s.heap H1 locs1 → W p l e R s m args below meth c H1 locs1 cells slots Q (F0 m (pc + 3) ls rest)) : W p l e R s m args below meth c H locs cells slots Q (F0 m pc ls (.int v :: .ref (ad q) :: rest)) := by
  subst hy
  exact rpIN C0 hap hP hS ho vcl_1 (by decide) rfl ig_LE ty_LE nm_LE (by decide) rfl rfl rfl rfl gw_f_HI_28 hdg kk
theorem gf_GG_96 (C0 : Cx E A RGG cc nL rt p s m args meth c) (hP : Wd E ad js x H) (ho : isO js q 1) (hdg : decode cc pc = .ok (.getfield 96, 3)) (kk : W p l e R s m args below meth c H locs cells slots Q (F0 m (pc + 3) ls (.int (gi x q 3) :: rest))) : W p l e R s m args below meth c H locs cells slots Q (F0 m pc ls (.ref (ad q) :: rest)) := rgIN C0 hP ho vcl_1 (by decide) rfl ig_LE (by decide) rfl rfl gw_f_GG_96 hdg kk
theorem pf_GG_96 (C0 : Cx E A RGG cc nL rt p s m args meth c) (hap : Ap ad js A) (hP : Wd E ad js x H) (hS : va_S A s.heap H locs) {v : Int32} (ho : isO js q 1) (hy : si x q 3 v = y) (hdg : decode cc pc = .ok (.putfield 96, 3)) (kk : ∀ H1 locs1, Wd E ad js y H1 → va_S A s.heap H1 locs1 → W p l e R s m args below meth c H1 locs1 cells slots Q (F0 m (pc + 3) ls rest)) : W p l e R s m args below meth c H locs cells slots Q (F0 m pc ls (.int v :: .ref (ad q) :: rest)) := by
  subst hy
  exact rpIN C0 hap hP hS ho vcl_1 (by decide) rfl ig_LE ty_LE nm_LE (by decide) rfl rfl rfl rfl gw_f_GG_96 hdg kk
theorem gf_RE_115 (C0 : Cx E A RRE cc nL rt p s m args meth c) (hP : Wd E ad js x H) (ho : isO js q 1) (hdg : decode cc pc = .ok (.getfield 115, 3)) (kk : W p l e R s m args below meth c H locs cells slots Q (F0 m (pc + 3) ls (.int (gi x q 3) :: rest))) : W p l e R s m args below meth c H locs cells slots Q (F0 m pc ls (.ref (ad q) :: rest)) := rgIN C0 hP ho vcl_1 (by decide) rfl ig_LE (by decide) rfl rfl gw_f_RE_115 hdg kk
theorem pf_RE_115 (C0 : Cx E A RRE cc nL rt p s m args meth c) (hap : Ap ad js A) (hP : Wd E ad js x H) (hS : va_S A s.heap H locs) {v : Int32} (ho : isO js q 1) (hy : si x q 3 v = y) (hdg : decode cc pc = .ok (.putfield 115, 3)) (kk : ∀ H1 locs1, Wd E ad js y H1 → va_S A s.heap H1 locs1 → W p l e R s m args below meth c H1 locs1 cells slots Q (F0 m (pc + 3) ls rest)) : W p l e R s m args below meth c H locs cells slots Q (F0 m pc ls (.int v :: .ref (ad q) :: rest)) := by
  subst hy
  exact rpIN C0 hap hP hS ho vcl_1 (by decide) rfl ig_LE ty_LE nm_LE (by decide) rfl rfl rfl rfl gw_f_RE_115 hdg kk
theorem gf_OU_90 (C0 : Cx E A ROU cc nL rt p s m args meth c) (hP : Wd E ad js x H) (ho : isO js q 1) (hdg : decode cc pc = .ok (.getfield 90, 3)) (kk : W p l e R s m args below meth c H locs cells slots Q (F0 m (pc + 3) ls (.int (gi x q 3) :: rest))) : W p l e R s m args below meth c H locs cells slots Q (F0 m pc ls (.ref (ad q) :: rest)) := rgIN C0 hP ho vcl_1 (by decide) rfl ig_LE (by decide) rfl rfl gw_f_OU_90 hdg kk
theorem pf_OU_90 (C0 : Cx E A ROU cc nL rt p s m args meth c) (hap : Ap ad js A) (hP : Wd E ad js x H) (hS : va_S A s.heap H locs) {v : Int32} (ho : isO js q 1) (hy : si x q 3 v = y) (hdg : decode cc pc = .ok (.putfield 90, 3)) (kk : ∀ H1 locs1, Wd E ad js y H1 → va_S A s.heap H1 locs1 → W p l e R s m args below meth c H1 locs1 cells slots Q (F0 m (pc + 3) ls rest)) : W p l e R s m args below meth c H locs cells slots Q (F0 m pc ls (.int v :: .ref (ad q) :: rest)) := by
  subst hy
  exact rpIN C0 hap hP hS ho vcl_1 (by decide) rfl ig_LE ty_LE nm_LE (by decide) rfl rfl rfl rfl gw_f_OU_90 hdg kk
theorem gf_SH_14 (C0 : Cx E A RSH cc nL rt p s m args meth c) (hP : Wd E ad js x H) (ho : isO js q 4) (hdg : decode cc pc = .ok (.getfield 14, 3)) (kk : W p l e R s m args below meth c H locs cells slots Q (F0 m (pc + 3) ls (.ref (ad (rf q 0)) :: rest))) : W p l e R s m args below meth c H locs cells slots Q (F0 m pc ls (.ref (ad q) :: rest)) := rgR C0 hP ho vcl_4 (by decide) rfl ig_SH (by decide) rfl rfl gw_f_SH_14 hdg kk
theorem gf_HI_22 (C0 : Cx E A RHI cc nL rt p s m args meth c) (hP : Wd E ad js x H) (ho : isO js q 4) (hdg : decode cc pc = .ok (.getfield 22, 3)) (kk : W p l e R s m args below meth c H locs cells slots Q (F0 m (pc + 3) ls (.ref (ad (rf q 0)) :: rest))) : W p l e R s m args below meth c H locs cells slots Q (F0 m pc ls (.ref (ad q) :: rest)) := rgRN C0 hP ho vcl_4 (by decide) rfl ig_SH (by decide) rfl rfl gw_f_HI_22 hdg kk
theorem gf_GG_57 (C0 : Cx E A RGG cc nL rt p s m args meth c) (hP : Wd E ad js x H) (ho : isO js q 4) (hdg : decode cc pc = .ok (.getfield 57, 3)) (kk : W p l e R s m args below meth c H locs cells slots Q (F0 m (pc + 3) ls (.ref (ad (rf q 0)) :: rest))) : W p l e R s m args below meth c H locs cells slots Q (F0 m pc ls (.ref (ad q) :: rest)) := rgRN C0 hP ho vcl_4 (by decide) rfl ig_SH (by decide) rfl rfl gw_f_GG_57 hdg kk
theorem gf_RE_81 (C0 : Cx E A RRE cc nL rt p s m args meth c) (hP : Wd E ad js x H) (ho : isO js q 4) (hdg : decode cc pc = .ok (.getfield 81, 3)) (kk : W p l e R s m args below meth c H locs cells slots Q (F0 m (pc + 3) ls (.ref (ad (rf q 0)) :: rest))) : W p l e R s m args below meth c H locs cells slots Q (F0 m pc ls (.ref (ad q) :: rest)) := rgRN C0 hP ho vcl_4 (by decide) rfl ig_SH (by decide) rfl rfl gw_f_RE_81 hdg kk
theorem gf_SH_20 (C0 : Cx E A RSH cc nL rt p s m args meth c) (hP : Wd E ad js x H) (ho : isO js q 4) (hdg : decode cc pc = .ok (.getfield 20, 3)) (kk : W p l e R s m args below meth c H locs cells slots Q (F0 m (pc + 3) ls (.ref (ad (rf q 1)) :: rest))) : W p l e R s m args below meth c H locs cells slots Q (F0 m pc ls (.ref (ad q) :: rest)) := rgR C0 hP ho vcl_4 (by decide) rfl ig_SH (by decide) rfl rfl gw_f_SH_20 hdg kk
theorem gf_GG_74 (C0 : Cx E A RGG cc nL rt p s m args meth c) (hP : Wd E ad js x H) (ho : isO js q 4) (hdg : decode cc pc = .ok (.getfield 74, 3)) (kk : W p l e R s m args below meth c H locs cells slots Q (F0 m (pc + 3) ls (.ref (ad (rf q 1)) :: rest))) : W p l e R s m args below meth c H locs cells slots Q (F0 m pc ls (.ref (ad q) :: rest)) := rgRN C0 hP ho vcl_4 (by decide) rfl ig_SH (by decide) rfl rfl gw_f_GG_74 hdg kk
theorem gf_HI_76 (C0 : Cx E A RHI cc nL rt p s m args meth c) (hP : Wd E ad js x H) (ho : isO js q 4) (hdg : decode cc pc = .ok (.getfield 76, 3)) (kk : W p l e R s m args below meth c H locs cells slots Q (F0 m (pc + 3) ls (.ref (ad (rf q 1)) :: rest))) : W p l e R s m args below meth c H locs cells slots Q (F0 m pc ls (.ref (ad q) :: rest)) := rgRN C0 hP ho vcl_4 (by decide) rfl ig_SH (by decide) rfl rfl gw_f_HI_76 hdg kk
theorem gf_RE_102 (C0 : Cx E A RRE cc nL rt p s m args meth c) (hP : Wd E ad js x H) (ho : isO js q 4) (hdg : decode cc pc = .ok (.getfield 102, 3)) (kk : W p l e R s m args below meth c H locs cells slots Q (F0 m (pc + 3) ls (.ref (ad (rf q 1)) :: rest))) : W p l e R s m args below meth c H locs cells slots Q (F0 m pc ls (.ref (ad q) :: rest)) := rgRN C0 hP ho vcl_4 (by decide) rfl ig_SH (by decide) rfl rfl gw_f_RE_102 hdg kk
theorem gf_OU_109 (C0 : Cx E A ROU cc nL rt p s m args meth c) (hP : Wd E ad js x H) (ho : isO js q 4) (hdg : decode cc pc = .ok (.getfield 109, 3)) (kk : W p l e R s m args below meth c H locs cells slots Q (F0 m (pc + 3) ls (.ref (ad (rf q 1)) :: rest))) : W p l e R s m args below meth c H locs cells slots Q (F0 m pc ls (.ref (ad q) :: rest)) := rgRN C0 hP ho vcl_4 (by decide) rfl ig_SH (by decide) rfl rfl gw_f_OU_109 hdg kk
theorem gf_SH_23 (C0 : Cx E A RSH cc nL rt p s m args meth c) (hP : Wd E ad js x H) (ho : isO js q 4) (hdg : decode cc pc = .ok (.getfield 23, 3)) (kk : W p l e R s m args below meth c H locs cells slots Q (F0 m (pc + 3) ls (.ref (ad (rf q 2)) :: rest))) : W p l e R s m args below meth c H locs cells slots Q (F0 m pc ls (.ref (ad q) :: rest)) := rgR C0 hP ho vcl_4 (by decide) rfl ig_SH (by decide) rfl rfl gw_f_SH_23 hdg kk
theorem gf_HI_59 (C0 : Cx E A RHI cc nL rt p s m args meth c) (hP : Wd E ad js x H) (ho : isO js q 4) (hdg : decode cc pc = .ok (.getfield 59, 3)) (kk : W p l e R s m args below meth c H locs cells slots Q (F0 m (pc + 3) ls (.ref (ad (rf q 2)) :: rest))) : W p l e R s m args below meth c H locs cells slots Q (F0 m pc ls (.ref (ad q) :: rest)) := rgRN C0 hP ho vcl_4 (by decide) rfl ig_SH (by decide) rfl rfl gw_f_HI_59 hdg kk
theorem gf_GG_83 (C0 : Cx E A RGG cc nL rt p s m args meth c) (hP : Wd E ad js x H) (ho : isO js q 4) (hdg : decode cc pc = .ok (.getfield 83, 3)) (kk : W p l e R s m args below meth c H locs cells slots Q (F0 m (pc + 3) ls (.ref (ad (rf q 2)) :: rest))) : W p l e R s m args below meth c H locs cells slots Q (F0 m pc ls (.ref (ad q) :: rest)) := rgRN C0 hP ho vcl_4 (by decide) rfl ig_SH (by decide) rfl rfl gw_f_GG_83 hdg kk
theorem gf_RE_105 (C0 : Cx E A RRE cc nL rt p s m args meth c) (hP : Wd E ad js x H) (ho : isO js q 4) (hdg : decode cc pc = .ok (.getfield 105, 3)) (kk : W p l e R s m args below meth c H locs cells slots Q (F0 m (pc + 3) ls (.ref (ad (rf q 2)) :: rest))) : W p l e R s m args below meth c H locs cells slots Q (F0 m pc ls (.ref (ad q) :: rest)) := rgRN C0 hP ho vcl_4 (by decide) rfl ig_SH (by decide) rfl rfl gw_f_RE_105 hdg kk
theorem gf_SH_26 (C0 : Cx E A RSH cc nL rt p s m args meth c) (hP : Wd E ad js x H) (ho : isO js q 4) (hdg : decode cc pc = .ok (.getfield 26, 3)) (kk : W p l e R s m args below meth c H locs cells slots Q (F0 m (pc + 3) ls (.ref (ad (rf q 3)) :: rest))) : W p l e R s m args below meth c H locs cells slots Q (F0 m pc ls (.ref (ad q) :: rest)) := rgR C0 hP ho vcl_4 (by decide) rfl ig_SH (by decide) rfl rfl gw_f_SH_26 hdg kk
theorem gf_GG_90 (C0 : Cx E A RGG cc nL rt p s m args meth c) (hP : Wd E ad js x H) (ho : isO js q 4) (hdg : decode cc pc = .ok (.getfield 90, 3)) (kk : W p l e R s m args below meth c H locs cells slots Q (F0 m (pc + 3) ls (.ref (ad (rf q 3)) :: rest))) : W p l e R s m args below meth c H locs cells slots Q (F0 m pc ls (.ref (ad q) :: rest)) := rgRN C0 hP ho vcl_4 (by decide) rfl ig_SH (by decide) rfl rfl gw_f_GG_90 hdg kk
theorem gf_RE_112 (C0 : Cx E A RRE cc nL rt p s m args meth c) (hP : Wd E ad js x H) (ho : isO js q 4) (hdg : decode cc pc = .ok (.getfield 112, 3)) (kk : W p l e R s m args below meth c H locs cells slots Q (F0 m (pc + 3) ls (.ref (ad (rf q 3)) :: rest))) : W p l e R s m args below meth c H locs cells slots Q (F0 m pc ls (.ref (ad q) :: rest)) := rgRN C0 hP ho vcl_4 (by decide) rfl ig_SH (by decide) rfl rfl gw_f_RE_112 hdg kk
theorem gf_OU_102 (C0 : Cx E A ROU cc nL rt p s m args meth c) (hP : Wd E ad js x H) (ho : isO js q 4) (hdg : decode cc pc = .ok (.getfield 102, 3)) (kk : W p l e R s m args below meth c H locs cells slots Q (F0 m (pc + 3) ls (.ref (ad (rf q 3)) :: rest))) : W p l e R s m args below meth c H locs cells slots Q (F0 m pc ls (.ref (ad q) :: rest)) := rgRN C0 hP ho vcl_4 (by decide) rfl ig_SH (by decide) rfl rfl gw_f_OU_102 hdg kk
theorem gf_SH_29 (C0 : Cx E A RSH cc nL rt p s m args meth c) (hP : Wd E ad js x H) (ho : isO js q 4) (hdg : decode cc pc = .ok (.getfield 29, 3)) (kk : W p l e R s m args below meth c H locs cells slots Q (F0 m (pc + 3) ls (.ref (ad (rf q 4)) :: rest))) : W p l e R s m args below meth c H locs cells slots Q (F0 m pc ls (.ref (ad q) :: rest)) := rgR C0 hP ho vcl_4 (by decide) rfl ig_SH (by decide) rfl rfl gw_f_SH_29 hdg kk
theorem gf_GG_181 (C0 : Cx E A RGG cc nL rt p s m args meth c) (hP : Wd E ad js x H) (ho : isO js q 4) (hdg : decode cc pc = .ok (.getfield 181, 3)) (kk : W p l e R s m args below meth c H locs cells slots Q (F0 m (pc + 3) ls (.ref (ad (rf q 4)) :: rest))) : W p l e R s m args below meth c H locs cells slots Q (F0 m pc ls (.ref (ad q) :: rest)) := rgRN C0 hP ho vcl_4 (by decide) rfl ig_SH (by decide) rfl rfl gw_f_GG_181 hdg kk
theorem gf_SH_34 (C0 : Cx E A RSH cc nL rt p s m args meth c) (hP : Wd E ad js x H) (ho : isO js q 4) (hdg : decode cc pc = .ok (.getfield 34, 3)) (kk : W p l e R s m args below meth c H locs cells slots Q (F0 m (pc + 3) ls (.ref (ad (rf q 5)) :: rest))) : W p l e R s m args below meth c H locs cells slots Q (F0 m pc ls (.ref (ad q) :: rest)) := rgR C0 hP ho vcl_4 (by decide) rfl ig_SH (by decide) rfl rfl gw_f_SH_34 hdg kk
theorem gf_SH_37 (C0 : Cx E A RSH cc nL rt p s m args meth c) (hP : Wd E ad js x H) (ho : isO js q 4) (hdg : decode cc pc = .ok (.getfield 37, 3)) (kk : W p l e R s m args below meth c H locs cells slots Q (F0 m (pc + 3) ls (.ref (ad (rf q 6)) :: rest))) : W p l e R s m args below meth c H locs cells slots Q (F0 m pc ls (.ref (ad q) :: rest)) := rgR C0 hP ho vcl_4 (by decide) rfl ig_SH (by decide) rfl rfl gw_f_SH_37 hdg kk
theorem gf_SH_41 (C0 : Cx E A RSH cc nL rt p s m args meth c) (hP : Wd E ad js x H) (ho : isO js q 4) (hdg : decode cc pc = .ok (.getfield 41, 3)) (kk : W p l e R s m args below meth c H locs cells slots Q (F0 m (pc + 3) ls (.ref (ad (rf q 7)) :: rest))) : W p l e R s m args below meth c H locs cells slots Q (F0 m pc ls (.ref (ad q) :: rest)) := rgR C0 hP ho vcl_4 (by decide) rfl ig_SH (by decide) rfl rfl gw_f_SH_41 hdg kk
theorem gf_SH_54 (C0 : Cx E A RSH cc nL rt p s m args meth c) (hP : Wd E ad js x H) (ho : isO js q 4) (hdg : decode cc pc = .ok (.getfield 54, 3)) (kk : W p l e R s m args below meth c H locs cells slots Q (F0 m (pc + 3) ls (.int (gi x q 8) :: rest))) : W p l e R s m args below meth c H locs cells slots Q (F0 m pc ls (.ref (ad q) :: rest)) := rgI C0 hP ho vcl_4 (by decide) rfl ig_SH (by decide) rfl rfl gw_f_SH_54 hdg kk
theorem pf_SH_54 (C0 : Cx E A RSH cc nL rt p s m args meth c) (hap : Ap ad js A) (hP : Wd E ad js x H) (hS : va_S A s.heap H locs) {v : Int32} (ho : isO js q 4) (hy : si x q 8 v = y) (hdg : decode cc pc = .ok (.putfield 54, 3)) (kk : ∀ H1 locs1, Wd E ad js y H1 → va_S A s.heap H1 locs1 → W p l e R s m args below meth c H1 locs1 cells slots Q (F0 m (pc + 3) ls rest)) : W p l e R s m args below meth c H locs cells slots Q (F0 m pc ls (.int v :: .ref (ad q) :: rest)) := by
  subst hy
  exact rpI C0 hap hP hS ho vcl_4 (by decide) rfl ig_SH ty_SH nm_SH (by decide) rfl rfl rfl rfl gw_f_SH_54 hdg kk
theorem gf_GG_128 (C0 : Cx E A RGG cc nL rt p s m args meth c) (hP : Wd E ad js x H) (ho : isO js q 4) (hdg : decode cc pc = .ok (.getfield 128, 3)) (kk : W p l e R s m args below meth c H locs cells slots Q (F0 m (pc + 3) ls (.int (gi x q 8) :: rest))) : W p l e R s m args below meth c H locs cells slots Q (F0 m pc ls (.ref (ad q) :: rest)) := rgIN C0 hP ho vcl_4 (by decide) rfl ig_SH (by decide) rfl rfl gw_f_GG_128 hdg kk
theorem pf_GG_128 (C0 : Cx E A RGG cc nL rt p s m args meth c) (hap : Ap ad js A) (hP : Wd E ad js x H) (hS : va_S A s.heap H locs) {v : Int32} (ho : isO js q 4) (hy : si x q 8 v = y) (hdg : decode cc pc = .ok (.putfield 128, 3)) (kk : ∀ H1 locs1, Wd E ad js y H1 → va_S A s.heap H1 locs1 → W p l e R s m args below meth c H1 locs1 cells slots Q (F0 m (pc + 3) ls rest)) : W p l e R s m args below meth c H locs cells slots Q (F0 m pc ls (.int v :: .ref (ad q) :: rest)) := by
  subst hy
  exact rpIN C0 hap hP hS ho vcl_4 (by decide) rfl ig_SH ty_SH nm_SH (by decide) rfl rfl rfl rfl gw_f_GG_128 hdg kk
theorem gf_OU_31 (C0 : Cx E A ROU cc nL rt p s m args meth c) (hP : Wd E ad js x H) (ho : isO js q 4) (hdg : decode cc pc = .ok (.getfield 31, 3)) (kk : W p l e R s m args below meth c H locs cells slots Q (F0 m (pc + 3) ls (.int (gi x q 9) :: rest))) : W p l e R s m args below meth c H locs cells slots Q (F0 m pc ls (.ref (ad q) :: rest)) := rgIN C0 hP ho vcl_4 (by decide) rfl ig_SH (by decide) rfl rfl gw_f_OU_31 hdg kk
theorem pf_OU_31 (C0 : Cx E A ROU cc nL rt p s m args meth c) (hap : Ap ad js A) (hP : Wd E ad js x H) (hS : va_S A s.heap H locs) {v : Int32} (ho : isO js q 4) (hy : si x q 9 v = y) (hdg : decode cc pc = .ok (.putfield 31, 3)) (kk : ∀ H1 locs1, Wd E ad js y H1 → va_S A s.heap H1 locs1 → W p l e R s m args below meth c H1 locs1 cells slots Q (F0 m (pc + 3) ls rest)) : W p l e R s m args below meth c H locs cells slots Q (F0 m pc ls (.int v :: .ref (ad q) :: rest)) := by
  subst hy
  exact rpIN C0 hap hP hS ho vcl_4 (by decide) rfl ig_SH ty_SH nm_SH (by decide) rfl rfl rfl rfl gw_f_OU_31 hdg kk
theorem gf_SH_57 (C0 : Cx E A RSH cc nL rt p s m args meth c) (hP : Wd E ad js x H) (ho : isO js q 4) (hdg : decode cc pc = .ok (.getfield 57, 3)) (kk : W p l e R s m args below meth c H locs cells slots Q (F0 m (pc + 3) ls (.int (gi x q 9) :: rest))) : W p l e R s m args below meth c H locs cells slots Q (F0 m pc ls (.ref (ad q) :: rest)) := rgI C0 hP ho vcl_4 (by decide) rfl ig_SH (by decide) rfl rfl gw_f_SH_57 hdg kk
theorem pf_SH_57 (C0 : Cx E A RSH cc nL rt p s m args meth c) (hap : Ap ad js A) (hP : Wd E ad js x H) (hS : va_S A s.heap H locs) {v : Int32} (ho : isO js q 4) (hy : si x q 9 v = y) (hdg : decode cc pc = .ok (.putfield 57, 3)) (kk : ∀ H1 locs1, Wd E ad js y H1 → va_S A s.heap H1 locs1 → W p l e R s m args below meth c H1 locs1 cells slots Q (F0 m (pc + 3) ls rest)) : W p l e R s m args below meth c H locs cells slots Q (F0 m pc ls (.int v :: .ref (ad q) :: rest)) := by
  subst hy
  exact rpI C0 hap hP hS ho vcl_4 (by decide) rfl ig_SH ty_SH nm_SH (by decide) rfl rfl rfl rfl gw_f_SH_57 hdg kk
theorem gf_HI_66 (C0 : Cx E A RHI cc nL rt p s m args meth c) (hP : Wd E ad js x H) (ho : isO js q 4) (hdg : decode cc pc = .ok (.getfield 66, 3)) (kk : W p l e R s m args below meth c H locs cells slots Q (F0 m (pc + 3) ls (.int (gi x q 9) :: rest))) : W p l e R s m args below meth c H locs cells slots Q (F0 m pc ls (.ref (ad q) :: rest)) := rgIN C0 hP ho vcl_4 (by decide) rfl ig_SH (by decide) rfl rfl gw_f_HI_66 hdg kk
theorem pf_HI_66 (C0 : Cx E A RHI cc nL rt p s m args meth c) (hap : Ap ad js A) (hP : Wd E ad js x H) (hS : va_S A s.heap H locs) {v : Int32} (ho : isO js q 4) (hy : si x q 9 v = y) (hdg : decode cc pc = .ok (.putfield 66, 3)) (kk : ∀ H1 locs1, Wd E ad js y H1 → va_S A s.heap H1 locs1 → W p l e R s m args below meth c H1 locs1 cells slots Q (F0 m (pc + 3) ls rest)) : W p l e R s m args below meth c H locs cells slots Q (F0 m pc ls (.int v :: .ref (ad q) :: rest)) := by
  subst hy
  exact rpIN C0 hap hP hS ho vcl_4 (by decide) rfl ig_SH ty_SH nm_SH (by decide) rfl rfl rfl rfl gw_f_HI_66 hdg kk
theorem gf_GG_117 (C0 : Cx E A RGG cc nL rt p s m args meth c) (hP : Wd E ad js x H) (ho : isO js q 4) (hdg : decode cc pc = .ok (.getfield 117, 3)) (kk : W p l e R s m args below meth c H locs cells slots Q (F0 m (pc + 3) ls (.int (gi x q 9) :: rest))) : W p l e R s m args below meth c H locs cells slots Q (F0 m pc ls (.ref (ad q) :: rest)) := rgIN C0 hP ho vcl_4 (by decide) rfl ig_SH (by decide) rfl rfl gw_f_GG_117 hdg kk
theorem pf_GG_117 (C0 : Cx E A RGG cc nL rt p s m args meth c) (hap : Ap ad js A) (hP : Wd E ad js x H) (hS : va_S A s.heap H locs) {v : Int32} (ho : isO js q 4) (hy : si x q 9 v = y) (hdg : decode cc pc = .ok (.putfield 117, 3)) (kk : ∀ H1 locs1, Wd E ad js y H1 → va_S A s.heap H1 locs1 → W p l e R s m args below meth c H1 locs1 cells slots Q (F0 m (pc + 3) ls rest)) : W p l e R s m args below meth c H locs cells slots Q (F0 m pc ls (.int v :: .ref (ad q) :: rest)) := by
  subst hy
  exact rpIN C0 hap hP hS ho vcl_4 (by decide) rfl ig_SH ty_SH nm_SH (by decide) rfl rfl rfl rfl gw_f_GG_117 hdg kk
theorem gf_RE_118 (C0 : Cx E A RRE cc nL rt p s m args meth c) (hP : Wd E ad js x H) (ho : isO js q 4) (hdg : decode cc pc = .ok (.getfield 118, 3)) (kk : W p l e R s m args below meth c H locs cells slots Q (F0 m (pc + 3) ls (.int (gi x q 9) :: rest))) : W p l e R s m args below meth c H locs cells slots Q (F0 m pc ls (.ref (ad q) :: rest)) := rgIN C0 hP ho vcl_4 (by decide) rfl ig_SH (by decide) rfl rfl gw_f_RE_118 hdg kk
theorem pf_RE_118 (C0 : Cx E A RRE cc nL rt p s m args meth c) (hap : Ap ad js A) (hP : Wd E ad js x H) (hS : va_S A s.heap H locs) {v : Int32} (ho : isO js q 4) (hy : si x q 9 v = y) (hdg : decode cc pc = .ok (.putfield 118, 3)) (kk : ∀ H1 locs1, Wd E ad js y H1 → va_S A s.heap H1 locs1 → W p l e R s m args below meth c H1 locs1 cells slots Q (F0 m (pc + 3) ls rest)) : W p l e R s m args below meth c H locs cells slots Q (F0 m pc ls (.int v :: .ref (ad q) :: rest)) := by
  subst hy
  exact rpIN C0 hap hP hS ho vcl_4 (by decide) rfl ig_SH ty_SH nm_SH (by decide) rfl rfl rfl rfl gw_f_RE_118 hdg kk
theorem gf_RE_9 (C0 : Cx E A RRE cc nL rt p s m args meth c) (hP : Wd E ad js x H) (ho : isO js q 3) (hdg : decode cc pc = .ok (.getfield 9, 3)) (kk : W p l e R s m args below meth c H locs cells slots Q (F0 m (pc + 3) ls (.ref (ad (rf q 0)) :: rest))) : W p l e R s m args below meth c H locs cells slots Q (F0 m pc ls (.ref (ad q) :: rest)) := rgR C0 hP ho vcl_3 (by decide) rfl ig_RE (by decide) rfl rfl gw_f_RE_9 hdg kk
theorem gf_RE_26 (C0 : Cx E A RRE cc nL rt p s m args meth c) (hP : Wd E ad js x H) (ho : isO js q 3) (hdg : decode cc pc = .ok (.getfield 26, 3)) (kk : W p l e R s m args below meth c H locs cells slots Q (F0 m (pc + 3) ls (.int (gi x q 1) :: rest))) : W p l e R s m args below meth c H locs cells slots Q (F0 m pc ls (.ref (ad q) :: rest)) := rgI C0 hP ho vcl_3 (by decide) rfl ig_RE (by decide) rfl rfl gw_f_RE_26 hdg kk
theorem pf_RE_26 (C0 : Cx E A RRE cc nL rt p s m args meth c) (hap : Ap ad js A) (hP : Wd E ad js x H) (hS : va_S A s.heap H locs) {v : Int32} (ho : isO js q 3) (hy : si x q 1 v = y) (hdg : decode cc pc = .ok (.putfield 26, 3)) (kk : ∀ H1 locs1, Wd E ad js y H1 → va_S A s.heap H1 locs1 → W p l e R s m args below meth c H1 locs1 cells slots Q (F0 m (pc + 3) ls rest)) : W p l e R s m args below meth c H locs cells slots Q (F0 m pc ls (.int v :: .ref (ad q) :: rest)) := by
  subst hy
  exact rpI C0 hap hP hS ho vcl_3 (by decide) rfl ig_RE ty_RE nm_RE (by decide) rfl rfl rfl rfl gw_f_RE_26 hdg kk
theorem gf_GG_134 (C0 : Cx E A RGG cc nL rt p s m args meth c) (hP : Wd E ad js x H) (ho : isO js q 3) (hdg : decode cc pc = .ok (.getfield 134, 3)) (kk : W p l e R s m args below meth c H locs cells slots Q (F0 m (pc + 3) ls (.int (gi x q 1) :: rest))) : W p l e R s m args below meth c H locs cells slots Q (F0 m pc ls (.ref (ad q) :: rest)) := rgIN C0 hP ho vcl_3 (by decide) rfl ig_RE (by decide) rfl rfl gw_f_GG_134 hdg kk
theorem pf_GG_134 (C0 : Cx E A RGG cc nL rt p s m args meth c) (hap : Ap ad js A) (hP : Wd E ad js x H) (hS : va_S A s.heap H locs) {v : Int32} (ho : isO js q 3) (hy : si x q 1 v = y) (hdg : decode cc pc = .ok (.putfield 134, 3)) (kk : ∀ H1 locs1, Wd E ad js y H1 → va_S A s.heap H1 locs1 → W p l e R s m args below meth c H1 locs1 cells slots Q (F0 m (pc + 3) ls rest)) : W p l e R s m args below meth c H locs cells slots Q (F0 m pc ls (.int v :: .ref (ad q) :: rest)) := by
  subst hy
  exact rpIN C0 hap hP hS ho vcl_3 (by decide) rfl ig_RE ty_RE nm_RE (by decide) rfl rfl rfl rfl gw_f_GG_134 hdg kk
theorem gf_RE_32 (C0 : Cx E A RRE cc nL rt p s m args meth c) (hP : Wd E ad js x H) (ho : isO js q 3) (hdg : decode cc pc = .ok (.getfield 32, 3)) (kk : W p l e R s m args below meth c H locs cells slots Q (F0 m (pc + 3) ls (.int (gi x q 2) :: rest))) : W p l e R s m args below meth c H locs cells slots Q (F0 m pc ls (.ref (ad q) :: rest)) := rgI C0 hP ho vcl_3 (by decide) rfl ig_RE (by decide) rfl rfl gw_f_RE_32 hdg kk
theorem pf_RE_32 (C0 : Cx E A RRE cc nL rt p s m args meth c) (hap : Ap ad js A) (hP : Wd E ad js x H) (hS : va_S A s.heap H locs) {v : Int32} (ho : isO js q 3) (hy : si x q 2 v = y) (hdg : decode cc pc = .ok (.putfield 32, 3)) (kk : ∀ H1 locs1, Wd E ad js y H1 → va_S A s.heap H1 locs1 → W p l e R s m args below meth c H1 locs1 cells slots Q (F0 m (pc + 3) ls rest)) : W p l e R s m args below meth c H locs cells slots Q (F0 m pc ls (.int v :: .ref (ad q) :: rest)) := by
  subst hy
  exact rpI C0 hap hP hS ho vcl_3 (by decide) rfl ig_RE ty_RE nm_RE (by decide) rfl rfl rfl rfl gw_f_RE_32 hdg kk
theorem gf_RE_15 (C0 : Cx E A RRE cc nL rt p s m args meth c) (hP : Wd E ad js x H) (ho : isO js q 3) (hdg : decode cc pc = .ok (.getfield 15, 3)) (kk : W p l e R s m args below meth c H locs cells slots Q (F0 m (pc + 3) ls (.int (gi x q 3) :: rest))) : W p l e R s m args below meth c H locs cells slots Q (F0 m pc ls (.ref (ad q) :: rest)) := rgI C0 hP ho vcl_3 (by decide) rfl ig_RE (by decide) rfl rfl gw_f_RE_15 hdg kk
theorem pf_RE_15 (C0 : Cx E A RRE cc nL rt p s m args meth c) (hap : Ap ad js A) (hP : Wd E ad js x H) (hS : va_S A s.heap H locs) {v : Int32} (ho : isO js q 3) (hy : si x q 3 v = y) (hdg : decode cc pc = .ok (.putfield 15, 3)) (kk : ∀ H1 locs1, Wd E ad js y H1 → va_S A s.heap H1 locs1 → W p l e R s m args below meth c H1 locs1 cells slots Q (F0 m (pc + 3) ls rest)) : W p l e R s m args below meth c H locs cells slots Q (F0 m pc ls (.int v :: .ref (ad q) :: rest)) := by
  subst hy
  exact rpI C0 hap hP hS ho vcl_3 (by decide) rfl ig_RE ty_RE nm_RE (by decide) rfl rfl rfl rfl gw_f_RE_15 hdg kk
theorem gf_GG_144 (C0 : Cx E A RGG cc nL rt p s m args meth c) (hP : Wd E ad js x H) (ho : isO js q 3) (hdg : decode cc pc = .ok (.getfield 144, 3)) (kk : W p l e R s m args below meth c H locs cells slots Q (F0 m (pc + 3) ls (.int (gi x q 3) :: rest))) : W p l e R s m args below meth c H locs cells slots Q (F0 m pc ls (.ref (ad q) :: rest)) := rgIN C0 hP ho vcl_3 (by decide) rfl ig_RE (by decide) rfl rfl gw_f_GG_144 hdg kk
theorem pf_GG_144 (C0 : Cx E A RGG cc nL rt p s m args meth c) (hap : Ap ad js A) (hP : Wd E ad js x H) (hS : va_S A s.heap H locs) {v : Int32} (ho : isO js q 3) (hy : si x q 3 v = y) (hdg : decode cc pc = .ok (.putfield 144, 3)) (kk : ∀ H1 locs1, Wd E ad js y H1 → va_S A s.heap H1 locs1 → W p l e R s m args below meth c H1 locs1 cells slots Q (F0 m (pc + 3) ls rest)) : W p l e R s m args below meth c H locs cells slots Q (F0 m pc ls (.int v :: .ref (ad q) :: rest)) := by
  subst hy
  exact rpIN C0 hap hP hS ho vcl_3 (by decide) rfl ig_RE ty_RE nm_RE (by decide) rfl rfl rfl rfl gw_f_GG_144 hdg kk
theorem gf_RE_22 (C0 : Cx E A RRE cc nL rt p s m args meth c) (hP : Wd E ad js x H) (ho : isO js q 3) (hdg : decode cc pc = .ok (.getfield 22, 3)) (kk : W p l e R s m args below meth c H locs cells slots Q (F0 m (pc + 3) ls (.ref (ad (rf q 4)) :: rest))) : W p l e R s m args below meth c H locs cells slots Q (F0 m pc ls (.ref (ad q) :: rest)) := rgR C0 hP ho vcl_3 (by decide) rfl ig_RE (by decide) rfl rfl gw_f_RE_22 hdg kk
theorem gf_GG_147 (C0 : Cx E A RGG cc nL rt p s m args meth c) (hP : Wd E ad js x H) (ho : isO js q 3) (hdg : decode cc pc = .ok (.getfield 147, 3)) (kk : W p l e R s m args below meth c H locs cells slots Q (F0 m (pc + 3) ls (.ref (ad (rf q 4)) :: rest))) : W p l e R s m args below meth c H locs cells slots Q (F0 m pc ls (.ref (ad q) :: rest)) := rgRN C0 hP ho vcl_3 (by decide) rfl ig_RE (by decide) rfl rfl gw_f_GG_147 hdg kk
theorem gf_RE_38 (C0 : Cx E A RRE cc nL rt p s m args meth c) (hP : Wd E ad js x H) (ho : isO js q 3) (hdg : decode cc pc = .ok (.getfield 38, 3)) (kk : W p l e R s m args below meth c H locs cells slots Q (F0 m (pc + 3) ls (.int (gi x q 5) :: rest))) : W p l e R s m args below meth c H locs cells slots Q (F0 m pc ls (.ref (ad q) :: rest)) := rgI C0 hP ho vcl_3 (by decide) rfl ig_RE (by decide) rfl rfl gw_f_RE_38 hdg kk
theorem pf_RE_38 (C0 : Cx E A RRE cc nL rt p s m args meth c) (hap : Ap ad js A) (hP : Wd E ad js x H) (hS : va_S A s.heap H locs) {v : Int32} (ho : isO js q 3) (hy : si x q 5 v = y) (hdg : decode cc pc = .ok (.putfield 38, 3)) (kk : ∀ H1 locs1, Wd E ad js y H1 → va_S A s.heap H1 locs1 → W p l e R s m args below meth c H1 locs1 cells slots Q (F0 m (pc + 3) ls rest)) : W p l e R s m args below meth c H locs cells slots Q (F0 m pc ls (.int v :: .ref (ad q) :: rest)) := by
  subst hy
  exact rpI C0 hap hP hS ho vcl_3 (by decide) rfl ig_RE ty_RE nm_RE (by decide) rfl rfl rfl rfl gw_f_RE_38 hdg kk
theorem gf_RE_142 (C0 : Cx E A RRE cc nL rt p s m args meth c) (hP : Wd E ad js x H) (ho : isO js q 3) (hdg : decode cc pc = .ok (.getfield 142, 3)) (kk : W p l e R s m args below meth c H locs cells slots Q (F0 m (pc + 3) ls (.int (gi x q 6) :: rest))) : W p l e R s m args below meth c H locs cells slots Q (F0 m pc ls (.ref (ad q) :: rest)) := rgI C0 hP ho vcl_3 (by decide) rfl ig_RE (by decide) rfl rfl gw_f_RE_142 hdg kk
theorem pf_RE_142 (C0 : Cx E A RRE cc nL rt p s m args meth c) (hap : Ap ad js A) (hP : Wd E ad js x H) (hS : va_S A s.heap H locs) {v : Int32} (ho : isO js q 3) (hy : si x q 6 v = y) (hdg : decode cc pc = .ok (.putfield 142, 3)) (kk : ∀ H1 locs1, Wd E ad js y H1 → va_S A s.heap H1 locs1 → W p l e R s m args below meth c H1 locs1 cells slots Q (F0 m (pc + 3) ls rest)) : W p l e R s m args below meth c H locs cells slots Q (F0 m pc ls (.int v :: .ref (ad q) :: rest)) := by
  subst hy
  exact rpI C0 hap hP hS ho vcl_3 (by decide) rfl ig_RE ty_RE nm_RE (by decide) rfl rfl rfl rfl gw_f_RE_142 hdg kk
theorem gf_RE_120 (C0 : Cx E A RRE cc nL rt p s m args meth c) (hP : Wd E ad js x H) (ho : isO js q 3) (hdg : decode cc pc = .ok (.getfield 120, 3)) (kk : W p l e R s m args below meth c H locs cells slots Q (F0 m (pc + 3) ls (.int (gi x q 7) :: rest))) : W p l e R s m args below meth c H locs cells slots Q (F0 m pc ls (.ref (ad q) :: rest)) := rgI C0 hP ho vcl_3 (by decide) rfl ig_RE (by decide) rfl rfl gw_f_RE_120 hdg kk
theorem pf_RE_120 (C0 : Cx E A RRE cc nL rt p s m args meth c) (hap : Ap ad js A) (hP : Wd E ad js x H) (hS : va_S A s.heap H locs) {v : Int32} (ho : isO js q 3) (hy : si x q 7 v = y) (hdg : decode cc pc = .ok (.putfield 120, 3)) (kk : ∀ H1 locs1, Wd E ad js y H1 → va_S A s.heap H1 locs1 → W p l e R s m args below meth c H1 locs1 cells slots Q (F0 m (pc + 3) ls rest)) : W p l e R s m args below meth c H locs cells slots Q (F0 m pc ls (.int v :: .ref (ad q) :: rest)) := by
  subst hy
  exact rpI C0 hap hP hS ho vcl_3 (by decide) rfl ig_RE ty_RE nm_RE (by decide) rfl rfl rfl rfl gw_f_RE_120 hdg kk
theorem gf_HI_9 (C0 : Cx E A RHI cc nL rt p s m args meth c) (hP : Wd E ad js x H) (ho : isO js q 0) (hdg : decode cc pc = .ok (.getfield 9, 3)) (kk : W p l e R s m args below meth c H locs cells slots Q (F0 m (pc + 3) ls (.ref (ad (rf q 0)) :: rest))) : W p l e R s m args below meth c H locs cells slots Q (F0 m pc ls (.ref (ad q) :: rest)) := rgR C0 hP ho vcl_0 (by decide) rfl ig_HI (by decide) rfl rfl gw_f_HI_9 hdg kk
theorem gf_HI_15 (C0 : Cx E A RHI cc nL rt p s m args meth c) (hP : Wd E ad js x H) (ho : isO js q 0) (hdg : decode cc pc = .ok (.getfield 15, 3)) (kk : W p l e R s m args below meth c H locs cells slots Q (F0 m (pc + 3) ls (.ref (ad (rf q 1)) :: rest))) : W p l e R s m args below meth c H locs cells slots Q (F0 m pc ls (.ref (ad q) :: rest)) := rgR C0 hP ho vcl_0 (by decide) rfl ig_HI (by decide) rfl rfl gw_f_HI_15 hdg kk
theorem gf_HI_19 (C0 : Cx E A RHI cc nL rt p s m args meth c) (hP : Wd E ad js x H) (ho : isO js q 0) (hdg : decode cc pc = .ok (.getfield 19, 3)) (kk : W p l e R s m args below meth c H locs cells slots Q (F0 m (pc + 3) ls (.ref (ad (rf q 2)) :: rest))) : W p l e R s m args below meth c H locs cells slots Q (F0 m pc ls (.ref (ad q) :: rest)) := rgR C0 hP ho vcl_0 (by decide) rfl ig_HI (by decide) rfl rfl gw_f_HI_19 hdg kk
theorem gf_HI_40 (C0 : Cx E A RHI cc nL rt p s m args meth c) (hP : Wd E ad js x H) (ho : isO js q 0) (hdg : decode cc pc = .ok (.getfield 40, 3)) (kk : W p l e R s m args below meth c H locs cells slots Q (F0 m (pc + 3) ls (.int (gi x q 3) :: rest))) : W p l e R s m args below meth c H locs cells slots Q (F0 m pc ls (.ref (ad q) :: rest)) := rgI C0 hP ho vcl_0 (by decide) rfl ig_HI (by decide) rfl rfl gw_f_HI_40 hdg kk
theorem pf_HI_40 (C0 : Cx E A RHI cc nL rt p s m args meth c) (hap : Ap ad js A) (hP : Wd E ad js x H) (hS : va_S A s.heap H locs) {v : Int32} (ho : isO js q 0) (hy : si x q 3 v = y) (hdg : decode cc pc = .ok (.putfield 40, 3)) (kk : ∀ H1 locs1, Wd E ad js y H1 → va_S A s.heap H1 locs1 → W p l e R s m args below meth c H1 locs1 cells slots Q (F0 m (pc + 3) ls rest)) : W p l e R s m args below meth c H locs cells slots Q (F0 m pc ls (.int v :: .ref (ad q) :: rest)) := by
  subst hy
  exact rpI C0 hap hP hS ho vcl_0 (by decide) rfl ig_HI ty_HI nm_HI (by decide) rfl rfl rfl rfl gw_f_HI_40 hdg kk
theorem gf_OU_9 (C0 : Cx E A ROU cc nL rt p s m args meth c) (hP : Wd E ad js x H) (ho : isO js q 2) (hdg : decode cc pc = .ok (.getfield 9, 3)) (kk : W p l e R s m args below meth c H locs cells slots Q (F0 m (pc + 3) ls (.ref (ad (rf q 0)) :: rest))) : W p l e R s m args below meth c H locs cells slots Q (F0 m pc ls (.ref (ad q) :: rest)) := rgR C0 hP ho vcl_2 (by decide) rfl ig_OU (by decide) rfl rfl gw_f_OU_9 hdg kk
theorem gf_OU_15 (C0 : Cx E A ROU cc nL rt p s m args meth c) (hP : Wd E ad js x H) (ho : isO js q 2) (hdg : decode cc pc = .ok (.getfield 15, 3)) (kk : W p l e R s m args below meth c H locs cells slots Q (F0 m (pc + 3) ls (.ref (ad (rf q 1)) :: rest))) : W p l e R s m args below meth c H locs cells slots Q (F0 m pc ls (.ref (ad q) :: rest)) := rgR C0 hP ho vcl_2 (by decide) rfl ig_OU (by decide) rfl rfl gw_f_OU_15 hdg kk
theorem gf_OU_18 (C0 : Cx E A ROU cc nL rt p s m args meth c) (hP : Wd E ad js x H) (ho : isO js q 2) (hdg : decode cc pc = .ok (.getfield 18, 3)) (kk : W p l e R s m args below meth c H locs cells slots Q (F0 m (pc + 3) ls (.ref (ad (rf q 2)) :: rest))) : W p l e R s m args below meth c H locs cells slots Q (F0 m pc ls (.ref (ad q) :: rest)) := rgR C0 hP ho vcl_2 (by decide) rfl ig_OU (by decide) rfl rfl gw_f_OU_18 hdg kk
theorem gf_OU_21 (C0 : Cx E A ROU cc nL rt p s m args meth c) (hP : Wd E ad js x H) (ho : isO js q 2) (hdg : decode cc pc = .ok (.getfield 21, 3)) (kk : W p l e R s m args below meth c H locs cells slots Q (F0 m (pc + 3) ls (.ref (ad (rf q 3)) :: rest))) : W p l e R s m args below meth c H locs cells slots Q (F0 m pc ls (.ref (ad q) :: rest)) := rgR C0 hP ho vcl_2 (by decide) rfl ig_OU (by decide) rfl rfl gw_f_OU_21 hdg kk
theorem gf_OU_24 (C0 : Cx E A ROU cc nL rt p s m args meth c) (hP : Wd E ad js x H) (ho : isO js q 2) (hdg : decode cc pc = .ok (.getfield 24, 3)) (kk : W p l e R s m args below meth c H locs cells slots Q (F0 m (pc + 3) ls (.ref (ad (rf q 4)) :: rest))) : W p l e R s m args below meth c H locs cells slots Q (F0 m pc ls (.ref (ad q) :: rest)) := rgR C0 hP ho vcl_2 (by decide) rfl ig_OU (by decide) rfl rfl gw_f_OU_24 hdg kk
theorem gf_OU_28 (C0 : Cx E A ROU cc nL rt p s m args meth c) (hP : Wd E ad js x H) (ho : isO js q 2) (hdg : decode cc pc = .ok (.getfield 28, 3)) (kk : W p l e R s m args below meth c H locs cells slots Q (F0 m (pc + 3) ls (.ref (ad (rf q 5)) :: rest))) : W p l e R s m args below meth c H locs cells slots Q (F0 m pc ls (.ref (ad q) :: rest)) := rgR C0 hP ho vcl_2 (by decide) rfl ig_OU (by decide) rfl rfl gw_f_OU_28 hdg kk
theorem gf_GG_12 (C0 : Cx E A RGG cc nL rt p s m args meth c) (hP : Wd E ad js x H) (ho : isO js q 5) (hdg : decode cc pc = .ok (.getfield 12, 3)) (kk : W p l e R s m args below meth c H locs cells slots Q (F0 m (pc + 3) ls (.ref (ad (rf q 0)) :: rest))) : W p l e R s m args below meth c H locs cells slots Q (F0 m pc ls (.ref (ad q) :: rest)) := rgR C0 hP ho vcl_5 (by decide) rfl ig_GG (by decide) rfl rfl gw_f_GG_12 hdg kk
theorem gf_GG_16 (C0 : Cx E A RGG cc nL rt p s m args meth c) (hP : Wd E ad js x H) (ho : isO js q 5) (hdg : decode cc pc = .ok (.getfield 16, 3)) (kk : W p l e R s m args below meth c H locs cells slots Q (F0 m (pc + 3) ls (.ref (ad (rf q 1)) :: rest))) : W p l e R s m args below meth c H locs cells slots Q (F0 m pc ls (.ref (ad q) :: rest)) := rgR C0 hP ho vcl_5 (by decide) rfl ig_GG (by decide) rfl rfl gw_f_GG_16 hdg kk
theorem gf_GG_20 (C0 : Cx E A RGG cc nL rt p s m args meth c) (hP : Wd E ad js x H) (ho : isO js q 5) (hdg : decode cc pc = .ok (.getfield 20, 3)) (kk : W p l e R s m args below meth c H locs cells slots Q (F0 m (pc + 3) ls (.ref (ad (rf q 2)) :: rest))) : W p l e R s m args below meth c H locs cells slots Q (F0 m pc ls (.ref (ad q) :: rest)) := rgR C0 hP ho vcl_5 (by decide) rfl ig_GG (by decide) rfl rfl gw_f_GG_20 hdg kk
theorem gf_GG_27 (C0 : Cx E A RGG cc nL rt p s m args meth c) (hP : Wd E ad js x H) (ho : isO js q 5) (hdg : decode cc pc = .ok (.getfield 27, 3)) (kk : W p l e R s m args below meth c H locs cells slots Q (F0 m (pc + 3) ls (.ref (ad (rf q 3)) :: rest))) : W p l e R s m args below meth c H locs cells slots Q (F0 m pc ls (.ref (ad q) :: rest)) := rgR C0 hP ho vcl_5 (by decide) rfl ig_GG (by decide) rfl rfl gw_f_GG_27 hdg kk
theorem gf_GG_34 (C0 : Cx E A RGG cc nL rt p s m args meth c) (hP : Wd E ad js x H) (ho : isO js q 5) (hdg : decode cc pc = .ok (.getfield 34, 3)) (kk : W p l e R s m args below meth c H locs cells slots Q (F0 m (pc + 3) ls (.ref (ad (rf q 4)) :: rest))) : W p l e R s m args below meth c H locs cells slots Q (F0 m pc ls (.ref (ad q) :: rest)) := rgR C0 hP ho vcl_5 (by decide) rfl ig_GG (by decide) rfl rfl gw_f_GG_34 hdg kk
theorem gf_GG_41 (C0 : Cx E A RGG cc nL rt p s m args meth c) (hP : Wd E ad js x H) (ho : isO js q 5) (hdg : decode cc pc = .ok (.getfield 41, 3)) (kk : W p l e R s m args below meth c H locs cells slots Q (F0 m (pc + 3) ls (.ref (ad (rf q 5)) :: rest))) : W p l e R s m args below meth c H locs cells slots Q (F0 m pc ls (.ref (ad q) :: rest)) := rgR C0 hP ho vcl_5 (by decide) rfl ig_GG (by decide) rfl rfl gw_f_GG_41 hdg kk
theorem gf_GG_200 (C0 : Cx E A RGG cc nL rt p s m args meth c) (hP : Wd E ad js x H) (ho : isO js q 5) (hdg : decode cc pc = .ok (.getfield 200, 3)) (kk : W p l e R s m args below meth c H locs cells slots Q (F0 m (pc + 3) ls (.long (gl x q 6) :: rest))) : W p l e R s m args below meth c H locs cells slots Q (F0 m pc ls (.ref (ad q) :: rest)) := rgL C0 hP ho vcl_5 (by decide) rfl ig_GG (by decide) rfl rfl gw_f_GG_200 hdg kk
theorem pf_GG_200 (C0 : Cx E A RGG cc nL rt p s m args meth c) (hap : Ap ad js A) (hP : Wd E ad js x H) (hS : va_S A s.heap H locs) {v : Int64} (ho : isO js q 5) (hy : sl x q 6 v = y) (hdg : decode cc pc = .ok (.putfield 200, 3)) (kk : ∀ H1 locs1, Wd E ad js y H1 → va_S A s.heap H1 locs1 → W p l e R s m args below meth c H1 locs1 cells slots Q (F0 m (pc + 3) ls rest)) : W p l e R s m args below meth c H locs cells slots Q (F0 m pc ls (.long v :: .ref (ad q) :: rest)) := by
  subst hy
  exact rpL C0 hap hP hS ho vcl_5 (by decide) rfl ig_GG ty_GG nm_GG (by decide) rfl rfl rfl rfl gw_f_GG_200 hdg kk
theorem gf_GG_45 (C0 : Cx E A RGG cc nL rt p s m args meth c) (hP : Wd E ad js x H) (ho : isO js q 5) (hdg : decode cc pc = .ok (.getfield 45, 3)) (kk : W p l e R s m args below meth c H locs cells slots Q (F0 m (pc + 3) ls (.long (gl x q 7) :: rest))) : W p l e R s m args below meth c H locs cells slots Q (F0 m pc ls (.ref (ad q) :: rest)) := rgL C0 hP ho vcl_5 (by decide) rfl ig_GG (by decide) rfl rfl gw_f_GG_45 hdg kk
theorem pf_GG_45 (C0 : Cx E A RGG cc nL rt p s m args meth c) (hap : Ap ad js A) (hP : Wd E ad js x H) (hS : va_S A s.heap H locs) {v : Int64} (ho : isO js q 5) (hy : sl x q 7 v = y) (hdg : decode cc pc = .ok (.putfield 45, 3)) (kk : ∀ H1 locs1, Wd E ad js y H1 → va_S A s.heap H1 locs1 → W p l e R s m args below meth c H1 locs1 cells slots Q (F0 m (pc + 3) ls rest)) : W p l e R s m args below meth c H locs cells slots Q (F0 m pc ls (.long v :: .ref (ad q) :: rest)) := by
  subst hy
  exact rpL C0 hap hP hS ho vcl_5 (by decide) rfl ig_GG ty_GG nm_GG (by decide) rfl rfl rfl rfl gw_f_GG_45 hdg kk
theorem gf_GG_207 (C0 : Cx E A RGG cc nL rt p s m args meth c) (hP : Wd E ad js x H) (ho : isO js q 5) (hdg : decode cc pc = .ok (.getfield 207, 3)) (kk : W p l e R s m args below meth c H locs cells slots Q (F0 m (pc + 3) ls (.int (gi x q 8) :: rest))) : W p l e R s m args below meth c H locs cells slots Q (F0 m pc ls (.ref (ad q) :: rest)) := rgI C0 hP ho vcl_5 (by decide) rfl ig_GG (by decide) rfl rfl gw_f_GG_207 hdg kk
theorem pf_GG_207 (C0 : Cx E A RGG cc nL rt p s m args meth c) (hap : Ap ad js A) (hP : Wd E ad js x H) (hS : va_S A s.heap H locs) {v : Int32} (ho : isO js q 5) (hy : si x q 8 v = y) (hdg : decode cc pc = .ok (.putfield 207, 3)) (kk : ∀ H1 locs1, Wd E ad js y H1 → va_S A s.heap H1 locs1 → W p l e R s m args below meth c H1 locs1 cells slots Q (F0 m (pc + 3) ls rest)) : W p l e R s m args below meth c H locs cells slots Q (F0 m pc ls (.int v :: .ref (ad q) :: rest)) := by
  subst hy
  exact rpI C0 hap hP hS ho vcl_5 (by decide) rfl ig_GG ty_GG nm_GG (by decide) rfl rfl rfl rfl gw_f_GG_207 hdg kk
theorem gf_GG_210 (C0 : Cx E A RGG cc nL rt p s m args meth c) (hP : Wd E ad js x H) (ho : isO js q 5) (hdg : decode cc pc = .ok (.getfield 210, 3)) (kk : W p l e R s m args below meth c H locs cells slots Q (F0 m (pc + 3) ls (.int (gi x q 9) :: rest))) : W p l e R s m args below meth c H locs cells slots Q (F0 m pc ls (.ref (ad q) :: rest)) := rgI C0 hP ho vcl_5 (by decide) rfl ig_GG (by decide) rfl rfl gw_f_GG_210 hdg kk
theorem pf_GG_210 (C0 : Cx E A RGG cc nL rt p s m args meth c) (hap : Ap ad js A) (hP : Wd E ad js x H) (hS : va_S A s.heap H locs) {v : Int32} (ho : isO js q 5) (hy : si x q 9 v = y) (hdg : decode cc pc = .ok (.putfield 210, 3)) (kk : ∀ H1 locs1, Wd E ad js y H1 → va_S A s.heap H1 locs1 → W p l e R s m args below meth c H1 locs1 cells slots Q (F0 m (pc + 3) ls rest)) : W p l e R s m args below meth c H locs cells slots Q (F0 m pc ls (.int v :: .ref (ad q) :: rest)) := by
  subst hy
  exact rpI C0 hap hP hS ho vcl_5 (by decide) rfl ig_GG ty_GG nm_GG (by decide) rfl rfl rfl rfl gw_f_GG_210 hdg kk
theorem gf_GG_213 (C0 : Cx E A RGG cc nL rt p s m args meth c) (hP : Wd E ad js x H) (ho : isO js q 5) (hdg : decode cc pc = .ok (.getfield 213, 3)) (kk : W p l e R s m args below meth c H locs cells slots Q (F0 m (pc + 3) ls (.int (gi x q 10) :: rest))) : W p l e R s m args below meth c H locs cells slots Q (F0 m pc ls (.ref (ad q) :: rest)) := rgI C0 hP ho vcl_5 (by decide) rfl ig_GG (by decide) rfl rfl gw_f_GG_213 hdg kk
theorem pf_GG_213 (C0 : Cx E A RGG cc nL rt p s m args meth c) (hap : Ap ad js A) (hP : Wd E ad js x H) (hS : va_S A s.heap H locs) {v : Int32} (ho : isO js q 5) (hy : si x q 10 v = y) (hdg : decode cc pc = .ok (.putfield 213, 3)) (kk : ∀ H1 locs1, Wd E ad js y H1 → va_S A s.heap H1 locs1 → W p l e R s m args below meth c H1 locs1 cells slots Q (F0 m (pc + 3) ls rest)) : W p l e R s m args below meth c H locs cells slots Q (F0 m pc ls (.int v :: .ref (ad q) :: rest)) := by
  subst hy
  exact rpI C0 hap hP hS ho vcl_5 (by decide) rfl ig_GG ty_GG nm_GG (by decide) rfl rfl rfl rfl gw_f_GG_213 hdg kk
theorem gf_MO_7 (C0 : Cx E A RMO cc nL rt p s m args meth c) (hP : Wd E ad js x H) (ho : isO js q 6) (hdg : decode cc pc = .ok (.getfield 7, 3)) (kk : W p l e R s m args below meth c H locs cells slots Q (F0 m (pc + 3) ls (.ref (ad (rf q 0)) :: rest))) : W p l e R s m args below meth c H locs cells slots Q (F0 m pc ls (.ref (ad q) :: rest)) := rgR C0 hP ho vcl_6 (by decide) rfl ig_MO (by decide) rfl rfl gw_f_MO_7 hdg kk
theorem gf_MO_57 (C0 : Cx E A RMO cc nL rt p s m args meth c) (hP : Wd E ad js x H) (ho : isO js q 6) (hdg : decode cc pc = .ok (.getfield 57, 3)) (kk : W p l e R s m args below meth c H locs cells slots Q (F0 m (pc + 3) ls (.int (gi x q 1) :: rest))) : W p l e R s m args below meth c H locs cells slots Q (F0 m pc ls (.ref (ad q) :: rest)) := rgI C0 hP ho vcl_6 (by decide) rfl ig_MO (by decide) rfl rfl gw_f_MO_57 hdg kk
theorem pf_MO_57 (C0 : Cx E A RMO cc nL rt p s m args meth c) (hap : Ap ad js A) (hP : Wd E ad js x H) (hS : va_S A s.heap H locs) {v : Int32} (ho : isO js q 6) (hy : si x q 1 v = y) (hdg : decode cc pc = .ok (.putfield 57, 3)) (kk : ∀ H1 locs1, Wd E ad js y H1 → va_S A s.heap H1 locs1 → W p l e R s m args below meth c H1 locs1 cells slots Q (F0 m (pc + 3) ls rest)) : W p l e R s m args below meth c H locs cells slots Q (F0 m pc ls (.int v :: .ref (ad q) :: rest)) := by
  subst hy
  exact rpI C0 hap hP hS ho vcl_6 (by decide) rfl ig_MO ty_MO nm_MO (by decide) rfl rfl rfl rfl gw_f_MO_57 hdg kk
theorem gf_MO_13 (C0 : Cx E A RMO cc nL rt p s m args meth c) (hP : Wd E ad js x H) (ho : isO js q 6) (hdg : decode cc pc = .ok (.getfield 13, 3)) (kk : W p l e R s m args below meth c H locs cells slots Q (F0 m (pc + 3) ls (.ref (ad (rf q 2)) :: rest))) : W p l e R s m args below meth c H locs cells slots Q (F0 m pc ls (.ref (ad q) :: rest)) := rgR C0 hP ho vcl_6 (by decide) rfl ig_MO (by decide) rfl rfl gw_f_MO_13 hdg kk
theorem gf_MO_17 (C0 : Cx E A RMO cc nL rt p s m args meth c) (hP : Wd E ad js x H) (ho : isO js q 6) (hdg : decode cc pc = .ok (.getfield 17, 3)) (kk : W p l e R s m args below meth c H locs cells slots Q (F0 m (pc + 3) ls (.ref (ad (rf q 3)) :: rest))) : W p l e R s m args below meth c H locs cells slots Q (F0 m pc ls (.ref (ad q) :: rest)) := rgR C0 hP ho vcl_6 (by decide) rfl ig_MO (by decide) rfl rfl gw_f_MO_17 hdg kk
theorem gf_MO_224 (C0 : Cx E A RMO cc nL rt p s m args meth c) (hP : Wd E ad js x H) (ho : isO js q 6) (hdg : decode cc pc = .ok (.getfield 224, 3)) (kk : W p l e R s m args below meth c H locs cells slots Q (F0 m (pc + 3) ls (.long (gl x q 4) :: rest))) : W p l e R s m args below meth c H locs cells slots Q (F0 m pc ls (.ref (ad q) :: rest)) := rgL C0 hP ho vcl_6 (by decide) rfl ig_MO (by decide) rfl rfl gw_f_MO_224 hdg kk
theorem pf_MO_224 (C0 : Cx E A RMO cc nL rt p s m args meth c) (hap : Ap ad js A) (hP : Wd E ad js x H) (hS : va_S A s.heap H locs) {v : Int64} (ho : isO js q 6) (hy : sl x q 4 v = y) (hdg : decode cc pc = .ok (.putfield 224, 3)) (kk : ∀ H1 locs1, Wd E ad js y H1 → va_S A s.heap H1 locs1 → W p l e R s m args below meth c H1 locs1 cells slots Q (F0 m (pc + 3) ls rest)) : W p l e R s m args below meth c H locs cells slots Q (F0 m pc ls (.long v :: .ref (ad q) :: rest)) := by
  subst hy
  exact rpL C0 hap hP hS ho vcl_6 (by decide) rfl ig_MO ty_MO nm_MO (by decide) rfl rfl rfl rfl gw_f_MO_224 hdg kk
theorem gf_MO_53 (C0 : Cx E A RMO cc nL rt p s m args meth c) (hP : Wd E ad js x H) (ho : isO js q 6) (hdg : decode cc pc = .ok (.getfield 53, 3)) (kk : W p l e R s m args below meth c H locs cells slots Q (F0 m (pc + 3) ls (.long (gl x q 5) :: rest))) : W p l e R s m args below meth c H locs cells slots Q (F0 m pc ls (.ref (ad q) :: rest)) := rgL C0 hP ho vcl_6 (by decide) rfl ig_MO (by decide) rfl rfl gw_f_MO_53 hdg kk
theorem pf_MO_53 (C0 : Cx E A RMO cc nL rt p s m args meth c) (hap : Ap ad js A) (hP : Wd E ad js x H) (hS : va_S A s.heap H locs) {v : Int64} (ho : isO js q 6) (hy : sl x q 5 v = y) (hdg : decode cc pc = .ok (.putfield 53, 3)) (kk : ∀ H1 locs1, Wd E ad js y H1 → va_S A s.heap H1 locs1 → W p l e R s m args below meth c H1 locs1 cells slots Q (F0 m (pc + 3) ls rest)) : W p l e R s m args below meth c H locs cells slots Q (F0 m pc ls (.long v :: .ref (ad q) :: rest)) := by
  subst hy
  exact rpL C0 hap hP hS ho vcl_6 (by decide) rfl ig_MO ty_MO nm_MO (by decide) rfl rfl rfl rfl gw_f_MO_53 hdg kk
theorem gf_MO_20 (C0 : Cx E A RMO cc nL rt p s m args meth c) (hP : Wd E ad js x H) (ho : isO js q 6) (hdg : decode cc pc = .ok (.getfield 20, 3)) (kk : W p l e R s m args below meth c H locs cells slots Q (F0 m (pc + 3) ls (.ref (ad (rf q 6)) :: rest))) : W p l e R s m args below meth c H locs cells slots Q (F0 m pc ls (.ref (ad q) :: rest)) := rgR C0 hP ho vcl_6 (by decide) rfl ig_MO (by decide) rfl rfl gw_f_MO_20 hdg kk
theorem gf_MO_118 (C0 : Cx E A RMO cc nL rt p s m args meth c) (hP : Wd E ad js x H) (ho : isO js q 6) (hdg : decode cc pc = .ok (.getfield 118, 3)) (kk : W p l e R s m args below meth c H locs cells slots Q (F0 m (pc + 3) ls (.int (gi x q 7) :: rest))) : W p l e R s m args below meth c H locs cells slots Q (F0 m pc ls (.ref (ad q) :: rest)) := rgI C0 hP ho vcl_6 (by decide) rfl ig_MO (by decide) rfl rfl gw_f_MO_118 hdg kk
theorem pf_MO_118 (C0 : Cx E A RMO cc nL rt p s m args meth c) (hap : Ap ad js A) (hP : Wd E ad js x H) (hS : va_S A s.heap H locs) {v : Int32} (ho : isO js q 6) (hy : si x q 7 v = y) (hdg : decode cc pc = .ok (.putfield 118, 3)) (kk : ∀ H1 locs1, Wd E ad js y H1 → va_S A s.heap H1 locs1 → W p l e R s m args below meth c H1 locs1 cells slots Q (F0 m (pc + 3) ls rest)) : W p l e R s m args below meth c H locs cells slots Q (F0 m pc ls (.int v :: .ref (ad q) :: rest)) := by
  subst hy
  exact rpI C0 hap hP hS ho vcl_6 (by decide) rfl ig_MO ty_MO nm_MO (by decide) rfl rfl rfl rfl gw_f_MO_118 hdg kk
theorem gf_MO_123 (C0 : Cx E A RMO cc nL rt p s m args meth c) (hP : Wd E ad js x H) (ho : isO js q 6) (hdg : decode cc pc = .ok (.getfield 123, 3)) (kk : W p l e R s m args below meth c H locs cells slots Q (F0 m (pc + 3) ls (.int (gi x q 8) :: rest))) : W p l e R s m args below meth c H locs cells slots Q (F0 m pc ls (.ref (ad q) :: rest)) := rgI C0 hP ho vcl_6 (by decide) rfl ig_MO (by decide) rfl rfl gw_f_MO_123 hdg kk
theorem pf_MO_123 (C0 : Cx E A RMO cc nL rt p s m args meth c) (hap : Ap ad js A) (hP : Wd E ad js x H) (hS : va_S A s.heap H locs) {v : Int32} (ho : isO js q 6) (hy : si x q 8 v = y) (hdg : decode cc pc = .ok (.putfield 123, 3)) (kk : ∀ H1 locs1, Wd E ad js y H1 → va_S A s.heap H1 locs1 → W p l e R s m args below meth c H1 locs1 cells slots Q (F0 m (pc + 3) ls rest)) : W p l e R s m args below meth c H locs cells slots Q (F0 m pc ls (.int v :: .ref (ad q) :: rest)) := by
  subst hy
  exact rpI C0 hap hP hS ho vcl_6 (by decide) rfl ig_MO ty_MO nm_MO (by decide) rfl rfl rfl rfl gw_f_MO_123 hdg kk
theorem gf_MO_131 (C0 : Cx E A RMO cc nL rt p s m args meth c) (hP : Wd E ad js x H) (ho : isO js q 6) (hdg : decode cc pc = .ok (.getfield 131, 3)) (kk : W p l e R s m args below meth c H locs cells slots Q (F0 m (pc + 3) ls (.int (gi x q 9) :: rest))) : W p l e R s m args below meth c H locs cells slots Q (F0 m pc ls (.ref (ad q) :: rest)) := rgI C0 hP ho vcl_6 (by decide) rfl ig_MO (by decide) rfl rfl gw_f_MO_131 hdg kk
theorem pf_MO_131 (C0 : Cx E A RMO cc nL rt p s m args meth c) (hap : Ap ad js A) (hP : Wd E ad js x H) (hS : va_S A s.heap H locs) {v : Int32} (ho : isO js q 6) (hy : si x q 9 v = y) (hdg : decode cc pc = .ok (.putfield 131, 3)) (kk : ∀ H1 locs1, Wd E ad js y H1 → va_S A s.heap H1 locs1 → W p l e R s m args below meth c H1 locs1 cells slots Q (F0 m (pc + 3) ls rest)) : W p l e R s m args below meth c H locs cells slots Q (F0 m pc ls (.int v :: .ref (ad q) :: rest)) := by
  subst hy
  exact rpI C0 hap hP hS ho vcl_6 (by decide) rfl ig_MO ty_MO nm_MO (by decide) rfl rfl rfl rfl gw_f_MO_131 hdg kk
theorem gf_MO_137 (C0 : Cx E A RMO cc nL rt p s m args meth c) (hP : Wd E ad js x H) (ho : isO js q 6) (hdg : decode cc pc = .ok (.getfield 137, 3)) (kk : W p l e R s m args below meth c H locs cells slots Q (F0 m (pc + 3) ls (.int (gi x q 10) :: rest))) : W p l e R s m args below meth c H locs cells slots Q (F0 m pc ls (.ref (ad q) :: rest)) := rgI C0 hP ho vcl_6 (by decide) rfl ig_MO (by decide) rfl rfl gw_f_MO_137 hdg kk
theorem pf_MO_137 (C0 : Cx E A RMO cc nL rt p s m args meth c) (hap : Ap ad js A) (hP : Wd E ad js x H) (hS : va_S A s.heap H locs) {v : Int32} (ho : isO js q 6) (hy : si x q 10 v = y) (hdg : decode cc pc = .ok (.putfield 137, 3)) (kk : ∀ H1 locs1, Wd E ad js y H1 → va_S A s.heap H1 locs1 → W p l e R s m args below meth c H1 locs1 cells slots Q (F0 m (pc + 3) ls rest)) : W p l e R s m args below meth c H locs cells slots Q (F0 m pc ls (.int v :: .ref (ad q) :: rest)) := by
  subst hy
  exact rpI C0 hap hP hS ho vcl_6 (by decide) rfl ig_MO ty_MO nm_MO (by decide) rfl rfl rfl rfl gw_f_MO_137 hdg kk
theorem gf_MO_134 (C0 : Cx E A RMO cc nL rt p s m args meth c) (hP : Wd E ad js x H) (ho : isO js q 6) (hdg : decode cc pc = .ok (.getfield 134, 3)) (kk : W p l e R s m args below meth c H locs cells slots Q (F0 m (pc + 3) ls (.int (gi x q 11) :: rest))) : W p l e R s m args below meth c H locs cells slots Q (F0 m pc ls (.ref (ad q) :: rest)) := rgI C0 hP ho vcl_6 (by decide) rfl ig_MO (by decide) rfl rfl gw_f_MO_134 hdg kk
theorem pf_MO_134 (C0 : Cx E A RMO cc nL rt p s m args meth c) (hap : Ap ad js A) (hP : Wd E ad js x H) (hS : va_S A s.heap H locs) {v : Int32} (ho : isO js q 6) (hy : si x q 11 v = y) (hdg : decode cc pc = .ok (.putfield 134, 3)) (kk : ∀ H1 locs1, Wd E ad js y H1 → va_S A s.heap H1 locs1 → W p l e R s m args below meth c H1 locs1 cells slots Q (F0 m (pc + 3) ls rest)) : W p l e R s m args below meth c H locs cells slots Q (F0 m pc ls (.int v :: .ref (ad q) :: rest)) := by
  subst hy
  exact rpI C0 hap hP hS ho vcl_6 (by decide) rfl ig_MO ty_MO nm_MO (by decide) rfl rfl rfl rfl gw_f_MO_134 hdg kk
theorem gf_MO_144 (C0 : Cx E A RMO cc nL rt p s m args meth c) (hP : Wd E ad js x H) (ho : isO js q 6) (hdg : decode cc pc = .ok (.getfield 144, 3)) (kk : W p l e R s m args below meth c H locs cells slots Q (F0 m (pc + 3) ls (.int (gi x q 12) :: rest))) : W p l e R s m args below meth c H locs cells slots Q (F0 m pc ls (.ref (ad q) :: rest)) := rgI C0 hP ho vcl_6 (by decide) rfl ig_MO (by decide) rfl rfl gw_f_MO_144 hdg kk
theorem pf_MO_144 (C0 : Cx E A RMO cc nL rt p s m args meth c) (hap : Ap ad js A) (hP : Wd E ad js x H) (hS : va_S A s.heap H locs) {v : Int32} (ho : isO js q 6) (hy : si x q 12 v = y) (hdg : decode cc pc = .ok (.putfield 144, 3)) (kk : ∀ H1 locs1, Wd E ad js y H1 → va_S A s.heap H1 locs1 → W p l e R s m args below meth c H1 locs1 cells slots Q (F0 m (pc + 3) ls rest)) : W p l e R s m args below meth c H locs cells slots Q (F0 m pc ls (.int v :: .ref (ad q) :: rest)) := by
  subst hy
  exact rpI C0 hap hP hS ho vcl_6 (by decide) rfl ig_MO ty_MO nm_MO (by decide) rfl rfl rfl rfl gw_f_MO_144 hdg kk
theorem gf_MO_24 (C0 : Cx E A RMO cc nL rt p s m args meth c) (hP : Wd E ad js x H) (ho : isO js q 6) (hdg : decode cc pc = .ok (.getfield 24, 3)) (kk : W p l e R s m args below meth c H locs cells slots Q (F0 m (pc + 3) ls (.int (gi x q 13) :: rest))) : W p l e R s m args below meth c H locs cells slots Q (F0 m pc ls (.ref (ad q) :: rest)) := rgI C0 hP ho vcl_6 (by decide) rfl ig_MO (by decide) rfl rfl gw_f_MO_24 hdg kk
theorem pf_MO_24 (C0 : Cx E A RMO cc nL rt p s m args meth c) (hap : Ap ad js A) (hP : Wd E ad js x H) (hS : va_S A s.heap H locs) {v : Int32} (ho : isO js q 6) (hy : si x q 13 v = y) (hdg : decode cc pc = .ok (.putfield 24, 3)) (kk : ∀ H1 locs1, Wd E ad js y H1 → va_S A s.heap H1 locs1 → W p l e R s m args below meth c H1 locs1 cells slots Q (F0 m (pc + 3) ls rest)) : W p l e R s m args below meth c H locs cells slots Q (F0 m pc ls (.int v :: .ref (ad q) :: rest)) := by
  subst hy
  exact rpI C0 hap hP hS ho vcl_6 (by decide) rfl ig_MO ty_MO nm_MO (by decide) rfl rfl rfl rfl gw_f_MO_24 hdg kk
theorem gf_MO_28 (C0 : Cx E A RMO cc nL rt p s m args meth c) (hP : Wd E ad js x H) (ho : isO js q 6) (hdg : decode cc pc = .ok (.getfield 28, 3)) (kk : W p l e R s m args below meth c H locs cells slots Q (F0 m (pc + 3) ls (.ref (ad (rf q 14)) :: rest))) : W p l e R s m args below meth c H locs cells slots Q (F0 m pc ls (.ref (ad q) :: rest)) := rgR C0 hP ho vcl_6 (by decide) rfl ig_MO (by decide) rfl rfl gw_f_MO_28 hdg kk
theorem gf_MO_31 (C0 : Cx E A RMO cc nL rt p s m args meth c) (hP : Wd E ad js x H) (ho : isO js q 6) (hdg : decode cc pc = .ok (.getfield 31, 3)) (kk : W p l e R s m args below meth c H locs cells slots Q (F0 m (pc + 3) ls (.ref (ad (rf q 15)) :: rest))) : W p l e R s m args below meth c H locs cells slots Q (F0 m pc ls (.ref (ad q) :: rest)) := rgR C0 hP ho vcl_6 (by decide) rfl ig_MO (by decide) rfl rfl gw_f_MO_31 hdg kk
theorem gf_MO_34 (C0 : Cx E A RMO cc nL rt p s m args meth c) (hP : Wd E ad js x H) (ho : isO js q 6) (hdg : decode cc pc = .ok (.getfield 34, 3)) (kk : W p l e R s m args below meth c H locs cells slots Q (F0 m (pc + 3) ls (.ref (ad (rf q 16)) :: rest))) : W p l e R s m args below meth c H locs cells slots Q (F0 m pc ls (.ref (ad q) :: rest)) := rgR C0 hP ho vcl_6 (by decide) rfl ig_MO (by decide) rfl rfl gw_f_MO_34 hdg kk
theorem gf_MO_37 (C0 : Cx E A RMO cc nL rt p s m args meth c) (hP : Wd E ad js x H) (ho : isO js q 6) (hdg : decode cc pc = .ok (.getfield 37, 3)) (kk : W p l e R s m args below meth c H locs cells slots Q (F0 m (pc + 3) ls (.ref (ad (rf q 17)) :: rest))) : W p l e R s m args below meth c H locs cells slots Q (F0 m pc ls (.ref (ad q) :: rest)) := rgR C0 hP ho vcl_6 (by decide) rfl ig_MO (by decide) rfl rfl gw_f_MO_37 hdg kk
theorem gf_MO_40 (C0 : Cx E A RMO cc nL rt p s m args meth c) (hP : Wd E ad js x H) (ho : isO js q 6) (hdg : decode cc pc = .ok (.getfield 40, 3)) (kk : W p l e R s m args below meth c H locs cells slots Q (F0 m (pc + 3) ls (.ref (ad (rf q 18)) :: rest))) : W p l e R s m args below meth c H locs cells slots Q (F0 m pc ls (.ref (ad q) :: rest)) := rgR C0 hP ho vcl_6 (by decide) rfl ig_MO (by decide) rfl rfl gw_f_MO_40 hdg kk
theorem gf_MO_43 (C0 : Cx E A RMO cc nL rt p s m args meth c) (hP : Wd E ad js x H) (ho : isO js q 6) (hdg : decode cc pc = .ok (.getfield 43, 3)) (kk : W p l e R s m args below meth c H locs cells slots Q (F0 m (pc + 3) ls (.ref (ad (rf q 19)) :: rest))) : W p l e R s m args below meth c H locs cells slots Q (F0 m pc ls (.ref (ad q) :: rest)) := rgR C0 hP ho vcl_6 (by decide) rfl ig_MO (by decide) rfl rfl gw_f_MO_43 hdg kk
theorem gf_MO_47 (C0 : Cx E A RMO cc nL rt p s m args meth c) (hP : Wd E ad js x H) (ho : isO js q 6) (hdg : decode cc pc = .ok (.getfield 47, 3)) (kk : W p l e R s m args below meth c H locs cells slots Q (F0 m (pc + 3) ls (.ref (ad (rf q 20)) :: rest))) : W p l e R s m args below meth c H locs cells slots Q (F0 m pc ls (.ref (ad q) :: rest)) := rgR C0 hP ho vcl_6 (by decide) rfl ig_MO (by decide) rfl rfl gw_f_MO_47 hdg kk
theorem gf_MO_50 (C0 : Cx E A RMO cc nL rt p s m args meth c) (hP : Wd E ad js x H) (ho : isO js q 6) (hdg : decode cc pc = .ok (.getfield 50, 3)) (kk : W p l e R s m args below meth c H locs cells slots Q (F0 m (pc + 3) ls (.ref (ad (rf q 21)) :: rest))) : W p l e R s m args below meth c H locs cells slots Q (F0 m pc ls (.ref (ad q) :: rest)) := rgR C0 hP ho vcl_6 (by decide) rfl ig_MO (by decide) rfl rfl gw_f_MO_50 hdg kk
theorem gf_MO_229 (C0 : Cx E A RMO cc nL rt p s m args meth c) (hP : Wd E ad js x H) (ho : isO js q 6) (hdg : decode cc pc = .ok (.getfield 229, 3)) (kk : W p l e R s m args below meth c H locs cells slots Q (F0 m (pc + 3) ls (.long (gl x q 22) :: rest))) : W p l e R s m args below meth c H locs cells slots Q (F0 m pc ls (.ref (ad q) :: rest)) := rgL C0 hP ho vcl_6 (by decide) rfl ig_MO (by decide) rfl rfl gw_f_MO_229 hdg kk
theorem pf_MO_229 (C0 : Cx E A RMO cc nL rt p s m args meth c) (hap : Ap ad js A) (hP : Wd E ad js x H) (hS : va_S A s.heap H locs) {v : Int64} (ho : isO js q 6) (hy : sl x q 22 v = y) (hdg : decode cc pc = .ok (.putfield 229, 3)) (kk : ∀ H1 locs1, Wd E ad js y H1 → va_S A s.heap H1 locs1 → W p l e R s m args below meth c H1 locs1 cells slots Q (F0 m (pc + 3) ls rest)) : W p l e R s m args below meth c H locs cells slots Q (F0 m pc ls (.long v :: .ref (ad q) :: rest)) := by
  subst hy
  exact rpL C0 hap hP hS ho vcl_6 (by decide) rfl ig_MO ty_MO nm_MO (by decide) rfl rfl rfl rfl gw_f_MO_229 hdg kk
end FieldRows
end
section
abbrev rm_LE_has : Room := { frames := 0, cells := 0, slots := 0, locals := 0 }
theorem dd_LE_has_0 : decode bb_LE_has 0 = .ok (.iload_n 1, 1) := by decide +kernel
theorem dd_LE_has_1 : decode bb_LE_has 1 = .ok (.ifCond .lt 15, 3) := by decide +kernel
theorem dd_LE_has_4 : decode bb_LE_has 4 = .ok (.iload_n 1, 1) := by decide +kernel
theorem dd_LE_has_5 : decode bb_LE_has 5 = .ok (.aload_n 0, 1) := by decide +kernel
theorem dd_LE_has_6 : decode bb_LE_has 6 = .ok (.getfield 28, 3) := by decide +kernel
theorem dd_LE_has_9 : decode bb_LE_has 9 = .ok (.if_icmp .ge 7, 3) := by decide +kernel
theorem dd_LE_has_12 : decode bb_LE_has 12 = .ok (.iconst 1, 1) := by decide +kernel
theorem dd_LE_has_13 : decode bb_LE_has 13 = .ok (.goto 4, 3) := by decide +kernel
theorem dd_LE_has_16 : decode bb_LE_has 16 = .ok (.iconst 0, 1) := by decide +kernel
theorem dd_LE_has_17 : decode bb_LE_has 17 = .ok (.ireturn, 1) := by decide +kernel
def ff_LE_has  (x : St) (v0 : Nat) (v1 : Int32) : Option (Int32 × St) := (if v1 < 0 then some (0, x) else (if (gi x v0 3) ≤ v1 then some (0, x) else some (1, x)))
set_option maxHeartbeats 4000000 in
set_option maxRecDepth 100000 in
theorem ww_LE_has {p : Program} {l : Launch} {e : Env} {s : State} {m : MethodId} {args : Array Value} {below : List Frame} {meth : Method} {c : Code} {E : Ev} {A : Nat → Prop} {ad : Nat → Nat} {r : Int32} {x' : St} (C0 : Cx E A RLE bb_LE_has 2 (some .boolean) p s m args meth c) (hap : Ap ad ixC A)  {x : St} {v0 : Nat} {v1 : Int32} (ho_v0 : isO ixC v0 1) (hf : ff_LE_has x v0 v1 = some (r, x')) {H : Heap} {locs : List Loc} {ls : Array Slot} (hP : Wd E ad ixC x H) (hS : va_S A s.heap H locs) (hl : lv_has ls 2 [(0, .ref (ad v0)), (1, .int v1)]) : W p l e rm_LE_has s m args below meth c H locs 0 0 (MQ below (QX E ad ixC A (some (.int r)) x') args s 0 0 A) (F0 m 0 ls []) := by
  obtain ⟨hx, hb, hml, hr, hown, hts, hlk, hK⟩ := id C0
  have hf : (if v1 < 0 then some (0, x) else (if (gi x v0 3) ≤ v1 then some (0, x) else some (1, x))) = some (r, x') := hf
  refine lv_iload_n hx hb dd_LE_has_0 rfl (lv_at hl 1 rfl) ?_
  refine lv_if_lt (tgt := 16) hx hb dd_LE_has_1 (by decide) (fun h_1 => ?_) (fun h_1 => ?_)
  · have hf := (if_pos h_1).symm.trans hf
    refine lv_iconst (v := 0) hx hb dd_LE_has_16 (by decide) ?_
    exact rrZ C0 hP hS (by decide) dd_LE_has_17 hf
  · have hf := (if_neg h_1).symm.trans hf
    refine lv_iload_n hx hb dd_LE_has_4 rfl (lv_at hl 1 rfl) ?_
    refine lv_aload_n hx hb dd_LE_has_5 rfl (lv_at hl 0 rfl) ?_
    refine gf_LE_28 C0 hP ho_v0 dd_LE_has_6 ?_
    refine lv_icmp_ge (tgt := 16) hx hb dd_LE_has_9 (by decide) (fun h_2 => ?_) (fun h_2 => ?_)
    · have hf := (if_pos h_2).symm.trans hf
      refine lv_iconst (v := 0) hx hb dd_LE_has_16 (by decide) ?_
      exact rrZ C0 hP hS (by decide) dd_LE_has_17 hf
    · have hf := (if_neg h_2).symm.trans hf
      refine lv_iconst (v := 1) hx hb dd_LE_has_12 (by decide) ?_
      refine lv_goto (tgt := 17) hx hb dd_LE_has_13 (by decide) ?_
      exact rrZ C0 hP hS (by decide) dd_LE_has_17 hf
theorem cc_LE_has {l : Launch} {E : Ev} {A : Nat → Prop} {ad : Nat → Nat} (hap : Ap ad ixC A) {x x' : St} {v0 : Nat} {v1 : Int32} {r : Int32} (ho_v0 : isO ixC v0 1) (hf : ff_LE_has x v0 v1 = some (r, x')) : Met l yy_LE_has (Cond.code yy_LE_has bb_LE_has 2 (some .boolean) :: gtb) rm_LE_has (va_Pc [.ref (ad v0), .int v1] (PB E A ad ixC x)) (QX E ad ixC A (some (.int r)) x') 0 0 A :=
  enter (by decide) (Nat.le_of_ble_eq_true rfl) (fun p e s m below meth c ls C0 hP hS hl => ww_LE_has C0 hap ho_v0 hf hP hS hl)
theorem cl_LE_31 {p : Program} {l : Launch} {e : Env} {R : Room} {s : State} {m : MethodId} {args : Array Value} {below : List Frame} {meth : Method} {c : Code} {H : Heap} {locs : List Loc} {cells slots : Nat} {Q : State → Prop} {cc : ByteArray} {pc : Nat} {ls : Array Slot} {rest : List Value} {E : Ev} {A : Nat → Prop} {ad : Nat → Nat} {nL : Nat} {rt : Option FieldType} (C0 : Cx E A RLE cc nL rt p s m args meth c) (hap : Ap ad ixC A) {x x' : St} {v0 : Nat} {v1 : Int32} {r : Int32} (ho_v0 : isO ixC v0 1) (hc : ff_LE_has x v0 v1 = some (r, x')) (hP : Wd E ad ixC x H) (hS : va_S A s.heap H locs) (hR : rm_LE_has.frames + 1 ≤ R.frames ∧ 8 + (2 + 11) + rm_LE_has.locals ≤ R.locals) (hls : ls.size = nL) (hroom : (rest.map fun v => v.category).sum ≤ 8) (hdg : decode cc pc = .ok (.invokevirtual 31, 3)) (hf : cells ≤ R.cells ∧ slots ≤ R.slots) (kk : ∀ H1 locs1, Wd E ad ixC x' H1 → va_S A s.heap H1 locs1 → W p l e R s m args below meth c H1 locs1 cells slots Q (F0 m (pc + 3) ls (.int r :: rest))) : W p l e R s m args below meth c H locs cells slots Q (F0 m pc ls (.int v1 :: .ref (ad v0) :: rest)) :=
  rcV (n := 1) C0 (cc_LE_has hap ho_v0 hc) hP hS ho_v0 vcl_1 (by decide) gw_code_LE_has gw_m_LE_31 gw_inst_LE_has gw_sel_LE_has gw_ini_LE rfl rfl (by decide +kernel) rfl hR hls rfl hroom hdg hf (fun H1 locs1 a _ _ b => kk H1 locs1 a b)
abbrev rm_LE_at : Room := { frames := 1, cells := 0, slots := 0, locals := 21 }
theorem dd_LE_at_0 : decode bb_LE_at 0 = .ok (.aload_n 0, 1) := by decide +kernel
theorem dd_LE_at_1 : decode bb_LE_at 1 = .ok (.iload_n 1, 1) := by decide +kernel
theorem dd_LE_at_2 : decode bb_LE_at 2 = .ok (.invokevirtual 31, 3) := by decide +kernel
theorem dd_LE_at_5 : decode bb_LE_at 5 = .ok (.ifCond .eq 15, 3) := by decide +kernel
theorem dd_LE_at_8 : decode bb_LE_at 8 = .ok (.iload_n 2, 1) := by decide +kernel
theorem dd_LE_at_9 : decode bb_LE_at 9 = .ok (.ifCond .lt 11, 3) := by decide +kernel
theorem dd_LE_at_12 : decode bb_LE_at 12 = .ok (.iload_n 2, 1) := by decide +kernel
theorem dd_LE_at_13 : decode bb_LE_at 13 = .ok (.aload_n 0, 1) := by decide +kernel
theorem dd_LE_at_14 : decode bb_LE_at 14 = .ok (.getfield 21, 3) := by decide +kernel
theorem dd_LE_at_17 : decode bb_LE_at 17 = .ok (.if_icmp .lt 5, 3) := by decide +kernel
theorem dd_LE_at_20 : decode bb_LE_at 20 = .ok (.iconst (-1), 1) := by decide +kernel
theorem dd_LE_at_21 : decode bb_LE_at 21 = .ok (.ireturn, 1) := by decide +kernel
theorem dd_LE_at_22 : decode bb_LE_at 22 = .ok (.aload_n 0, 1) := by decide +kernel
theorem dd_LE_at_23 : decode bb_LE_at 23 = .ok (.getfield 24, 3) := by decide +kernel
theorem dd_LE_at_26 : decode bb_LE_at 26 = .ok (.iload_n 1, 1) := by decide +kernel
theorem dd_LE_at_27 : decode bb_LE_at 27 = .ok (.aload_n 0, 1) := by decide +kernel
theorem dd_LE_at_28 : decode bb_LE_at 28 = .ok (.getfield 21, 3) := by decide +kernel
theorem dd_LE_at_31 : decode bb_LE_at 31 = .ok (.imul, 1) := by decide +kernel
theorem dd_LE_at_32 : decode bb_LE_at 32 = .ok (.iload_n 2, 1) := by decide +kernel
theorem dd_LE_at_33 : decode bb_LE_at 33 = .ok (.iadd, 1) := by decide +kernel
theorem dd_LE_at_34 : decode bb_LE_at 34 = .ok (.iaload, 1) := by decide +kernel
theorem dd_LE_at_35 : decode bb_LE_at 35 = .ok (.ireturn, 1) := by decide +kernel
def ff_LE_at  (x : St) (v0 : Nat) (v1 : Int32) (v2 : Int32) : Option (Int32 × St) := bnd (ff_LE_has x v0 v1) (fun r_1 x_2 => (if r_1 = 0 then some ((-1), x_2) else (if v2 < 0 then some ((-1), x_2) else (if v2 < (gi x_2 v0 1) then (if ixb ((v1 * (gi x_2 v0 1)) + v2) (ln (rf v0 2)) = true then some (gi x_2 (rf v0 2) (ix ((v1 * (gi x_2 v0 1)) + v2)), x_2) else none) else some ((-1), x_2)))))
set_option maxHeartbeats 4000000 in
set_option maxRecDepth 100000 in
theorem ww_LE_at {p : Program} {l : Launch} {e : Env} {s : State} {m : MethodId} {args : Array Value} {below : List Frame} {meth : Method} {c : Code} {E : Ev} {A : Nat → Prop} {ad : Nat → Nat} {r : Int32} {x' : St} (C0 : Cx E A RLE bb_LE_at 3 (some .int) p s m args meth c) (hap : Ap ad ixC A)  {x : St} {v0 : Nat} {v1 : Int32} {v2 : Int32} (ho_v0 : isO ixC v0 1) (hf : ff_LE_at x v0 v1 v2 = some (r, x')) {H : Heap} {locs : List Loc} {ls : Array Slot} (hP : Wd E ad ixC x H) (hS : va_S A s.heap H locs) (hl : lv_has ls 3 [(0, .ref (ad v0)), (1, .int v1), (2, .int v2)]) : W p l e rm_LE_at s m args below meth c H locs 0 0 (MQ below (QX E ad ixC A (some (.int r)) x') args s 0 0 A) (F0 m 0 ls []) := by
  obtain ⟨hx, hb, hml, hr, hown, hts, hlk, hK⟩ := id C0
  have hf : bnd (ff_LE_has x v0 v1) (fun r_1 x_2 => (if r_1 = 0 then some ((-1), x_2) else (if v2 < 0 then some ((-1), x_2) else (if v2 < (gi x_2 v0 1) then (if ixb ((v1 * (gi x_2 v0 1)) + v2) (ln (rf v0 2)) = true then some (gi x_2 (rf v0 2) (ix ((v1 * (gi x_2 v0 1)) + v2)), x_2) else none) else some ((-1), x_2))))) = some (r, x') := hf
  refine lv_aload_n hx hb dd_LE_at_0 rfl (lv_at hl 0 rfl) ?_
  refine lv_iload_n hx hb dd_LE_at_1 rfl (lv_at hl 1 rfl) ?_
  obtain ⟨r_1, x_2, c_3, hf⟩ := of_bnd hf
  refine cl_LE_31 C0 hap ho_v0 c_3 hP hS ⟨Nat.le_of_ble_eq_true rfl, Nat.le_of_ble_eq_true rfl⟩ hl.1 (Nat.le_of_ble_eq_true rfl) dd_LE_at_2 ⟨Nat.le_refl _, Nat.le_refl _⟩ (fun H locs hP hS => ?_)
  refine lv_if_eq (tgt := 20) hx hb dd_LE_at_5 (by decide) (fun h_4 => ?_) (fun h_4 => ?_)
  · have hf := (if_pos h_4).symm.trans hf
    refine lv_iconst (v := -1) hx hb dd_LE_at_20 (by decide) ?_
    exact rrI C0 hP hS dd_LE_at_21 hf
  · have hf := (if_neg h_4).symm.trans hf
    refine lv_iload_n hx hb dd_LE_at_8 rfl (lv_at hl 2 rfl) ?_
    refine lv_if_lt (tgt := 20) hx hb dd_LE_at_9 (by decide) (fun h_5 => ?_) (fun h_5 => ?_)
    · have hf := (if_pos h_5).symm.trans hf
      refine lv_iconst (v := -1) hx hb dd_LE_at_20 (by decide) ?_
      exact rrI C0 hP hS dd_LE_at_21 hf
    · have hf := (if_neg h_5).symm.trans hf
      refine lv_iload_n hx hb dd_LE_at_12 rfl (lv_at hl 2 rfl) ?_
      refine lv_aload_n hx hb dd_LE_at_13 rfl (lv_at hl 0 rfl) ?_
      refine gf_LE_21 C0 hP ho_v0 dd_LE_at_14 ?_
      refine lv_icmp_lt (tgt := 22) hx hb dd_LE_at_17 (by decide) (fun h_6 => ?_) (fun h_6 => ?_)
      · have hf := (if_pos h_6).symm.trans hf
        refine lv_aload_n hx hb dd_LE_at_22 rfl (lv_at hl 0 rfl) ?_
        refine gf_LE_24 C0 hP ho_v0 dd_LE_at_23 ?_
        refine lv_iload_n hx hb dd_LE_at_26 rfl (lv_at hl 1 rfl) ?_
        refine lv_aload_n hx hb dd_LE_at_27 rfl (lv_at hl 0 rfl) ?_
        refine gf_LE_21 C0 hP ho_v0 dd_LE_at_28 ?_
        refine lv_imul hx hb dd_LE_at_31 ?_
        refine lv_iload_n hx hb dd_LE_at_32 rfl (lv_at hl 2 rfl) ?_
        refine lv_iadd hx hb dd_LE_at_33 ?_
        obtain ⟨h_7, hf⟩ := of_ifb hf
        refine raI C0 hP (tp_1_2 ho_v0) h_7 dd_LE_at_34 ?_
        exact rrI C0 hP hS dd_LE_at_35 hf
      · have hf := (if_neg h_6).symm.trans hf
        refine lv_iconst (v := -1) hx hb dd_LE_at_20 (by decide) ?_
        exact rrI C0 hP hS dd_LE_at_21 hf
theorem cc_LE_at {l : Launch} {E : Ev} {A : Nat → Prop} {ad : Nat → Nat} (hap : Ap ad ixC A) {x x' : St} {v0 : Nat} {v1 : Int32} {v2 : Int32} {r : Int32} (ho_v0 : isO ixC v0 1) (hf : ff_LE_at x v0 v1 v2 = some (r, x')) : Met l yy_LE_at (Cond.code yy_LE_at bb_LE_at 3 (some .int) :: gtb) rm_LE_at (va_Pc [.ref (ad v0), .int v1, .int v2] (PB E A ad ixC x)) (QX E ad ixC A (some (.int r)) x') 0 0 A :=
  enter (by decide) (Nat.le_of_ble_eq_true rfl) (fun p e s m below meth c ls C0 hP hS hl => ww_LE_at C0 hap ho_v0 hf hP hS hl)
abbrev rm_AR_fillI : Room := { frames := 0, cells := 0, slots := 0, locals := 0 }
theorem dd_AR_fillI_0 : decode bb_AR_fillI 0 = .ok (.iconst 0, 1) := by decide +kernel
theorem dd_AR_fillI_1 : decode bb_AR_fillI 1 = .ok (.istore_n 2, 1) := by decide +kernel
theorem dd_AR_fillI_2 : decode bb_AR_fillI 2 = .ok (.aload_n 0, 1) := by decide +kernel
theorem dd_AR_fillI_3 : decode bb_AR_fillI 3 = .ok (.arraylength, 1) := by decide +kernel
theorem dd_AR_fillI_4 : decode bb_AR_fillI 4 = .ok (.istore_n 3, 1) := by decide +kernel
theorem dd_AR_fillI_5 : decode bb_AR_fillI 5 = .ok (.iload_n 2, 1) := by decide +kernel
theorem dd_AR_fillI_6 : decode bb_AR_fillI 6 = .ok (.iload_n 3, 1) := by decide +kernel
theorem dd_AR_fillI_7 : decode bb_AR_fillI 7 = .ok (.if_icmp .ge 13, 3) := by decide +kernel
theorem dd_AR_fillI_10 : decode bb_AR_fillI 10 = .ok (.aload_n 0, 1) := by decide +kernel
theorem dd_AR_fillI_11 : decode bb_AR_fillI 11 = .ok (.iload_n 2, 1) := by decide +kernel
theorem dd_AR_fillI_12 : decode bb_AR_fillI 12 = .ok (.iload_n 1, 1) := by decide +kernel
theorem dd_AR_fillI_13 : decode bb_AR_fillI 13 = .ok (.iastore, 1) := by decide +kernel
theorem dd_AR_fillI_14 : decode bb_AR_fillI 14 = .ok (.iinc 2 1, 3) := by decide +kernel
theorem dd_AR_fillI_17 : decode bb_AR_fillI 17 = .ok (.goto (-12), 3) := by decide +kernel
theorem dd_AR_fillI_20 : decode bb_AR_fillI 20 = .ok (.return_, 1) := by decide +kernel
def ff_AR_fillI_5  : Nat → St → Nat → Int32 → Int32 → Int32 → Option (Unit × St)
  | 0, _, _, _, _, _ => none
  | n + 1, x, v0, v1, v2, v3 => (if v3 ≤ v2 then some ((), x) else (if ixb v2 (ln v0) = true then st (si x v0 (ix v2) v1) (fun x_3 => ff_AR_fillI_5 n x_3 v0 v1 (v2 + 1) v3) else none))
def ff_AR_fillI  (x : St) (v0 : Nat) (v1 : Int32) : Option (Unit × St) := ff_AR_fillI_5 FU x v0 v1 0 (Int32.ofNat (ln v0))
set_option maxHeartbeats 4000000 in
set_option maxRecDepth 100000 in
theorem ww_AR_fillI_5 {p : Program} {l : Launch} {e : Env} {s : State} {m : MethodId} {args : Array Value} {below : List Frame} {meth : Method} {c : Code} {E : Ev} {A : Nat → Prop} {ad : Nat → Nat} {r : Unit} {x' : St} (C0 : Cx E A RAR bb_AR_fillI 4 (none) p s m args meth c) (hap : Ap ad ixC A)  : ∀ (n : Nat), ∀ (x : St) (v0 : Nat) (v1 : Int32) (v2 : Int32) (v3 : Int32), (isO ixC v0 20) → ff_AR_fillI_5 n x v0 v1 v2 v3 = some (r, x') → ∀ (H : Heap) (locs : List Loc) (ls : Array Slot), Wd E ad ixC x H → va_S A s.heap H locs → lv_has ls 4 [(0, .ref (ad v0)), (1, .int v1), (2, .int v2), (3, .int v3)] → W p l e rm_AR_fillI s m args below meth c H locs 0 0 (MQ below (QX E ad ixC A (none) x') args s 0 0 A) (F0 m 5 ls []) := by
  obtain ⟨hx, hb, hml, hr, hown, hts, hlk, hK⟩ := id C0
  intro n
  induction n with
  | zero => intro x v0 v1 v2 v3 ho_v0 hf; exact of_no hf
  | succ n ih =>
    intro x v0 v1 v2 v3 ho_v0 hf H locs ls hP hS hl
    have hf : (if v3 ≤ v2 then some ((), x) else (if ixb v2 (ln v0) = true then st (si x v0 (ix v2) v1) (fun x_3 => ff_AR_fillI_5 n x_3 v0 v1 (v2 + 1) v3) else none)) = some (r, x') := hf
    refine lv_iload_n hx hb dd_AR_fillI_5 rfl (lv_at hl 2 rfl) ?_
    refine lv_iload_n hx hb dd_AR_fillI_6 rfl (lv_at hl 3 rfl) ?_
    refine lv_icmp_ge (tgt := 20) hx hb dd_AR_fillI_7 (by decide) (fun h_1 => ?_) (fun h_1 => ?_)
    · have hf := (if_pos h_1).symm.trans hf
      exact rrV C0 hP hS dd_AR_fillI_20 hf
    · have hf := (if_neg h_1).symm.trans hf
      refine lv_aload_n hx hb dd_AR_fillI_10 rfl (lv_at hl 0 rfl) ?_
      refine lv_iload_n hx hb dd_AR_fillI_11 rfl (lv_at hl 2 rfl) ?_
      refine lv_iload_n hx hb dd_AR_fillI_12 rfl (lv_at hl 1 rfl) ?_
      obtain ⟨h_2, hf⟩ := of_ifb hf
      obtain ⟨x_3, hx_3, hf⟩ := of_st hf
      refine sI C0 hap hP hS ho_v0 h_2 hx_3 dd_AR_fillI_13 (fun H locs hP hS => ?_)
      refine lv_iinc (v := v2 + 1) (lv' := [(2, .int (v2 + 1)), (0, .ref (ad v0)), (1, .int v1), (3, .int v3)]) hx hb dd_AR_fillI_14 hl (k := 2) rfl rfl (by decide) rfl (fun ls hl => ?_)
      refine lv_goto (tgt := 5) hx hb dd_AR_fillI_17 (by decide) ?_
      exact ih x_3 v0 v1 (v2 + 1) v3 ho_v0 hf _ _ _ hP hS (lv_sub hl [1, 2, 0, 3] rfl)
set_option maxHeartbeats 4000000 in
set_option maxRecDepth 100000 in
theorem ww_AR_fillI {p : Program} {l : Launch} {e : Env} {s : State} {m : MethodId} {args : Array Value} {below : List Frame} {meth : Method} {c : Code} {E : Ev} {A : Nat → Prop} {ad : Nat → Nat} {r : Unit} {x' : St} (C0 : Cx E A RAR bb_AR_fillI 4 (none) p s m args meth c) (hap : Ap ad ixC A)  {x : St} {v0 : Nat} {v1 : Int32} (ho_v0 : isO ixC v0 20) (hf : ff_AR_fillI x v0 v1 = some (r, x')) {H : Heap} {locs : List Loc} {ls : Array Slot} (hP : Wd E ad ixC x H) (hS : va_S A s.heap H locs) (hl : lv_has ls 4 [(0, .ref (ad v0)), (1, .int v1)]) : W p l e rm_AR_fillI s m args below meth c H locs 0 0 (MQ below (QX E ad ixC A (none) x') args s 0 0 A) (F0 m 0 ls []) := by
  obtain ⟨hx, hb, hml, hr, hown, hts, hlk, hK⟩ := id C0
  have hf : ff_AR_fillI_5 FU x v0 v1 0 (Int32.ofNat (ln v0)) = some (r, x') := hf
  refine lv_iconst (v := 0) hx hb dd_AR_fillI_0 (by decide) ?_
  refine lv_istore_n (lv' := [(2, .int 0), (0, .ref (ad v0)), (1, .int v1)]) hx hb dd_AR_fillI_1 rfl hl (by decide) rfl (fun ls hl => ?_)
  refine lv_aload_n hx hb dd_AR_fillI_2 rfl (lv_at hl 1 rfl) ?_
  refine rlen C0 hP ho_v0 dd_AR_fillI_3 ?_
  refine lv_istore_n (lv' := [(3, .int (Int32.ofNat (ln v0))), (2, .int 0), (0, .ref (ad v0)), (1, .int v1)]) hx hb dd_AR_fillI_4 rfl hl (by decide) rfl (fun ls hl => ?_)
  exact ww_AR_fillI_5 C0 hap  FU x v0 v1 0 (Int32.ofNat (ln v0)) ho_v0 hf _ _ _ hP hS (lv_sub hl [2, 3, 1, 0] rfl)
theorem cc_AR_fillI {l : Launch} {E : Ev} {A : Nat → Prop} {ad : Nat → Nat} (hap : Ap ad ixC A) {x x' : St} {v0 : Nat} {v1 : Int32} {r : Unit} (ho_v0 : isO ixC v0 20) (hf : ff_AR_fillI x v0 v1 = some (r, x')) : Met l yy_AR_fillI (Cond.code yy_AR_fillI bb_AR_fillI 4 (none) :: gtb) rm_AR_fillI (va_Pc [.ref (ad v0), .int v1] (PB E A ad ixC x)) (QX E ad ixC A (none) x') 0 0 A :=
  enter (by decide) (Nat.le_of_ble_eq_true rfl) (fun p e s m below meth c ls C0 hP hS hl => ww_AR_fillI C0 hap ho_v0 hf hP hS hl)
abbrev rm_KI_mournerStep : Room := { frames := 0, cells := 0, slots := 0, locals := 0 }
theorem dd_KI_mournerStep_0 : decode bb_KI_mournerStep 0 = .ok (.iload_n 0, 1) := by decide +kernel
theorem dd_KI_mournerStep_1 : decode bb_KI_mournerStep 1 = .ok (.iconst 1, 1) := by decide +kernel
theorem dd_KI_mournerStep_2 : decode bb_KI_mournerStep 2 = .ok (.if_icmp .le 9, 3) := by decide +kernel
theorem dd_KI_mournerStep_5 : decode bb_KI_mournerStep 5 = .ok (.iload_n 0, 1) := by decide +kernel
theorem dd_KI_mournerStep_6 : decode bb_KI_mournerStep 6 = .ok (.iconst 1, 1) := by decide +kernel
theorem dd_KI_mournerStep_7 : decode bb_KI_mournerStep 7 = .ok (.isub, 1) := by decide +kernel
theorem dd_KI_mournerStep_8 : decode bb_KI_mournerStep 8 = .ok (.goto 4, 3) := by decide +kernel
theorem dd_KI_mournerStep_11 : decode bb_KI_mournerStep 11 = .ok (.iconst 0, 1) := by decide +kernel
theorem dd_KI_mournerStep_12 : decode bb_KI_mournerStep 12 = .ok (.ireturn, 1) := by decide +kernel
def ff_KI_mournerStep  (x : St) (v0 : Int32) : Option (Int32 × St) := (if v0 ≤ 1 then some (0, x) else some (v0 - 1, x))
set_option maxHeartbeats 4000000 in
set_option maxRecDepth 100000 in
theorem ww_KI_mournerStep {p : Program} {l : Launch} {e : Env} {s : State} {m : MethodId} {args : Array Value} {below : List Frame} {meth : Method} {c : Code} {E : Ev} {A : Nat → Prop} {ad : Nat → Nat} {r : Int32} {x' : St} (C0 : Cx E A RKI bb_KI_mournerStep 1 (some .int) p s m args meth c) (hap : Ap ad ixC A)  {x : St} {v0 : Int32}  (hf : ff_KI_mournerStep x v0 = some (r, x')) {H : Heap} {locs : List Loc} {ls : Array Slot} (hP : Wd E ad ixC x H) (hS : va_S A s.heap H locs) (hl : lv_has ls 1 [(0, .int v0)]) : W p l e rm_KI_mournerStep s m args below meth c H locs 0 0 (MQ below (QX E ad ixC A (some (.int r)) x') args s 0 0 A) (F0 m 0 ls []) := by
  obtain ⟨hx, hb, hml, hr, hown, hts, hlk, hK⟩ := id C0
  have hf : (if v0 ≤ 1 then some (0, x) else some (v0 - 1, x)) = some (r, x') := hf
  refine lv_iload_n hx hb dd_KI_mournerStep_0 rfl (lv_at hl 0 rfl) ?_
  refine lv_iconst (v := 1) hx hb dd_KI_mournerStep_1 (by decide) ?_
  refine lv_icmp_le (tgt := 11) hx hb dd_KI_mournerStep_2 (by decide) (fun h_1 => ?_) (fun h_1 => ?_)
  · have hf := (if_pos h_1).symm.trans hf
    refine lv_iconst (v := 0) hx hb dd_KI_mournerStep_11 (by decide) ?_
    exact rrI C0 hP hS dd_KI_mournerStep_12 hf
  · have hf := (if_neg h_1).symm.trans hf
    refine lv_iload_n hx hb dd_KI_mournerStep_5 rfl (lv_at hl 0 rfl) ?_
    refine lv_iconst (v := 1) hx hb dd_KI_mournerStep_6 (by decide) ?_
    refine lv_isub hx hb dd_KI_mournerStep_7 ?_
    refine lv_goto (tgt := 12) hx hb dd_KI_mournerStep_8 (by decide) ?_
    exact rrI C0 hP hS dd_KI_mournerStep_12 hf
theorem cc_KI_mournerStep {l : Launch} {E : Ev} {A : Nat → Prop} {ad : Nat → Nat} (hap : Ap ad ixC A) {x x' : St} {v0 : Int32} {r : Int32}  (hf : ff_KI_mournerStep x v0 = some (r, x')) : Met l yy_KI_mournerStep (Cond.code yy_KI_mournerStep bb_KI_mournerStep 1 (some .int) :: gtb) rm_KI_mournerStep (va_Pc [.int v0] (PB E A ad ixC x)) (QX E ad ixC A (some (.int r)) x') 0 0 A :=
  enter (by decide) (Nat.le_of_ble_eq_true rfl) (fun p e s m below meth c ls C0 hP hS hl => ww_KI_mournerStep C0 hap  hf hP hS hl)
theorem cl_KI_19 {p : Program} {l : Launch} {e : Env} {R : Room} {s : State} {m : MethodId} {args : Array Value} {below : List Frame} {meth : Method} {c : Code} {H : Heap} {locs : List Loc} {cells slots : Nat} {Q : State → Prop} {cc : ByteArray} {pc : Nat} {ls : Array Slot} {rest : List Value} {E : Ev} {A : Nat → Prop} {ad : Nat → Nat} {nL : Nat} {rt : Option FieldType} (C0 : Cx E A RKI cc nL rt p s m args meth c) (hap : Ap ad ixC A) {x x' : St} {v0 : Int32} {r : Int32}  (hc : ff_KI_mournerStep x v0 = some (r, x')) (hP : Wd E ad ixC x H) (hS : va_S A s.heap H locs) (hR : rm_KI_mournerStep.frames + 1 ≤ R.frames ∧ 8 + (1 + 11) + rm_KI_mournerStep.locals ≤ R.locals) (hls : ls.size = nL) (hroom : (rest.map fun v => v.category).sum ≤ 8) (hdg : decode cc pc = .ok (.invokestatic 19, 3)) (hf : cells ≤ R.cells ∧ slots ≤ R.slots) (kk : ∀ H1 locs1, Wd E ad ixC x' H1 → va_S A s.heap H1 locs1 → W p l e R s m args below meth c H1 locs1 cells slots Q (F0 m (pc + 3) ls (.int r :: rest))) : W p l e R s m args below meth c H locs cells slots Q (F0 m pc ls (.int v0 :: rest)) :=
  rcS (n := 1) C0 (cc_KI_mournerStep hap  hc) hP hS gw_code_KI_mournerStep gw_m_KI_19 gw_static_KI_mournerStep gw_ini_KI rfl rfl (by decide +kernel) rfl hR hls rfl hroom hdg hf (fun H1 locs1 a _ _ b => kk H1 locs1 a b)
abbrev rm_KI_widowStep : Room := { frames := 1, cells := 0, slots := 0, locals := 20 }
theorem dd_KI_widowStep_0 : decode bb_KI_widowStep 0 = .ok (.iload_n 1, 1) := by decide +kernel
theorem dd_KI_widowStep_1 : decode bb_KI_widowStep 1 = .ok (.bipush 7, 2) := by decide +kernel
theorem dd_KI_widowStep_3 : decode bb_KI_widowStep 3 = .ok (.irem, 1) := by decide +kernel
theorem dd_KI_widowStep_4 : decode bb_KI_widowStep 4 = .ok (.ifCond .ne 7, 3) := by decide +kernel
theorem dd_KI_widowStep_7 : decode bb_KI_widowStep 7 = .ok (.iload_n 0, 1) := by decide +kernel
theorem dd_KI_widowStep_8 : decode bb_KI_widowStep 8 = .ok (.goto 7, 3) := by decide +kernel
theorem dd_KI_widowStep_11 : decode bb_KI_widowStep 11 = .ok (.iload_n 0, 1) := by decide +kernel
theorem dd_KI_widowStep_12 : decode bb_KI_widowStep 12 = .ok (.invokestatic 19, 3) := by decide +kernel
theorem dd_KI_widowStep_15 : decode bb_KI_widowStep 15 = .ok (.ireturn, 1) := by decide +kernel
def ff_KI_widowStep  (x : St) (v0 : Int32) (v1 : Int32) : Option (Int32 × St) := (if (v1 - v1 / 7 * 7) = 0 then some (v0, x) else bnd (ff_KI_mournerStep x v0) (fun r_2 x_3 => some (r_2, x_3)))
set_option maxHeartbeats 4000000 in
set_option maxRecDepth 100000 in
theorem ww_KI_widowStep {p : Program} {l : Launch} {e : Env} {s : State} {m : MethodId} {args : Array Value} {below : List Frame} {meth : Method} {c : Code} {E : Ev} {A : Nat → Prop} {ad : Nat → Nat} {r : Int32} {x' : St} (C0 : Cx E A RKI bb_KI_widowStep 2 (some .int) p s m args meth c) (hap : Ap ad ixC A)  {x : St} {v0 : Int32} {v1 : Int32}  (hf : ff_KI_widowStep x v0 v1 = some (r, x')) {H : Heap} {locs : List Loc} {ls : Array Slot} (hP : Wd E ad ixC x H) (hS : va_S A s.heap H locs) (hl : lv_has ls 2 [(0, .int v0), (1, .int v1)]) : W p l e rm_KI_widowStep s m args below meth c H locs 0 0 (MQ below (QX E ad ixC A (some (.int r)) x') args s 0 0 A) (F0 m 0 ls []) := by
  obtain ⟨hx, hb, hml, hr, hown, hts, hlk, hK⟩ := id C0
  have hf : (if (v1 - v1 / 7 * 7) = 0 then some (v0, x) else bnd (ff_KI_mournerStep x v0) (fun r_2 x_3 => some (r_2, x_3))) = some (r, x') := hf
  refine lv_iload_n hx hb dd_KI_widowStep_0 rfl (lv_at hl 1 rfl) ?_
  refine lv_bipush (v := 7) hx hb dd_KI_widowStep_1 (by decide) ?_
  refine lv_irem hx hb dd_KI_widowStep_3 (by decide) ?_
  refine lv_if_ne (tgt := 11) hx hb dd_KI_widowStep_4 (by decide) (fun h_1 => ?_) (fun h_1 => ?_)
  · have hf := (if_neg h_1).symm.trans hf
    refine lv_iload_n hx hb dd_KI_widowStep_11 rfl (lv_at hl 0 rfl) ?_
    obtain ⟨r_2, x_3, c_4, hf⟩ := of_bnd hf
    refine cl_KI_19 C0 hap  c_4 hP hS ⟨Nat.le_of_ble_eq_true rfl, Nat.le_of_ble_eq_true rfl⟩ hl.1 (Nat.le_of_ble_eq_true rfl) dd_KI_widowStep_12 ⟨Nat.le_refl _, Nat.le_refl _⟩ (fun H locs hP hS => ?_)
    exact rrI C0 hP hS dd_KI_widowStep_15 hf
  · have hf := (if_pos h_1).symm.trans hf
    refine lv_iload_n hx hb dd_KI_widowStep_7 rfl (lv_at hl 0 rfl) ?_
    refine lv_goto (tgt := 15) hx hb dd_KI_widowStep_8 (by decide) ?_
    exact rrI C0 hP hS dd_KI_widowStep_15 hf
theorem cc_KI_widowStep {l : Launch} {E : Ev} {A : Nat → Prop} {ad : Nat → Nat} (hap : Ap ad ixC A) {x x' : St} {v0 : Int32} {v1 : Int32} {r : Int32}  (hf : ff_KI_widowStep x v0 v1 = some (r, x')) : Met l yy_KI_widowStep (Cond.code yy_KI_widowStep bb_KI_widowStep 2 (some .int) :: gtb) rm_KI_widowStep (va_Pc [.int v0, .int v1] (PB E A ad ixC x)) (QX E ad ixC A (some (.int r)) x') 0 0 A :=
  enter (by decide) (Nat.le_of_ble_eq_true rfl) (fun p e s m below meth c ls C0 hP hS hl => ww_KI_widowStep C0 hap  hf hP hS hl)
abbrev rm_KI_heirStep : Room := { frames := 0, cells := 0, slots := 0, locals := 0 }
theorem dd_KI_heirStep_0 : decode bb_KI_heirStep 0 = .ok (.iload_n 0, 1) := by decide +kernel
theorem dd_KI_heirStep_1 : decode bb_KI_heirStep 1 = .ok (.iconst 3, 1) := by decide +kernel
theorem dd_KI_heirStep_2 : decode bb_KI_heirStep 2 = .ok (.if_icmp .le 9, 3) := by decide +kernel
theorem dd_KI_heirStep_5 : decode bb_KI_heirStep 5 = .ok (.iload_n 0, 1) := by decide +kernel
theorem dd_KI_heirStep_6 : decode bb_KI_heirStep 6 = .ok (.iconst 3, 1) := by decide +kernel
theorem dd_KI_heirStep_7 : decode bb_KI_heirStep 7 = .ok (.isub, 1) := by decide +kernel
theorem dd_KI_heirStep_8 : decode bb_KI_heirStep 8 = .ok (.goto 4, 3) := by decide +kernel
theorem dd_KI_heirStep_11 : decode bb_KI_heirStep 11 = .ok (.iconst 0, 1) := by decide +kernel
theorem dd_KI_heirStep_12 : decode bb_KI_heirStep 12 = .ok (.ireturn, 1) := by decide +kernel
def ff_KI_heirStep  (x : St) (v0 : Int32) : Option (Int32 × St) := (if v0 ≤ 3 then some (0, x) else some (v0 - 3, x))
set_option maxHeartbeats 4000000 in
set_option maxRecDepth 100000 in
theorem ww_KI_heirStep {p : Program} {l : Launch} {e : Env} {s : State} {m : MethodId} {args : Array Value} {below : List Frame} {meth : Method} {c : Code} {E : Ev} {A : Nat → Prop} {ad : Nat → Nat} {r : Int32} {x' : St} (C0 : Cx E A RKI bb_KI_heirStep 1 (some .int) p s m args meth c) (hap : Ap ad ixC A)  {x : St} {v0 : Int32}  (hf : ff_KI_heirStep x v0 = some (r, x')) {H : Heap} {locs : List Loc} {ls : Array Slot} (hP : Wd E ad ixC x H) (hS : va_S A s.heap H locs) (hl : lv_has ls 1 [(0, .int v0)]) : W p l e rm_KI_heirStep s m args below meth c H locs 0 0 (MQ below (QX E ad ixC A (some (.int r)) x') args s 0 0 A) (F0 m 0 ls []) := by
  obtain ⟨hx, hb, hml, hr, hown, hts, hlk, hK⟩ := id C0
  have hf : (if v0 ≤ 3 then some (0, x) else some (v0 - 3, x)) = some (r, x') := hf
  refine lv_iload_n hx hb dd_KI_heirStep_0 rfl (lv_at hl 0 rfl) ?_
  refine lv_iconst (v := 3) hx hb dd_KI_heirStep_1 (by decide) ?_
  refine lv_icmp_le (tgt := 11) hx hb dd_KI_heirStep_2 (by decide) (fun h_1 => ?_) (fun h_1 => ?_)
  · have hf := (if_pos h_1).symm.trans hf
    refine lv_iconst (v := 0) hx hb dd_KI_heirStep_11 (by decide) ?_
    exact rrI C0 hP hS dd_KI_heirStep_12 hf
  · have hf := (if_neg h_1).symm.trans hf
    refine lv_iload_n hx hb dd_KI_heirStep_5 rfl (lv_at hl 0 rfl) ?_
    refine lv_iconst (v := 3) hx hb dd_KI_heirStep_6 (by decide) ?_
    refine lv_isub hx hb dd_KI_heirStep_7 ?_
    refine lv_goto (tgt := 12) hx hb dd_KI_heirStep_8 (by decide) ?_
    exact rrI C0 hP hS dd_KI_heirStep_12 hf
theorem cc_KI_heirStep {l : Launch} {E : Ev} {A : Nat → Prop} {ad : Nat → Nat} (hap : Ap ad ixC A) {x x' : St} {v0 : Int32} {r : Int32}  (hf : ff_KI_heirStep x v0 = some (r, x')) : Met l yy_KI_heirStep (Cond.code yy_KI_heirStep bb_KI_heirStep 1 (some .int) :: gtb) rm_KI_heirStep (va_Pc [.int v0] (PB E A ad ixC x)) (QX E ad ixC A (some (.int r)) x') 0 0 A :=
  enter (by decide) (Nat.le_of_ble_eq_true rfl) (fun p e s m below meth c ls C0 hP hS hl => ww_KI_heirStep C0 hap  hf hP hS hl)
theorem cl_KI_9 {p : Program} {l : Launch} {e : Env} {R : Room} {s : State} {m : MethodId} {args : Array Value} {below : List Frame} {meth : Method} {c : Code} {H : Heap} {locs : List Loc} {cells slots : Nat} {Q : State → Prop} {cc : ByteArray} {pc : Nat} {ls : Array Slot} {rest : List Value} {E : Ev} {A : Nat → Prop} {ad : Nat → Nat} {nL : Nat} {rt : Option FieldType} (C0 : Cx E A RKI cc nL rt p s m args meth c) (hap : Ap ad ixC A) {x x' : St} {v0 : Int32} {v1 : Int32} {r : Int32}  (hc : ff_KI_widowStep x v0 v1 = some (r, x')) (hP : Wd E ad ixC x H) (hS : va_S A s.heap H locs) (hR : rm_KI_widowStep.frames + 1 ≤ R.frames ∧ 8 + (2 + 11) + rm_KI_widowStep.locals ≤ R.locals) (hls : ls.size = nL) (hroom : (rest.map fun v => v.category).sum ≤ 8) (hdg : decode cc pc = .ok (.invokestatic 9, 3)) (hf : cells ≤ R.cells ∧ slots ≤ R.slots) (kk : ∀ H1 locs1, Wd E ad ixC x' H1 → va_S A s.heap H1 locs1 → W p l e R s m args below meth c H1 locs1 cells slots Q (F0 m (pc + 3) ls (.int r :: rest))) : W p l e R s m args below meth c H locs cells slots Q (F0 m pc ls (.int v1 :: .int v0 :: rest)) :=
  rcS (n := 2) C0 (cc_KI_widowStep hap  hc) hP hS gw_code_KI_widowStep gw_m_KI_9 gw_static_KI_widowStep gw_ini_KI rfl rfl (by decide +kernel) rfl hR hls rfl hroom hdg hf (fun H1 locs1 a _ _ b => kk H1 locs1 a b)
theorem cl_KI_15 {p : Program} {l : Launch} {e : Env} {R : Room} {s : State} {m : MethodId} {args : Array Value} {below : List Frame} {meth : Method} {c : Code} {H : Heap} {locs : List Loc} {cells slots : Nat} {Q : State → Prop} {cc : ByteArray} {pc : Nat} {ls : Array Slot} {rest : List Value} {E : Ev} {A : Nat → Prop} {ad : Nat → Nat} {nL : Nat} {rt : Option FieldType} (C0 : Cx E A RKI cc nL rt p s m args meth c) (hap : Ap ad ixC A) {x x' : St} {v0 : Int32} {r : Int32}  (hc : ff_KI_heirStep x v0 = some (r, x')) (hP : Wd E ad ixC x H) (hS : va_S A s.heap H locs) (hR : rm_KI_heirStep.frames + 1 ≤ R.frames ∧ 8 + (1 + 11) + rm_KI_heirStep.locals ≤ R.locals) (hls : ls.size = nL) (hroom : (rest.map fun v => v.category).sum ≤ 8) (hdg : decode cc pc = .ok (.invokestatic 15, 3)) (hf : cells ≤ R.cells ∧ slots ≤ R.slots) (kk : ∀ H1 locs1, Wd E ad ixC x' H1 → va_S A s.heap H1 locs1 → W p l e R s m args below meth c H1 locs1 cells slots Q (F0 m (pc + 3) ls (.int r :: rest))) : W p l e R s m args below meth c H locs cells slots Q (F0 m pc ls (.int v0 :: rest)) :=
  rcS (n := 1) C0 (cc_KI_heirStep hap  hc) hP hS gw_code_KI_heirStep gw_m_KI_15 gw_static_KI_heirStep gw_ini_KI rfl rfl (by decide +kernel) rfl hR hls rfl hroom hdg hf (fun H1 locs1 a _ _ b => kk H1 locs1 a b)
abbrev rm_KI_stepOf : Room := { frames := 2, cells := 0, slots := 0, locals := 41 }
theorem dd_KI_stepOf_0 : decode bb_KI_stepOf 0 = .ok (.iload_n 0, 1) := by decide +kernel
theorem dd_KI_stepOf_1 : decode bb_KI_stepOf 1 = .ok (.tableswitch 87 1 5 #[35, 41, 46, 62, 77], 35) := by decide +kernel
theorem dd_KI_stepOf_36 : decode bb_KI_stepOf 36 = .ok (.iload_n 1, 1) := by decide +kernel
theorem dd_KI_stepOf_37 : decode bb_KI_stepOf 37 = .ok (.iload_n 2, 1) := by decide +kernel
theorem dd_KI_stepOf_38 : decode bb_KI_stepOf 38 = .ok (.invokestatic 9, 3) := by decide +kernel
theorem dd_KI_stepOf_41 : decode bb_KI_stepOf 41 = .ok (.ireturn, 1) := by decide +kernel
theorem dd_KI_stepOf_42 : decode bb_KI_stepOf 42 = .ok (.iload_n 1, 1) := by decide +kernel
theorem dd_KI_stepOf_43 : decode bb_KI_stepOf 43 = .ok (.invokestatic 15, 3) := by decide +kernel
theorem dd_KI_stepOf_46 : decode bb_KI_stepOf 46 = .ok (.ireturn, 1) := by decide +kernel
theorem dd_KI_stepOf_47 : decode bb_KI_stepOf 47 = .ok (.iload_n 2, 1) := by decide +kernel
theorem dd_KI_stepOf_48 : decode bb_KI_stepOf 48 = .ok (.bipush 20, 2) := by decide +kernel
theorem dd_KI_stepOf_50 : decode bb_KI_stepOf 50 = .ok (.if_icmp .le 7, 3) := by decide +kernel
theorem dd_KI_stepOf_53 : decode bb_KI_stepOf 53 = .ok (.iconst 0, 1) := by decide +kernel
theorem dd_KI_stepOf_54 : decode bb_KI_stepOf 54 = .ok (.goto 8, 3) := by decide +kernel
theorem dd_KI_stepOf_57 : decode bb_KI_stepOf 57 = .ok (.iload_n 1, 1) := by decide +kernel
theorem dd_KI_stepOf_58 : decode bb_KI_stepOf 58 = .ok (.iload_n 2, 1) := by decide +kernel
theorem dd_KI_stepOf_59 : decode bb_KI_stepOf 59 = .ok (.invokestatic 9, 3) := by decide +kernel
theorem dd_KI_stepOf_62 : decode bb_KI_stepOf 62 = .ok (.ireturn, 1) := by decide +kernel
theorem dd_KI_stepOf_63 : decode bb_KI_stepOf 63 = .ok (.iload_n 1, 1) := by decide +kernel
theorem dd_KI_stepOf_64 : decode bb_KI_stepOf 64 = .ok (.bipush 50, 2) := by decide +kernel
theorem dd_KI_stepOf_66 : decode bb_KI_stepOf 66 = .ok (.if_icmp .le 10, 3) := by decide +kernel
theorem dd_KI_stepOf_69 : decode bb_KI_stepOf 69 = .ok (.iload_n 1, 1) := by decide +kernel
theorem dd_KI_stepOf_70 : decode bb_KI_stepOf 70 = .ok (.invokestatic 15, 3) := by decide +kernel
theorem dd_KI_stepOf_73 : decode bb_KI_stepOf 73 = .ok (.goto 4, 3) := by decide +kernel
theorem dd_KI_stepOf_76 : decode bb_KI_stepOf 76 = .ok (.iload_n 1, 1) := by decide +kernel
theorem dd_KI_stepOf_77 : decode bb_KI_stepOf 77 = .ok (.ireturn, 1) := by decide +kernel
theorem dd_KI_stepOf_78 : decode bb_KI_stepOf 78 = .ok (.iload_n 1, 1) := by decide +kernel
theorem dd_KI_stepOf_79 : decode bb_KI_stepOf 79 = .ok (.iload_n 2, 1) := by decide +kernel
theorem dd_KI_stepOf_80 : decode bb_KI_stepOf 80 = .ok (.invokestatic 9, 3) := by decide +kernel
theorem dd_KI_stepOf_83 : decode bb_KI_stepOf 83 = .ok (.iload_n 2, 1) := by decide +kernel
theorem dd_KI_stepOf_84 : decode bb_KI_stepOf 84 = .ok (.invokestatic 9, 3) := by decide +kernel
theorem dd_KI_stepOf_87 : decode bb_KI_stepOf 87 = .ok (.ireturn, 1) := by decide +kernel
theorem dd_KI_stepOf_88 : decode bb_KI_stepOf 88 = .ok (.iload_n 1, 1) := by decide +kernel
theorem dd_KI_stepOf_89 : decode bb_KI_stepOf 89 = .ok (.invokestatic 19, 3) := by decide +kernel
theorem dd_KI_stepOf_92 : decode bb_KI_stepOf 92 = .ok (.ireturn, 1) := by decide +kernel
def ff_KI_stepOf  (x : St) (v0 : Int32) (v1 : Int32) (v2 : Int32) : Option (Int32 × St) := (if v0 = 1 then bnd (ff_KI_widowStep x v1 v2) (fun r_2 x_3 => some (r_2, x_3)) else (if v0 = 2 then bnd (ff_KI_heirStep x v1) (fun r_6 x_7 => some (r_6, x_7)) else (if v0 = 3 then (if v2 ≤ 20 then bnd (ff_KI_widowStep x v1 v2) (fun r_11 x_12 => some (r_11, x_12)) else some (0, x)) else (if v0 = 4 then (if v1 ≤ 50 then some (v1, x) else bnd (ff_KI_heirStep x v1) (fun r_16 x_17 => some (r_16, x_17))) else (if v0 = 5 then bnd (ff_KI_widowStep x v1 v2) (fun r_20 x_21 => bnd (ff_KI_widowStep x_21 r_20 v2) (fun r_23 x_24 => some (r_23, x_24))) else bnd (ff_KI_mournerStep x v1) (fun r_26 x_27 => some (r_26, x_27)))))))
set_option maxHeartbeats 4000000 in
set_option maxRecDepth 100000 in
theorem ww_KI_stepOf {p : Program} {l : Launch} {e : Env} {s : State} {m : MethodId} {args : Array Value} {below : List Frame} {meth : Method} {c : Code} {E : Ev} {A : Nat → Prop} {ad : Nat → Nat} {r : Int32} {x' : St} (C0 : Cx E A RKI bb_KI_stepOf 3 (some .int) p s m args meth c) (hap : Ap ad ixC A)  {x : St} {v0 : Int32} {v1 : Int32} {v2 : Int32}  (hf : ff_KI_stepOf x v0 v1 v2 = some (r, x')) {H : Heap} {locs : List Loc} {ls : Array Slot} (hP : Wd E ad ixC x H) (hS : va_S A s.heap H locs) (hl : lv_has ls 3 [(0, .int v0), (1, .int v1), (2, .int v2)]) : W p l e rm_KI_stepOf s m args below meth c H locs 0 0 (MQ below (QX E ad ixC A (some (.int r)) x') args s 0 0 A) (F0 m 0 ls []) := by
  obtain ⟨hx, hb, hml, hr, hown, hts, hlk, hK⟩ := id C0
  have hf : (if v0 = 1 then bnd (ff_KI_widowStep x v1 v2) (fun r_2 x_3 => some (r_2, x_3)) else (if v0 = 2 then bnd (ff_KI_heirStep x v1) (fun r_6 x_7 => some (r_6, x_7)) else (if v0 = 3 then (if v2 ≤ 20 then bnd (ff_KI_widowStep x v1 v2) (fun r_11 x_12 => some (r_11, x_12)) else some (0, x)) else (if v0 = 4 then (if v1 ≤ 50 then some (v1, x) else bnd (ff_KI_heirStep x v1) (fun r_16 x_17 => some (r_16, x_17))) else (if v0 = 5 then bnd (ff_KI_widowStep x v1 v2) (fun r_20 x_21 => bnd (ff_KI_widowStep x_21 r_20 v2) (fun r_23 x_24 => some (r_23, x_24))) else bnd (ff_KI_mournerStep x v1) (fun r_26 x_27 => some (r_26, x_27))))))) = some (r, x') := hf
  refine lv_iload_n hx hb dd_KI_stepOf_0 rfl (lv_at hl 0 rfl) ?_
  by_cases h_1 : v0 = 1
  · have hf := (if_pos h_1).symm.trans hf
    refine lv_tableIn (off := 35) (tgt := 36) hx hb dd_KI_stepOf_1 (by rw [h_1]; decide) (by rw [h_1]; decide) (by rw [h_1]; decide) (by decide) ?_
    refine lv_iload_n hx hb dd_KI_stepOf_36 rfl (lv_at hl 1 rfl) ?_
    refine lv_iload_n hx hb dd_KI_stepOf_37 rfl (lv_at hl 2 rfl) ?_
    obtain ⟨r_2, x_3, c_4, hf⟩ := of_bnd hf
    refine cl_KI_9 C0 hap  c_4 hP hS ⟨Nat.le_of_ble_eq_true rfl, Nat.le_of_ble_eq_true rfl⟩ hl.1 (Nat.le_of_ble_eq_true rfl) dd_KI_stepOf_38 ⟨Nat.le_refl _, Nat.le_refl _⟩ (fun H locs hP hS => ?_)
    exact rrI C0 hP hS dd_KI_stepOf_41 hf
  have hf := (if_neg h_1).symm.trans hf
  by_cases h_5 : v0 = 2
  · have hf := (if_pos h_5).symm.trans hf
    refine lv_tableIn (off := 41) (tgt := 42) hx hb dd_KI_stepOf_1 (by rw [h_5]; decide) (by rw [h_5]; decide) (by rw [h_5]; decide) (by decide) ?_
    refine lv_iload_n hx hb dd_KI_stepOf_42 rfl (lv_at hl 1 rfl) ?_
    obtain ⟨r_6, x_7, c_8, hf⟩ := of_bnd hf
    refine cl_KI_15 C0 hap  c_8 hP hS ⟨Nat.le_of_ble_eq_true rfl, Nat.le_of_ble_eq_true rfl⟩ hl.1 (Nat.le_of_ble_eq_true rfl) dd_KI_stepOf_43 ⟨Nat.le_refl _, Nat.le_refl _⟩ (fun H locs hP hS => ?_)
    exact rrI C0 hP hS dd_KI_stepOf_46 hf
  have hf := (if_neg h_5).symm.trans hf
  by_cases h_9 : v0 = 3
  · have hf := (if_pos h_9).symm.trans hf
    refine lv_tableIn (off := 46) (tgt := 47) hx hb dd_KI_stepOf_1 (by rw [h_9]; decide) (by rw [h_9]; decide) (by rw [h_9]; decide) (by decide) ?_
    refine lv_iload_n hx hb dd_KI_stepOf_47 rfl (lv_at hl 2 rfl) ?_
    refine lv_bipush (v := 20) hx hb dd_KI_stepOf_48 (by decide) ?_
    refine lv_icmp_le (tgt := 57) hx hb dd_KI_stepOf_50 (by decide) (fun h_10 => ?_) (fun h_10 => ?_)
    · have hf := (if_pos h_10).symm.trans hf
      refine lv_iload_n hx hb dd_KI_stepOf_57 rfl (lv_at hl 1 rfl) ?_
      refine lv_iload_n hx hb dd_KI_stepOf_58 rfl (lv_at hl 2 rfl) ?_
      obtain ⟨r_11, x_12, c_13, hf⟩ := of_bnd hf
      refine cl_KI_9 C0 hap  c_13 hP hS ⟨Nat.le_of_ble_eq_true rfl, Nat.le_of_ble_eq_true rfl⟩ hl.1 (Nat.le_of_ble_eq_true rfl) dd_KI_stepOf_59 ⟨Nat.le_refl _, Nat.le_refl _⟩ (fun H locs hP hS => ?_)
      exact rrI C0 hP hS dd_KI_stepOf_62 hf
    · have hf := (if_neg h_10).symm.trans hf
      refine lv_iconst (v := 0) hx hb dd_KI_stepOf_53 (by decide) ?_
      refine lv_goto (tgt := 62) hx hb dd_KI_stepOf_54 (by decide) ?_
      exact rrI C0 hP hS dd_KI_stepOf_62 hf
  have hf := (if_neg h_9).symm.trans hf
  by_cases h_14 : v0 = 4
  · have hf := (if_pos h_14).symm.trans hf
    refine lv_tableIn (off := 62) (tgt := 63) hx hb dd_KI_stepOf_1 (by rw [h_14]; decide) (by rw [h_14]; decide) (by rw [h_14]; decide) (by decide) ?_
    refine lv_iload_n hx hb dd_KI_stepOf_63 rfl (lv_at hl 1 rfl) ?_
    refine lv_bipush (v := 50) hx hb dd_KI_stepOf_64 (by decide) ?_
    refine lv_icmp_le (tgt := 76) hx hb dd_KI_stepOf_66 (by decide) (fun h_15 => ?_) (fun h_15 => ?_)
    · have hf := (if_pos h_15).symm.trans hf
      refine lv_iload_n hx hb dd_KI_stepOf_76 rfl (lv_at hl 1 rfl) ?_
      exact rrI C0 hP hS dd_KI_stepOf_77 hf
    · have hf := (if_neg h_15).symm.trans hf
      refine lv_iload_n hx hb dd_KI_stepOf_69 rfl (lv_at hl 1 rfl) ?_
      obtain ⟨r_16, x_17, c_18, hf⟩ := of_bnd hf
      refine cl_KI_15 C0 hap  c_18 hP hS ⟨Nat.le_of_ble_eq_true rfl, Nat.le_of_ble_eq_true rfl⟩ hl.1 (Nat.le_of_ble_eq_true rfl) dd_KI_stepOf_70 ⟨Nat.le_refl _, Nat.le_refl _⟩ (fun H locs hP hS => ?_)
      refine lv_goto (tgt := 77) hx hb dd_KI_stepOf_73 (by decide) ?_
      exact rrI C0 hP hS dd_KI_stepOf_77 hf
  have hf := (if_neg h_14).symm.trans hf
  by_cases h_19 : v0 = 5
  · have hf := (if_pos h_19).symm.trans hf
    refine lv_tableIn (off := 77) (tgt := 78) hx hb dd_KI_stepOf_1 (by rw [h_19]; decide) (by rw [h_19]; decide) (by rw [h_19]; decide) (by decide) ?_
    refine lv_iload_n hx hb dd_KI_stepOf_78 rfl (lv_at hl 1 rfl) ?_
    refine lv_iload_n hx hb dd_KI_stepOf_79 rfl (lv_at hl 2 rfl) ?_
    obtain ⟨r_20, x_21, c_22, hf⟩ := of_bnd hf
    refine cl_KI_9 C0 hap  c_22 hP hS ⟨Nat.le_of_ble_eq_true rfl, Nat.le_of_ble_eq_true rfl⟩ hl.1 (Nat.le_of_ble_eq_true rfl) dd_KI_stepOf_80 ⟨Nat.le_refl _, Nat.le_refl _⟩ (fun H locs hP hS => ?_)
    refine lv_iload_n hx hb dd_KI_stepOf_83 rfl (lv_at hl 2 rfl) ?_
    obtain ⟨r_23, x_24, c_25, hf⟩ := of_bnd hf
    refine cl_KI_9 C0 hap  c_25 hP hS ⟨Nat.le_of_ble_eq_true rfl, Nat.le_of_ble_eq_true rfl⟩ hl.1 (Nat.le_of_ble_eq_true rfl) dd_KI_stepOf_84 ⟨Nat.le_refl _, Nat.le_refl _⟩ (fun H locs hP hS => ?_)
    exact rrI C0 hP hS dd_KI_stepOf_87 hf
  have hf := (if_neg h_19).symm.trans hf
  refine lv_tableOut (tgt := 88) hx hb dd_KI_stepOf_1 (by have z0 := lv_neT h_1 (a := 1) (by decide); have z1 := lv_neT h_5 (a := 2) (by decide); have z2 := lv_neT h_9 (a := 3) (by decide); have z3 := lv_neT h_14 (a := 4) (by decide); have z4 := lv_neT h_19 (a := 5) (by decide); omega) (by decide) ?_
  refine lv_iload_n hx hb dd_KI_stepOf_88 rfl (lv_at hl 1 rfl) ?_
  obtain ⟨r_26, x_27, c_28, hf⟩ := of_bnd hf
  refine cl_KI_19 C0 hap  c_28 hP hS ⟨Nat.le_of_ble_eq_true rfl, Nat.le_of_ble_eq_true rfl⟩ hl.1 (Nat.le_of_ble_eq_true rfl) dd_KI_stepOf_89 ⟨Nat.le_refl _, Nat.le_refl _⟩ (fun H locs hP hS => ?_)
  exact rrI C0 hP hS dd_KI_stepOf_92 hf
theorem cc_KI_stepOf {l : Launch} {E : Ev} {A : Nat → Prop} {ad : Nat → Nat} (hap : Ap ad ixC A) {x x' : St} {v0 : Int32} {v1 : Int32} {v2 : Int32} {r : Int32}  (hf : ff_KI_stepOf x v0 v1 v2 = some (r, x')) : Met l yy_KI_stepOf (Cond.code yy_KI_stepOf bb_KI_stepOf 3 (some .int) :: gtb) rm_KI_stepOf (va_Pc [.int v0, .int v1, .int v2] (PB E A ad ixC x)) (QX E ad ixC A (some (.int r)) x') 0 0 A :=
  enter (by decide) (Nat.le_of_ble_eq_true rfl) (fun p e s m below meth c ls C0 hP hS hl => ww_KI_stepOf C0 hap  hf hP hS hl)
abbrev rm_KI_feastOf : Room := { frames := 1, cells := 0, slots := 0, locals := 21 }
theorem dd_KI_feastOf_0 : decode bb_KI_feastOf 0 = .ok (.iload_n 0, 1) := by decide +kernel
theorem dd_KI_feastOf_1 : decode bb_KI_feastOf 1 = .ok (.ifCond .ne 9, 3) := by decide +kernel
theorem dd_KI_feastOf_4 : decode bb_KI_feastOf 4 = .ok (.iload_n 1, 1) := by decide +kernel
theorem dd_KI_feastOf_5 : decode bb_KI_feastOf 5 = .ok (.iconst 2, 1) := by decide +kernel
theorem dd_KI_feastOf_6 : decode bb_KI_feastOf 6 = .ok (.idiv, 1) := by decide +kernel
theorem dd_KI_feastOf_7 : decode bb_KI_feastOf 7 = .ok (.goto 11, 3) := by decide +kernel
theorem dd_KI_feastOf_10 : decode bb_KI_feastOf 10 = .ok (.iload_n 1, 1) := by decide +kernel
theorem dd_KI_feastOf_11 : decode bb_KI_feastOf 11 = .ok (.iconst 5, 1) := by decide +kernel
theorem dd_KI_feastOf_12 : decode bb_KI_feastOf 12 = .ok (.iadd, 1) := by decide +kernel
theorem dd_KI_feastOf_13 : decode bb_KI_feastOf 13 = .ok (.bipush 99, 2) := by decide +kernel
theorem dd_KI_feastOf_15 : decode bb_KI_feastOf 15 = .ok (.invokestatic 22, 3) := by decide +kernel
theorem dd_KI_feastOf_18 : decode bb_KI_feastOf 18 = .ok (.ireturn, 1) := by decide +kernel
def ff_KI_feastOf  (x : St) (v0 : Int32) (v1 : Int32) : Option (Int32 × St) := (if v0 = 0 then some (v1 / 2, x) else some (imin (v1 + 5) 99, x))
set_option maxHeartbeats 4000000 in
set_option maxRecDepth 100000 in
theorem ww_KI_feastOf {p : Program} {l : Launch} {e : Env} {s : State} {m : MethodId} {args : Array Value} {below : List Frame} {meth : Method} {c : Code} {E : Ev} {A : Nat → Prop} {ad : Nat → Nat} {r : Int32} {x' : St} (C0 : Cx E A RKI bb_KI_feastOf 2 (some .int) p s m args meth c) (hap : Ap ad ixC A)  {x : St} {v0 : Int32} {v1 : Int32}  (hf : ff_KI_feastOf x v0 v1 = some (r, x')) {H : Heap} {locs : List Loc} {ls : Array Slot} (hP : Wd E ad ixC x H) (hS : va_S A s.heap H locs) (hl : lv_has ls 2 [(0, .int v0), (1, .int v1)]) : W p l e rm_KI_feastOf s m args below meth c H locs 0 0 (MQ below (QX E ad ixC A (some (.int r)) x') args s 0 0 A) (F0 m 0 ls []) := by
  obtain ⟨hx, hb, hml, hr, hown, hts, hlk, hK⟩ := id C0
  have hf : (if v0 = 0 then some (v1 / 2, x) else some (imin (v1 + 5) 99, x)) = some (r, x') := hf
  refine lv_iload_n hx hb dd_KI_feastOf_0 rfl (lv_at hl 0 rfl) ?_
  refine lv_if_ne (tgt := 10) hx hb dd_KI_feastOf_1 (by decide) (fun h_1 => ?_) (fun h_1 => ?_)
  · have hf := (if_neg h_1).symm.trans hf
    refine lv_iload_n hx hb dd_KI_feastOf_10 rfl (lv_at hl 1 rfl) ?_
    refine lv_iconst (v := 5) hx hb dd_KI_feastOf_11 (by decide) ?_
    refine lv_iadd hx hb dd_KI_feastOf_12 ?_
    refine lv_bipush (v := 99) hx hb dd_KI_feastOf_13 (by decide) ?_
    refine rmin C0 hl.1 gw_m_KI_22 (Nat.le_of_ble_eq_true rfl) ⟨Nat.le_of_ble_eq_true rfl, Nat.le_of_ble_eq_true rfl⟩ ⟨Nat.le_refl _, Nat.le_refl _⟩ dd_KI_feastOf_15 ?_
    exact rrI C0 hP hS dd_KI_feastOf_18 hf
  · have hf := (if_pos h_1).symm.trans hf
    refine lv_iload_n hx hb dd_KI_feastOf_4 rfl (lv_at hl 1 rfl) ?_
    refine lv_iconst (v := 2) hx hb dd_KI_feastOf_5 (by decide) ?_
    refine lv_idiv hx hb dd_KI_feastOf_6 (by decide) ?_
    refine lv_goto (tgt := 18) hx hb dd_KI_feastOf_7 (by decide) ?_
    exact rrI C0 hP hS dd_KI_feastOf_18 hf
theorem cc_KI_feastOf {l : Launch} {E : Ev} {A : Nat → Prop} {ad : Nat → Nat} (hap : Ap ad ixC A) {x x' : St} {v0 : Int32} {v1 : Int32} {r : Int32}  (hf : ff_KI_feastOf x v0 v1 = some (r, x')) : Met l yy_KI_feastOf (Cond.code yy_KI_feastOf bb_KI_feastOf 2 (some .int) :: gtb) rm_KI_feastOf (va_Pc [.int v0, .int v1] (PB E A ad ixC x)) (QX E ad ixC A (some (.int r)) x') 0 0 A :=
  enter (by decide) (Nat.le_of_ble_eq_true rfl) (fun p e s m below meth c ls C0 hP hS hl => ww_KI_feastOf C0 hap  hf hP hS hl)
abbrev rm_LE_isFull : Room := { frames := 0, cells := 0, slots := 0, locals := 0 }
theorem dd_LE_isFull_0 : decode bb_LE_isFull 0 = .ok (.aload_n 0, 1) := by decide +kernel
theorem dd_LE_isFull_1 : decode bb_LE_isFull 1 = .ok (.getfield 28, 3) := by decide +kernel
theorem dd_LE_isFull_4 : decode bb_LE_isFull 4 = .ok (.aload_n 0, 1) := by decide +kernel
theorem dd_LE_isFull_5 : decode bb_LE_isFull 5 = .ok (.getfield 15, 3) := by decide +kernel
theorem dd_LE_isFull_8 : decode bb_LE_isFull 8 = .ok (.if_icmp .lt 7, 3) := by decide +kernel
theorem dd_LE_isFull_11 : decode bb_LE_isFull 11 = .ok (.iconst 1, 1) := by decide +kernel
theorem dd_LE_isFull_12 : decode bb_LE_isFull 12 = .ok (.goto 4, 3) := by decide +kernel
theorem dd_LE_isFull_15 : decode bb_LE_isFull 15 = .ok (.iconst 0, 1) := by decide +kernel
theorem dd_LE_isFull_16 : decode bb_LE_isFull 16 = .ok (.ireturn, 1) := by decide +kernel
def ff_LE_isFull  (x : St) (v0 : Nat) : Option (Int32 × St) := (if (gi x v0 3) < (gi x v0 0) then some (0, x) else some (1, x))
set_option maxHeartbeats 4000000 in
set_option maxRecDepth 100000 in
theorem ww_LE_isFull {p : Program} {l : Launch} {e : Env} {s : State} {m : MethodId} {args : Array Value} {below : List Frame} {meth : Method} {c : Code} {E : Ev} {A : Nat → Prop} {ad : Nat → Nat} {r : Int32} {x' : St} (C0 : Cx E A RLE bb_LE_isFull 1 (some .boolean) p s m args meth c) (hap : Ap ad ixC A)  {x : St} {v0 : Nat} (ho_v0 : isO ixC v0 1) (hf : ff_LE_isFull x v0 = some (r, x')) {H : Heap} {locs : List Loc} {ls : Array Slot} (hP : Wd E ad ixC x H) (hS : va_S A s.heap H locs) (hl : lv_has ls 1 [(0, .ref (ad v0))]) : W p l e rm_LE_isFull s m args below meth c H locs 0 0 (MQ below (QX E ad ixC A (some (.int r)) x') args s 0 0 A) (F0 m 0 ls []) := by
  obtain ⟨hx, hb, hml, hr, hown, hts, hlk, hK⟩ := id C0
  have hf : (if (gi x v0 3) < (gi x v0 0) then some (0, x) else some (1, x)) = some (r, x') := hf
  refine lv_aload_n hx hb dd_LE_isFull_0 rfl (lv_at hl 0 rfl) ?_
  refine gf_LE_28 C0 hP ho_v0 dd_LE_isFull_1 ?_
  refine lv_aload_n hx hb dd_LE_isFull_4 rfl (lv_at hl 0 rfl) ?_
  refine gf_LE_15 C0 hP ho_v0 dd_LE_isFull_5 ?_
  refine lv_icmp_lt (tgt := 15) hx hb dd_LE_isFull_8 (by decide) (fun h_1 => ?_) (fun h_1 => ?_)
  · have hf := (if_pos h_1).symm.trans hf
    refine lv_iconst (v := 0) hx hb dd_LE_isFull_15 (by decide) ?_
    exact rrZ C0 hP hS (by decide) dd_LE_isFull_16 hf
  · have hf := (if_neg h_1).symm.trans hf
    refine lv_iconst (v := 1) hx hb dd_LE_isFull_11 (by decide) ?_
    refine lv_goto (tgt := 16) hx hb dd_LE_isFull_12 (by decide) ?_
    exact rrZ C0 hP hS (by decide) dd_LE_isFull_16 hf
theorem cc_LE_isFull {l : Launch} {E : Ev} {A : Nat → Prop} {ad : Nat → Nat} (hap : Ap ad ixC A) {x x' : St} {v0 : Nat} {r : Int32} (ho_v0 : isO ixC v0 1) (hf : ff_LE_isFull x v0 = some (r, x')) : Met l yy_LE_isFull (Cond.code yy_LE_isFull bb_LE_isFull 1 (some .boolean) :: gtb) rm_LE_isFull (va_Pc [.ref (ad v0)] (PB E A ad ixC x)) (QX E ad ixC A (some (.int r)) x') 0 0 A :=
  enter (by decide) (Nat.le_of_ble_eq_true rfl) (fun p e s m below meth c ls C0 hP hS hl => ww_LE_isFull C0 hap ho_v0 hf hP hS hl)
theorem cl_LE_35 {p : Program} {l : Launch} {e : Env} {R : Room} {s : State} {m : MethodId} {args : Array Value} {below : List Frame} {meth : Method} {c : Code} {H : Heap} {locs : List Loc} {cells slots : Nat} {Q : State → Prop} {cc : ByteArray} {pc : Nat} {ls : Array Slot} {rest : List Value} {E : Ev} {A : Nat → Prop} {ad : Nat → Nat} {nL : Nat} {rt : Option FieldType} (C0 : Cx E A RLE cc nL rt p s m args meth c) (hap : Ap ad ixC A) {x x' : St} {v0 : Nat} {r : Int32} (ho_v0 : isO ixC v0 1) (hc : ff_LE_isFull x v0 = some (r, x')) (hP : Wd E ad ixC x H) (hS : va_S A s.heap H locs) (hR : rm_LE_isFull.frames + 1 ≤ R.frames ∧ 8 + (1 + 11) + rm_LE_isFull.locals ≤ R.locals) (hls : ls.size = nL) (hroom : (rest.map fun v => v.category).sum ≤ 8) (hdg : decode cc pc = .ok (.invokevirtual 35, 3)) (hf : cells ≤ R.cells ∧ slots ≤ R.slots) (kk : ∀ H1 locs1, Wd E ad ixC x' H1 → va_S A s.heap H1 locs1 → W p l e R s m args below meth c H1 locs1 cells slots Q (F0 m (pc + 3) ls (.int r :: rest))) : W p l e R s m args below meth c H locs cells slots Q (F0 m pc ls (.ref (ad v0) :: rest)) :=
  rcV (n := 0) C0 (cc_LE_isFull hap ho_v0 hc) hP hS ho_v0 vcl_1 (by decide) gw_code_LE_isFull gw_m_LE_35 gw_inst_LE_isFull gw_sel_LE_isFull gw_ini_LE rfl rfl (by decide +kernel) rfl hR hls rfl hroom hdg hf (fun H1 locs1 a _ _ b => kk H1 locs1 a b)
abbrev rm_LE_add : Room := { frames := 1, cells := 0, slots := 0, locals := 20 }
theorem dd_LE_add_0 : decode bb_LE_add 0 = .ok (.aload_n 0, 1) := by decide +kernel
theorem dd_LE_add_1 : decode bb_LE_add 1 = .ok (.invokevirtual 35, 3) := by decide +kernel
theorem dd_LE_add_4 : decode bb_LE_add 4 = .ok (.ifCond .eq 6, 3) := by decide +kernel
theorem dd_LE_add_7 : decode bb_LE_add 7 = .ok (.bipush (-4), 2) := by decide +kernel
theorem dd_LE_add_9 : decode bb_LE_add 9 = .ok (.ireturn, 1) := by decide +kernel
theorem dd_LE_add_10 : decode bb_LE_add 10 = .ok (.aload_n 0, 1) := by decide +kernel
theorem dd_LE_add_11 : decode bb_LE_add 11 = .ok (.getfield 28, 3) := by decide +kernel
theorem dd_LE_add_14 : decode bb_LE_add 14 = .ok (.aload_n 0, 1) := by decide +kernel
theorem dd_LE_add_15 : decode bb_LE_add 15 = .ok (.getfield 21, 3) := by decide +kernel
theorem dd_LE_add_18 : decode bb_LE_add 18 = .ok (.imul, 1) := by decide +kernel
theorem dd_LE_add_19 : decode bb_LE_add 19 = .ok (.istore 4, 2) := by decide +kernel
theorem dd_LE_add_21 : decode bb_LE_add 21 = .ok (.aload_n 0, 1) := by decide +kernel
theorem dd_LE_add_22 : decode bb_LE_add 22 = .ok (.getfield 24, 3) := by decide +kernel
theorem dd_LE_add_25 : decode bb_LE_add 25 = .ok (.iload 4, 2) := by decide +kernel
theorem dd_LE_add_27 : decode bb_LE_add 27 = .ok (.iload_n 1, 1) := by decide +kernel
theorem dd_LE_add_28 : decode bb_LE_add 28 = .ok (.iastore, 1) := by decide +kernel
theorem dd_LE_add_29 : decode bb_LE_add 29 = .ok (.aload_n 0, 1) := by decide +kernel
theorem dd_LE_add_30 : decode bb_LE_add 30 = .ok (.getfield 21, 3) := by decide +kernel
theorem dd_LE_add_33 : decode bb_LE_add 33 = .ok (.iconst 1, 1) := by decide +kernel
theorem dd_LE_add_34 : decode bb_LE_add 34 = .ok (.if_icmp .le 13, 3) := by decide +kernel
theorem dd_LE_add_37 : decode bb_LE_add 37 = .ok (.aload_n 0, 1) := by decide +kernel
theorem dd_LE_add_38 : decode bb_LE_add 38 = .ok (.getfield 24, 3) := by decide +kernel
theorem dd_LE_add_41 : decode bb_LE_add 41 = .ok (.iload 4, 2) := by decide +kernel
theorem dd_LE_add_43 : decode bb_LE_add 43 = .ok (.iconst 1, 1) := by decide +kernel
theorem dd_LE_add_44 : decode bb_LE_add 44 = .ok (.iadd, 1) := by decide +kernel
theorem dd_LE_add_45 : decode bb_LE_add 45 = .ok (.iload_n 2, 1) := by decide +kernel
theorem dd_LE_add_46 : decode bb_LE_add 46 = .ok (.iastore, 1) := by decide +kernel
theorem dd_LE_add_47 : decode bb_LE_add 47 = .ok (.aload_n 0, 1) := by decide +kernel
theorem dd_LE_add_48 : decode bb_LE_add 48 = .ok (.getfield 21, 3) := by decide +kernel
theorem dd_LE_add_51 : decode bb_LE_add 51 = .ok (.iconst 2, 1) := by decide +kernel
theorem dd_LE_add_52 : decode bb_LE_add 52 = .ok (.if_icmp .le 13, 3) := by decide +kernel
theorem dd_LE_add_55 : decode bb_LE_add 55 = .ok (.aload_n 0, 1) := by decide +kernel
theorem dd_LE_add_56 : decode bb_LE_add 56 = .ok (.getfield 24, 3) := by decide +kernel
theorem dd_LE_add_59 : decode bb_LE_add 59 = .ok (.iload 4, 2) := by decide +kernel
theorem dd_LE_add_61 : decode bb_LE_add 61 = .ok (.iconst 2, 1) := by decide +kernel
theorem dd_LE_add_62 : decode bb_LE_add 62 = .ok (.iadd, 1) := by decide +kernel
theorem dd_LE_add_63 : decode bb_LE_add 63 = .ok (.iload_n 3, 1) := by decide +kernel
theorem dd_LE_add_64 : decode bb_LE_add 64 = .ok (.iastore, 1) := by decide +kernel
theorem dd_LE_add_65 : decode bb_LE_add 65 = .ok (.aload_n 0, 1) := by decide +kernel
theorem dd_LE_add_66 : decode bb_LE_add 66 = .ok (.dup, 1) := by decide +kernel
theorem dd_LE_add_67 : decode bb_LE_add 67 = .ok (.getfield 28, 3) := by decide +kernel
theorem dd_LE_add_70 : decode bb_LE_add 70 = .ok (.iconst 1, 1) := by decide +kernel
theorem dd_LE_add_71 : decode bb_LE_add 71 = .ok (.iadd, 1) := by decide +kernel
theorem dd_LE_add_72 : decode bb_LE_add 72 = .ok (.putfield 28, 3) := by decide +kernel
theorem dd_LE_add_75 : decode bb_LE_add 75 = .ok (.aload_n 0, 1) := by decide +kernel
theorem dd_LE_add_76 : decode bb_LE_add 76 = .ok (.getfield 28, 3) := by decide +kernel
theorem dd_LE_add_79 : decode bb_LE_add 79 = .ok (.iconst 1, 1) := by decide +kernel
theorem dd_LE_add_80 : decode bb_LE_add 80 = .ok (.isub, 1) := by decide +kernel
theorem dd_LE_add_81 : decode bb_LE_add 81 = .ok (.ireturn, 1) := by decide +kernel
def ff_LE_add_65  (x : St) (v0 : Nat) : Option (Int32 × St) := st (si x v0 3 ((gi x v0 3) + 1)) (fun x_10 => some ((gi x_10 v0 3) - 1, x_10))
def ff_LE_add_47  (x : St) (v0 : Nat) (v3 : Int32) (v4 : Int32) : Option (Int32 × St) := (if (gi x v0 1) ≤ 2 then ff_LE_add_65 x v0 else (if ixb (v4 + 2) (ln (rf v0 2)) = true then st (si x (rf v0 2) (ix (v4 + 2)) v3) (fun x_12 => ff_LE_add_65 x_12 v0) else none))
def ff_LE_add  (x : St) (v0 : Nat) (v1 : Int32) (v2 : Int32) (v3 : Int32) : Option (Int32 × St) := bnd (ff_LE_isFull x v0) (fun r_1 x_2 => (if r_1 = 0 then li ((gi x_2 v0 3) * (gi x_2 v0 1)) (fun u_5 => (if ixb u_5 (ln (rf v0 2)) = true then st (si x_2 (rf v0 2) (ix u_5) v1) (fun x_7 => (if (gi x_7 v0 1) ≤ 1 then ff_LE_add_47 x_7 v0 v3 u_5 else (if ixb (u_5 + 1) (ln (rf v0 2)) = true then st (si x_7 (rf v0 2) (ix (u_5 + 1)) v2) (fun x_14 => ff_LE_add_47 x_14 v0 v3 u_5) else none))) else none)) else some ((-4), x_2)))
set_option maxHeartbeats 4000000 in
set_option maxRecDepth 100000 in
theorem ww_LE_add_65 {p : Program} {l : Launch} {e : Env} {s : State} {m : MethodId} {args : Array Value} {below : List Frame} {meth : Method} {c : Code} {E : Ev} {A : Nat → Prop} {ad : Nat → Nat} {r : Int32} {x' : St} (C0 : Cx E A RLE bb_LE_add 5 (some .int) p s m args meth c) (hap : Ap ad ixC A)  {x : St} {v0 : Nat} (ho_v0 : isO ixC v0 1) (hf : ff_LE_add_65 x v0 = some (r, x')) {H : Heap} {locs : List Loc} {ls : Array Slot} (hP : Wd E ad ixC x H) (hS : va_S A s.heap H locs) (hl : lv_has ls 5 [(0, .ref (ad v0))]) : W p l e rm_LE_add s m args below meth c H locs 0 0 (MQ below (QX E ad ixC A (some (.int r)) x') args s 0 0 A) (F0 m 65 ls []) := by
  obtain ⟨hx, hb, hml, hr, hown, hts, hlk, hK⟩ := id C0
  have hf : st (si x v0 3 ((gi x v0 3) + 1)) (fun x_10 => some ((gi x_10 v0 3) - 1, x_10)) = some (r, x') := hf
  refine lv_aload_n hx hb dd_LE_add_65 rfl (lv_at hl 0 rfl) ?_
  refine lv_dup hx hb dd_LE_add_66 rfl ?_
  refine gf_LE_28 C0 hP ho_v0 dd_LE_add_67 ?_
  refine lv_iconst (v := 1) hx hb dd_LE_add_70 (by decide) ?_
  refine lv_iadd hx hb dd_LE_add_71 ?_
  obtain ⟨x_10, hx_10, hf⟩ := of_st hf
  refine pf_LE_28 C0 hap hP hS ho_v0 hx_10 dd_LE_add_72 (fun H locs hP hS => ?_)
  refine lv_aload_n hx hb dd_LE_add_75 rfl (lv_at hl 0 rfl) ?_
  refine gf_LE_28 C0 hP ho_v0 dd_LE_add_76 ?_
  refine lv_iconst (v := 1) hx hb dd_LE_add_79 (by decide) ?_
  refine lv_isub hx hb dd_LE_add_80 ?_
  exact rrI C0 hP hS dd_LE_add_81 hf
set_option maxHeartbeats 4000000 in
set_option maxRecDepth 100000 in
theorem ww_LE_add_47 {p : Program} {l : Launch} {e : Env} {s : State} {m : MethodId} {args : Array Value} {below : List Frame} {meth : Method} {c : Code} {E : Ev} {A : Nat → Prop} {ad : Nat → Nat} {r : Int32} {x' : St} (C0 : Cx E A RLE bb_LE_add 5 (some .int) p s m args meth c) (hap : Ap ad ixC A)  {x : St} {v0 : Nat} {v3 : Int32} {v4 : Int32} (ho_v0 : isO ixC v0 1) (hf : ff_LE_add_47 x v0 v3 v4 = some (r, x')) {H : Heap} {locs : List Loc} {ls : Array Slot} (hP : Wd E ad ixC x H) (hS : va_S A s.heap H locs) (hl : lv_has ls 5 [(0, .ref (ad v0)), (3, .int v3), (4, .int v4)]) : W p l e rm_LE_add s m args below meth c H locs 0 0 (MQ below (QX E ad ixC A (some (.int r)) x') args s 0 0 A) (F0 m 47 ls []) := by
  obtain ⟨hx, hb, hml, hr, hown, hts, hlk, hK⟩ := id C0
  have hf : (if (gi x v0 1) ≤ 2 then ff_LE_add_65 x v0 else (if ixb (v4 + 2) (ln (rf v0 2)) = true then st (si x (rf v0 2) (ix (v4 + 2)) v3) (fun x_12 => ff_LE_add_65 x_12 v0) else none)) = some (r, x') := hf
  refine lv_aload_n hx hb dd_LE_add_47 rfl (lv_at hl 0 rfl) ?_
  refine gf_LE_21 C0 hP ho_v0 dd_LE_add_48 ?_
  refine lv_iconst (v := 2) hx hb dd_LE_add_51 (by decide) ?_
  refine lv_icmp_le (tgt := 65) hx hb dd_LE_add_52 (by decide) (fun h_9 => ?_) (fun h_9 => ?_)
  · have hf := (if_pos h_9).symm.trans hf
    exact ww_LE_add_65 C0 hap  ho_v0 hf hP hS (lv_sub hl [0] rfl)
  · have hf := (if_neg h_9).symm.trans hf
    refine lv_aload_n hx hb dd_LE_add_55 rfl (lv_at hl 0 rfl) ?_
    refine gf_LE_24 C0 hP ho_v0 dd_LE_add_56 ?_
    refine lv_iload hx hb dd_LE_add_59 (lv_at hl 2 rfl) ?_
    refine lv_iconst (v := 2) hx hb dd_LE_add_61 (by decide) ?_
    refine lv_iadd hx hb dd_LE_add_62 ?_
    refine lv_iload_n hx hb dd_LE_add_63 rfl (lv_at hl 1 rfl) ?_
    obtain ⟨h_11, hf⟩ := of_ifb hf
    obtain ⟨x_12, hx_12, hf⟩ := of_st hf
    refine sI C0 hap hP hS (tp_1_2 ho_v0) h_11 hx_12 dd_LE_add_64 (fun H locs hP hS => ?_)
    exact ww_LE_add_65 C0 hap  ho_v0 hf hP hS (lv_sub hl [0] rfl)
set_option maxHeartbeats 4000000 in
set_option maxRecDepth 100000 in
theorem ww_LE_add {p : Program} {l : Launch} {e : Env} {s : State} {m : MethodId} {args : Array Value} {below : List Frame} {meth : Method} {c : Code} {E : Ev} {A : Nat → Prop} {ad : Nat → Nat} {r : Int32} {x' : St} (C0 : Cx E A RLE bb_LE_add 5 (some .int) p s m args meth c) (hap : Ap ad ixC A)  {x : St} {v0 : Nat} {v1 : Int32} {v2 : Int32} {v3 : Int32} (ho_v0 : isO ixC v0 1) (hf : ff_LE_add x v0 v1 v2 v3 = some (r, x')) {H : Heap} {locs : List Loc} {ls : Array Slot} (hP : Wd E ad ixC x H) (hS : va_S A s.heap H locs) (hl : lv_has ls 5 [(0, .ref (ad v0)), (1, .int v1), (2, .int v2), (3, .int v3)]) : W p l e rm_LE_add s m args below meth c H locs 0 0 (MQ below (QX E ad ixC A (some (.int r)) x') args s 0 0 A) (F0 m 0 ls []) := by
  obtain ⟨hx, hb, hml, hr, hown, hts, hlk, hK⟩ := id C0
  have hf : bnd (ff_LE_isFull x v0) (fun r_1 x_2 => (if r_1 = 0 then li ((gi x_2 v0 3) * (gi x_2 v0 1)) (fun u_5 => (if ixb u_5 (ln (rf v0 2)) = true then st (si x_2 (rf v0 2) (ix u_5) v1) (fun x_7 => (if (gi x_7 v0 1) ≤ 1 then ff_LE_add_47 x_7 v0 v3 u_5 else (if ixb (u_5 + 1) (ln (rf v0 2)) = true then st (si x_7 (rf v0 2) (ix (u_5 + 1)) v2) (fun x_14 => ff_LE_add_47 x_14 v0 v3 u_5) else none))) else none)) else some ((-4), x_2))) = some (r, x') := hf
  refine lv_aload_n hx hb dd_LE_add_0 rfl (lv_at hl 0 rfl) ?_
  obtain ⟨r_1, x_2, c_3, hf⟩ := of_bnd hf
  refine cl_LE_35 C0 hap ho_v0 c_3 hP hS ⟨Nat.le_of_ble_eq_true rfl, Nat.le_of_ble_eq_true rfl⟩ hl.1 (Nat.le_of_ble_eq_true rfl) dd_LE_add_1 ⟨Nat.le_refl _, Nat.le_refl _⟩ (fun H locs hP hS => ?_)
  refine lv_if_eq (tgt := 10) hx hb dd_LE_add_4 (by decide) (fun h_4 => ?_) (fun h_4 => ?_)
  · have hf := (if_pos h_4).symm.trans hf
    refine lv_aload_n hx hb dd_LE_add_10 rfl (lv_at hl 0 rfl) ?_
    refine gf_LE_28 C0 hP ho_v0 dd_LE_add_11 ?_
    refine lv_aload_n hx hb dd_LE_add_14 rfl (lv_at hl 0 rfl) ?_
    refine gf_LE_21 C0 hP ho_v0 dd_LE_add_15 ?_
    refine lv_imul hx hb dd_LE_add_18 ?_
    obtain ⟨u_5, eu_5, hf⟩ := of_li hf
    refine tpi eu_5 ?_
    refine lv_istore (lv' := [(4, .int u_5), (0, .ref (ad v0)), (1, .int v1), (2, .int v2), (3, .int v3)]) hx hb dd_LE_add_19 hl (by decide) rfl (fun ls hl => ?_)
    refine lv_aload_n hx hb dd_LE_add_21 rfl (lv_at hl 1 rfl) ?_
    refine gf_LE_24 C0 hP ho_v0 dd_LE_add_22 ?_
    refine lv_iload hx hb dd_LE_add_25 (lv_at hl 0 rfl) ?_
    refine lv_iload_n hx hb dd_LE_add_27 rfl (lv_at hl 2 rfl) ?_
    obtain ⟨h_6, hf⟩ := of_ifb hf
    obtain ⟨x_7, hx_7, hf⟩ := of_st hf
    refine sI C0 hap hP hS (tp_1_2 ho_v0) h_6 hx_7 dd_LE_add_28 (fun H locs hP hS => ?_)
    refine lv_aload_n hx hb dd_LE_add_29 rfl (lv_at hl 1 rfl) ?_
    refine gf_LE_21 C0 hP ho_v0 dd_LE_add_30 ?_
    refine lv_iconst (v := 1) hx hb dd_LE_add_33 (by decide) ?_
    refine lv_icmp_le (tgt := 47) hx hb dd_LE_add_34 (by decide) (fun h_8 => ?_) (fun h_8 => ?_)
    · have hf := (if_pos h_8).symm.trans hf
      exact ww_LE_add_47 C0 hap  ho_v0 hf hP hS (lv_sub hl [1, 4, 0] rfl)
    · have hf := (if_neg h_8).symm.trans hf
      refine lv_aload_n hx hb dd_LE_add_37 rfl (lv_at hl 1 rfl) ?_
      refine gf_LE_24 C0 hP ho_v0 dd_LE_add_38 ?_
      refine lv_iload hx hb dd_LE_add_41 (lv_at hl 0 rfl) ?_
      refine lv_iconst (v := 1) hx hb dd_LE_add_43 (by decide) ?_
      refine lv_iadd hx hb dd_LE_add_44 ?_
      refine lv_iload_n hx hb dd_LE_add_45 rfl (lv_at hl 3 rfl) ?_
      obtain ⟨h_13, hf⟩ := of_ifb hf
      obtain ⟨x_14, hx_14, hf⟩ := of_st hf
      refine sI C0 hap hP hS (tp_1_2 ho_v0) h_13 hx_14 dd_LE_add_46 (fun H locs hP hS => ?_)
      exact ww_LE_add_47 C0 hap  ho_v0 hf hP hS (lv_sub hl [1, 4, 0] rfl)
  · have hf := (if_neg h_4).symm.trans hf
    refine lv_bipush (v := -4) hx hb dd_LE_add_7 (by decide) ?_
    exact rrI C0 hP hS dd_LE_add_9 hf
theorem cc_LE_add {l : Launch} {E : Ev} {A : Nat → Prop} {ad : Nat → Nat} (hap : Ap ad ixC A) {x x' : St} {v0 : Nat} {v1 : Int32} {v2 : Int32} {v3 : Int32} {r : Int32} (ho_v0 : isO ixC v0 1) (hf : ff_LE_add x v0 v1 v2 v3 = some (r, x')) : Met l yy_LE_add (Cond.code yy_LE_add bb_LE_add 5 (some .int) :: gtb) rm_LE_add (va_Pc [.ref (ad v0), .int v1, .int v2, .int v3] (PB E A ad ixC x)) (QX E ad ixC A (some (.int r)) x') 0 0 A :=
  enter (by decide) (Nat.le_of_ble_eq_true rfl) (fun p e s m below meth c ls C0 hP hS hl => ww_LE_add C0 hap ho_v0 hf hP hS hl)
abbrev rm_LE_dropLast : Room := { frames := 0, cells := 0, slots := 0, locals := 0 }
theorem dd_LE_dropLast_0 : decode bb_LE_dropLast 0 = .ok (.aload_n 0, 1) := by decide +kernel
theorem dd_LE_dropLast_1 : decode bb_LE_dropLast 1 = .ok (.getfield 28, 3) := by decide +kernel
theorem dd_LE_dropLast_4 : decode bb_LE_dropLast 4 = .ok (.ifCond .le 13, 3) := by decide +kernel
theorem dd_LE_dropLast_7 : decode bb_LE_dropLast 7 = .ok (.aload_n 0, 1) := by decide +kernel
theorem dd_LE_dropLast_8 : decode bb_LE_dropLast 8 = .ok (.dup, 1) := by decide +kernel
theorem dd_LE_dropLast_9 : decode bb_LE_dropLast 9 = .ok (.getfield 28, 3) := by decide +kernel
theorem dd_LE_dropLast_12 : decode bb_LE_dropLast 12 = .ok (.iconst 1, 1) := by decide +kernel
theorem dd_LE_dropLast_13 : decode bb_LE_dropLast 13 = .ok (.isub, 1) := by decide +kernel
theorem dd_LE_dropLast_14 : decode bb_LE_dropLast 14 = .ok (.putfield 28, 3) := by decide +kernel
theorem dd_LE_dropLast_17 : decode bb_LE_dropLast 17 = .ok (.return_, 1) := by decide +kernel
def ff_LE_dropLast  (x : St) (v0 : Nat) : Option (Unit × St) := (if (gi x v0 3) ≤ 0 then some ((), x) else st (si x v0 3 ((gi x v0 3) - 1)) (fun x_2 => some ((), x_2)))
set_option maxHeartbeats 4000000 in
set_option maxRecDepth 100000 in
theorem ww_LE_dropLast {p : Program} {l : Launch} {e : Env} {s : State} {m : MethodId} {args : Array Value} {below : List Frame} {meth : Method} {c : Code} {E : Ev} {A : Nat → Prop} {ad : Nat → Nat} {r : Unit} {x' : St} (C0 : Cx E A RLE bb_LE_dropLast 1 (none) p s m args meth c) (hap : Ap ad ixC A)  {x : St} {v0 : Nat} (ho_v0 : isO ixC v0 1) (hf : ff_LE_dropLast x v0 = some (r, x')) {H : Heap} {locs : List Loc} {ls : Array Slot} (hP : Wd E ad ixC x H) (hS : va_S A s.heap H locs) (hl : lv_has ls 1 [(0, .ref (ad v0))]) : W p l e rm_LE_dropLast s m args below meth c H locs 0 0 (MQ below (QX E ad ixC A (none) x') args s 0 0 A) (F0 m 0 ls []) := by
  obtain ⟨hx, hb, hml, hr, hown, hts, hlk, hK⟩ := id C0
  have hf : (if (gi x v0 3) ≤ 0 then some ((), x) else st (si x v0 3 ((gi x v0 3) - 1)) (fun x_2 => some ((), x_2))) = some (r, x') := hf
  refine lv_aload_n hx hb dd_LE_dropLast_0 rfl (lv_at hl 0 rfl) ?_
  refine gf_LE_28 C0 hP ho_v0 dd_LE_dropLast_1 ?_
  refine lv_if_le (tgt := 17) hx hb dd_LE_dropLast_4 (by decide) (fun h_1 => ?_) (fun h_1 => ?_)
  · have hf := (if_pos h_1).symm.trans hf
    exact rrV C0 hP hS dd_LE_dropLast_17 hf
  · have hf := (if_neg h_1).symm.trans hf
    refine lv_aload_n hx hb dd_LE_dropLast_7 rfl (lv_at hl 0 rfl) ?_
    refine lv_dup hx hb dd_LE_dropLast_8 rfl ?_
    refine gf_LE_28 C0 hP ho_v0 dd_LE_dropLast_9 ?_
    refine lv_iconst (v := 1) hx hb dd_LE_dropLast_12 (by decide) ?_
    refine lv_isub hx hb dd_LE_dropLast_13 ?_
    obtain ⟨x_2, hx_2, hf⟩ := of_st hf
    refine pf_LE_28 C0 hap hP hS ho_v0 hx_2 dd_LE_dropLast_14 (fun H locs hP hS => ?_)
    exact rrV C0 hP hS dd_LE_dropLast_17 hf
theorem cc_LE_dropLast {l : Launch} {E : Ev} {A : Nat → Prop} {ad : Nat → Nat} (hap : Ap ad ixC A) {x x' : St} {v0 : Nat} {r : Unit} (ho_v0 : isO ixC v0 1) (hf : ff_LE_dropLast x v0 = some (r, x')) : Met l yy_LE_dropLast (Cond.code yy_LE_dropLast bb_LE_dropLast 1 (none) :: gtb) rm_LE_dropLast (va_Pc [.ref (ad v0)] (PB E A ad ixC x)) (QX E ad ixC A (none) x') 0 0 A :=
  enter (by decide) (Nat.le_of_ble_eq_true rfl) (fun p e s m below meth c ls C0 hP hS hl => ww_LE_dropLast C0 hap ho_v0 hf hP hS hl)
abbrev rm_LE_copyFrom : Room := { frames := 1, cells := 0, slots := 0, locals := 26 }
theorem dd_LE_copyFrom_0 : decode bb_LE_copyFrom 0 = .ok (.aload_n 1, 1) := by decide +kernel
theorem dd_LE_copyFrom_1 : decode bb_LE_copyFrom 1 = .ok (.getfield 24, 3) := by decide +kernel
theorem dd_LE_copyFrom_4 : decode bb_LE_copyFrom 4 = .ok (.arraylength, 1) := by decide +kernel
theorem dd_LE_copyFrom_5 : decode bb_LE_copyFrom 5 = .ok (.aload_n 0, 1) := by decide +kernel
theorem dd_LE_copyFrom_6 : decode bb_LE_copyFrom 6 = .ok (.getfield 24, 3) := by decide +kernel
theorem dd_LE_copyFrom_9 : decode bb_LE_copyFrom 9 = .ok (.arraylength, 1) := by decide +kernel
theorem dd_LE_copyFrom_10 : decode bb_LE_copyFrom 10 = .ok (.if_icmp .ne 29, 3) := by decide +kernel
theorem dd_LE_copyFrom_13 : decode bb_LE_copyFrom 13 = .ok (.aload_n 1, 1) := by decide +kernel
theorem dd_LE_copyFrom_14 : decode bb_LE_copyFrom 14 = .ok (.getfield 24, 3) := by decide +kernel
theorem dd_LE_copyFrom_17 : decode bb_LE_copyFrom 17 = .ok (.iconst 0, 1) := by decide +kernel
theorem dd_LE_copyFrom_18 : decode bb_LE_copyFrom 18 = .ok (.aload_n 0, 1) := by decide +kernel
theorem dd_LE_copyFrom_19 : decode bb_LE_copyFrom 19 = .ok (.getfield 24, 3) := by decide +kernel
theorem dd_LE_copyFrom_22 : decode bb_LE_copyFrom 22 = .ok (.iconst 0, 1) := by decide +kernel
theorem dd_LE_copyFrom_23 : decode bb_LE_copyFrom 23 = .ok (.aload_n 0, 1) := by decide +kernel
theorem dd_LE_copyFrom_24 : decode bb_LE_copyFrom 24 = .ok (.getfield 24, 3) := by decide +kernel
theorem dd_LE_copyFrom_27 : decode bb_LE_copyFrom 27 = .ok (.arraylength, 1) := by decide +kernel
theorem dd_LE_copyFrom_28 : decode bb_LE_copyFrom 28 = .ok (.invokestatic 39, 3) := by decide +kernel
theorem dd_LE_copyFrom_31 : decode bb_LE_copyFrom 31 = .ok (.aload_n 0, 1) := by decide +kernel
theorem dd_LE_copyFrom_32 : decode bb_LE_copyFrom 32 = .ok (.aload_n 1, 1) := by decide +kernel
theorem dd_LE_copyFrom_33 : decode bb_LE_copyFrom 33 = .ok (.getfield 28, 3) := by decide +kernel
theorem dd_LE_copyFrom_36 : decode bb_LE_copyFrom 36 = .ok (.putfield 28, 3) := by decide +kernel
theorem dd_LE_copyFrom_39 : decode bb_LE_copyFrom 39 = .ok (.return_, 1) := by decide +kernel
def ff_LE_copyFrom  (x : St) (v0 : Nat) (v1 : Nat) : Option (Unit × St) := (if (Int32.ofNat (ln (rf v1 2))) = (Int32.ofNat (ln (rf v0 2))) then (if spb 0 (Int32.ofNat (ln (rf v0 2))) (ln (rf v1 2)) = true then (if spb 0 (Int32.ofNat (ln (rf v0 2))) (ln (rf v0 2)) = true then st (cpi x (rf v1 2) (ix 0) (rf v0 2) (ix 0) (ix (Int32.ofNat (ln (rf v0 2))))) (fun x_4 => st (si x_4 v0 3 (gi x_4 v1 3)) (fun x_5 => some ((), x_5))) else none) else none) else some ((), x))
set_option maxHeartbeats 4000000 in
set_option maxRecDepth 100000 in
theorem ww_LE_copyFrom {p : Program} {l : Launch} {e : Env} {s : State} {m : MethodId} {args : Array Value} {below : List Frame} {meth : Method} {c : Code} {E : Ev} {A : Nat → Prop} {ad : Nat → Nat} {r : Unit} {x' : St} (C0 : Cx E A RLE bb_LE_copyFrom 2 (none) p s m args meth c) (hap : Ap ad ixC A)  {x : St} {v0 : Nat} {v1 : Nat} (ho_v0 : isO ixC v0 1) (ho_v1 : isO ixC v1 1) (hf : ff_LE_copyFrom x v0 v1 = some (r, x')) {H : Heap} {locs : List Loc} {ls : Array Slot} (hP : Wd E ad ixC x H) (hS : va_S A s.heap H locs) (hl : lv_has ls 2 [(0, .ref (ad v0)), (1, .ref (ad v1))]) : W p l e rm_LE_copyFrom s m args below meth c H locs 0 0 (MQ below (QX E ad ixC A (none) x') args s 0 0 A) (F0 m 0 ls []) := by
  obtain ⟨hx, hb, hml, hr, hown, hts, hlk, hK⟩ := id C0
  have hf : (if (Int32.ofNat (ln (rf v1 2))) = (Int32.ofNat (ln (rf v0 2))) then (if spb 0 (Int32.ofNat (ln (rf v0 2))) (ln (rf v1 2)) = true then (if spb 0 (Int32.ofNat (ln (rf v0 2))) (ln (rf v0 2)) = true then st (cpi x (rf v1 2) (ix 0) (rf v0 2) (ix 0) (ix (Int32.ofNat (ln (rf v0 2))))) (fun x_4 => st (si x_4 v0 3 (gi x_4 v1 3)) (fun x_5 => some ((), x_5))) else none) else none) else some ((), x)) = some (r, x') := hf
  refine lv_aload_n hx hb dd_LE_copyFrom_0 rfl (lv_at hl 1 rfl) ?_
  refine gf_LE_24 C0 hP ho_v1 dd_LE_copyFrom_1 ?_
  refine rlen C0 hP (tp_1_2 ho_v1) dd_LE_copyFrom_4 ?_
  refine lv_aload_n hx hb dd_LE_copyFrom_5 rfl (lv_at hl 0 rfl) ?_
  refine gf_LE_24 C0 hP ho_v0 dd_LE_copyFrom_6 ?_
  refine rlen C0 hP (tp_1_2 ho_v0) dd_LE_copyFrom_9 ?_
  refine lv_icmp_ne (tgt := 39) hx hb dd_LE_copyFrom_10 (by decide) (fun h_1 => ?_) (fun h_1 => ?_)
  · have hf := (if_neg h_1).symm.trans hf
    exact rrV C0 hP hS dd_LE_copyFrom_39 hf
  · have hf := (if_pos h_1).symm.trans hf
    refine lv_aload_n hx hb dd_LE_copyFrom_13 rfl (lv_at hl 1 rfl) ?_
    refine gf_LE_24 C0 hP ho_v1 dd_LE_copyFrom_14 ?_
    refine lv_iconst (v := 0) hx hb dd_LE_copyFrom_17 (by decide) ?_
    refine lv_aload_n hx hb dd_LE_copyFrom_18 rfl (lv_at hl 0 rfl) ?_
    refine gf_LE_24 C0 hP ho_v0 dd_LE_copyFrom_19 ?_
    refine lv_iconst (v := 0) hx hb dd_LE_copyFrom_22 (by decide) ?_
    refine lv_aload_n hx hb dd_LE_copyFrom_23 rfl (lv_at hl 0 rfl) ?_
    refine gf_LE_24 C0 hP ho_v0 dd_LE_copyFrom_24 ?_
    refine rlen C0 hP (tp_1_2 ho_v0) dd_LE_copyFrom_27 ?_
    obtain ⟨h_2, hf⟩ := of_ifb hf
    obtain ⟨h_3, hf⟩ := of_ifb hf
    obtain ⟨x_4, hx_4, hf⟩ := of_st hf
    refine cpI C0 hap hP hS (tp_1_2 ho_v1) (tp_1_2 ho_v0) h_2 h_3 hx_4 hl.1 gw_m_LE_39 (Nat.le_of_ble_eq_true rfl) ⟨Nat.le_of_ble_eq_true rfl, Nat.le_of_ble_eq_true rfl⟩ dd_LE_copyFrom_28 (fun H locs hP hS => ?_)
    refine lv_aload_n hx hb dd_LE_copyFrom_31 rfl (lv_at hl 0 rfl) ?_
    refine lv_aload_n hx hb dd_LE_copyFrom_32 rfl (lv_at hl 1 rfl) ?_
    refine gf_LE_28 C0 hP ho_v1 dd_LE_copyFrom_33 ?_
    obtain ⟨x_5, hx_5, hf⟩ := of_st hf
    refine pf_LE_28 C0 hap hP hS ho_v0 hx_5 dd_LE_copyFrom_36 (fun H locs hP hS => ?_)
    exact rrV C0 hP hS dd_LE_copyFrom_39 hf
theorem cc_LE_copyFrom {l : Launch} {E : Ev} {A : Nat → Prop} {ad : Nat → Nat} (hap : Ap ad ixC A) {x x' : St} {v0 : Nat} {v1 : Nat} {r : Unit} (ho_v0 : isO ixC v0 1) (ho_v1 : isO ixC v1 1) (hf : ff_LE_copyFrom x v0 v1 = some (r, x')) : Met l yy_LE_copyFrom (Cond.code yy_LE_copyFrom bb_LE_copyFrom 2 (none) :: gtb) rm_LE_copyFrom (va_Pc [.ref (ad v0), .ref (ad v1)] (PB E A ad ixC x)) (QX E ad ixC A (none) x') 0 0 A :=
  enter (by decide) (Nat.le_of_ble_eq_true rfl) (fun p e s m below meth c ls C0 hP hS hl => ww_LE_copyFrom C0 hap ho_v0 ho_v1 hf hP hS hl)
abbrev rm_LE_mixInto : Room := { frames := 0, cells := 0, slots := 0, locals := 0 }
theorem dd_LE_mixInto_0 : decode bb_LE_mixInto 0 = .ok (.lload_n 1, 1) := by decide +kernel
theorem dd_LE_mixInto_1 : decode bb_LE_mixInto 1 = .ok (.lstore_n 3, 1) := by decide +kernel
theorem dd_LE_mixInto_2 : decode bb_LE_mixInto 2 = .ok (.iconst 0, 1) := by decide +kernel
theorem dd_LE_mixInto_3 : decode bb_LE_mixInto 3 = .ok (.istore 5, 2) := by decide +kernel
theorem dd_LE_mixInto_5 : decode bb_LE_mixInto 5 = .ok (.iload 5, 2) := by decide +kernel
theorem dd_LE_mixInto_7 : decode bb_LE_mixInto 7 = .ok (.aload_n 0, 1) := by decide +kernel
theorem dd_LE_mixInto_8 : decode bb_LE_mixInto 8 = .ok (.getfield 28, 3) := by decide +kernel
theorem dd_LE_mixInto_11 : decode bb_LE_mixInto 11 = .ok (.aload_n 0, 1) := by decide +kernel
theorem dd_LE_mixInto_12 : decode bb_LE_mixInto 12 = .ok (.getfield 21, 3) := by decide +kernel
theorem dd_LE_mixInto_15 : decode bb_LE_mixInto 15 = .ok (.imul, 1) := by decide +kernel
theorem dd_LE_mixInto_16 : decode bb_LE_mixInto 16 = .ok (.if_icmp .ge 24, 3) := by decide +kernel
theorem dd_LE_mixInto_19 : decode bb_LE_mixInto 19 = .ok (.ldc2_w 45, 3) := by decide +kernel
theorem dd_LE_mixInto_22 : decode bb_LE_mixInto 22 = .ok (.lload_n 3, 1) := by decide +kernel
theorem dd_LE_mixInto_23 : decode bb_LE_mixInto 23 = .ok (.lmul, 1) := by decide +kernel
theorem dd_LE_mixInto_24 : decode bb_LE_mixInto 24 = .ok (.aload_n 0, 1) := by decide +kernel
theorem dd_LE_mixInto_25 : decode bb_LE_mixInto 25 = .ok (.getfield 24, 3) := by decide +kernel
theorem dd_LE_mixInto_28 : decode bb_LE_mixInto 28 = .ok (.iload 5, 2) := by decide +kernel
theorem dd_LE_mixInto_30 : decode bb_LE_mixInto 30 = .ok (.iaload, 1) := by decide +kernel
theorem dd_LE_mixInto_31 : decode bb_LE_mixInto 31 = .ok (.i2l, 1) := by decide +kernel
theorem dd_LE_mixInto_32 : decode bb_LE_mixInto 32 = .ok (.ladd, 1) := by decide +kernel
theorem dd_LE_mixInto_33 : decode bb_LE_mixInto 33 = .ok (.lstore_n 3, 1) := by decide +kernel
theorem dd_LE_mixInto_34 : decode bb_LE_mixInto 34 = .ok (.iinc 5 1, 3) := by decide +kernel
theorem dd_LE_mixInto_37 : decode bb_LE_mixInto 37 = .ok (.goto (-32), 3) := by decide +kernel
theorem dd_LE_mixInto_40 : decode bb_LE_mixInto 40 = .ok (.lload_n 3, 1) := by decide +kernel
theorem dd_LE_mixInto_41 : decode bb_LE_mixInto 41 = .ok (.lreturn, 1) := by decide +kernel
def ff_LE_mixInto_5  : Nat → St → Nat → Int64 → Int32 → Option (Int64 × St)
  | 0, _, _, _, _ => none
  | n + 1, x, v0, v3, v5 => (if ((gi x v0 3) * (gi x v0 1)) ≤ v5 then some (v3, x) else (if ixb v5 (ln (rf v0 2)) = true then lj ((31 * v3) + ((gi x (rf v0 2) (ix v5)).toInt64)) (fun u_3 => ff_LE_mixInto_5 n x v0 u_3 (v5 + 1)) else none))
def ff_LE_mixInto  (x : St) (v0 : Nat) (v1 : Int64) : Option (Int64 × St) := ff_LE_mixInto_5 FU x v0 v1 0
set_option maxHeartbeats 4000000 in
set_option maxRecDepth 100000 in
theorem ww_LE_mixInto_5 {p : Program} {l : Launch} {e : Env} {s : State} {m : MethodId} {args : Array Value} {below : List Frame} {meth : Method} {c : Code} {E : Ev} {A : Nat → Prop} {ad : Nat → Nat} {r : Int64} {x' : St} (C0 : Cx E A RLE bb_LE_mixInto 6 (some .long) p s m args meth c) (hap : Ap ad ixC A)  : ∀ (n : Nat), ∀ (x : St) (v0 : Nat) (v3 : Int64) (v5 : Int32), (isO ixC v0 1) → ff_LE_mixInto_5 n x v0 v3 v5 = some (r, x') → ∀ (H : Heap) (locs : List Loc) (ls : Array Slot), Wd E ad ixC x H → va_S A s.heap H locs → lv_has ls 6 [(0, .ref (ad v0)), (3, .long v3), (5, .int v5)] → W p l e rm_LE_mixInto s m args below meth c H locs 0 0 (MQ below (QX E ad ixC A (some (.long r)) x') args s 0 0 A) (F0 m 5 ls []) := by
  obtain ⟨hx, hb, hml, hr, hown, hts, hlk, hK⟩ := id C0
  intro n
  induction n with
  | zero => intro x v0 v3 v5 ho_v0 hf; exact of_no hf
  | succ n ih =>
    intro x v0 v3 v5 ho_v0 hf H locs ls hP hS hl
    have hf : (if ((gi x v0 3) * (gi x v0 1)) ≤ v5 then some (v3, x) else (if ixb v5 (ln (rf v0 2)) = true then lj ((31 * v3) + ((gi x (rf v0 2) (ix v5)).toInt64)) (fun u_3 => ff_LE_mixInto_5 n x v0 u_3 (v5 + 1)) else none)) = some (r, x') := hf
    refine lv_iload hx hb dd_LE_mixInto_5 (lv_at hl 2 rfl) ?_
    refine lv_aload_n hx hb dd_LE_mixInto_7 rfl (lv_at hl 0 rfl) ?_
    refine gf_LE_28 C0 hP ho_v0 dd_LE_mixInto_8 ?_
    refine lv_aload_n hx hb dd_LE_mixInto_11 rfl (lv_at hl 0 rfl) ?_
    refine gf_LE_21 C0 hP ho_v0 dd_LE_mixInto_12 ?_
    refine lv_imul hx hb dd_LE_mixInto_15 ?_
    refine lv_icmp_ge (tgt := 40) hx hb dd_LE_mixInto_16 (by decide) (fun h_1 => ?_) (fun h_1 => ?_)
    · have hf := (if_pos h_1).symm.trans hf
      refine lv_lload_n hx hb dd_LE_mixInto_40 rfl (lv_at hl 1 rfl) ?_
      exact rrL C0 hP hS dd_LE_mixInto_41 hf
    · have hf := (if_neg h_1).symm.trans hf
      refine lv_ldc2 (v := 31) hx hb hown (hts _ gw_k_LE_45) dd_LE_mixInto_19 ?_
      refine lv_lload_n hx hb dd_LE_mixInto_22 rfl (lv_at hl 1 rfl) ?_
      refine lv_lmul hx hb dd_LE_mixInto_23 ?_
      refine lv_aload_n hx hb dd_LE_mixInto_24 rfl (lv_at hl 0 rfl) ?_
      refine gf_LE_24 C0 hP ho_v0 dd_LE_mixInto_25 ?_
      refine lv_iload hx hb dd_LE_mixInto_28 (lv_at hl 2 rfl) ?_
      obtain ⟨h_2, hf⟩ := of_ifb hf
      refine raI C0 hP (tp_1_2 ho_v0) h_2 dd_LE_mixInto_30 ?_
      refine lv_i2l hx hb dd_LE_mixInto_31 rfl ?_
      refine lv_ladd hx hb dd_LE_mixInto_32 ?_
      obtain ⟨u_3, eu_3, hf⟩ := of_lj hf
      refine tpj eu_3 ?_
      refine lv_lstore_n (lv' := [(3, .long u_3), (0, .ref (ad v0)), (5, .int v5)]) hx hb dd_LE_mixInto_33 rfl hl (by decide) rfl (fun ls hl => ?_)
      refine lv_iinc (v := v5 + 1) (lv' := [(5, .int (v5 + 1)), (3, .long u_3), (0, .ref (ad v0))]) hx hb dd_LE_mixInto_34 hl (k := 2) rfl rfl (by decide) rfl (fun ls hl => ?_)
      refine lv_goto (tgt := 5) hx hb dd_LE_mixInto_37 (by decide) ?_
      exact ih x v0 u_3 (v5 + 1) ho_v0 hf _ _ _ hP hS (lv_sub hl [2, 1, 0] rfl)
set_option maxHeartbeats 4000000 in
set_option maxRecDepth 100000 in
theorem ww_LE_mixInto {p : Program} {l : Launch} {e : Env} {s : State} {m : MethodId} {args : Array Value} {below : List Frame} {meth : Method} {c : Code} {E : Ev} {A : Nat → Prop} {ad : Nat → Nat} {r : Int64} {x' : St} (C0 : Cx E A RLE bb_LE_mixInto 6 (some .long) p s m args meth c) (hap : Ap ad ixC A)  {x : St} {v0 : Nat} {v1 : Int64} (ho_v0 : isO ixC v0 1) (hf : ff_LE_mixInto x v0 v1 = some (r, x')) {H : Heap} {locs : List Loc} {ls : Array Slot} (hP : Wd E ad ixC x H) (hS : va_S A s.heap H locs) (hl : lv_has ls 6 [(0, .ref (ad v0)), (1, .long v1)]) : W p l e rm_LE_mixInto s m args below meth c H locs 0 0 (MQ below (QX E ad ixC A (some (.long r)) x') args s 0 0 A) (F0 m 0 ls []) := by
  obtain ⟨hx, hb, hml, hr, hown, hts, hlk, hK⟩ := id C0
  have hf : ff_LE_mixInto_5 FU x v0 v1 0 = some (r, x') := hf
  refine lv_lload_n hx hb dd_LE_mixInto_0 rfl (lv_at hl 1 rfl) ?_
  refine lv_lstore_n (lv' := [(3, .long v1), (0, .ref (ad v0)), (1, .long v1)]) hx hb dd_LE_mixInto_1 rfl hl (by decide) rfl (fun ls hl => ?_)
  refine lv_iconst (v := 0) hx hb dd_LE_mixInto_2 (by decide) ?_
  refine lv_istore (lv' := [(5, .int 0), (3, .long v1), (0, .ref (ad v0)), (1, .long v1)]) hx hb dd_LE_mixInto_3 hl (by decide) rfl (fun ls hl => ?_)
  exact ww_LE_mixInto_5 C0 hap  FU x v0 v1 0 ho_v0 hf _ _ _ hP hS (lv_sub hl [2, 1, 0] rfl)
theorem cc_LE_mixInto {l : Launch} {E : Ev} {A : Nat → Prop} {ad : Nat → Nat} (hap : Ap ad ixC A) {x x' : St} {v0 : Nat} {v1 : Int64} {r : Int64} (ho_v0 : isO ixC v0 1) (hf : ff_LE_mixInto x v0 v1 = some (r, x')) : Met l yy_LE_mixInto (Cond.code yy_LE_mixInto bb_LE_mixInto 6 (some .long) :: gtb) rm_LE_mixInto (va_Pc [.ref (ad v0), .long v1] (PB E A ad ixC x)) (QX E ad ixC A (some (.long r)) x') 0 0 A :=
  enter (by decide) (Nat.le_of_ble_eq_true rfl) (fun p e s m below meth c ls C0 hP hS hl => ww_LE_mixInto C0 hap ho_v0 hf hP hS hl)
abbrev rm_AR_fillJ : Room := { frames := 0, cells := 0, slots := 0, locals := 0 }
theorem dd_AR_fillJ_0 : decode bb_AR_fillJ 0 = .ok (.iconst 0, 1) := by decide +kernel
theorem dd_AR_fillJ_1 : decode bb_AR_fillJ 1 = .ok (.istore_n 3, 1) := by decide +kernel
theorem dd_AR_fillJ_2 : decode bb_AR_fillJ 2 = .ok (.aload_n 0, 1) := by decide +kernel
theorem dd_AR_fillJ_3 : decode bb_AR_fillJ 3 = .ok (.arraylength, 1) := by decide +kernel
theorem dd_AR_fillJ_4 : decode bb_AR_fillJ 4 = .ok (.istore 4, 2) := by decide +kernel
theorem dd_AR_fillJ_6 : decode bb_AR_fillJ 6 = .ok (.iload_n 3, 1) := by decide +kernel
theorem dd_AR_fillJ_7 : decode bb_AR_fillJ 7 = .ok (.iload 4, 2) := by decide +kernel
theorem dd_AR_fillJ_9 : decode bb_AR_fillJ 9 = .ok (.if_icmp .ge 13, 3) := by decide +kernel
theorem dd_AR_fillJ_12 : decode bb_AR_fillJ 12 = .ok (.aload_n 0, 1) := by decide +kernel
theorem dd_AR_fillJ_13 : decode bb_AR_fillJ 13 = .ok (.iload_n 3, 1) := by decide +kernel
theorem dd_AR_fillJ_14 : decode bb_AR_fillJ 14 = .ok (.lload_n 1, 1) := by decide +kernel
theorem dd_AR_fillJ_15 : decode bb_AR_fillJ 15 = .ok (.lastore, 1) := by decide +kernel
theorem dd_AR_fillJ_16 : decode bb_AR_fillJ 16 = .ok (.iinc 3 1, 3) := by decide +kernel
theorem dd_AR_fillJ_19 : decode bb_AR_fillJ 19 = .ok (.goto (-13), 3) := by decide +kernel
theorem dd_AR_fillJ_22 : decode bb_AR_fillJ 22 = .ok (.return_, 1) := by decide +kernel
def ff_AR_fillJ_6  : Nat → St → Nat → Int64 → Int32 → Int32 → Option (Unit × St)
  | 0, _, _, _, _, _ => none
  | n + 1, x, v0, v1, v3, v4 => (if v4 ≤ v3 then some ((), x) else (if ixb v3 (ln v0) = true then st (sl x v0 (ix v3) v1) (fun x_3 => ff_AR_fillJ_6 n x_3 v0 v1 (v3 + 1) v4) else none))
def ff_AR_fillJ  (x : St) (v0 : Nat) (v1 : Int64) : Option (Unit × St) := ff_AR_fillJ_6 FU x v0 v1 0 (Int32.ofNat (ln v0))
set_option maxHeartbeats 4000000 in
set_option maxRecDepth 100000 in
theorem ww_AR_fillJ_6 {p : Program} {l : Launch} {e : Env} {s : State} {m : MethodId} {args : Array Value} {below : List Frame} {meth : Method} {c : Code} {E : Ev} {A : Nat → Prop} {ad : Nat → Nat} {r : Unit} {x' : St} (C0 : Cx E A RAR bb_AR_fillJ 5 (none) p s m args meth c) (hap : Ap ad ixC A)  : ∀ (n : Nat), ∀ (x : St) (v0 : Nat) (v1 : Int64) (v3 : Int32) (v4 : Int32), (isO ixC v0 23) → ff_AR_fillJ_6 n x v0 v1 v3 v4 = some (r, x') → ∀ (H : Heap) (locs : List Loc) (ls : Array Slot), Wd E ad ixC x H → va_S A s.heap H locs → lv_has ls 5 [(0, .ref (ad v0)), (1, .long v1), (3, .int v3), (4, .int v4)] → W p l e rm_AR_fillJ s m args below meth c H locs 0 0 (MQ below (QX E ad ixC A (none) x') args s 0 0 A) (F0 m 6 ls []) := by
  obtain ⟨hx, hb, hml, hr, hown, hts, hlk, hK⟩ := id C0
  intro n
  induction n with
  | zero => intro x v0 v1 v3 v4 ho_v0 hf; exact of_no hf
  | succ n ih =>
    intro x v0 v1 v3 v4 ho_v0 hf H locs ls hP hS hl
    have hf : (if v4 ≤ v3 then some ((), x) else (if ixb v3 (ln v0) = true then st (sl x v0 (ix v3) v1) (fun x_3 => ff_AR_fillJ_6 n x_3 v0 v1 (v3 + 1) v4) else none)) = some (r, x') := hf
    refine lv_iload_n hx hb dd_AR_fillJ_6 rfl (lv_at hl 2 rfl) ?_
    refine lv_iload hx hb dd_AR_fillJ_7 (lv_at hl 3 rfl) ?_
    refine lv_icmp_ge (tgt := 22) hx hb dd_AR_fillJ_9 (by decide) (fun h_1 => ?_) (fun h_1 => ?_)
    · have hf := (if_pos h_1).symm.trans hf
      exact rrV C0 hP hS dd_AR_fillJ_22 hf
    · have hf := (if_neg h_1).symm.trans hf
      refine lv_aload_n hx hb dd_AR_fillJ_12 rfl (lv_at hl 0 rfl) ?_
      refine lv_iload_n hx hb dd_AR_fillJ_13 rfl (lv_at hl 2 rfl) ?_
      refine lv_lload_n hx hb dd_AR_fillJ_14 rfl (lv_at hl 1 rfl) ?_
      obtain ⟨h_2, hf⟩ := of_ifb hf
      obtain ⟨x_3, hx_3, hf⟩ := of_st hf
      refine sL C0 hap hP hS ho_v0 h_2 hx_3 dd_AR_fillJ_15 (fun H locs hP hS => ?_)
      refine lv_iinc (v := v3 + 1) (lv' := [(3, .int (v3 + 1)), (0, .ref (ad v0)), (1, .long v1), (4, .int v4)]) hx hb dd_AR_fillJ_16 hl (k := 2) rfl rfl (by decide) rfl (fun ls hl => ?_)
      refine lv_goto (tgt := 6) hx hb dd_AR_fillJ_19 (by decide) ?_
      exact ih x_3 v0 v1 (v3 + 1) v4 ho_v0 hf _ _ _ hP hS (lv_sub hl [1, 2, 0, 3] rfl)
set_option maxHeartbeats 4000000 in
set_option maxRecDepth 100000 in
theorem ww_AR_fillJ {p : Program} {l : Launch} {e : Env} {s : State} {m : MethodId} {args : Array Value} {below : List Frame} {meth : Method} {c : Code} {E : Ev} {A : Nat → Prop} {ad : Nat → Nat} {r : Unit} {x' : St} (C0 : Cx E A RAR bb_AR_fillJ 5 (none) p s m args meth c) (hap : Ap ad ixC A)  {x : St} {v0 : Nat} {v1 : Int64} (ho_v0 : isO ixC v0 23) (hf : ff_AR_fillJ x v0 v1 = some (r, x')) {H : Heap} {locs : List Loc} {ls : Array Slot} (hP : Wd E ad ixC x H) (hS : va_S A s.heap H locs) (hl : lv_has ls 5 [(0, .ref (ad v0)), (1, .long v1)]) : W p l e rm_AR_fillJ s m args below meth c H locs 0 0 (MQ below (QX E ad ixC A (none) x') args s 0 0 A) (F0 m 0 ls []) := by
  obtain ⟨hx, hb, hml, hr, hown, hts, hlk, hK⟩ := id C0
  have hf : ff_AR_fillJ_6 FU x v0 v1 0 (Int32.ofNat (ln v0)) = some (r, x') := hf
  refine lv_iconst (v := 0) hx hb dd_AR_fillJ_0 (by decide) ?_
  refine lv_istore_n (lv' := [(3, .int 0), (0, .ref (ad v0)), (1, .long v1)]) hx hb dd_AR_fillJ_1 rfl hl (by decide) rfl (fun ls hl => ?_)
  refine lv_aload_n hx hb dd_AR_fillJ_2 rfl (lv_at hl 1 rfl) ?_
  refine rlenL C0 hP ho_v0 dd_AR_fillJ_3 ?_
  refine lv_istore (lv' := [(4, .int (Int32.ofNat (ln v0))), (3, .int 0), (0, .ref (ad v0)), (1, .long v1)]) hx hb dd_AR_fillJ_4 hl (by decide) rfl (fun ls hl => ?_)
  exact ww_AR_fillJ_6 C0 hap  FU x v0 v1 0 (Int32.ofNat (ln v0)) ho_v0 hf _ _ _ hP hS (lv_sub hl [2, 3, 1, 0] rfl)
theorem cc_AR_fillJ {l : Launch} {E : Ev} {A : Nat → Prop} {ad : Nat → Nat} (hap : Ap ad ixC A) {x x' : St} {v0 : Nat} {v1 : Int64} {r : Unit} (ho_v0 : isO ixC v0 23) (hf : ff_AR_fillJ x v0 v1 = some (r, x')) : Met l yy_AR_fillJ (Cond.code yy_AR_fillJ bb_AR_fillJ 5 (none) :: gtb) rm_AR_fillJ (va_Pc [.ref (ad v0), .long v1] (PB E A ad ixC x)) (QX E ad ixC A (none) x') 0 0 A :=
  enter (by decide) (Nat.le_of_ble_eq_true rfl) (fun p e s m below meth c ls C0 hP hS hl => ww_AR_fillJ C0 hap ho_v0 hf hP hS hl)
abbrev rm_IN_bitCount : Room := { frames := 0, cells := 0, slots := 0, locals := 0 }
theorem dd_IN_bitCount_0 : decode bb_IN_bitCount 0 = .ok (.iload_n 0, 1) := by decide +kernel
theorem dd_IN_bitCount_1 : decode bb_IN_bitCount 1 = .ok (.iload_n 0, 1) := by decide +kernel
theorem dd_IN_bitCount_2 : decode bb_IN_bitCount 2 = .ok (.iconst 1, 1) := by decide +kernel
theorem dd_IN_bitCount_3 : decode bb_IN_bitCount 3 = .ok (.iushr, 1) := by decide +kernel
theorem dd_IN_bitCount_4 : decode bb_IN_bitCount 4 = .ok (.ldc_w 265, 3) := by decide +kernel
theorem dd_IN_bitCount_7 : decode bb_IN_bitCount 7 = .ok (.iand, 1) := by decide +kernel
theorem dd_IN_bitCount_8 : decode bb_IN_bitCount 8 = .ok (.isub, 1) := by decide +kernel
theorem dd_IN_bitCount_9 : decode bb_IN_bitCount 9 = .ok (.istore_n 0, 1) := by decide +kernel
theorem dd_IN_bitCount_10 : decode bb_IN_bitCount 10 = .ok (.iload_n 0, 1) := by decide +kernel
theorem dd_IN_bitCount_11 : decode bb_IN_bitCount 11 = .ok (.ldc_w 266, 3) := by decide +kernel
theorem dd_IN_bitCount_14 : decode bb_IN_bitCount 14 = .ok (.iand, 1) := by decide +kernel
theorem dd_IN_bitCount_15 : decode bb_IN_bitCount 15 = .ok (.iload_n 0, 1) := by decide +kernel
theorem dd_IN_bitCount_16 : decode bb_IN_bitCount 16 = .ok (.iconst 2, 1) := by decide +kernel
theorem dd_IN_bitCount_17 : decode bb_IN_bitCount 17 = .ok (.iushr, 1) := by decide +kernel
theorem dd_IN_bitCount_18 : decode bb_IN_bitCount 18 = .ok (.ldc_w 266, 3) := by decide +kernel
theorem dd_IN_bitCount_21 : decode bb_IN_bitCount 21 = .ok (.iand, 1) := by decide +kernel
theorem dd_IN_bitCount_22 : decode bb_IN_bitCount 22 = .ok (.iadd, 1) := by decide +kernel
theorem dd_IN_bitCount_23 : decode bb_IN_bitCount 23 = .ok (.istore_n 0, 1) := by decide +kernel
theorem dd_IN_bitCount_24 : decode bb_IN_bitCount 24 = .ok (.iload_n 0, 1) := by decide +kernel
theorem dd_IN_bitCount_25 : decode bb_IN_bitCount 25 = .ok (.iload_n 0, 1) := by decide +kernel
theorem dd_IN_bitCount_26 : decode bb_IN_bitCount 26 = .ok (.iconst 4, 1) := by decide +kernel
theorem dd_IN_bitCount_27 : decode bb_IN_bitCount 27 = .ok (.iushr, 1) := by decide +kernel
theorem dd_IN_bitCount_28 : decode bb_IN_bitCount 28 = .ok (.iadd, 1) := by decide +kernel
theorem dd_IN_bitCount_29 : decode bb_IN_bitCount 29 = .ok (.ldc_w 267, 3) := by decide +kernel
theorem dd_IN_bitCount_32 : decode bb_IN_bitCount 32 = .ok (.iand, 1) := by decide +kernel
theorem dd_IN_bitCount_33 : decode bb_IN_bitCount 33 = .ok (.istore_n 0, 1) := by decide +kernel
theorem dd_IN_bitCount_34 : decode bb_IN_bitCount 34 = .ok (.iload_n 0, 1) := by decide +kernel
theorem dd_IN_bitCount_35 : decode bb_IN_bitCount 35 = .ok (.iload_n 0, 1) := by decide +kernel
theorem dd_IN_bitCount_36 : decode bb_IN_bitCount 36 = .ok (.bipush 8, 2) := by decide +kernel
theorem dd_IN_bitCount_38 : decode bb_IN_bitCount 38 = .ok (.iushr, 1) := by decide +kernel
theorem dd_IN_bitCount_39 : decode bb_IN_bitCount 39 = .ok (.iadd, 1) := by decide +kernel
theorem dd_IN_bitCount_40 : decode bb_IN_bitCount 40 = .ok (.istore_n 0, 1) := by decide +kernel
theorem dd_IN_bitCount_41 : decode bb_IN_bitCount 41 = .ok (.iload_n 0, 1) := by decide +kernel
theorem dd_IN_bitCount_42 : decode bb_IN_bitCount 42 = .ok (.iload_n 0, 1) := by decide +kernel
theorem dd_IN_bitCount_43 : decode bb_IN_bitCount 43 = .ok (.bipush 16, 2) := by decide +kernel
theorem dd_IN_bitCount_45 : decode bb_IN_bitCount 45 = .ok (.iushr, 1) := by decide +kernel
theorem dd_IN_bitCount_46 : decode bb_IN_bitCount 46 = .ok (.iadd, 1) := by decide +kernel
theorem dd_IN_bitCount_47 : decode bb_IN_bitCount 47 = .ok (.istore_n 0, 1) := by decide +kernel
theorem dd_IN_bitCount_48 : decode bb_IN_bitCount 48 = .ok (.iload_n 0, 1) := by decide +kernel
theorem dd_IN_bitCount_49 : decode bb_IN_bitCount 49 = .ok (.bipush 63, 2) := by decide +kernel
theorem dd_IN_bitCount_51 : decode bb_IN_bitCount 51 = .ok (.iand, 1) := by decide +kernel
theorem dd_IN_bitCount_52 : decode bb_IN_bitCount 52 = .ok (.ireturn, 1) := by decide +kernel
def ff_IN_bitCount_48  (x : St) (v0 : Int32) : Option (Int32 × St) := some (v0 &&& 63, x)
def ff_IN_bitCount_41  (x : St) (v0 : Int32) : Option (Int32 × St) := li (v0 + ((v0.toUInt32 >>> ((16 : Int32).toUInt32 &&& Int32.toUInt32 31)).toInt32)) (fun u_5 => ff_IN_bitCount_48 x u_5)
def ff_IN_bitCount_34  (x : St) (v0 : Int32) : Option (Int32 × St) := li (v0 + ((v0.toUInt32 >>> ((8 : Int32).toUInt32 &&& Int32.toUInt32 31)).toInt32)) (fun u_4 => ff_IN_bitCount_41 x u_4)
def ff_IN_bitCount_24  (x : St) (v0 : Int32) : Option (Int32 × St) := li ((v0 + ((v0.toUInt32 >>> ((4 : Int32).toUInt32 &&& Int32.toUInt32 31)).toInt32)) &&& 252645135) (fun u_3 => ff_IN_bitCount_34 x u_3)
def ff_IN_bitCount_10  (x : St) (v0 : Int32) : Option (Int32 × St) := li ((v0 &&& 858993459) + (((v0.toUInt32 >>> ((2 : Int32).toUInt32 &&& Int32.toUInt32 31)).toInt32) &&& 858993459)) (fun u_2 => ff_IN_bitCount_24 x u_2)
def ff_IN_bitCount  (x : St) (v0 : Int32) : Option (Int32 × St) := li (v0 - (((v0.toUInt32 >>> ((1 : Int32).toUInt32 &&& Int32.toUInt32 31)).toInt32) &&& 1431655765)) (fun u_1 => ff_IN_bitCount_10 x u_1)
set_option maxHeartbeats 4000000 in
set_option maxRecDepth 100000 in
theorem ww_IN_bitCount_48 {p : Program} {l : Launch} {e : Env} {s : State} {m : MethodId} {args : Array Value} {below : List Frame} {meth : Method} {c : Code} {E : Ev} {A : Nat → Prop} {ad : Nat → Nat} {r : Int32} {x' : St} (C0 : Cx E A RIN bb_IN_bitCount 1 (some .int) p s m args meth c) (hap : Ap ad ixC A)  {x : St} {v0 : Int32}  (hf : ff_IN_bitCount_48 x v0 = some (r, x')) {H : Heap} {locs : List Loc} {ls : Array Slot} (hP : Wd E ad ixC x H) (hS : va_S A s.heap H locs) (hl : lv_has ls 1 [(0, .int v0)]) : W p l e rm_IN_bitCount s m args below meth c H locs 0 0 (MQ below (QX E ad ixC A (some (.int r)) x') args s 0 0 A) (F0 m 48 ls []) := by
  obtain ⟨hx, hb, hml, hr, hown, hts, hlk, hK⟩ := id C0
  have hf : some (v0 &&& 63, x) = some (r, x') := hf
  refine lv_iload_n hx hb dd_IN_bitCount_48 rfl (lv_at hl 0 rfl) ?_
  refine lv_bipush (v := 63) hx hb dd_IN_bitCount_49 (by decide) ?_
  refine lv_iand hx hb dd_IN_bitCount_51 ?_
  exact rrI C0 hP hS dd_IN_bitCount_52 hf
set_option maxHeartbeats 4000000 in
set_option maxRecDepth 100000 in
theorem ww_IN_bitCount_41 {p : Program} {l : Launch} {e : Env} {s : State} {m : MethodId} {args : Array Value} {below : List Frame} {meth : Method} {c : Code} {E : Ev} {A : Nat → Prop} {ad : Nat → Nat} {r : Int32} {x' : St} (C0 : Cx E A RIN bb_IN_bitCount 1 (some .int) p s m args meth c) (hap : Ap ad ixC A)  {x : St} {v0 : Int32}  (hf : ff_IN_bitCount_41 x v0 = some (r, x')) {H : Heap} {locs : List Loc} {ls : Array Slot} (hP : Wd E ad ixC x H) (hS : va_S A s.heap H locs) (hl : lv_has ls 1 [(0, .int v0)]) : W p l e rm_IN_bitCount s m args below meth c H locs 0 0 (MQ below (QX E ad ixC A (some (.int r)) x') args s 0 0 A) (F0 m 41 ls []) := by
  obtain ⟨hx, hb, hml, hr, hown, hts, hlk, hK⟩ := id C0
  have hf : li (v0 + ((v0.toUInt32 >>> ((16 : Int32).toUInt32 &&& Int32.toUInt32 31)).toInt32)) (fun u_5 => ff_IN_bitCount_48 x u_5) = some (r, x') := hf
  refine lv_iload_n hx hb dd_IN_bitCount_41 rfl (lv_at hl 0 rfl) ?_
  refine lv_iload_n hx hb dd_IN_bitCount_42 rfl (lv_at hl 0 rfl) ?_
  refine lv_bipush (v := 16) hx hb dd_IN_bitCount_43 (by decide) ?_
  refine lv_iushr hx hb dd_IN_bitCount_45 rfl ?_
  refine lv_iadd hx hb dd_IN_bitCount_46 ?_
  obtain ⟨u_5, eu_5, hf⟩ := of_li hf
  refine tpi eu_5 ?_
  refine lv_istore_n (lv' := [(0, .int u_5)]) hx hb dd_IN_bitCount_47 rfl hl (by decide) rfl (fun ls hl => ?_)
  exact ww_IN_bitCount_48 C0 hap   hf hP hS (lv_sub hl [0] rfl)
set_option maxHeartbeats 4000000 in
set_option maxRecDepth 100000 in
theorem ww_IN_bitCount_34 {p : Program} {l : Launch} {e : Env} {s : State} {m : MethodId} {args : Array Value} {below : List Frame} {meth : Method} {c : Code} {E : Ev} {A : Nat → Prop} {ad : Nat → Nat} {r : Int32} {x' : St} (C0 : Cx E A RIN bb_IN_bitCount 1 (some .int) p s m args meth c) (hap : Ap ad ixC A)  {x : St} {v0 : Int32}  (hf : ff_IN_bitCount_34 x v0 = some (r, x')) {H : Heap} {locs : List Loc} {ls : Array Slot} (hP : Wd E ad ixC x H) (hS : va_S A s.heap H locs) (hl : lv_has ls 1 [(0, .int v0)]) : W p l e rm_IN_bitCount s m args below meth c H locs 0 0 (MQ below (QX E ad ixC A (some (.int r)) x') args s 0 0 A) (F0 m 34 ls []) := by
  obtain ⟨hx, hb, hml, hr, hown, hts, hlk, hK⟩ := id C0
  have hf : li (v0 + ((v0.toUInt32 >>> ((8 : Int32).toUInt32 &&& Int32.toUInt32 31)).toInt32)) (fun u_4 => ff_IN_bitCount_41 x u_4) = some (r, x') := hf
  refine lv_iload_n hx hb dd_IN_bitCount_34 rfl (lv_at hl 0 rfl) ?_
  refine lv_iload_n hx hb dd_IN_bitCount_35 rfl (lv_at hl 0 rfl) ?_
  refine lv_bipush (v := 8) hx hb dd_IN_bitCount_36 (by decide) ?_
  refine lv_iushr hx hb dd_IN_bitCount_38 rfl ?_
  refine lv_iadd hx hb dd_IN_bitCount_39 ?_
  obtain ⟨u_4, eu_4, hf⟩ := of_li hf
  refine tpi eu_4 ?_
  refine lv_istore_n (lv' := [(0, .int u_4)]) hx hb dd_IN_bitCount_40 rfl hl (by decide) rfl (fun ls hl => ?_)
  exact ww_IN_bitCount_41 C0 hap   hf hP hS (lv_sub hl [0] rfl)
set_option maxHeartbeats 4000000 in
set_option maxRecDepth 100000 in
theorem ww_IN_bitCount_24 {p : Program} {l : Launch} {e : Env} {s : State} {m : MethodId} {args : Array Value} {below : List Frame} {meth : Method} {c : Code} {E : Ev} {A : Nat → Prop} {ad : Nat → Nat} {r : Int32} {x' : St} (C0 : Cx E A RIN bb_IN_bitCount 1 (some .int) p s m args meth c) (hap : Ap ad ixC A)  {x : St} {v0 : Int32}  (hf : ff_IN_bitCount_24 x v0 = some (r, x')) {H : Heap} {locs : List Loc} {ls : Array Slot} (hP : Wd E ad ixC x H) (hS : va_S A s.heap H locs) (hl : lv_has ls 1 [(0, .int v0)]) : W p l e rm_IN_bitCount s m args below meth c H locs 0 0 (MQ below (QX E ad ixC A (some (.int r)) x') args s 0 0 A) (F0 m 24 ls []) := by
  obtain ⟨hx, hb, hml, hr, hown, hts, hlk, hK⟩ := id C0
  have hf : li ((v0 + ((v0.toUInt32 >>> ((4 : Int32).toUInt32 &&& Int32.toUInt32 31)).toInt32)) &&& 252645135) (fun u_3 => ff_IN_bitCount_34 x u_3) = some (r, x') := hf
  refine lv_iload_n hx hb dd_IN_bitCount_24 rfl (lv_at hl 0 rfl) ?_
  refine lv_iload_n hx hb dd_IN_bitCount_25 rfl (lv_at hl 0 rfl) ?_
  refine lv_iconst (v := 4) hx hb dd_IN_bitCount_26 (by decide) ?_
  refine lv_iushr hx hb dd_IN_bitCount_27 rfl ?_
  refine lv_iadd hx hb dd_IN_bitCount_28 ?_
  refine lv_ldcw (v := 252645135) hx hb hown (hts _ gw_k_IN_267) dd_IN_bitCount_29 ?_
  refine lv_iand hx hb dd_IN_bitCount_32 ?_
  obtain ⟨u_3, eu_3, hf⟩ := of_li hf
  refine tpi eu_3 ?_
  refine lv_istore_n (lv' := [(0, .int u_3)]) hx hb dd_IN_bitCount_33 rfl hl (by decide) rfl (fun ls hl => ?_)
  exact ww_IN_bitCount_34 C0 hap   hf hP hS (lv_sub hl [0] rfl)
set_option maxHeartbeats 4000000 in
set_option maxRecDepth 100000 in
theorem ww_IN_bitCount_10 {p : Program} {l : Launch} {e : Env} {s : State} {m : MethodId} {args : Array Value} {below : List Frame} {meth : Method} {c : Code} {E : Ev} {A : Nat → Prop} {ad : Nat → Nat} {r : Int32} {x' : St} (C0 : Cx E A RIN bb_IN_bitCount 1 (some .int) p s m args meth c) (hap : Ap ad ixC A)  {x : St} {v0 : Int32}  (hf : ff_IN_bitCount_10 x v0 = some (r, x')) {H : Heap} {locs : List Loc} {ls : Array Slot} (hP : Wd E ad ixC x H) (hS : va_S A s.heap H locs) (hl : lv_has ls 1 [(0, .int v0)]) : W p l e rm_IN_bitCount s m args below meth c H locs 0 0 (MQ below (QX E ad ixC A (some (.int r)) x') args s 0 0 A) (F0 m 10 ls []) := by
  obtain ⟨hx, hb, hml, hr, hown, hts, hlk, hK⟩ := id C0
  have hf : li ((v0 &&& 858993459) + (((v0.toUInt32 >>> ((2 : Int32).toUInt32 &&& Int32.toUInt32 31)).toInt32) &&& 858993459)) (fun u_2 => ff_IN_bitCount_24 x u_2) = some (r, x') := hf
  refine lv_iload_n hx hb dd_IN_bitCount_10 rfl (lv_at hl 0 rfl) ?_
  refine lv_ldcw (v := 858993459) hx hb hown (hts _ gw_k_IN_266) dd_IN_bitCount_11 ?_
  refine lv_iand hx hb dd_IN_bitCount_14 ?_
  refine lv_iload_n hx hb dd_IN_bitCount_15 rfl (lv_at hl 0 rfl) ?_
  refine lv_iconst (v := 2) hx hb dd_IN_bitCount_16 (by decide) ?_
  refine lv_iushr hx hb dd_IN_bitCount_17 rfl ?_
  refine lv_ldcw (v := 858993459) hx hb hown (hts _ gw_k_IN_266) dd_IN_bitCount_18 ?_
  refine lv_iand hx hb dd_IN_bitCount_21 ?_
  refine lv_iadd hx hb dd_IN_bitCount_22 ?_
  obtain ⟨u_2, eu_2, hf⟩ := of_li hf
  refine tpi eu_2 ?_
  refine lv_istore_n (lv' := [(0, .int u_2)]) hx hb dd_IN_bitCount_23 rfl hl (by decide) rfl (fun ls hl => ?_)
  exact ww_IN_bitCount_24 C0 hap   hf hP hS (lv_sub hl [0] rfl)
set_option maxHeartbeats 4000000 in
set_option maxRecDepth 100000 in
theorem ww_IN_bitCount {p : Program} {l : Launch} {e : Env} {s : State} {m : MethodId} {args : Array Value} {below : List Frame} {meth : Method} {c : Code} {E : Ev} {A : Nat → Prop} {ad : Nat → Nat} {r : Int32} {x' : St} (C0 : Cx E A RIN bb_IN_bitCount 1 (some .int) p s m args meth c) (hap : Ap ad ixC A)  {x : St} {v0 : Int32}  (hf : ff_IN_bitCount x v0 = some (r, x')) {H : Heap} {locs : List Loc} {ls : Array Slot} (hP : Wd E ad ixC x H) (hS : va_S A s.heap H locs) (hl : lv_has ls 1 [(0, .int v0)]) : W p l e rm_IN_bitCount s m args below meth c H locs 0 0 (MQ below (QX E ad ixC A (some (.int r)) x') args s 0 0 A) (F0 m 0 ls []) := by
  obtain ⟨hx, hb, hml, hr, hown, hts, hlk, hK⟩ := id C0
  have hf : li (v0 - (((v0.toUInt32 >>> ((1 : Int32).toUInt32 &&& Int32.toUInt32 31)).toInt32) &&& 1431655765)) (fun u_1 => ff_IN_bitCount_10 x u_1) = some (r, x') := hf
  refine lv_iload_n hx hb dd_IN_bitCount_0 rfl (lv_at hl 0 rfl) ?_
  refine lv_iload_n hx hb dd_IN_bitCount_1 rfl (lv_at hl 0 rfl) ?_
  refine lv_iconst (v := 1) hx hb dd_IN_bitCount_2 (by decide) ?_
  refine lv_iushr hx hb dd_IN_bitCount_3 rfl ?_
  refine lv_ldcw (v := 1431655765) hx hb hown (hts _ gw_k_IN_265) dd_IN_bitCount_4 ?_
  refine lv_iand hx hb dd_IN_bitCount_7 ?_
  refine lv_isub hx hb dd_IN_bitCount_8 ?_
  obtain ⟨u_1, eu_1, hf⟩ := of_li hf
  refine tpi eu_1 ?_
  refine lv_istore_n (lv' := [(0, .int u_1)]) hx hb dd_IN_bitCount_9 rfl hl (by decide) rfl (fun ls hl => ?_)
  exact ww_IN_bitCount_10 C0 hap   hf hP hS (lv_sub hl [0] rfl)
theorem cc_IN_bitCount {l : Launch} {E : Ev} {A : Nat → Prop} {ad : Nat → Nat} (hap : Ap ad ixC A) {x x' : St} {v0 : Int32} {r : Int32}  (hf : ff_IN_bitCount x v0 = some (r, x')) : Met l yy_IN_bitCount (Cond.code yy_IN_bitCount bb_IN_bitCount 1 (some .int) :: gtb) rm_IN_bitCount (va_Pc [.int v0] (PB E A ad ixC x)) (QX E ad ixC A (some (.int r)) x') 0 0 A :=
  enter (by decide) (Nat.le_of_ble_eq_true rfl) (fun p e s m below meth c ls C0 hP hS hl => ww_IN_bitCount C0 hap  hf hP hS hl)
end
