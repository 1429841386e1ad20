section
-- ===== PART A: goes FIRST, ahead of the names: the tables' words, and 'selects' of the private methods out of them =====
/-- a private method of a class that the tables say can be made, by its rows of tables_1 -/
def lw_okq (q : MethodName × Nat) : Prop := (q.1.cls ≠ "java/lang/invoke/MethodHandle" ∧ q.1.cls ≠ "java/lang/invoke/VarHandle") ∧ Cond.instantiable q.1.cls q.2 ∈ tables_1 ∧ Cond.privateMethod q.1 ∈ tables_1 ∧ Cond.instanceMethod q.1 ∈ tables_1
theorem lw_p0 : lw_okq (⟨"GriefGlue", "refuseBad", "()I"⟩, 11) := ⟨⟨by decide +kernel, by decide +kernel⟩, List.mem_of_getElem? (i := 18) (by decide +kernel), List.mem_of_getElem? (i := 239) (by decide +kernel), List.mem_of_getElem? (i := 240) (by decide +kernel)⟩
theorem lw_p1 : lw_okq (⟨"GriefGlue", "refuseFull", "()I"⟩, 11) := ⟨⟨by decide +kernel, by decide +kernel⟩, List.mem_of_getElem? (i := 18) (by decide +kernel), List.mem_of_getElem? (i := 247) (by decide +kernel), List.mem_of_getElem? (i := 248) (by decide +kernel)⟩
theorem lw_p2 : lw_okq (⟨"GriefGlue$Shop", "renewGriefs", "(I)V"⟩, 10) := ⟨⟨by decide +kernel, by decide +kernel⟩, List.mem_of_getElem? (i := 26) (by decide +kernel), List.mem_of_getElem? (i := 260) (by decide +kernel), List.mem_of_getElem? (i := 261) (by decide +kernel)⟩
theorem lw_p3 : lw_okq (⟨"GriefGlue$Shop", "isFeastOf", "(III)Z"⟩, 10) := ⟨⟨by decide +kernel, by decide +kernel⟩, List.mem_of_getElem? (i := 26) (by decide +kernel), List.mem_of_getElem? (i := 289) (by decide +kernel), List.mem_of_getElem? (i := 290) (by decide +kernel)⟩
theorem lw_p4 : lw_okq (⟨"GriefGlue", "refuseNo", "()I"⟩, 11) := ⟨⟨by decide +kernel, by decide +kernel⟩, List.mem_of_getElem? (i := 18) (by decide +kernel), List.mem_of_getElem? (i := 325) (by decide +kernel), List.mem_of_getElem? (i := 326) (by decide +kernel)⟩
theorem lw_p5 : lw_okq (⟨"GriefGlue$Reader", "nextToken", "()V"⟩, 8) := ⟨⟨by decide +kernel, by decide +kernel⟩, List.mem_of_getElem? (i := 116) (by decide +kernel), List.mem_of_getElem? (i := 423) (by decide +kernel), List.mem_of_getElem? (i := 424) (by decide +kernel)⟩
theorem lw_p6 : lw_okq (⟨"GriefGlue$Reader", "readLetters", "()V"⟩, 8) := ⟨⟨by decide +kernel, by decide +kernel⟩, List.mem_of_getElem? (i := 116) (by decide +kernel), List.mem_of_getElem? (i := 430) (by decide +kernel), List.mem_of_getElem? (i := 431) (by decide +kernel)⟩
theorem lw_p7 : lw_okq (⟨"GriefGlue$Reader", "readFigures", "()V"⟩, 8) := ⟨⟨by decide +kernel, by decide +kernel⟩, List.mem_of_getElem? (i := 116) (by decide +kernel), List.mem_of_getElem? (i := 437) (by decide +kernel), List.mem_of_getElem? (i := 438) (by decide +kernel)⟩
theorem lw_p8 : lw_okq (⟨"GriefGlue$Reader", "isWord", "(Ljava/lang/String;)Z"⟩, 8) := ⟨⟨by decide +kernel, by decide +kernel⟩, List.mem_of_getElem? (i := 116) (by decide +kernel), List.mem_of_getElem? (i := 442) (by decide +kernel), List.mem_of_getElem? (i := 443) (by decide +kernel)⟩
theorem lw_p9 : lw_okq (⟨"GriefGlue$Reader", "readMourner", "()V"⟩, 8) := ⟨⟨by decide +kernel, by decide +kernel⟩, List.mem_of_getElem? (i := 116) (by decide +kernel), List.mem_of_getElem? (i := 494) (by decide +kernel), List.mem_of_getElem? (i := 495) (by decide +kernel)⟩
theorem lw_p10 : lw_okq (⟨"GriefGlue$Reader", "wantRoom", "(LGriefGlue$Ledger;)V"⟩, 8) := ⟨⟨by decide +kernel, by decide +kernel⟩, List.mem_of_getElem? (i := 116) (by decide +kernel), List.mem_of_getElem? (i := 498) (by decide +kernel), List.mem_of_getElem? (i := 499) (by decide +kernel)⟩
theorem lw_p11 : lw_okq (⟨"GriefGlue$Reader", "blame", "()V"⟩, 8) := ⟨⟨by decide +kernel, by decide +kernel⟩, List.mem_of_getElem? (i := 116) (by decide +kernel), List.mem_of_getElem? (i := 503) (by decide +kernel), List.mem_of_getElem? (i := 504) (by decide +kernel)⟩
theorem lw_p12 : lw_okq (⟨"GriefGlue$Reader", "readNumber", "(II)I"⟩, 8) := ⟨⟨by decide +kernel, by decide +kernel⟩, List.mem_of_getElem? (i := 116) (by decide +kernel), List.mem_of_getElem? (i := 507) (by decide +kernel), List.mem_of_getElem? (i := 508) (by decide +kernel)⟩
theorem lw_p13 : lw_okq (⟨"GriefGlue$Reader", "wantNumber", "(II)V"⟩, 8) := ⟨⟨by decide +kernel, by decide +kernel⟩, List.mem_of_getElem? (i := 116) (by decide +kernel), List.mem_of_getElem? (i := 511) (by decide +kernel), List.mem_of_getElem? (i := 512) (by decide +kernel)⟩
theorem lw_p14 : lw_okq (⟨"GriefGlue$Reader", "readStop", "()V"⟩, 8) := ⟨⟨by decide +kernel, by decide +kernel⟩, List.mem_of_getElem? (i := 116) (by decide +kernel), List.mem_of_getElem? (i := 516) (by decide +kernel), List.mem_of_getElem? (i := 517) (by decide +kernel)⟩
theorem lw_p15 : lw_okq (⟨"GriefGlue$Reader", "wantStop", "()V"⟩, 8) := ⟨⟨by decide +kernel, by decide +kernel⟩, List.mem_of_getElem? (i := 116) (by decide +kernel), List.mem_of_getElem? (i := 520) (by decide +kernel), List.mem_of_getElem? (i := 521) (by decide +kernel)⟩
def lw_privs_1 : List (MethodName × Nat) := [(⟨"GriefGlue", "refuseBad", "()I"⟩, 11), (⟨"GriefGlue", "refuseFull", "()I"⟩, 11), (⟨"GriefGlue$Shop", "renewGriefs", "(I)V"⟩, 10), (⟨"GriefGlue$Shop", "isFeastOf", "(III)Z"⟩, 10), (⟨"GriefGlue", "refuseNo", "()I"⟩, 11), (⟨"GriefGlue$Reader", "nextToken", "()V"⟩, 8), (⟨"GriefGlue$Reader", "readLetters", "()V"⟩, 8), (⟨"GriefGlue$Reader", "readFigures", "()V"⟩, 8), (⟨"GriefGlue$Reader", "isWord", "(Ljava/lang/String;)Z"⟩, 8), (⟨"GriefGlue$Reader", "readMourner", "()V"⟩, 8), (⟨"GriefGlue$Reader", "wantRoom", "(LGriefGlue$Ledger;)V"⟩, 8), (⟨"GriefGlue$Reader", "blame", "()V"⟩, 8), (⟨"GriefGlue$Reader", "readNumber", "(II)I"⟩, 8), (⟨"GriefGlue$Reader", "wantNumber", "(II)V"⟩, 8), (⟨"GriefGlue$Reader", "readStop", "()V"⟩, 8), (⟨"GriefGlue$Reader", "wantStop", "()V"⟩, 8)]
theorem lw_r1 : ∀ q ∈ lw_privs_1, lw_okq q := List.forall_mem_cons.mpr ⟨lw_p0, List.forall_mem_cons.mpr ⟨lw_p1, List.forall_mem_cons.mpr ⟨lw_p2, List.forall_mem_cons.mpr ⟨lw_p3, List.forall_mem_cons.mpr ⟨lw_p4, List.forall_mem_cons.mpr ⟨lw_p5, List.forall_mem_cons.mpr ⟨lw_p6, List.forall_mem_cons.mpr ⟨lw_p7, List.forall_mem_cons.mpr ⟨lw_p8, List.forall_mem_cons.mpr ⟨lw_p9, List.forall_mem_cons.mpr ⟨lw_p10, List.forall_mem_cons.mpr ⟨lw_p11, List.forall_mem_cons.mpr ⟨lw_p12, List.forall_mem_cons.mpr ⟨lw_p13, List.forall_mem_cons.mpr ⟨lw_p14, List.forall_mem_cons.mpr ⟨lw_p15, fun _ h => absurd h List.not_mem_nil⟩⟩⟩⟩⟩⟩⟩⟩⟩⟩⟩⟩⟩⟩⟩⟩
theorem lw_p16 : lw_okq (⟨"GriefGlue$Reader", "readJoint", "()V"⟩, 8) := ⟨⟨by decide +kernel, by decide +kernel⟩, List.mem_of_getElem? (i := 116) (by decide +kernel), List.mem_of_getElem? (i := 526) (by decide +kernel), List.mem_of_getElem? (i := 527) (by decide +kernel)⟩
theorem lw_p17 : lw_okq (⟨"GriefGlue$Reader", "readPiece", "()V"⟩, 8) := ⟨⟨by decide +kernel, by decide +kernel⟩, List.mem_of_getElem? (i := 116) (by decide +kernel), List.mem_of_getElem? (i := 531) (by decide +kernel), List.mem_of_getElem? (i := 532) (by decide +kernel)⟩
theorem lw_p18 : lw_okq (⟨"GriefGlue$Reader", "readFeast", "(I)V"⟩, 8) := ⟨⟨by decide +kernel, by decide +kernel⟩, List.mem_of_getElem? (i := 116) (by decide +kernel), List.mem_of_getElem? (i := 537) (by decide +kernel), List.mem_of_getElem? (i := 538) (by decide +kernel)⟩
theorem lw_p19 : lw_okq (⟨"GriefGlue$Reader", "readDay", "()V"⟩, 8) := ⟨⟨by decide +kernel, by decide +kernel⟩, List.mem_of_getElem? (i := 116) (by decide +kernel), List.mem_of_getElem? (i := 543) (by decide +kernel), List.mem_of_getElem? (i := 544) (by decide +kernel)⟩
theorem lw_p20 : lw_okq (⟨"GriefGlue$Reader", "readBoil", "()V"⟩, 8) := ⟨⟨by decide +kernel, by decide +kernel⟩, List.mem_of_getElem? (i := 116) (by decide +kernel), List.mem_of_getElem? (i := 548) (by decide +kernel), List.mem_of_getElem? (i := 549) (by decide +kernel)⟩
theorem lw_p21 : lw_okq (⟨"GriefGlue$Hiring", "lookForNeeds", "(LGriefGlue$Shop;)V"⟩, 4) := ⟨⟨by decide +kernel, by decide +kernel⟩, List.mem_of_getElem? (i := 153) (by decide +kernel), List.mem_of_getElem? (i := 606) (by decide +kernel), List.mem_of_getElem? (i := 607) (by decide +kernel)⟩
theorem lw_p22 : lw_okq (⟨"GriefGlue$Hiring", "fitsOf", "(LGriefGlue$Shop;I)J"⟩, 4) := ⟨⟨by decide +kernel, by decide +kernel⟩, List.mem_of_getElem? (i := 153) (by decide +kernel), List.mem_of_getElem? (i := 614) (by decide +kernel), List.mem_of_getElem? (i := 615) (by decide +kernel)⟩
theorem lw_p23 : lw_okq (⟨"GriefGlue$Hiring", "isEnough", "(I)Z"⟩, 4) := ⟨⟨by decide +kernel, by decide +kernel⟩, List.mem_of_getElem? (i := 153) (by decide +kernel), List.mem_of_getElem? (i := 634) (by decide +kernel), List.mem_of_getElem? (i := 635) (by decide +kernel)⟩
theorem lw_p24 : lw_okq (⟨"GriefGlue$Outlook", "weepADay", "(I)V"⟩, 6) := ⟨⟨by decide +kernel, by decide +kernel⟩, List.mem_of_getElem? (i := 173) (by decide +kernel), List.mem_of_getElem? (i := 673) (by decide +kernel), List.mem_of_getElem? (i := 674) (by decide +kernel)⟩
theorem lw_p25 : lw_okq (⟨"GriefGlue$Outlook", "isByFacts", "(LGriefGlue$Ledger;II)Z"⟩, 6) := ⟨⟨by decide +kernel, by decide +kernel⟩, List.mem_of_getElem? (i := 173) (by decide +kernel), List.mem_of_getElem? (i := 695) (by decide +kernel), List.mem_of_getElem? (i := 696) (by decide +kernel)⟩
theorem lw_p26 : lw_okq (⟨"GriefGlue$Outlook", "weddingADay", "(I)V"⟩, 6) := ⟨⟨by decide +kernel, by decide +kernel⟩, List.mem_of_getElem? (i := 173) (by decide +kernel), List.mem_of_getElem? (i := 713) (by decide +kernel), List.mem_of_getElem? (i := 714) (by decide +kernel)⟩
theorem lw_p27 : lw_okq (⟨"GriefGlue$Outlook", "griefsWithout", "(LGriefGlue$Shop;II)[I"⟩, 6) := ⟨⟨by decide +kernel, by decide +kernel⟩, List.mem_of_getElem? (i := 173) (by decide +kernel), List.mem_of_getElem? (i := 736) (by decide +kernel), List.mem_of_getElem? (i := 737) (by decide +kernel)⟩
theorem lw_p28 : lw_okq (⟨"GriefGlue", "countOf", "(I)I"⟩, 11) := ⟨⟨by decide +kernel, by decide +kernel⟩, List.mem_of_getElem? (i := 18) (by decide +kernel), List.mem_of_getElem? (i := 763) (by decide +kernel), List.mem_of_getElem? (i := 764) (by decide +kernel)⟩
theorem lw_p29 : lw_okq (⟨"GriefGlueModel", "bad", "()I"⟩, 23) := ⟨⟨by decide +kernel, by decide +kernel⟩, List.mem_of_getElem? (i := 783) (by decide +kernel), List.mem_of_getElem? (i := 866) (by decide +kernel), List.mem_of_getElem? (i := 867) (by decide +kernel)⟩
theorem lw_p30 : lw_okq (⟨"GriefGlueModel", "get", "(I)I"⟩, 23) := ⟨⟨by decide +kernel, by decide +kernel⟩, List.mem_of_getElem? (i := 783) (by decide +kernel), List.mem_of_getElem? (i := 870) (by decide +kernel), List.mem_of_getElem? (i := 871) (by decide +kernel)⟩
theorem lw_p31 : lw_okq (⟨"GriefGlueModel", "full", "()I"⟩, 23) := ⟨⟨by decide +kernel, by decide +kernel⟩, List.mem_of_getElem? (i := 783) (by decide +kernel), List.mem_of_getElem? (i := 874) (by decide +kernel), List.mem_of_getElem? (i := 875) (by decide +kernel)⟩
def lw_privs_2 : List (MethodName × Nat) := [(⟨"GriefGlue$Reader", "readJoint", "()V"⟩, 8), (⟨"GriefGlue$Reader", "readPiece", "()V"⟩, 8), (⟨"GriefGlue$Reader", "readFeast", "(I)V"⟩, 8), (⟨"GriefGlue$Reader", "readDay", "()V"⟩, 8), (⟨"GriefGlue$Reader", "readBoil", "()V"⟩, 8), (⟨"GriefGlue$Hiring", "lookForNeeds", "(LGriefGlue$Shop;)V"⟩, 4), (⟨"GriefGlue$Hiring", "fitsOf", "(LGriefGlue$Shop;I)J"⟩, 4), (⟨"GriefGlue$Hiring", "isEnough", "(I)Z"⟩, 4), (⟨"GriefGlue$Outlook", "weepADay", "(I)V"⟩, 6), (⟨"GriefGlue$Outlook", "isByFacts", "(LGriefGlue$Ledger;II)Z"⟩, 6), (⟨"GriefGlue$Outlook", "weddingADay", "(I)V"⟩, 6), (⟨"GriefGlue$Outlook", "griefsWithout", "(LGriefGlue$Shop;II)[I"⟩, 6), (⟨"GriefGlue", "countOf", "(I)I"⟩, 11), (⟨"GriefGlueModel", "bad", "()I"⟩, 23), (⟨"GriefGlueModel", "get", "(I)I"⟩, 23), (⟨"GriefGlueModel", "full", "()I"⟩, 23)]
theorem lw_r2 : ∀ q ∈ lw_privs_2, lw_okq q := List.forall_mem_cons.mpr ⟨lw_p16, List.forall_mem_cons.mpr ⟨lw_p17, List.forall_mem_cons.mpr ⟨lw_p18, List.forall_mem_cons.mpr ⟨lw_p19, List.forall_mem_cons.mpr ⟨lw_p20, List.forall_mem_cons.mpr ⟨lw_p21, List.forall_mem_cons.mpr ⟨lw_p22, List.forall_mem_cons.mpr ⟨lw_p23, List.forall_mem_cons.mpr ⟨lw_p24, List.forall_mem_cons.mpr ⟨lw_p25, List.forall_mem_cons.mpr ⟨lw_p26, List.forall_mem_cons.mpr ⟨lw_p27, List.forall_mem_cons.mpr ⟨lw_p28, List.forall_mem_cons.mpr ⟨lw_p29, List.forall_mem_cons.mpr ⟨lw_p30, List.forall_mem_cons.mpr ⟨lw_p31, fun _ h => absurd h List.not_mem_nil⟩⟩⟩⟩⟩⟩⟩⟩⟩⟩⟩⟩⟩⟩⟩⟩
theorem lw_p32 : lw_okq (⟨"GriefGlueModel", "addMourner", "(III)V"⟩, 23) := ⟨⟨by decide +kernel, by decide +kernel⟩, List.mem_of_getElem? (i := 783) (by decide +kernel), List.mem_of_getElem? (i := 878) (by decide +kernel), List.mem_of_getElem? (i := 879) (by decide +kernel)⟩
theorem lw_p33 : lw_okq (⟨"GriefGlueModel", "set", "(II)V"⟩, 23) := ⟨⟨by decide +kernel, by decide +kernel⟩, List.mem_of_getElem? (i := 783) (by decide +kernel), List.mem_of_getElem? (i := 882) (by decide +kernel), List.mem_of_getElem? (i := 883) (by decide +kernel)⟩
theorem lw_p34 : lw_okq (⟨"GriefGlueModel", "addJoint", "(I)V"⟩, 23) := ⟨⟨by decide +kernel, by decide +kernel⟩, List.mem_of_getElem? (i := 783) (by decide +kernel), List.mem_of_getElem? (i := 890) (by decide +kernel), List.mem_of_getElem? (i := 891) (by decide +kernel)⟩
theorem lw_p35 : lw_okq (⟨"GriefGlueModel", "isSet", "(I)Z"⟩, 23) := ⟨⟨by decide +kernel, by decide +kernel⟩, List.mem_of_getElem? (i := 783) (by decide +kernel), List.mem_of_getElem? (i := 898) (by decide +kernel), List.mem_of_getElem? (i := 899) (by decide +kernel)⟩
theorem lw_p36 : lw_okq (⟨"GriefGlueModel", "addPiece", "(II)V"⟩, 23) := ⟨⟨by decide +kernel, by decide +kernel⟩, List.mem_of_getElem? (i := 783) (by decide +kernel), List.mem_of_getElem? (i := 902) (by decide +kernel), List.mem_of_getElem? (i := 903) (by decide +kernel)⟩
theorem lw_p37 : lw_okq (⟨"GriefGlueModel", "isMourner", "(I)Z"⟩, 23) := ⟨⟨by decide +kernel, by decide +kernel⟩, List.mem_of_getElem? (i := 783) (by decide +kernel), List.mem_of_getElem? (i := 910) (by decide +kernel), List.mem_of_getElem? (i := 911) (by decide +kernel)⟩
theorem lw_p38 : lw_okq (⟨"GriefGlueModel", "addFeast", "(III)V"⟩, 23) := ⟨⟨by decide +kernel, by decide +kernel⟩, List.mem_of_getElem? (i := 783) (by decide +kernel), List.mem_of_getElem? (i := 914) (by decide +kernel), List.mem_of_getElem? (i := 915) (by decide +kernel)⟩
theorem lw_p39 : lw_okq (⟨"GriefGlueModel", "no", "()I"⟩, 23) := ⟨⟨by decide +kernel, by decide +kernel⟩, List.mem_of_getElem? (i := 783) (by decide +kernel), List.mem_of_getElem? (i := 922) (by decide +kernel), List.mem_of_getElem? (i := 923) (by decide +kernel)⟩
theorem lw_p40 : lw_okq (⟨"GriefGlueModel", "isJoint", "(I)Z"⟩, 23) := ⟨⟨by decide +kernel, by decide +kernel⟩, List.mem_of_getElem? (i := 783) (by decide +kernel), List.mem_of_getElem? (i := 934) (by decide +kernel), List.mem_of_getElem? (i := 935) (by decide +kernel)⟩
theorem lw_p41 : lw_okq (⟨"GriefGlueModel", "know", "()V"⟩, 23) := ⟨⟨by decide +kernel, by decide +kernel⟩, List.mem_of_getElem? (i := 783) (by decide +kernel), List.mem_of_getElem? (i := 938) (by decide +kernel), List.mem_of_getElem? (i := 939) (by decide +kernel)⟩
theorem lw_p42 : lw_okq (⟨"GriefGlueModel", "boiled", "(III)V"⟩, 23) := ⟨⟨by decide +kernel, by decide +kernel⟩, List.mem_of_getElem? (i := 783) (by decide +kernel), List.mem_of_getElem? (i := 942) (by decide +kernel), List.mem_of_getElem? (i := 943) (by decide +kernel)⟩
theorem lw_p43 : lw_okq (⟨"GriefGlueModel", "opensOn", "(I)I"⟩, 23) := ⟨⟨by decide +kernel, by decide +kernel⟩, List.mem_of_getElem? (i := 783) (by decide +kernel), List.mem_of_getElem? (i := 946) (by decide +kernel), List.mem_of_getElem? (i := 947) (by decide +kernel)⟩
theorem lw_p44 : lw_okq (⟨"GriefGlueModel", "findGriefs", "(I)V"⟩, 23) := ⟨⟨by decide +kernel, by decide +kernel⟩, List.mem_of_getElem? (i := 783) (by decide +kernel), List.mem_of_getElem? (i := 950) (by decide +kernel), List.mem_of_getElem? (i := 951) (by decide +kernel)⟩
theorem lw_p45 : lw_okq (⟨"GriefGlueModel", "onDay", "(III)I"⟩, 23) := ⟨⟨by decide +kernel, by decide +kernel⟩, List.mem_of_getElem? (i := 783) (by decide +kernel), List.mem_of_getElem? (i := 954) (by decide +kernel), List.mem_of_getElem? (i := 955) (by decide +kernel)⟩
theorem lw_p46 : lw_okq (⟨"GriefGlueModel", "opensBy", "(I)I"⟩, 23) := ⟨⟨by decide +kernel, by decide +kernel⟩, List.mem_of_getElem? (i := 783) (by decide +kernel), List.mem_of_getElem? (i := 970) (by decide +kernel), List.mem_of_getElem? (i := 971) (by decide +kernel)⟩
theorem lw_p47 : lw_okq (⟨"GriefGlueModel", "strength", "(III)I"⟩, 23) := ⟨⟨by decide +kernel, by decide +kernel⟩, List.mem_of_getElem? (i := 783) (by decide +kernel), List.mem_of_getElem? (i := 974) (by decide +kernel), List.mem_of_getElem? (i := 975) (by decide +kernel)⟩
def lw_privs_3 : List (MethodName × Nat) := [(⟨"GriefGlueModel", "addMourner", "(III)V"⟩, 23), (⟨"GriefGlueModel", "set", "(II)V"⟩, 23), (⟨"GriefGlueModel", "addJoint", "(I)V"⟩, 23), (⟨"GriefGlueModel", "isSet", "(I)Z"⟩, 23), (⟨"GriefGlueModel", "addPiece", "(II)V"⟩, 23), (⟨"GriefGlueModel", "isMourner", "(I)Z"⟩, 23), (⟨"GriefGlueModel", "addFeast", "(III)V"⟩, 23), (⟨"GriefGlueModel", "no", "()I"⟩, 23), (⟨"GriefGlueModel", "isJoint", "(I)Z"⟩, 23), (⟨"GriefGlueModel", "know", "()V"⟩, 23), (⟨"GriefGlueModel", "boiled", "(III)V"⟩, 23), (⟨"GriefGlueModel", "opensOn", "(I)I"⟩, 23), (⟨"GriefGlueModel", "findGriefs", "(I)V"⟩, 23), (⟨"GriefGlueModel", "onDay", "(III)I"⟩, 23), (⟨"GriefGlueModel", "opensBy", "(I)I"⟩, 23), (⟨"GriefGlueModel", "strength", "(III)I"⟩, 23)]
theorem lw_r3 : ∀ q ∈ lw_privs_3, lw_okq q := List.forall_mem_cons.mpr ⟨lw_p32, List.forall_mem_cons.mpr ⟨lw_p33, List.forall_mem_cons.mpr ⟨lw_p34, List.forall_mem_cons.mpr ⟨lw_p35, List.forall_mem_cons.mpr ⟨lw_p36, List.forall_mem_cons.mpr ⟨lw_p37, List.forall_mem_cons.mpr ⟨lw_p38, List.forall_mem_cons.mpr ⟨lw_p39, List.forall_mem_cons.mpr ⟨lw_p40, List.forall_mem_cons.mpr ⟨lw_p41, List.forall_mem_cons.mpr ⟨lw_p42, List.forall_mem_cons.mpr ⟨lw_p43, List.forall_mem_cons.mpr ⟨lw_p44, List.forall_mem_cons.mpr ⟨lw_p45, List.forall_mem_cons.mpr ⟨lw_p46, List.forall_mem_cons.mpr ⟨lw_p47, fun _ h => absurd h List.not_mem_nil⟩⟩⟩⟩⟩⟩⟩⟩⟩⟩⟩⟩⟩⟩⟩⟩
theorem lw_p48 : lw_okq (⟨"GriefGlueModel", "openNow", "()I"⟩, 23) := ⟨⟨by decide +kernel, by decide +kernel⟩, List.mem_of_getElem? (i := 783) (by decide +kernel), List.mem_of_getElem? (i := 982) (by decide +kernel), List.mem_of_getElem? (i := 983) (by decide +kernel)⟩
theorem lw_p49 : lw_okq (⟨"GriefGlueModel", "isBoiled", "(I)Z"⟩, 23) := ⟨⟨by decide +kernel, by decide +kernel⟩, List.mem_of_getElem? (i := 783) (by decide +kernel), List.mem_of_getElem? (i := 986) (by decide +kernel), List.mem_of_getElem? (i := 987) (by decide +kernel)⟩
theorem lw_p50 : lw_okq (⟨"GriefGlueModel", "next", "()V"⟩, 23) := ⟨⟨by decide +kernel, by decide +kernel⟩, List.mem_of_getElem? (i := 783) (by decide +kernel), List.mem_of_getElem? (i := 1003) (by decide +kernel), List.mem_of_getElem? (i := 1004) (by decide +kernel)⟩
theorem lw_p51 : lw_okq (⟨"GriefGlueModel", "here", "()I"⟩, 23) := ⟨⟨by decide +kernel, by decide +kernel⟩, List.mem_of_getElem? (i := 783) (by decide +kernel), List.mem_of_getElem? (i := 1007) (by decide +kernel), List.mem_of_getElem? (i := 1008) (by decide +kernel)⟩
theorem lw_p52 : lw_okq (⟨"GriefGlueModel", "readItem", "()V"⟩, 23) := ⟨⟨by decide +kernel, by decide +kernel⟩, List.mem_of_getElem? (i := 783) (by decide +kernel), List.mem_of_getElem? (i := 1016) (by decide +kernel), List.mem_of_getElem? (i := 1017) (by decide +kernel)⟩
theorem lw_p53 : lw_okq (⟨"GriefGlueModel", "mayBe", "(I)Z"⟩, 23) := ⟨⟨by decide +kernel, by decide +kernel⟩, List.mem_of_getElem? (i := 783) (by decide +kernel), List.mem_of_getElem? (i := 1020) (by decide +kernel), List.mem_of_getElem? (i := 1021) (by decide +kernel)⟩
theorem lw_p54 : lw_okq (⟨"GriefGlueModel", "due", "(Z)I"⟩, 23) := ⟨⟨by decide +kernel, by decide +kernel⟩, List.mem_of_getElem? (i := 783) (by decide +kernel), List.mem_of_getElem? (i := 1024) (by decide +kernel), List.mem_of_getElem? (i := 1025) (by decide +kernel)⟩
theorem lw_p55 : lw_okq (⟨"GriefGlueModel", "isNumber", "(II)Z"⟩, 23) := ⟨⟨by decide +kernel, by decide +kernel⟩, List.mem_of_getElem? (i := 783) (by decide +kernel), List.mem_of_getElem? (i := 1028) (by decide +kernel), List.mem_of_getElem? (i := 1029) (by decide +kernel)⟩
theorem lw_p56 : lw_okq (⟨"GriefGlueModel", "readBoil", "()V"⟩, 23) := ⟨⟨by decide +kernel, by decide +kernel⟩, List.mem_of_getElem? (i := 783) (by decide +kernel), List.mem_of_getElem? (i := 1032) (by decide +kernel), List.mem_of_getElem? (i := 1033) (by decide +kernel)⟩
theorem lw_p57 : lw_okq (⟨"GriefGlueModel", "readRow", "(I)V"⟩, 23) := ⟨⟨by decide +kernel, by decide +kernel⟩, List.mem_of_getElem? (i := 783) (by decide +kernel), List.mem_of_getElem? (i := 1036) (by decide +kernel), List.mem_of_getElem? (i := 1037) (by decide +kernel)⟩
theorem lw_p58 : lw_okq (⟨"GriefGlueModel", "copy", "(II)V"⟩, 23) := ⟨⟨by decide +kernel, by decide +kernel⟩, List.mem_of_getElem? (i := 783) (by decide +kernel), List.mem_of_getElem? (i := 1040) (by decide +kernel), List.mem_of_getElem? (i := 1041) (by decide +kernel)⟩
theorem lw_p59 : lw_okq (⟨"GriefGlueModel", "isLasting", "(I)Z"⟩, 23) := ⟨⟨by decide +kernel, by decide +kernel⟩, List.mem_of_getElem? (i := 783) (by decide +kernel), List.mem_of_getElem? (i := 1056) (by decide +kernel), List.mem_of_getElem? (i := 1057) (by decide +kernel)⟩
theorem lw_p60 : lw_okq (⟨"GriefGlueModel", "findNeeds", "()V"⟩, 23) := ⟨⟨by decide +kernel, by decide +kernel⟩, List.mem_of_getElem? (i := 783) (by decide +kernel), List.mem_of_getElem? (i := 1068) (by decide +kernel), List.mem_of_getElem? (i := 1069) (by decide +kernel)⟩
theorem lw_p61 : lw_okq (⟨"GriefGlueModel", "hired", "(I)I"⟩, 23) := ⟨⟨by decide +kernel, by decide +kernel⟩, List.mem_of_getElem? (i := 783) (by decide +kernel), List.mem_of_getElem? (i := 1072) (by decide +kernel), List.mem_of_getElem? (i := 1073) (by decide +kernel)⟩
theorem lw_p62 : lw_okq (⟨"GriefGlueModel", "priceOf", "(I)I"⟩, 23) := ⟨⟨by decide +kernel, by decide +kernel⟩, List.mem_of_getElem? (i := 783) (by decide +kernel), List.mem_of_getElem? (i := 1076) (by decide +kernel), List.mem_of_getElem? (i := 1077) (by decide +kernel)⟩
theorem lw_p63 : lw_okq (⟨"GriefGlueModel", "whoOf", "(II)I"⟩, 23) := ⟨⟨by decide +kernel, by decide +kernel⟩, List.mem_of_getElem? (i := 783) (by decide +kernel), List.mem_of_getElem? (i := 1080) (by decide +kernel), List.mem_of_getElem? (i := 1081) (by decide +kernel)⟩
def lw_privs_4 : List (MethodName × Nat) := [(⟨"GriefGlueModel", "openNow", "()I"⟩, 23), (⟨"GriefGlueModel", "isBoiled", "(I)Z"⟩, 23), (⟨"GriefGlueModel", "next", "()V"⟩, 23), (⟨"GriefGlueModel", "here", "()I"⟩, 23), (⟨"GriefGlueModel", "readItem", "()V"⟩, 23), (⟨"GriefGlueModel", "mayBe", "(I)Z"⟩, 23), (⟨"GriefGlueModel", "due", "(Z)I"⟩, 23), (⟨"GriefGlueModel", "isNumber", "(II)Z"⟩, 23), (⟨"GriefGlueModel", "readBoil", "()V"⟩, 23), (⟨"GriefGlueModel", "readRow", "(I)V"⟩, 23), (⟨"GriefGlueModel", "copy", "(II)V"⟩, 23), (⟨"GriefGlueModel", "isLasting", "(I)Z"⟩, 23), (⟨"GriefGlueModel", "findNeeds", "()V"⟩, 23), (⟨"GriefGlueModel", "hired", "(I)I"⟩, 23), (⟨"GriefGlueModel", "priceOf", "(I)I"⟩, 23), (⟨"GriefGlueModel", "whoOf", "(II)I"⟩, 23)]
theorem lw_r4 : ∀ q ∈ lw_privs_4, lw_okq q := List.forall_mem_cons.mpr ⟨lw_p48, List.forall_mem_cons.mpr ⟨lw_p49, List.forall_mem_cons.mpr ⟨lw_p50, List.forall_mem_cons.mpr ⟨lw_p51, List.forall_mem_cons.mpr ⟨lw_p52, List.forall_mem_cons.mpr ⟨lw_p53, List.forall_mem_cons.mpr ⟨lw_p54, List.forall_mem_cons.mpr ⟨lw_p55, List.forall_mem_cons.mpr ⟨lw_p56, List.forall_mem_cons.mpr ⟨lw_p57, List.forall_mem_cons.mpr ⟨lw_p58, List.forall_mem_cons.mpr ⟨lw_p59, List.forall_mem_cons.mpr ⟨lw_p60, List.forall_mem_cons.mpr ⟨lw_p61, List.forall_mem_cons.mpr ⟨lw_p62, List.forall_mem_cons.mpr ⟨lw_p63, fun _ h => absurd h List.not_mem_nil⟩⟩⟩⟩⟩⟩⟩⟩⟩⟩⟩⟩⟩⟩⟩⟩
theorem lw_p64 : lw_okq (⟨"GriefGlueModel", "wouldHold", "(III)Z"⟩, 23) := ⟨⟨by decide +kernel, by decide +kernel⟩, List.mem_of_getElem? (i := 783) (by decide +kernel), List.mem_of_getElem? (i := 1084) (by decide +kernel), List.mem_of_getElem? (i := 1085) (by decide +kernel)⟩
theorem lw_p65 : lw_okq (⟨"GriefGlueModel", "isLikely", "(II)Z"⟩, 23) := ⟨⟨by decide +kernel, by decide +kernel⟩, List.mem_of_getElem? (i := 783) (by decide +kernel), List.mem_of_getElem? (i := 1112) (by decide +kernel), List.mem_of_getElem? (i := 1113) (by decide +kernel)⟩
theorem lw_p66 : lw_okq (⟨"GriefGlueModel", "digestRow", "(II)V"⟩, 23) := ⟨⟨by decide +kernel, by decide +kernel⟩, List.mem_of_getElem? (i := 783) (by decide +kernel), List.mem_of_getElem? (i := 1150) (by decide +kernel), List.mem_of_getElem? (i := 1151) (by decide +kernel)⟩
def lw_privs_5 : List (MethodName × Nat) := [(⟨"GriefGlueModel", "wouldHold", "(III)Z"⟩, 23), (⟨"GriefGlueModel", "isLikely", "(II)Z"⟩, 23), (⟨"GriefGlueModel", "digestRow", "(II)V"⟩, 23)]
theorem lw_r5 : ∀ q ∈ lw_privs_5, lw_okq q := List.forall_mem_cons.mpr ⟨lw_p64, List.forall_mem_cons.mpr ⟨lw_p65, List.forall_mem_cons.mpr ⟨lw_p66, fun _ h => absurd h List.not_mem_nil⟩⟩⟩
def lw_privs : List (MethodName × Nat) := lw_privs_1 ++ (lw_privs_2 ++ (lw_privs_3 ++ (lw_privs_4 ++ (lw_privs_5))))
def lw_tbl : List Cond := k2_sels lw_privs ++ tables_1
theorem lw_privs_ok : ∀ q ∈ lw_privs, lw_okq q := by
  show ∀ q ∈ lw_privs_1 ++ (lw_privs_2 ++ (lw_privs_3 ++ (lw_privs_4 ++ (lw_privs_5)))), lw_okq q
  exact List.forall_mem_append.mpr ⟨lw_r1, List.forall_mem_append.mpr ⟨lw_r2, List.forall_mem_append.mpr ⟨lw_r3, List.forall_mem_append.mpr ⟨lw_r4, lw_r5⟩⟩⟩⟩
end
section
def RHI : String := "GriefGlue$Hiring"
def RLE : String := "GriefGlue$Ledger"
def ROU : String := "GriefGlue$Outlook"
def RRE : String := "GriefGlue$Reader"
def RSH : String := "GriefGlue$Shop"
def RGG : String := "GriefGlue"
def RMO : String := "GriefGlueModel"
def RKI : String := "GriefGlue$Kinds"
def RLA : String := "GriefGlueLaw"
def RAR : String := "java/util/Arrays"
def RIN : String := "java/lang/Integer"
def RMA : String := "java/lang/Math"
def RST : String := "java/lang/String"
def RSL : String := "java/lang/StringLatin1"
def RSU : String := "java/lang/StringUTF16"
def RSY : String := "java/lang/System"
def RPR : String := "jdk/internal/util/Preconditions"
def THI : u_T := fun k => match k with
  | 0 => ("GriefGlue$Hiring", "tills", "[I", true)
  | 1 => ("GriefGlue$Hiring", "fits", "[J", true)
  | 2 => ("GriefGlue$Hiring", "prices", "[I", true)
  | _ => ("GriefGlue$Hiring", "mourners", "I", false)
def GHI : Nat → FieldType := fun k => match k with
  | 0 => .array .int
  | 1 => .array .long
  | 2 => .array .int
  | _ => .int
theorem nm_HI : ∀ a, a < 4 → ∀ b, b < 4 → a ≠ b → (THI a).2.1 ≠ (THI b).2.1 := by decide +kernel
theorem ty_HI : ∀ k, k < 4 → parseFieldDescriptor (THI k).2.2.1 = some (GHI k) := by decide +kernel
theorem iw_HI : ∀ w ∈ u_ws RHI THI 4, w ∈ lw_tbl := by decide +kernel
def TLE : u_T := fun k => match k with
  | 0 => ("GriefGlue$Ledger", "limit", "I", true)
  | 1 => ("GriefGlue$Ledger", "width", "I", true)
  | 2 => ("GriefGlue$Ledger", "cells", "[I", true)
  | _ => ("GriefGlue$Ledger", "size", "I", false)
def GLE : Nat → FieldType := fun k => match k with
  | 0 => .int
  | 1 => .int
  | 2 => .array .int
  | _ => .int
theorem nm_LE : ∀ a, a < 4 → ∀ b, b < 4 → a ≠ b → (TLE a).2.1 ≠ (TLE b).2.1 := by decide +kernel
theorem ty_LE : ∀ k, k < 4 → parseFieldDescriptor (TLE k).2.2.1 = some (GLE k) := by decide +kernel
theorem iw_LE : ∀ w ∈ u_ws RLE TLE 4, w ∈ lw_tbl := by decide +kernel
def TOU : u_T := fun k => match k with
  | 0 => ("GriefGlue$Outlook", "row", "[I", true)
  | 1 => ("GriefGlue$Outlook", "next", "[I", true)
  | 2 => ("GriefGlue$Outlook", "onions", "[I", true)
  | 3 => ("GriefGlue$Outlook", "onionsThen", "[I", true)
  | 4 => ("GriefGlue$Outlook", "chances", "[J", true)
  | _ => ("GriefGlue$Outlook", "chancesThen", "[J", true)
def GOU : Nat → FieldType := fun k => match k with
  | 0 => .array .int
  | 1 => .array .int
  | 2 => .array .int
  | 3 => .array .int
  | 4 => .array .long
  | _ => .array .long
theorem nm_OU : ∀ a, a < 6 → ∀ b, b < 6 → a ≠ b → (TOU a).2.1 ≠ (TOU b).2.1 := by decide +kernel
theorem ty_OU : ∀ k, k < 6 → parseFieldDescriptor (TOU k).2.2.1 = some (GOU k) := by decide +kernel
theorem iw_OU : ∀ w ∈ u_ws ROU TOU 6, w ∈ lw_tbl := by decide +kernel
def TRE : u_T := fun k => match k with
  | 0 => ("GriefGlue$Reader", "text", "[I", true)
  | 1 => ("GriefGlue$Reader", "length", "I", false)
  | 2 => ("GriefGlue$Reader", "place", "I", false)
  | 3 => ("GriefGlue$Reader", "fault", "I", false)
  | 4 => ("GriefGlue$Reader", "shop", "LGriefGlue$Shop;", true)
  | 5 => ("GriefGlue$Reader", "sort", "I", false)
  | 6 => ("GriefGlue$Reader", "start", "I", false)
  | _ => ("GriefGlue$Reader", "value", "I", false)
def GRE : Nat → FieldType := fun k => match k with
  | 0 => .array .int
  | 1 => .int
  | 2 => .int
  | 3 => .int
  | 4 => .object "GriefGlue$Shop"
  | 5 => .int
  | 6 => .int
  | _ => .int
theorem nm_RE : ∀ a, a < 8 → ∀ b, b < 8 → a ≠ b → (TRE a).2.1 ≠ (TRE b).2.1 := by decide +kernel
theorem ty_RE : ∀ k, k < 8 → parseFieldDescriptor (TRE k).2.2.1 = some (GRE k) := by decide +kernel
theorem iw_RE : ∀ w ∈ u_ws RRE TRE 8, w ∈ lw_tbl := by decide +kernel
def TSH : u_T := fun k => match k with
  | 0 => ("GriefGlue$Shop", "mourners", "LGriefGlue$Ledger;", true)
  | 1 => ("GriefGlue$Shop", "joints", "LGriefGlue$Ledger;", true)
  | 2 => ("GriefGlue$Shop", "pieces", "LGriefGlue$Ledger;", true)
  | 3 => ("GriefGlue$Shop", "feasts", "LGriefGlue$Ledger;", true)
  | 4 => ("GriefGlue$Shop", "facts", "LGriefGlue$Ledger;", true)
  | 5 => ("GriefGlue$Shop", "griefs", "[[I", true)
  | 6 => ("GriefGlue$Shop", "boils", "[I", true)
  | 7 => ("GriefGlue$Shop", "past", "[I", true)
  | 8 => ("GriefGlue$Shop", "pasts", "I", false)
  | _ => ("GriefGlue$Shop", "day", "I", false)
def GSH : Nat → FieldType := fun k => match k with
  | 0 => .object "GriefGlue$Ledger"
  | 1 => .object "GriefGlue$Ledger"
  | 2 => .object "GriefGlue$Ledger"
  | 3 => .object "GriefGlue$Ledger"
  | 4 => .object "GriefGlue$Ledger"
  | 5 => .array (.array .int)
  | 6 => .array .int
  | 7 => .array .int
  | 8 => .int
  | _ => .int
theorem nm_SH : ∀ a, a < 10 → ∀ b, b < 10 → a ≠ b → (TSH a).2.1 ≠ (TSH b).2.1 := by decide +kernel
theorem ty_SH : ∀ k, k < 10 → parseFieldDescriptor (TSH k).2.2.1 = some (GSH k) := by decide +kernel
theorem iw_SH : ∀ w ∈ u_ws RSH TSH 10, w ∈ lw_tbl := by decide +kernel
def TGG : u_T := fun k => match k with
  | 0 => ("GriefGlue", "shop", "LGriefGlue$Shop;", true)
  | 1 => ("GriefGlue", "images", "[LGriefGlue$Shop;", true)
  | 2 => ("GriefGlue", "kept", "[Z", true)
  | 3 => ("GriefGlue", "reader", "LGriefGlue$Reader;", true)
  | 4 => ("GriefGlue", "hiring", "LGriefGlue$Hiring;", true)
  | 5 => ("GriefGlue", "outlook", "LGriefGlue$Outlook;", true)
  | 6 => ("GriefGlue", "above", "J", false)
  | 7 => ("GriefGlue", "below", "J", false)
  | 8 => ("GriefGlue", "bads", "I", false)
  | 9 => ("GriefGlue", "noes", "I", false)
  | _ => ("GriefGlue", "fulls", "I", false)
def GGG : Nat → FieldType := fun k => match k with
  | 0 => .object "GriefGlue$Shop"
  | 1 => .array (.object "GriefGlue$Shop")
  | 2 => .array .boolean
  | 3 => .object "GriefGlue$Reader"
  | 4 => .object "GriefGlue$Hiring"
  | 5 => .object "GriefGlue$Outlook"
  | 6 => .long
  | 7 => .long
  | 8 => .int
  | 9 => .int
  | _ => .int
theorem nm_GG : ∀ a, a < 11 → ∀ b, b < 11 → a ≠ b → (TGG a).2.1 ≠ (TGG b).2.1 := by decide +kernel
theorem ty_GG : ∀ k, k < 11 → parseFieldDescriptor (TGG k).2.2.1 = some (GGG k) := by decide +kernel
theorem iw_GG : ∀ w ∈ u_ws RGG TGG 11, w ∈ lw_tbl := by decide +kernel
def TMO : u_T := fun k => match k with
  | 0 => ("GriefGlueModel", "now", "[I", true)
  | 1 => ("GriefGlueModel", "base", "I", false)
  | 2 => ("GriefGlueModel", "isKept", "[Z", true)
  | 3 => ("GriefGlueModel", "refused", "[I", true)
  | 4 => ("GriefGlueModel", "above", "J", false)
  | 5 => ("GriefGlueModel", "below", "J", false)
  | 6 => ("GriefGlueModel", "text", "[B", true)
  | 7 => ("GriefGlueModel", "typed", "I", false)
  | 8 => ("GriefGlueModel", "at", "I", false)
  | 9 => ("GriefGlueModel", "start", "I", false)
  | 10 => ("GriefGlueModel", "sort", "I", false)
  | 11 => ("GriefGlueModel", "value", "I", false)
  | 12 => ("GriefGlueModel", "fault", "I", false)
  | 13 => ("GriefGlueModel", "without", "I", false)
  | 14 => ("GriefGlueModel", "griefs", "[I", true)
  | 15 => ("GriefGlueModel", "till", "[I", true)
  | 16 => ("GriefGlueModel", "fewest", "[I", true)
  | 17 => ("GriefGlueModel", "fewestThen", "[I", true)
  | 18 => ("GriefGlueModel", "days", "[I", true)
  | 19 => ("GriefGlueModel", "ways", "[J", true)
  | 20 => ("GriefGlueModel", "then", "[J", true)
  | 21 => ("GriefGlueModel", "opened", "[I", true)
  | _ => ("GriefGlueModel", "digested", "J", false)
def GMO : Nat → FieldType := fun k => match k with
  | 0 => .array .int
  | 1 => .int
  | 2 => .array .boolean
  | 3 => .array .int
  | 4 => .long
  | 5 => .long
  | 6 => .array .byte
  | 7 => .int
  | 8 => .int
  | 9 => .int
  | 10 => .int
  | 11 => .int
  | 12 => .int
  | 13 => .int
  | 14 => .array .int
  | 15 => .array .int
  | 16 => .array .int
  | 17 => .array .int
  | 18 => .array .int
  | 19 => .array .long
  | 20 => .array .long
  | 21 => .array .int
  | _ => .long
theorem nm_MO : ∀ a, a < 23 → ∀ b, b < 23 → a ≠ b → (TMO a).2.1 ≠ (TMO b).2.1 := by decide +kernel
theorem ty_MO : ∀ k, k < 23 → parseFieldDescriptor (TMO k).2.2.1 = some (GMO k) := by decide +kernel
theorem iw_MO : ∀ w ∈ u_ws RMO TMO 23, w ∈ lw_tbl := by decide +kernel
def vcl : List vw_C := [(RHI, THI, 4), (RLE, TLE, 4), (ROU, TOU, 6), (RRE, TRE, 8), (RSH, TSH, 10), (RGG, TGG, 11), (RMO, TMO, 23)]
theorem vcl_0 : vcl[0]? = some (RHI, THI, 4) := rfl
theorem vcl_1 : vcl[1]? = some (RLE, TLE, 4) := rfl
theorem vcl_2 : vcl[2]? = some (ROU, TOU, 6) := rfl
theorem vcl_3 : vcl[3]? = some (RRE, TRE, 8) := rfl
theorem vcl_4 : vcl[4]? = some (RSH, TSH, 10) := rfl
theorem vcl_5 : vcl[5]? = some (RGG, TGG, 11) := rfl
theorem vcl_6 : vcl[6]? = some (RMO, TMO, 23) := rfl
abbrev bb_HI_init : ByteArray := prog_2_method_1_code
def yy_HI_init : MethodName := ⟨RHI, "<init>", "()V"⟩
abbrev bb_HI_lookAt : ByteArray := prog_2_method_2_code
def yy_HI_lookAt : MethodName := ⟨RHI, "lookAt", "(LGriefGlue$Shop;)V"⟩
abbrev bb_HI_lookForNeeds : ByteArray := prog_2_method_3_code
def yy_HI_lookForNeeds : MethodName := ⟨RHI, "lookForNeeds", "(LGriefGlue$Shop;)V"⟩
abbrev bb_HI_fitsOf : ByteArray := prog_2_method_4_code
def yy_HI_fitsOf : MethodName := ⟨RHI, "fitsOf", "(LGriefGlue$Shop;I)J"⟩
abbrev bb_HI_pairBit : ByteArray := prog_2_method_5_code
def yy_HI_pairBit : MethodName := ⟨RHI, "pairBit", "(II)J"⟩
abbrev bb_HI_isNeedy : ByteArray := prog_2_method_6_code
def yy_HI_isNeedy : MethodName := ⟨RHI, "isNeedy", "(I)Z"⟩
abbrev bb_HI_priceOf : ByteArray := prog_2_method_7_code
def yy_HI_priceOf : MethodName := ⟨RHI, "priceOf", "(I)I"⟩
abbrev bb_HI_cheapest : ByteArray := prog_2_method_8_code
def yy_HI_cheapest : MethodName := ⟨RHI, "cheapest", "(I)I"⟩
abbrev bb_HI_isEnough : ByteArray := prog_2_method_9_code
def yy_HI_isEnough : MethodName := ⟨RHI, "isEnough", "(I)Z"⟩
abbrev bb_HI_boilersFor : ByteArray := prog_2_method_10_code
def yy_HI_boilersFor : MethodName := ⟨RHI, "boilersFor", "(II)I"⟩
abbrev bb_HI_isIn : ByteArray := prog_2_method_11_code
def yy_HI_isIn : MethodName := ⟨RHI, "isIn", "(II)Z"⟩
abbrev bb_KI_stepOf : ByteArray := prog_3_method_2_code
def yy_KI_stepOf : MethodName := ⟨RKI, "stepOf", "(III)I"⟩
abbrev bb_KI_mournerStep : ByteArray := prog_3_method_3_code
def yy_KI_mournerStep : MethodName := ⟨RKI, "mournerStep", "(I)I"⟩
abbrev bb_KI_widowStep : ByteArray := prog_3_method_4_code
def yy_KI_widowStep : MethodName := ⟨RKI, "widowStep", "(II)I"⟩
abbrev bb_KI_heirStep : ByteArray := prog_3_method_5_code
def yy_KI_heirStep : MethodName := ⟨RKI, "heirStep", "(I)I"⟩
abbrev bb_KI_feastOf : ByteArray := prog_3_method_6_code
def yy_KI_feastOf : MethodName := ⟨RKI, "feastOf", "(II)I"⟩
abbrev bb_LE_init : ByteArray := prog_4_method_1_code
def yy_LE_init : MethodName := ⟨RLE, "<init>", "(II)V"⟩
abbrev bb_LE_isFull : ByteArray := prog_4_method_2_code
def yy_LE_isFull : MethodName := ⟨RLE, "isFull", "()Z"⟩
abbrev bb_LE_has : ByteArray := prog_4_method_3_code
def yy_LE_has : MethodName := ⟨RLE, "has", "(I)Z"⟩
abbrev bb_LE_at : ByteArray := prog_4_method_4_code
def yy_LE_at : MethodName := ⟨RLE, "at", "(II)I"⟩
abbrev bb_LE_add : ByteArray := prog_4_method_5_code
def yy_LE_add : MethodName := ⟨RLE, "add", "(III)I"⟩
abbrev bb_LE_dropLast : ByteArray := prog_4_method_6_code
def yy_LE_dropLast : MethodName := ⟨RLE, "dropLast", "()V"⟩
abbrev bb_LE_copyFrom : ByteArray := prog_4_method_7_code
def yy_LE_copyFrom : MethodName := ⟨RLE, "copyFrom", "(LGriefGlue$Ledger;)V"⟩
abbrev bb_LE_mixInto : ByteArray := prog_4_method_8_code
def yy_LE_mixInto : MethodName := ⟨RLE, "mixInto", "(J)J"⟩
abbrev bb_OU_init : ByteArray := prog_5_method_1_code
def yy_OU_init : MethodName := ⟨ROU, "<init>", "()V"⟩
abbrev bb_OU_fewestOnions : ByteArray := prog_5_method_2_code
def yy_OU_fewestOnions : MethodName := ⟨ROU, "fewestOnions", "(LGriefGlue$Shop;III)I"⟩
abbrev bb_OU_weepADay : ByteArray := prog_5_method_3_code
def yy_OU_weepADay : MethodName := ⟨ROU, "weepADay", "(I)V"⟩
abbrev bb_OU_chancesToHold : ByteArray := prog_5_method_4_code
def yy_OU_chancesToHold : MethodName := ⟨ROU, "chancesToHold", "(LGriefGlue$Shop;IIII)J"⟩
abbrev bb_OU_weddingADay : ByteArray := prog_5_method_5_code
def yy_OU_weddingADay : MethodName := ⟨ROU, "weddingADay", "(I)V"⟩
abbrev bb_OU_firstGriefs : ByteArray := prog_5_method_6_code
def yy_OU_firstGriefs : MethodName := ⟨ROU, "firstGriefs", "(LGriefGlue$Ledger;II)I"⟩
abbrev bb_OU_isByFacts : ByteArray := prog_5_method_7_code
def yy_OU_isByFacts : MethodName := ⟨ROU, "isByFacts", "(LGriefGlue$Ledger;II)Z"⟩
abbrev bb_OU_harmOf : ByteArray := prog_5_method_8_code
def yy_OU_harmOf : MethodName := ⟨ROU, "harmOf", "(LGriefGlue$Shop;I)I"⟩
abbrev bb_OU_griefsWithout : ByteArray := prog_5_method_9_code
def yy_OU_griefsWithout : MethodName := ⟨ROU, "griefsWithout", "(LGriefGlue$Shop;II)[I"⟩
abbrev bb_RE_init : ByteArray := prog_6_method_1_code
def yy_RE_init : MethodName := ⟨RRE, "<init>", "()V"⟩
abbrev bb_RE_addByte : ByteArray := prog_6_method_2_code
def yy_RE_addByte : MethodName := ⟨RRE, "addByte", "(I)V"⟩
abbrev bb_RE_readItems : ByteArray := prog_6_method_3_code
def yy_RE_readItems : MethodName := ⟨RRE, "readItems", "()I"⟩
abbrev bb_RE_readMourner : ByteArray := prog_6_method_4_code
def yy_RE_readMourner : MethodName := ⟨RRE, "readMourner", "()V"⟩
abbrev bb_RE_readJoint : ByteArray := prog_6_method_5_code
def yy_RE_readJoint : MethodName := ⟨RRE, "readJoint", "()V"⟩
abbrev bb_RE_readPiece : ByteArray := prog_6_method_6_code
def yy_RE_readPiece : MethodName := ⟨RRE, "readPiece", "()V"⟩
abbrev bb_RE_readFeast : ByteArray := prog_6_method_7_code
def yy_RE_readFeast : MethodName := ⟨RRE, "readFeast", "(I)V"⟩
abbrev bb_RE_readDay : ByteArray := prog_6_method_8_code
def yy_RE_readDay : MethodName := ⟨RRE, "readDay", "()V"⟩
abbrev bb_RE_readBoil : ByteArray := prog_6_method_9_code
def yy_RE_readBoil : MethodName := ⟨RRE, "readBoil", "()V"⟩
abbrev bb_RE_wantRoom : ByteArray := prog_6_method_10_code
def yy_RE_wantRoom : MethodName := ⟨RRE, "wantRoom", "(LGriefGlue$Ledger;)V"⟩
abbrev bb_RE_readNumber : ByteArray := prog_6_method_11_code
def yy_RE_readNumber : MethodName := ⟨RRE, "readNumber", "(II)I"⟩
abbrev bb_RE_wantNumber : ByteArray := prog_6_method_12_code
def yy_RE_wantNumber : MethodName := ⟨RRE, "wantNumber", "(II)V"⟩
abbrev bb_RE_readStop : ByteArray := prog_6_method_13_code
def yy_RE_readStop : MethodName := ⟨RRE, "readStop", "()V"⟩
abbrev bb_RE_wantStop : ByteArray := prog_6_method_14_code
def yy_RE_wantStop : MethodName := ⟨RRE, "wantStop", "()V"⟩
abbrev bb_RE_blame : ByteArray := prog_6_method_15_code
def yy_RE_blame : MethodName := ⟨RRE, "blame", "()V"⟩
abbrev bb_RE_nextToken : ByteArray := prog_6_method_16_code
def yy_RE_nextToken : MethodName := ⟨RRE, "nextToken", "()V"⟩
abbrev bb_RE_readLetters : ByteArray := prog_6_method_17_code
def yy_RE_readLetters : MethodName := ⟨RRE, "readLetters", "()V"⟩
abbrev bb_RE_readFigures : ByteArray := prog_6_method_18_code
def yy_RE_readFigures : MethodName := ⟨RRE, "readFigures", "()V"⟩
abbrev bb_RE_isLetter : ByteArray := prog_6_method_19_code
def yy_RE_isLetter : MethodName := ⟨RRE, "isLetter", "(I)Z"⟩
abbrev bb_RE_isFigure : ByteArray := prog_6_method_20_code
def yy_RE_isFigure : MethodName := ⟨RRE, "isFigure", "(I)Z"⟩
abbrev bb_RE_isWord : ByteArray := prog_6_method_21_code
def yy_RE_isWord : MethodName := ⟨RRE, "isWord", "(Ljava/lang/String;)Z"⟩
abbrev bb_SH_init : ByteArray := prog_7_method_1_code
def yy_SH_init : MethodName := ⟨RSH, "<init>", "()V"⟩
abbrev bb_SH_makeEmpty : ByteArray := prog_7_method_2_code
def yy_SH_makeEmpty : MethodName := ⟨RSH, "makeEmpty", "()V"⟩
abbrev bb_SH_copyFrom : ByteArray := prog_7_method_3_code
def yy_SH_copyFrom : MethodName := ⟨RSH, "copyFrom", "(LGriefGlue$Shop;)V"⟩
abbrev bb_SH_allJoints : ByteArray := prog_7_method_4_code
def yy_SH_allJoints : MethodName := ⟨RSH, "allJoints", "()I"⟩
abbrev bb_SH_addMourner : ByteArray := prog_7_method_5_code
def yy_SH_addMourner : MethodName := ⟨RSH, "addMourner", "(III)I"⟩
abbrev bb_SH_addFeast : ByteArray := prog_7_method_6_code
def yy_SH_addFeast : MethodName := ⟨RSH, "addFeast", "(III)I"⟩
abbrev bb_SH_dropFeast : ByteArray := prog_7_method_7_code
def yy_SH_dropFeast : MethodName := ⟨RSH, "dropFeast", "()V"⟩
abbrev bb_SH_renewAllGriefs : ByteArray := prog_7_method_8_code
def yy_SH_renewAllGriefs : MethodName := ⟨RSH, "renewAllGriefs", "()V"⟩
abbrev bb_SH_renewGriefs : ByteArray := prog_7_method_9_code
def yy_SH_renewGriefs : MethodName := ⟨RSH, "renewGriefs", "(I)V"⟩
abbrev bb_SH_fillGriefs : ByteArray := prog_7_method_10_code
def yy_SH_fillGriefs : MethodName := ⟨RSH, "fillGriefs", "([III)V"⟩
abbrev bb_SH_fillNextGriefs : ByteArray := prog_7_method_11_code
def yy_SH_fillNextGriefs : MethodName := ⟨RSH, "fillNextGriefs", "([III)V"⟩
abbrev bb_SH_isFeastOf : ByteArray := prog_7_method_12_code
def yy_SH_isFeastOf : MethodName := ⟨RSH, "isFeastOf", "(III)Z"⟩
abbrev bb_SH_griefsOf : ByteArray := prog_7_method_13_code
def yy_SH_griefsOf : MethodName := ⟨RSH, "griefsOf", "(I)[I"⟩
abbrev bb_SH_griefOn : ByteArray := prog_7_method_14_code
def yy_SH_griefOn : MethodName := ⟨RSH, "griefOn", "(II)I"⟩
abbrev bb_SH_boilNow : ByteArray := prog_7_method_15_code
def yy_SH_boilNow : MethodName := ⟨RSH, "boilNow", "(III)V"⟩
abbrev bb_SH_boiledOn : ByteArray := prog_7_method_16_code
def yy_SH_boiledOn : MethodName := ⟨RSH, "boiledOn", "(I)I"⟩
abbrev bb_SH_firstBoiler : ByteArray := prog_7_method_17_code
def yy_SH_firstBoiler : MethodName := ⟨RSH, "firstBoiler", "(I)I"⟩
abbrev bb_SH_secondBoiler : ByteArray := prog_7_method_18_code
def yy_SH_secondBoiler : MethodName := ⟨RSH, "secondBoiler", "(I)I"⟩
abbrev bb_SH_openingOf : ByteArray := prog_7_method_19_code
def yy_SH_openingOf : MethodName := ⟨RSH, "openingOf", "(I)I"⟩
abbrev bb_SH_firstWeakDay : ByteArray := prog_7_method_20_code
def yy_SH_firstWeakDay : MethodName := ⟨RSH, "firstWeakDay", "([I[IIII)I"⟩
abbrev bb_SH_openJoints : ByteArray := prog_7_method_21_code
def yy_SH_openJoints : MethodName := ⟨RSH, "openJoints", "()I"⟩
abbrev bb_SH_isLasting : ByteArray := prog_7_method_22_code
def yy_SH_isLasting : MethodName := ⟨RSH, "isLasting", "(I)Z"⟩
abbrev bb_SH_isPartOf : ByteArray := prog_7_method_23_code
def yy_SH_isPartOf : MethodName := ⟨RSH, "isPartOf", "(II)Z"⟩
abbrev bb_SH_keepPast : ByteArray := prog_7_method_24_code
def yy_SH_keepPast : MethodName := ⟨RSH, "keepPast", "()V"⟩
abbrev bb_SH_goBack : ByteArray := prog_7_method_25_code
def yy_SH_goBack : MethodName := ⟨RSH, "goBack", "()V"⟩
abbrev bb_SH_mixJointsInto : ByteArray := prog_7_method_26_code
def yy_SH_mixJointsInto : MethodName := ⟨RSH, "mixJointsInto", "(J)J"⟩
abbrev bb_GG_init : ByteArray := prog_1_method_1_code
def yy_GG_init : MethodName := ⟨RGG, "<init>", "()V"⟩
abbrev bb_GG_mourner : ByteArray := prog_1_method_2_code
def yy_GG_mourner : MethodName := ⟨RGG, "mourner", "(III)I"⟩
abbrev bb_GG_joint : ByteArray := prog_1_method_3_code
def yy_GG_joint : MethodName := ⟨RGG, "joint", "(I)I"⟩
abbrev bb_GG_piece : ByteArray := prog_1_method_4_code
def yy_GG_piece : MethodName := ⟨RGG, "piece", "(II)I"⟩
abbrev bb_GG_feast : ByteArray := prog_1_method_5_code
def yy_GG_feast : MethodName := ⟨RGG, "feast", "(III)I"⟩
abbrev bb_GG_skip : ByteArray := prog_1_method_6_code
def yy_GG_skip : MethodName := ⟨RGG, "skip", "()I"⟩
abbrev bb_GG_boil : ByteArray := prog_1_method_7_code
def yy_GG_boil : MethodName := ⟨RGG, "boil", "(III)I"⟩
abbrev bb_GG_day : ByteArray := prog_1_method_8_code
def yy_GG_day : MethodName := ⟨RGG, "day", "(I)I"⟩
abbrev bb_GG_undo : ByteArray := prog_1_method_9_code
def yy_GG_undo : MethodName := ⟨RGG, "undo", "()I"⟩
abbrev bb_GG_type : ByteArray := prog_1_method_10_code
def yy_GG_type : MethodName := ⟨RGG, "type", "(JI)I"⟩
abbrev bb_GG_clear : ByteArray := prog_1_method_11_code
def yy_GG_clear : MethodName := ⟨RGG, "clear", "()I"⟩
abbrev bb_GG_read : ByteArray := prog_1_method_12_code
def yy_GG_read : MethodName := ⟨RGG, "read", "()I"⟩
abbrev bb_GG_grief : ByteArray := prog_1_method_13_code
def yy_GG_grief : MethodName := ⟨RGG, "grief", "(II)I"⟩
abbrev bb_GG_opens : ByteArray := prog_1_method_14_code
def yy_GG_opens : MethodName := ⟨RGG, "opens", "(I)I"⟩
abbrev bb_GG_lasts : ByteArray := prog_1_method_15_code
def yy_GG_lasts : MethodName := ⟨RGG, "lasts", "(I)I"⟩
abbrev bb_GG_open : ByteArray := prog_1_method_16_code
def yy_GG_open : MethodName := ⟨RGG, "open", "()I"⟩
abbrev bb_GG_hire : ByteArray := prog_1_method_17_code
def yy_GG_hire : MethodName := ⟨RGG, "hire", "(I)I"⟩
abbrev bb_GG_who : ByteArray := prog_1_method_18_code
def yy_GG_who : MethodName := ⟨RGG, "who", "(I)I"⟩
abbrev bb_GG_saves : ByteArray := prog_1_method_19_code
def yy_GG_saves : MethodName := ⟨RGG, "saves", "(I)I"⟩
abbrev bb_GG_tears : ByteArray := prog_1_method_20_code
def yy_GG_tears : MethodName := ⟨RGG, "tears", "(III)I"⟩
abbrev bb_GG_fact : ByteArray := prog_1_method_21_code
def yy_GG_fact : MethodName := ⟨RGG, "fact", "(III)I"⟩
abbrev bb_GG_forget : ByteArray := prog_1_method_22_code
def yy_GG_forget : MethodName := ⟨RGG, "forget", "()I"⟩
abbrev bb_GG_likely : ByteArray := prog_1_method_23_code
def yy_GG_likely : MethodName := ⟨RGG, "likely", "(II)I"⟩
abbrev bb_GG_odds : ByteArray := prog_1_method_24_code
def yy_GG_odds : MethodName := ⟨RGG, "odds", "(IIII)I"⟩
abbrev bb_GG_harm : ByteArray := prog_1_method_25_code
def yy_GG_harm : MethodName := ⟨RGG, "harm", "(I)I"⟩
abbrev bb_GG_part : ByteArray := prog_1_method_26_code
def yy_GG_part : MethodName := ⟨RGG, "part", "(I)J"⟩
abbrev bb_GG_image : ByteArray := prog_1_method_27_code
def yy_GG_image : MethodName := ⟨RGG, "image", "(I)I"⟩
abbrev bb_GG_from : ByteArray := prog_1_method_28_code
def yy_GG_from : MethodName := ⟨RGG, "from", "(I)I"⟩
abbrev bb_GG_status : ByteArray := prog_1_method_29_code
def yy_GG_status : MethodName := ⟨RGG, "status", "(I)I"⟩
abbrev bb_GG_count : ByteArray := prog_1_method_30_code
def yy_GG_count : MethodName := ⟨RGG, "count", "(I)I"⟩
abbrev bb_GG_digest : ByteArray := prog_1_method_31_code
def yy_GG_digest : MethodName := ⟨RGG, "digest", "()J"⟩
abbrev bb_GG_countOf : ByteArray := prog_1_method_32_code
def yy_GG_countOf : MethodName := ⟨RGG, "countOf", "(I)I"⟩
abbrev bb_GG_refuseBad : ByteArray := prog_1_method_33_code
def yy_GG_refuseBad : MethodName := ⟨RGG, "refuseBad", "()I"⟩
abbrev bb_GG_refuseNo : ByteArray := prog_1_method_34_code
def yy_GG_refuseNo : MethodName := ⟨RGG, "refuseNo", "()I"⟩
abbrev bb_GG_refuseFull : ByteArray := prog_1_method_35_code
def yy_GG_refuseFull : MethodName := ⟨RGG, "refuseFull", "()I"⟩
abbrev bb_GG_isWithin : ByteArray := prog_1_method_36_code
def yy_GG_isWithin : MethodName := ⟨RGG, "isWithin", "(III)Z"⟩
abbrev bb_GG_tenTo : ByteArray := prog_1_method_37_code
def yy_GG_tenTo : MethodName := ⟨RGG, "tenTo", "(I)J"⟩
abbrev bb_GG_commonDivisor : ByteArray := prog_1_method_38_code
def yy_GG_commonDivisor : MethodName := ⟨RGG, "commonDivisor", "(JJ)J"⟩
abbrev bb_MO_init : ByteArray := prog_9_method_1_code
def yy_MO_init : MethodName := ⟨RMO, "<init>", "()V"⟩
abbrev bb_MO_in : ByteArray := prog_9_method_3_code
def yy_MO_in : MethodName := ⟨RMO, "in", "(III)Z"⟩
abbrev bb_MO_bad : ByteArray := prog_9_method_4_code
def yy_MO_bad : MethodName := ⟨RMO, "bad", "()I"⟩
abbrev bb_MO_no : ByteArray := prog_9_method_5_code
def yy_MO_no : MethodName := ⟨RMO, "no", "()I"⟩
abbrev bb_MO_full : ByteArray := prog_9_method_6_code
def yy_MO_full : MethodName := ⟨RMO, "full", "()I"⟩
abbrev bb_MO_get : ByteArray := prog_9_method_7_code
def yy_MO_get : MethodName := ⟨RMO, "get", "(I)I"⟩
abbrev bb_MO_set : ByteArray := prog_9_method_8_code
def yy_MO_set : MethodName := ⟨RMO, "set", "(II)V"⟩
abbrev bb_MO_copy : ByteArray := prog_9_method_9_code
def yy_MO_copy : MethodName := ⟨RMO, "copy", "(II)V"⟩
abbrev bb_MO_isMourner : ByteArray := prog_9_method_10_code
def yy_MO_isMourner : MethodName := ⟨RMO, "isMourner", "(I)Z"⟩
abbrev bb_MO_isJoint : ByteArray := prog_9_method_11_code
def yy_MO_isJoint : MethodName := ⟨RMO, "isJoint", "(I)Z"⟩
abbrev bb_MO_addMourner : ByteArray := prog_9_method_12_code
def yy_MO_addMourner : MethodName := ⟨RMO, "addMourner", "(III)V"⟩
abbrev bb_MO_addJoint : ByteArray := prog_9_method_13_code
def yy_MO_addJoint : MethodName := ⟨RMO, "addJoint", "(I)V"⟩
abbrev bb_MO_isSet : ByteArray := prog_9_method_14_code
def yy_MO_isSet : MethodName := ⟨RMO, "isSet", "(I)Z"⟩
abbrev bb_MO_addPiece : ByteArray := prog_9_method_15_code
def yy_MO_addPiece : MethodName := ⟨RMO, "addPiece", "(II)V"⟩
abbrev bb_MO_addFeast : ByteArray := prog_9_method_16_code
def yy_MO_addFeast : MethodName := ⟨RMO, "addFeast", "(III)V"⟩
abbrev bb_MO_boiled : ByteArray := prog_9_method_17_code
def yy_MO_boiled : MethodName := ⟨RMO, "boiled", "(III)V"⟩
abbrev bb_MO_mourner : ByteArray := prog_9_method_18_code
def yy_MO_mourner : MethodName := ⟨RMO, "mourner", "(III)I"⟩
abbrev bb_MO_joint : ByteArray := prog_9_method_19_code
def yy_MO_joint : MethodName := ⟨RMO, "joint", "(I)I"⟩
abbrev bb_MO_piece : ByteArray := prog_9_method_20_code
def yy_MO_piece : MethodName := ⟨RMO, "piece", "(II)I"⟩
abbrev bb_MO_feast : ByteArray := prog_9_method_21_code
def yy_MO_feast : MethodName := ⟨RMO, "feast", "(III)I"⟩
abbrev bb_MO_skip : ByteArray := prog_9_method_22_code
def yy_MO_skip : MethodName := ⟨RMO, "skip", "()I"⟩
abbrev bb_MO_know : ByteArray := prog_9_method_23_code
def yy_MO_know : MethodName := ⟨RMO, "know", "()V"⟩
abbrev bb_MO_undo : ByteArray := prog_9_method_24_code
def yy_MO_undo : MethodName := ⟨RMO, "undo", "()I"⟩
abbrev bb_MO_boil : ByteArray := prog_9_method_25_code
def yy_MO_boil : MethodName := ⟨RMO, "boil", "(III)I"⟩
abbrev bb_MO_day : ByteArray := prog_9_method_26_code
def yy_MO_day : MethodName := ⟨RMO, "day", "(I)I"⟩
abbrev bb_MO_type : ByteArray := prog_9_method_27_code
def yy_MO_type : MethodName := ⟨RMO, "type", "(JI)I"⟩
abbrev bb_MO_clear : ByteArray := prog_9_method_28_code
def yy_MO_clear : MethodName := ⟨RMO, "clear", "()I"⟩
abbrev bb_MO_here : ByteArray := prog_9_method_29_code
def yy_MO_here : MethodName := ⟨RMO, "here", "()I"⟩
abbrev bb_MO_meaning : ByteArray := prog_9_method_30_code
def yy_MO_meaning : MethodName := ⟨RMO, "meaning", "(II)I"⟩
abbrev bb_MO_next : ByteArray := prog_9_method_31_code
def yy_MO_next : MethodName := ⟨RMO, "next", "()V"⟩
abbrev bb_MO_due : ByteArray := prog_9_method_32_code
def yy_MO_due : MethodName := ⟨RMO, "due", "(Z)I"⟩
abbrev bb_MO_isNumber : ByteArray := prog_9_method_33_code
def yy_MO_isNumber : MethodName := ⟨RMO, "isNumber", "(II)Z"⟩
abbrev bb_MO_mayBe : ByteArray := prog_9_method_34_code
def yy_MO_mayBe : MethodName := ⟨RMO, "mayBe", "(I)Z"⟩
abbrev bb_MO_readBoil : ByteArray := prog_9_method_35_code
def yy_MO_readBoil : MethodName := ⟨RMO, "readBoil", "()V"⟩
abbrev bb_MO_readRow : ByteArray := prog_9_method_36_code
def yy_MO_readRow : MethodName := ⟨RMO, "readRow", "(I)V"⟩
abbrev bb_MO_readItem : ByteArray := prog_9_method_37_code
def yy_MO_readItem : MethodName := ⟨RMO, "readItem", "()V"⟩
abbrev bb_MO_read : ByteArray := prog_9_method_38_code
def yy_MO_read : MethodName := ⟨RMO, "read", "()I"⟩
abbrev bb_MO_less : ByteArray := prog_9_method_39_code
def yy_MO_less : MethodName := ⟨RMO, "less", "(II)I"⟩
abbrev bb_MO_widow : ByteArray := prog_9_method_40_code
def yy_MO_widow : MethodName := ⟨RMO, "widow", "(II)I"⟩
abbrev bb_MO_step : ByteArray := prog_9_method_41_code
def yy_MO_step : MethodName := ⟨RMO, "step", "(III)I"⟩
abbrev bb_MO_more : ByteArray := prog_9_method_42_code
def yy_MO_more : MethodName := ⟨RMO, "more", "(I)I"⟩
abbrev bb_MO_onDay : ByteArray := prog_9_method_43_code
def yy_MO_onDay : MethodName := ⟨RMO, "onDay", "(III)I"⟩
abbrev bb_MO_findGriefs : ByteArray := prog_9_method_44_code
def yy_MO_findGriefs : MethodName := ⟨RMO, "findGriefs", "(I)V"⟩
abbrev bb_MO_grief : ByteArray := prog_9_method_45_code
def yy_MO_grief : MethodName := ⟨RMO, "grief", "(II)I"⟩
abbrev bb_MO_strength : ByteArray := prog_9_method_46_code
def yy_MO_strength : MethodName := ⟨RMO, "strength", "(III)I"⟩
abbrev bb_MO_opensBy : ByteArray := prog_9_method_47_code
def yy_MO_opensBy : MethodName := ⟨RMO, "opensBy", "(I)I"⟩
abbrev bb_MO_isBoiled : ByteArray := prog_9_method_48_code
def yy_MO_isBoiled : MethodName := ⟨RMO, "isBoiled", "(I)Z"⟩
abbrev bb_MO_opensOn : ByteArray := prog_9_method_49_code
def yy_MO_opensOn : MethodName := ⟨RMO, "opensOn", "(I)I"⟩
abbrev bb_MO_opens : ByteArray := prog_9_method_50_code
def yy_MO_opens : MethodName := ⟨RMO, "opens", "(I)I"⟩
abbrev bb_MO_isLasting : ByteArray := prog_9_method_51_code
def yy_MO_isLasting : MethodName := ⟨RMO, "isLasting", "(I)Z"⟩
abbrev bb_MO_lasts : ByteArray := prog_9_method_52_code
def yy_MO_lasts : MethodName := ⟨RMO, "lasts", "(I)I"⟩
abbrev bb_MO_openNow : ByteArray := prog_9_method_53_code
def yy_MO_openNow : MethodName := ⟨RMO, "openNow", "()I"⟩
abbrev bb_MO_open : ByteArray := prog_9_method_54_code
def yy_MO_open : MethodName := ⟨RMO, "open", "()I"⟩
abbrev bb_MO_findNeeds : ByteArray := prog_9_method_55_code
def yy_MO_findNeeds : MethodName := ⟨RMO, "findNeeds", "()V"⟩
abbrev bb_MO_wouldHold : ByteArray := prog_9_method_56_code
def yy_MO_wouldHold : MethodName := ⟨RMO, "wouldHold", "(III)Z"⟩
abbrev bb_MO_whoOf : ByteArray := prog_9_method_57_code
def yy_MO_whoOf : MethodName := ⟨RMO, "whoOf", "(II)I"⟩
abbrev bb_MO_priceOf : ByteArray := prog_9_method_58_code
def yy_MO_priceOf : MethodName := ⟨RMO, "priceOf", "(I)I"⟩
abbrev bb_MO_hired : ByteArray := prog_9_method_59_code
def yy_MO_hired : MethodName := ⟨RMO, "hired", "(I)I"⟩
abbrev bb_MO_hire : ByteArray := prog_9_method_60_code
def yy_MO_hire : MethodName := ⟨RMO, "hire", "(I)I"⟩
abbrev bb_MO_who : ByteArray := prog_9_method_61_code
def yy_MO_who : MethodName := ⟨RMO, "who", "(I)I"⟩
abbrev bb_MO_saves : ByteArray := prog_9_method_62_code
def yy_MO_saves : MethodName := ⟨RMO, "saves", "(I)I"⟩
abbrev bb_MO_tears : ByteArray := prog_9_method_63_code
def yy_MO_tears : MethodName := ⟨RMO, "tears", "(III)I"⟩
abbrev bb_MO_fact : ByteArray := prog_9_method_64_code
def yy_MO_fact : MethodName := ⟨RMO, "fact", "(III)I"⟩
abbrev bb_MO_forget : ByteArray := prog_9_method_65_code
def yy_MO_forget : MethodName := ⟨RMO, "forget", "()I"⟩
abbrev bb_MO_isLikely : ByteArray := prog_9_method_66_code
def yy_MO_isLikely : MethodName := ⟨RMO, "isLikely", "(II)Z"⟩
abbrev bb_MO_likely : ByteArray := prog_9_method_67_code
def yy_MO_likely : MethodName := ⟨RMO, "likely", "(II)I"⟩
abbrev bb_MO_odds : ByteArray := prog_9_method_68_code
def yy_MO_odds : MethodName := ⟨RMO, "odds", "(IIII)I"⟩
abbrev bb_MO_harm : ByteArray := prog_9_method_69_code
def yy_MO_harm : MethodName := ⟨RMO, "harm", "(I)I"⟩
abbrev bb_MO_part : ByteArray := prog_9_method_70_code
def yy_MO_part : MethodName := ⟨RMO, "part", "(I)J"⟩
abbrev bb_MO_image : ByteArray := prog_9_method_71_code
def yy_MO_image : MethodName := ⟨RMO, "image", "(I)I"⟩
abbrev bb_MO_from : ByteArray := prog_9_method_72_code
def yy_MO_from : MethodName := ⟨RMO, "from", "(I)I"⟩
abbrev bb_MO_status : ByteArray := prog_9_method_73_code
def yy_MO_status : MethodName := ⟨RMO, "status", "(I)I"⟩
abbrev bb_MO_count : ByteArray := prog_9_method_74_code
def yy_MO_count : MethodName := ⟨RMO, "count", "(I)I"⟩
abbrev bb_MO_digestRow : ByteArray := prog_9_method_75_code
def yy_MO_digestRow : MethodName := ⟨RMO, "digestRow", "(II)V"⟩
abbrev bb_MO_digest : ByteArray := prog_9_method_76_code
def yy_MO_digest : MethodName := ⟨RMO, "digest", "()J"⟩
abbrev bb_IN_bitCount : ByteArray := prog_10_method_49_code
def yy_IN_bitCount : MethodName := ⟨RIN, "bitCount", "(I)I"⟩
abbrev bb_MA_max : ByteArray := prog_11_method_65_code
def yy_MA_max : MethodName := ⟨RMA, "max", "(II)I"⟩
abbrev bb_MA_min : ByteArray := prog_11_method_69_code
def yy_MA_min : MethodName := ⟨RMA, "min", "(II)I"⟩
abbrev bb_ST_length : ByteArray := prog_12_method_54_code
def yy_ST_length : MethodName := ⟨RST, "length", "()I"⟩
abbrev bb_ST_charAt : ByteArray := prog_12_method_56_code
def yy_ST_charAt : MethodName := ⟨RST, "charAt", "(I)C"⟩
abbrev bb_ST_coder : ByteArray := prog_12_method_152_code
def yy_ST_coder : MethodName := ⟨RST, "coder", "()B"⟩
abbrev bb_ST_isLatin1 : ByteArray := prog_12_method_154_code
def yy_ST_isLatin1 : MethodName := ⟨RST, "isLatin1", "()Z"⟩
abbrev bb_ST_checkIndex : ByteArray := prog_12_method_155_code
def yy_ST_checkIndex : MethodName := ⟨RST, "checkIndex", "(II)V"⟩
abbrev bb_SL_charAt : ByteArray := prog_13_method_2_code
def yy_SL_charAt : MethodName := ⟨RSL, "charAt", "([BI)C"⟩
abbrev bb_SU_getChar : ByteArray := prog_14_method_5_code
def yy_SU_getChar : MethodName := ⟨RSU, "getChar", "([BI)C"⟩
abbrev bb_SU_length : ByteArray := prog_14_method_6_code
def yy_SU_length : MethodName := ⟨RSU, "length", "([B)I"⟩
abbrev bb_SU_charAt : ByteArray := prog_14_method_83_code
def yy_SU_charAt : MethodName := ⟨RSU, "charAt", "([BI)C"⟩
abbrev bb_SU_checkIndex : ByteArray := prog_14_method_91_code
def yy_SU_checkIndex : MethodName := ⟨RSU, "checkIndex", "(I[B)V"⟩
abbrev bb_AR_fillJ : ByteArray := prog_16_method_101_code
def yy_AR_fillJ : MethodName := ⟨RAR, "fill", "([JJ)V"⟩
abbrev bb_AR_fillI : ByteArray := prog_16_method_103_code
def yy_AR_fillI : MethodName := ⟨RAR, "fill", "([II)V"⟩
abbrev bb_PR_checkIndex : ByteArray := prog_17_method_11_code
def yy_PR_checkIndex : MethodName := ⟨RPR, "checkIndex", "(IILjava/util/function/BiFunction;)I"⟩
end
section
/-! the state of a world: ints and longs by cell and place -/
abbrev St : Type := (Nat → Nat → Int32) × (Nat → Nat → Int64)
def gi (x : St) (q k : Nat) : Int32 := x.1 q k
def gl (x : St) (q k : Nat) : Int64 := x.2 q k
def si (x : St) (q k : Nat) (v : Int32) : St := (fun a b => if a = q ∧ b = k then v else x.1 a b, x.2)
def sl (x : St) (q k : Nat) (v : Int64) : St := (x.1, fun a b => if a = q ∧ b = k then v else x.2 a b)
/-- n places of cell q from sp on, copied to cell d from dp on -/
def cpi (x : St) (q sp d dp n : Nat) : St := (fun a b => if a = d ∧ dp ≤ b ∧ b < dp + n then x.1 q (sp + (b - dp)) else x.1 a b, x.2)
def cpl (x : St) (q sp d dp n : Nat) : St := (x.1, fun a b => if a = d ∧ dp ≤ b ∧ b < dp + n then x.2 q (sp + (b - dp)) else x.2 a b)
theorem gi_si_s (x : St) (q k : Nat) (v : Int32) : gi (si x q k v) q k = v := by simp [gi, si]
theorem gi_si_n (x : St) (q k : Nat) (v : Int32) {a b : Nat} (h : ¬ (a = q ∧ b = k)) : gi (si x q k v) a b = gi x a b := by simp [gi, si, h]
theorem gi_si (x : St) (q k : Nat) (v : Int32) (a b : Nat) : gi (si x q k v) a b = if a = q ∧ b = k then v else gi x a b := rfl
theorem gl_si (x : St) (q k : Nat) (v : Int32) (a b : Nat) : gl (si x q k v) a b = gl x a b := rfl
theorem gi_sl (x : St) (q k : Nat) (v : Int64) (a b : Nat) : gi (sl x q k v) a b = gi x a b := rfl
theorem gl_sl (x : St) (q k : Nat) (v : Int64) (a b : Nat) : gl (sl x q k v) a b = if a = q ∧ b = k then v else gl x a b := rfl
theorem gi_cpi (x : St) (q sp d dp n a b : Nat) : gi (cpi x q sp d dp n) a b = if a = d ∧ dp ≤ b ∧ b < dp + n then gi x q (sp + (b - dp)) else gi x a b := rfl
theorem gl_cpi (x : St) (q sp d dp n a b : Nat) : gl (cpi x q sp d dp n) a b = gl x a b := rfl
theorem gi_cpl (x : St) (q sp d dp n a b : Nat) : gi (cpl x q sp d dp n) a b = gi x a b := rfl
theorem gl_cpl (x : St) (q sp d dp n a b : Nat) : gl (cpl x q sp d dp n) a b = if a = d ∧ dp ≤ b ∧ b < dp + n then gl x q (sp + (b - dp)) else gl x a b := rfl
/-! runs that may fail -/
def bnd {α β : Type} (o : Option (α × St)) (k : α → St → Option β) : Option β := match o with
  | none => none
  | some (a, x) => k a x
theorem bnd_some {α β : Type} (a : α) (x : St) (k : α → St → Option β) : bnd (some (a, x)) k = k a x := rfl
theorem of_bnd {α β : Type} {o : Option (α × St)} {k : α → St → Option β} {z : β} (h : bnd o k = some z) : ∃ a x, o = some (a, x) ∧ k a x = some z := by
  match o, h with
  | some (a, x), h => exact ⟨a, x, rfl, h⟩
theorem of_ifb {β : Type} {b : Bool} {o : Option β} {z : β} (h : (if b = true then o else none) = some z) : b = true ∧ o = some z := by
  cases b with
  | true => exact ⟨rfl, h⟩
  | false => cases h
theorem of_ifp {β : Type} {c : Prop} [Decidable c] {o : Option β} {z : β} (h : (if c then o else none) = some z) : c ∧ o = some z := by
  by_cases hc : c
  · exact ⟨hc, (if_pos hc).symm.trans h⟩
  · rw [if_neg hc] at h; cases h
theorem of_ret {α : Type} {v r : α} {x y : St} (h : some (v, x) = some (r, y)) : v = r ∧ x = y := by cases h; exact ⟨rfl, rfl⟩
theorem of_no {β : Type} {P : Prop} {z : β} (h : (none : Option β) = some z) : P := by cases h
/-- the index i lies in a row of n -/
def ixb (i : Int32) (n : Nat) : Bool := !decide (i < 0) && decide (i.toNatClampNeg < n)
theorem ixb_in {i : Int32} {n : Nat} (h : ixb i n = true) : vp_in i n := by
  unfold ixb at h
  simp only [Bool.and_eq_true, Bool.not_eq_true', decide_eq_false_iff_not, decide_eq_true_eq] at h
  exact fun q => q.elim h.1 (fun z => by omega)
abbrev ix (i : Int32) : Nat := i.toNatClampNeg
/-- a stretch of n from sp on lies in a row of len -/
def spb (sp n : Int32) (len : Nat) : Bool := !decide (sp < 0) && (!decide (n < 0) && decide (sp.toNatClampNeg + n.toNatClampNeg ≤ len))
theorem spb_in {sp n : Int32} {len : Nat} (h : spb sp n len = true) : ¬ sp < 0 ∧ ¬ n < 0 ∧ sp.toNatClampNeg + n.toNatClampNeg ≤ len := by
  unfold spb at h
  simp only [Bool.and_eq_true, Bool.not_eq_true', decide_eq_false_iff_not, decide_eq_true_eq] at h
  exact h
def FU : Nat := 2000
/-! the cells: kinds, lengths, references; the class's 0 .. 95, the reference's 100 .. 112 -/
def kdL : List Nat := [5, 24, 22, 3, 20, 0, 20, 23, 20, 2, 20, 20, 20, 20, 23, 23, 4, 1, 20, 1, 20, 1, 20, 1, 20, 1, 20, 25, 20, 20, 20, 20, 20, 20, 20, 20, 4, 1, 20, 1, 20, 1, 20, 1, 20, 1, 20, 25, 20, 20, 20, 20, 20, 20, 20, 20, 4, 1, 20, 1, 20, 1, 20, 1, 20, 1, 20, 25, 20, 20, 20, 20, 20, 20, 20, 20, 4, 1, 20, 1, 20, 1, 20, 1, 20, 1, 20, 25, 20, 20, 20, 20, 20, 20, 20, 20, 99, 99, 99, 99, 6, 20, 22, 20, 21, 20, 20, 20, 20, 20, 23, 23, 20]
def lnL : List Nat := [0, 2, 2, 0, 250, 0, 6, 6, 6, 0, 100, 100, 100, 100, 100, 100, 0, 0, 18, 0, 6, 0, 8, 0, 30, 0, 18, 6, 100, 100, 100, 100, 100, 100, 18, 190, 0, 0, 18, 0, 6, 0, 8, 0, 30, 0, 18, 6, 100, 100, 100, 100, 100, 100, 18, 190, 0, 0, 18, 0, 6, 0, 8, 0, 30, 0, 18, 6, 100, 100, 100, 100, 100, 100, 18, 190, 0, 0, 18, 0, 6, 0, 8, 0, 30, 0, 18, 6, 100, 100, 100, 100, 100, 100, 18, 190, 0, 0, 0, 0, 0, 1260, 2, 3, 250, 600, 6, 100, 100, 100, 100, 100, 6]
def rfL : List (List Nat) := [[16, 1, 2, 3, 5, 9, 0, 0, 0, 0, 0], [36, 56], [], [4, 0, 0, 0, 76, 0, 0, 0], [], [6, 7, 8, 0], [], [], [], [10, 11, 12, 13, 14, 15], [], [], [], [], [], [], [17, 19, 21, 23, 25, 27, 34, 35, 0, 0], [0, 0, 18, 0], [], [0, 0, 20, 0], [], [0, 0, 22, 0], [], [0, 0, 24, 0], [], [0, 0, 26, 0], [], [28, 29, 30, 31, 32, 33], [], [], [], [], [], [], [], [], [37, 39, 41, 43, 45, 47, 54, 55, 0, 0], [0, 0, 38, 0], [], [0, 0, 40, 0], [], [0, 0, 42, 0], [], [0, 0, 44, 0], [], [0, 0, 46, 0], [], [48, 49, 50, 51, 52, 53], [], [], [], [], [], [], [], [], [57, 59, 61, 63, 65, 67, 74, 75, 0, 0], [0, 0, 58, 0], [], [0, 0, 60, 0], [], [0, 0, 62, 0], [], [0, 0, 64, 0], [], [0, 0, 66, 0], [], [68, 69, 70, 71, 72, 73], [], [], [], [], [], [], [], [], [77, 79, 81, 83, 85, 87, 94, 95, 0, 0], [0, 0, 78, 0], [], [0, 0, 80, 0], [], [0, 0, 82, 0], [], [0, 0, 84, 0], [], [0, 0, 86, 0], [], [88, 89, 90, 91, 92, 93], [], [], [], [], [], [], [], [], [], [], [], [], [101, 0, 102, 103, 0, 0, 104, 0, 0, 0, 0, 0, 0, 0, 105, 106, 107, 108, 109, 110, 111, 112, 0], [], [], [], [], [], [], [], [], [], [], [], []]
def kd (q : Nat) : Nat := kdL.getD q 99
def ln (q : Nat) : Nat := lnL.getD q 0
def rf (q k : Nat) : Nat := (rfL.getD q []).getD k 0
def ftL : List (List Nat) := [[2, 2, 2, 0], [0, 0, 2, 0], [2, 2, 2, 2, 2, 2], [2, 0, 0, 0, 2, 0, 0, 0], [2, 2, 2, 2, 2, 2, 2, 2, 0, 0], [2, 2, 2, 2, 2, 2, 1, 1, 0, 0, 0], [2, 0, 2, 2, 1, 1, 2, 0, 0, 0, 0, 0, 0, 0, 2, 2, 2, 2, 2, 2, 2, 2, 1]]
def ft (c k : Nat) : Nat := (ftL.getD c []).getD k 9
def nf (c : Nat) : Nat := (ftL.getD c []).length
def ixC : List Nat := List.range 96
def ixM : List Nat := List.range' 100 13
theorem ndC : ixC.Nodup := List.nodup_range
theorem ndM : ixM.Nodup := List.nodup_range'
/-- a cell of kind k -/
def isO (js : List Nat) (q k : Nat) : Prop := q ∈ js ∧ kd q = k
def fv (ad : Nat → Nat) (x : St) (q k : Nat) : Value := if ft (kd q) k = 0 then .int (gi x q k) else if ft (kd q) k = 1 then .long (gl x q k) else .ref (ad (rf q k))
def ent (cA : Nat → ClassId) (ad : Nat → Nat) (x : St) (q : Nat) : va_E :=
  if kd q = 20 then .inl (cA 0, ln q, .inl (gi x q))
  else if kd q = 21 then .inl (cA 1, ln q, .inl (gi x q))
  else if kd q = 22 then .inl (cA 2, ln q, .inl (gi x q))
  else if kd q = 23 then .inl (cA 3, ln q, .inr (.inl (gl x q)))
  else if kd q = 24 then .inl (cA 4, ln q, .inr (.inr (.inr (.inr (fun i => some (ad (rf q i)))))))
  else if kd q = 25 then .inl (cA 5, ln q, .inr (.inr (.inr (.inr (fun i => some (ad (rf q i)))))))
  else .inr (kd q, (List.range (nf (kd q))).map (fv ad x q))
def tyl (cA : Nat → ClassId) : List (ClassId × FieldType) := [(cA 0, .int), (cA 1, .byte), (cA 2, .boolean), (cA 3, .long), (cA 4, .object "GriefGlue$Shop"), (cA 5, .array .int)]
def wl (cA : Nat → ClassId) (ad : Nat → Nat) (js : List Nat) (x : St) : va_W := js.map fun q => (ad q, ent cA ad x q)
/-- what the start gives: classes and slots, array classes, the addresses of the String constants and of their bytes -/
abbrev Ev : Type := va_G × (Nat → ClassId) × (Nat → Nat) × (Nat → Nat)
def Wd (E : Ev) (ad : Nat → Nat) (js : List Nat) (x : St) (H : Heap) : Prop := va_P E.1 vcl (wl E.2.1 ad js x) H
def isNest : Cond → Bool
  | .fieldLinkNest .. => true
  | .methodLinkNest .. => true
  | _ => false
def nst : List Cond := lw_tbl.filter isNest
def gtb : List Cond := lw_tbl.filter goodWord
theorem gtb_of {w : Cond} (h : w ∈ lw_tbl) (g : goodWord w = true) : w ∈ gtb := List.mem_filter.mpr ⟨h, g⟩
theorem nst_of {w : Cond} (h : w ∈ lw_tbl) (g : isNest w = true) : w ∈ nst := List.mem_filter.mpr ⟨h, g⟩
theorem nst_tab {w : Cond} (h : w ∈ nst) : w.onTables = true := by
  have h2 := (List.mem_filter.mp h).2
  cases w <;> first | rfl | cases h2
theorem nst_warm {w : Cond} (h : w ∈ nst) {s U : State} (hW : s.WarmedH U.vm) (hZ : va_Nw w s) : va_Nw w U := by
  have h2 := (List.mem_filter.mp h).2
  cases w <;> first | exact va_Nw.warmF hW hZ | exact va_Nw.warmM hW hZ | cases h2
def strI : List Nat := [41, 50, 55, 60, 66, 68, 73]
def strT : List String := ["mourner", "joint", "piece", "wedding", "onion", "day", "boil"]
def strL : List Nat := [7, 5, 5, 7, 5, 3, 4]
def strB : List (List Int32) := [[109, 111, 117, 114, 110, 101, 114], [106, 111, 105, 110, 116], [112, 105, 101, 99, 101], [119, 101, 100, 100, 105, 110, 103], [111, 110, 105, 111, 110], [100, 97, 121], [98, 111, 105, 108]]
/-- what holds of the machine at a method's entry -/
def Kd (E : Ev) (A : Nat → Prop) (U : State) : Prop := va_K E.1 vcl (tyl E.2.1) U ∧ (∀ w ∈ nst, va_Nw w U) ∧ vk_S 7 strL strB E.2.2.1 E.2.2.2 A U U.heap ∧ (∀ i, i < 7 → vk_R "GriefGlue$Reader" (strI.getD i 0) (strT.getD i "") (E.2.2.1 i) U) ∧ va_Z "java/lang/String" "COMPACT_STRINGS" "Z" (.int 1) A U U.heap
theorem Kd.to {E : Ev} {A : Nat → Prop} {s U : State} {H : Heap} {locs : List Loc} (h : Kd E A s) (hS : va_S A s.heap H locs) (hU : U.heap = H) (hW : s.WarmedH U.vm) : Kd E A U := by
  obtain ⟨h1, h2, h3, h4, h5⟩ := h
  refine ⟨va_K.moved hW.alike h1, fun w hw => nst_warm hw hW (h2 w hw), ?_, fun i hi => vk_R.warm hW (h4 i hi), ?_⟩
  · rw [hU]; exact vk_S.moved hW.alike (h3.kept hS.2.1)
  · rw [hU]; exact va_Z.moved hW.alike (h5.kept hS.2.1)
theorem Kd.same {E : Ev} {A : Nat → Prop} {s U : State} (h : Kd E A s) (hh : U.heap = s.heap) (hv : U.vm = s.vm) : Kd E A U := by
  obtain ⟨h1, h2, h3, h4, h5⟩ := h
  have ha : s.vm.Alike U.vm := by rw [hv]; exact Vm.Alike.refl _
  refine ⟨va_K.moved ha h1, fun w hw => (h2 w hw).same (nst_tab hw) hv.symm, ?_, fun i hi => vk_R.same hv (h4 i hi), ?_⟩
  · rw [hh]; exact vk_S.moved ha h3
  · rw [hh]; exact va_Z.moved ha h5
def Ap (ad : Nat → Nat) (js : List Nat) (A : Nat → Prop) : Prop := js.Nodup ∧ (∀ q ∈ js, ∀ r ∈ js, ad q = ad r → q = r) ∧ ∀ q ∈ js, A (ad q)
theorem wl_at {cA : Nat → ClassId} {ad : Nat → Nat} {js : List Nat} {x : St} {q : Nat} (h : q ∈ js) : ∃ k : Nat, js[k]? = some q ∧ (wl cA ad js x)[k]? = some (ad q, ent cA ad x q) := by
  obtain ⟨k, hk⟩ := List.getElem?_of_mem h
  exact ⟨k, hk, by unfold wl; rw [List.getElem?_map, hk]; rfl⟩
theorem wl_get {cA : Nat → ClassId} {ad : Nat → Nat} {js : List Nat} {x : St} {k : Nat} {z : Nat × va_E} (h : (wl cA ad js x)[k]? = some z) : ∃ q : Nat, js[k]? = some q ∧ z = (ad q, ent cA ad x q) := by
  unfold wl at h
  rw [List.getElem?_map] at h
  cases hq : js[k]? with
  | none => rw [hq] at h; cases h
  | some q => rw [hq] at h; exact ⟨q, rfl, (Option.some.inj h).symm⟩
theorem nd_ix {js : List Nat} (h : js.Nodup) {i j q : Nat} (hi : js[i]? = some q) (hj : js[j]? = some q) : i = j := by
  obtain ⟨li, ei⟩ := List.getElem?_eq_some_iff.mp hi
  obtain ⟨lj, ej⟩ := List.getElem?_eq_some_iff.mp hj
  exact (List.getElem_inj h).mp (ei.trans ej.symm)
theorem Ap.D {cA : Nat → ClassId} {ad : Nat → Nat} {js : List Nat} {A : Nat → Prop} {x : St} (h : Ap ad js A) : va_D A (wl cA ad js x) := by
  refine ⟨fun i j p q hi hj hpq => ?_, fun k q hk => ?_⟩
  · obtain ⟨a, ha, rfl⟩ := wl_get hi
    obtain ⟨b, hb, rfl⟩ := wl_get hj
    have e := h.2.1 a (List.mem_of_getElem? ha) b (List.mem_of_getElem? hb) hpq
    subst e
    exact nd_ix h.1 ha hb
  · obtain ⟨a, ha, rfl⟩ := wl_get hk
    exact h.2.2 a (List.mem_of_getElem? ha)
theorem wl_set {cA : Nat → ClassId} {ad : Nat → Nat} {js : List Nat} {x y : St} {k q : Nat} (hn : js.Nodup) (hk : js[k]? = some q) (ho : ∀ r, r ≠ q → ent cA ad y r = ent cA ad x r) : (wl cA ad js x).set k (ad q, ent cA ad y q) = wl cA ad js y := by
  apply List.ext_getElem?
  intro i
  by_cases hi : i = k
  · subst hi
    rw [List.getElem?_set_self (by unfold wl; rw [List.length_map]; exact (List.getElem?_eq_some_iff.mp hk).1)]
    unfold wl
    rw [List.getElem?_map, hk]
    rfl
  · rw [List.getElem?_set_ne (Ne.symm hi)]
    unfold wl
    rw [List.getElem?_map, List.getElem?_map]
    cases hq : js[i]? with
    | none => rfl
    | some r =>
      have hr : r ≠ q := fun e => hi (nd_ix hn (e ▸ hq) hk)
      show some (ad r, ent cA ad x r) = some (ad r, ent cA ad y r)
      rw [ho r hr]
theorem ent_loc {cA : Nat → ClassId} {ad : Nat → Nat} {x y : St} {r : Nat} (h1 : ∀ k, gi y r k = gi x r k) (h2 : ∀ k, gl y r k = gl x r k) : ent cA ad y r = ent cA ad x r := by
  have e1 : gi y r = gi x r := funext h1
  have e2 : gl y r = gl x r := funext h2
  have e3 : fv ad y r = fv ad x r := by funext k; simp only [fv, h1 k, h2 k]
  unfold ent
  rw [e1, e2, e3]
theorem ent_si {cA : Nat → ClassId} {ad : Nat → Nat} {x : St} {q k : Nat} {v : Int32} {r : Nat} (h : r ≠ q) : ent cA ad (si x q k v) r = ent cA ad x r := ent_loc (fun j => gi_si_n _ _ _ _ (fun e => h e.1)) (fun _ => rfl)
theorem ent_sl {cA : Nat → ClassId} {ad : Nat → Nat} {x : St} {q k : Nat} {v : Int64} {r : Nat} (h : r ≠ q) : ent cA ad (sl x q k v) r = ent cA ad x r := ent_loc (fun _ => rfl) (fun j => by rw [gl_sl, if_neg (fun e => h e.1)])
theorem ent_cpi {cA : Nat → ClassId} {ad : Nat → Nat} {x : St} {q sp d dp n r : Nat} (h : r ≠ d) : ent cA ad (cpi x q sp d dp n) r = ent cA ad x r := ent_loc (fun j => by rw [gi_cpi, if_neg (fun e => h e.1)]) (fun _ => rfl)
theorem ent_cpl {cA : Nat → ClassId} {ad : Nat → Nat} {x : St} {q sp d dp n r : Nat} (h : r ≠ d) : ent cA ad (cpl x q sp d dp n) r = ent cA ad x r := ent_loc (fun _ => rfl) (fun j => by rw [gl_cpl, if_neg (fun e => h e.1)])
theorem ent_o {cA : Nat → ClassId} {ad : Nat → Nat} {x : St} {q c : Nat} (h : kd q = c) (hc : c < 20) : ent cA ad x q = .inr (c, (List.range (nf c)).map (fv ad x q)) := by
  unfold ent
  rw [h, if_neg (by omega), if_neg (by omega), if_neg (by omega), if_neg (by omega), if_neg (by omega), if_neg (by omega)]
theorem ent_20 {cA : Nat → ClassId} {ad : Nat → Nat} {x : St} {q : Nat} (h : kd q = 20) : ent cA ad x q = .inl (cA 0, ln q, .inl (gi x q)) := by unfold ent; rw [if_pos h]
theorem ent_21 {cA : Nat → ClassId} {ad : Nat → Nat} {x : St} {q : Nat} (h : kd q = 21) : ent cA ad x q = .inl (cA 1, ln q, .inl (gi x q)) := by unfold ent; rw [if_neg (by omega), if_pos h]
theorem ent_22 {cA : Nat → ClassId} {ad : Nat → Nat} {x : St} {q : Nat} (h : kd q = 22) : ent cA ad x q = .inl (cA 2, ln q, .inl (gi x q)) := by unfold ent; rw [if_neg (by omega), if_neg (by omega), if_pos h]
theorem ent_23 {cA : Nat → ClassId} {ad : Nat → Nat} {x : St} {q : Nat} (h : kd q = 23) : ent cA ad x q = .inl (cA 3, ln q, .inr (.inl (gl x q))) := by unfold ent; rw [if_neg (by omega), if_neg (by omega), if_neg (by omega), if_pos h]
theorem ent_24 {cA : Nat → ClassId} {ad : Nat → Nat} {x : St} {q : Nat} (h : kd q = 24) : ent cA ad x q = .inl (cA 4, ln q, .inr (.inr (.inr (.inr (fun i => some (ad (rf q i))))))) := by unfold ent; rw [if_neg (by omega), if_neg (by omega), if_neg (by omega), if_neg (by omega), if_pos h]
theorem ent_25 {cA : Nat → ClassId} {ad : Nat → Nat} {x : St} {q : Nat} (h : kd q = 25) : ent cA ad x q = .inl (cA 5, ln q, .inr (.inr (.inr (.inr (fun i => some (ad (rf q i))))))) := by unfold ent; rw [if_neg (by omega), if_neg (by omega), if_neg (by omega), if_neg (by omega), if_neg (by omega), if_pos h]
theorem fs_at {ad : Nat → Nat} {x : St} {q n k : Nat} (h : k < n) : ((List.range n).map (fv ad x q))[k]? = some (fv ad x q k) := by
  rw [List.getElem?_map, List.getElem?_range h]; rfl
theorem fs_set {ad : Nat → Nat} {x y : St} {q n k : Nat} (ho : ∀ j, j ≠ k → fv ad y q j = fv ad x q j) : ((List.range n).map (fv ad x q)).set k (fv ad y q k) = (List.range n).map (fv ad y q) := by
  apply List.ext_getElem?
  intro i
  by_cases hn : i < n
  · by_cases hi : i = k
    · subst hi
      rw [List.getElem?_set_self (by simp [hn]), fs_at hn]
    · rw [List.getElem?_set_ne (Ne.symm hi), fs_at hn, fs_at hn, ho i hi]
  · rw [List.getElem?_eq_none (by simp; omega), List.getElem?_eq_none (by simp; omega)]
theorem fs_si {ad : Nat → Nat} {x : St} {q n k : Nat} {v : Int32} (h : ft (kd q) k = 0) : ((List.range n).map (fv ad x q)).set k (.int v) = (List.range n).map (fv ad (si x q k v) q) := by
  have e : fv ad (si x q k v) q k = .int v := by unfold fv; rw [if_pos h, gi_si_s]
  rw [← e]
  exact fs_set fun j hj => by
    unfold fv
    rw [gi_si_n _ _ _ _ (fun z => hj z.2), gl_si]
theorem fs_sl {ad : Nat → Nat} {x : St} {q n k : Nat} {v : Int64} (h : ft (kd q) k = 1) : ((List.range n).map (fv ad x q)).set k (.long v) = (List.range n).map (fv ad (sl x q k v) q) := by
  have e : fv ad (sl x q k v) q k = .long v := by unfold fv; rw [if_neg (by omega), if_pos h, gl_sl, if_pos ⟨rfl, rfl⟩]
  rw [← e]
  exact fs_set fun j hj => by
    have e2 : gl (sl x q k v) q j = gl x q j := by rw [gl_sl, if_neg (fun z => hj z.2)]
    unfold fv
    rw [e2, gi_sl]
theorem gi_row (x : St) (q k : Nat) (v : Int32) : gi (si x q k v) q = upd (gi x q) k v := by
  funext j
  simp [gi, si, upd]
theorem gl_row (x : St) (q k : Nat) (v : Int64) : gl (sl x q k v) q = vp_updL (gl x q) k v := by
  funext j
  simp [gl, sl, vp_updL]
theorem gi_cprow (x : St) (q sp d dp n : Nat) : gi (cpi x q sp d dp n) d = va_cpy (gi x q) (gi x d) sp dp n := by
  funext j
  simp [gi, cpi, va_cpy]
theorem gl_cprow (x : St) (q sp d dp n : Nat) : gl (cpl x q sp d dp n) d = va_cpy (gl x q) (gl x d) sp dp n := by
  funext j
  simp [gl, cpl, va_cpy]
/-- a method's world at its start -/
def PB (E : Ev) (A : Nat → Prop) (ad : Nat → Nat) (js : List Nat) (x : St) (U : State) : Prop := Wd E ad js x U.heap ∧ Kd E A U
/-- a method's end: its answer, its world -/
def QX (E : Ev) (ad : Nat → Nat) (js : List Nat) (A : Nat → Prop) (rv : Option Value) (x : St) : Array Value → State → Outcome → State → Prop := fun _ st oc t => (oc = .returned rv ∧ Wd E ad js x t.heap) ∧ va_F A st t
def Cx (E : Ev) (A : Nat → Prop) (own : String) (cc : ByteArray) (nL : Nat) (rt : Option FieldType) (p : Program) (s : State) (m : MethodId) (args : Array Value) (meth : Method) (c : Code) : Prop :=
  p.tables.exec = Jvm.exec ∧ c.code = cc ∧ c.maxLocals = nL ∧ meth.sig.returnType = rt ∧ s.vm.findClass own = some m.cls ∧ (∀ w ∈ gtb, w.before args s = true) ∧ meth.locks = false ∧ Kd E A s
section Rows
variable {p : Program} {l : Launch} {e : Env} {R : Room} {s : State} {m : MethodId} {args : Array Value} {below : List Frame} {meth : Method} {c : Code} {H : Heap} {locs : List Loc} {cells slots : Nat} {Q : State → Prop}
variable {cc : ByteArray} {pc : Nat} {ls : Array Slot} {rest : List Value} {E : Ev} {A : Nat → Prop} {ad : Nat → Nat} {js : List Nat} {x : St} {own : String} {nL : Nat} {rt : Option FieldType}
theorem rgI (C0 : Cx E A own cc nL rt p s m args meth c) (hP : Wd E ad js x H) {q ci k index N : Nat} {C : String} {T : u_T} (ho : isO js q ci) (hc : vcl[ci]? = some (C, T, N)) (hci : ci < 20) (hN : nf ci = N) (hin : ∀ w ∈ u_ws C T N, w ∈ gtb) (hk : k < N) (hft : ft ci k = 0) (hd : (T k).1 = C) (hl : Cond.fieldLink own index C (T k).2.1 (T k).2.2.1 ∈ gtb) (hdg : decode cc pc = .ok (.getfield index, 3))
    (kk : W p l e R s m args below meth c H locs cells slots Q (F0 m (pc + 3) ls (.int (gi x q k) :: rest))) : W p l e R s m args below meth c H locs cells slots Q (F0 m pc ls (.ref (ad q) :: rest)) := by
  obtain ⟨hx, hb, -, -, hown, hts, -, hK⟩ := C0
  obtain ⟨n, -, h2⟩ := wl_at (cA := E.2.1) (ad := ad) (x := x) ho.1
  rw [ent_o ho.2 hci, hN] at h2
  exact va_get hx hb hts hin hown hK.1 hP n h2 hc k hk (hts _ hl) (fun _ h => by rw [hd] at h; exact h) (v := .int (gi x q k)) (by rw [fs_at hk]; simp [fv, ho.2, hft]) hdg kk
theorem rgL (C0 : Cx E A own cc nL rt p s m args meth c) (hP : Wd E ad js x H) {q ci k index N : Nat} {C : String} {T : u_T} (ho : isO js q ci) (hc : vcl[ci]? = some (C, T, N)) (hci : ci < 20) (hN : nf ci = N) (hin : ∀ w ∈ u_ws C T N, w ∈ gtb) (hk : k < N) (hft : ft ci k = 1) (hd : (T k).1 = C) (hl : Cond.fieldLink own index C (T k).2.1 (T k).2.2.1 ∈ gtb) (hdg : decode cc pc = .ok (.getfield index, 3))
    (kk : W p l e R s m args below meth c H locs cells slots Q (F0 m (pc + 3) ls (.long (gl x q k) :: rest))) : W p l e R s m args below meth c H locs cells slots Q (F0 m pc ls (.ref (ad q) :: rest)) := by
  obtain ⟨hx, hb, -, -, hown, hts, -, hK⟩ := C0
  obtain ⟨n, -, h2⟩ := wl_at (cA := E.2.1) (ad := ad) (x := x) ho.1
  rw [ent_o ho.2 hci, hN] at h2
  exact va_get hx hb hts hin hown hK.1 hP n h2 hc k hk (hts _ hl) (fun _ h => by rw [hd] at h; exact h) (v := .long (gl x q k)) (by rw [fs_at hk]; simp [fv, ho.2, hft]) hdg kk
theorem rgR (C0 : Cx E A own cc nL rt p s m args meth c) (hP : Wd E ad js x H) {q ci k index N : Nat} {C : String} {T : u_T} (ho : isO js q ci) (hc : vcl[ci]? = some (C, T, N)) (hci : ci < 20) (hN : nf ci = N) (hin : ∀ w ∈ u_ws C T N, w ∈ gtb) (hk : k < N) (hft : ft ci k = 2) (hd : (T k).1 = C) (hl : Cond.fieldLink own index C (T k).2.1 (T k).2.2.1 ∈ gtb) (hdg : decode cc pc = .ok (.getfield index, 3))
    (kk : W p l e R s m args below meth c H locs cells slots Q (F0 m (pc + 3) ls (.ref (ad (rf q k)) :: rest))) : W p l e R s m args below meth c H locs cells slots Q (F0 m pc ls (.ref (ad q) :: rest)) := by
  obtain ⟨hx, hb, -, -, hown, hts, -, hK⟩ := C0
  obtain ⟨n, -, h2⟩ := wl_at (cA := E.2.1) (ad := ad) (x := x) ho.1
  rw [ent_o ho.2 hci, hN] at h2
  exact va_get hx hb hts hin hown hK.1 hP n h2 hc k hk (hts _ hl) (fun _ h => by rw [hd] at h; exact h) (v := .ref (ad (rf q k))) (by rw [fs_at hk]; simp [fv, ho.2, hft]) hdg kk
theorem rgIN (C0 : Cx E A own cc nL rt p s m args meth c) (hP : Wd E ad js x H) {q ci k index N : Nat} {C host : String} {T : u_T} (ho : isO js q ci) (hc : vcl[ci]? = some (C, T, N)) (hci : ci < 20) (hN : nf ci = N) (hin : ∀ w ∈ u_ws C T N, w ∈ gtb) (hk : k < N) (hft : ft ci k = 0) (hd : (T k).1 = C) (hl : Cond.fieldLinkNest own index C (T k).2.1 (T k).2.2.1 host ∈ nst) (hdg : decode cc pc = .ok (.getfield index, 3))
    (kk : W p l e R s m args below meth c H locs cells slots Q (F0 m (pc + 3) ls (.int (gi x q k) :: rest))) : W p l e R s m args below meth c H locs cells slots Q (F0 m pc ls (.ref (ad q) :: rest)) := by
  obtain ⟨hx, hb, -, -, hown, hts, -, hK⟩ := C0
  obtain ⟨n, -, h2⟩ := wl_at (cA := E.2.1) (ad := ad) (x := x) ho.1
  rw [ent_o ho.2 hci, hN] at h2
  exact va_getN hx hb hts hin hown hK.1 hP n h2 hc k hk ((hK.2.1 _ hl).use rfl) (fun _ h => by rw [hd] at h; exact h) (v := .int (gi x q k)) (by rw [fs_at hk]; simp [fv, ho.2, hft]) hdg kk
theorem rgRN (C0 : Cx E A own cc nL rt p s m args meth c) (hP : Wd E ad js x H) {q ci k index N : Nat} {C host : String} {T : u_T} (ho : isO js q ci) (hc : vcl[ci]? = some (C, T, N)) (hci : ci < 20) (hN : nf ci = N) (hin : ∀ w ∈ u_ws C T N, w ∈ gtb) (hk : k < N) (hft : ft ci k = 2) (hd : (T k).1 = C) (hl : Cond.fieldLinkNest own index C (T k).2.1 (T k).2.2.1 host ∈ nst) (hdg : decode cc pc = .ok (.getfield index, 3))
    (kk : W p l e R s m args below meth c H locs cells slots Q (F0 m (pc + 3) ls (.ref (ad (rf q k)) :: rest))) : W p l e R s m args below meth c H locs cells slots Q (F0 m pc ls (.ref (ad q) :: rest)) := by
  obtain ⟨hx, hb, -, -, hown, hts, -, hK⟩ := C0
  obtain ⟨n, -, h2⟩ := wl_at (cA := E.2.1) (ad := ad) (x := x) ho.1
  rw [ent_o ho.2 hci, hN] at h2
  exact va_getN hx hb hts hin hown hK.1 hP n h2 hc k hk ((hK.2.1 _ hl).use rfl) (fun _ h => by rw [hd] at h; exact h) (v := .ref (ad (rf q k))) (by rw [fs_at hk]; simp [fv, ho.2, hft]) hdg kk
theorem rpI (C0 : Cx E A own cc nL rt p s m args meth c) (hap : Ap ad js A) (hP : Wd E ad js x H) (hS : va_S A s.heap H locs) {q ci k index N : Nat} {C : String} {T : u_T} {v : Int32} {G : Nat → FieldType} (ho : isO js q ci) (hc : vcl[ci]? = some (C, T, N)) (hci : ci < 20) (hN : nf ci = N) (hin : ∀ w ∈ u_ws C T N, w ∈ gtb) (hty : ∀ k, k < N → parseFieldDescriptor (T k).2.2.1 = some (G k)) (hnm : ∀ a, a < N → ∀ b, b < N → a ≠ b → (T a).2.1 ≠ (T b).2.1) (hk : k < N) (hft : ft ci k = 0) (hG : G k = .int) (hfin : (T k).2.2.2 = false) (hd : (T k).1 = C) (hl : Cond.fieldLink own index C (T k).2.1 (T k).2.2.1 ∈ gtb) (hdg : decode cc pc = .ok (.putfield index, 3))
    (kk : ∀ H1 locs1, Wd E ad js (si x q k v) H1 → va_S A s.heap H1 locs1 → W p l e R s m args below meth c H1 locs1 cells slots Q (F0 m (pc + 3) ls rest)) : W p l e R s m args below meth c H locs cells slots Q (F0 m pc ls (.int v :: .ref (ad q) :: rest)) := by
  obtain ⟨hx, hb, -, -, hown, hts, -, hK⟩ := C0
  obtain ⟨n, h1, h2⟩ := wl_at (cA := E.2.1) (ad := ad) (x := x) ho.1
  rw [ent_o ho.2 hci, hN] at h2
  refine va_put hx hb hts hin G hty hnm hown hK.1 hP hap.D hS n h2 hc k hk (hts _ hl) (fun _ h => by rw [hd] at h; exact h) hfin (ty := .int) (v := .int v) (by rw [hty k hk, hG]) rfl rfl (by rw [List.length_map, List.length_range]; exact hk) hdg (fun H1 locs1 g1 _ g3 => kk H1 locs1 ?_ g3)
  rw [fs_si (by rw [ho.2]; exact hft), ← hN, ← ent_o (cA := E.2.1) (x := si x q k v) ho.2 hci] at g1
  rw [wl_set hap.1 h1 (fun r hr => ent_si hr)] at g1
  exact g1
theorem rpL (C0 : Cx E A own cc nL rt p s m args meth c) (hap : Ap ad js A) (hP : Wd E ad js x H) (hS : va_S A s.heap H locs) {q ci k index N : Nat} {C : String} {T : u_T} {v : Int64} {G : Nat → FieldType} (ho : isO js q ci) (hc : vcl[ci]? = some (C, T, N)) (hci : ci < 20) (hN : nf ci = N) (hin : ∀ w ∈ u_ws C T N, w ∈ gtb) (hty : ∀ k, k < N → parseFieldDescriptor (T k).2.2.1 = some (G k)) (hnm : ∀ a, a < N → ∀ b, b < N → a ≠ b → (T a).2.1 ≠ (T b).2.1) (hk : k < N) (hft : ft ci k = 1) (hG : G k = .long) (hfin : (T k).2.2.2 = false) (hd : (T k).1 = C) (hl : Cond.fieldLink own index C (T k).2.1 (T k).2.2.1 ∈ gtb) (hdg : decode cc pc = .ok (.putfield index, 3))
    (kk : ∀ H1 locs1, Wd E ad js (sl x q k v) H1 → va_S A s.heap H1 locs1 → W p l e R s m args below meth c H1 locs1 cells slots Q (F0 m (pc + 3) ls rest)) : W p l e R s m args below meth c H locs cells slots Q (F0 m pc ls (.long v :: .ref (ad q) :: rest)) := by
  obtain ⟨hx, hb, -, -, hown, hts, -, hK⟩ := C0
  obtain ⟨n, h1, h2⟩ := wl_at (cA := E.2.1) (ad := ad) (x := x) ho.1
  rw [ent_o ho.2 hci, hN] at h2
  refine va_put hx hb hts hin G hty hnm hown hK.1 hP hap.D hS n h2 hc k hk (hts _ hl) (fun _ h => by rw [hd] at h; exact h) hfin (ty := .long) (v := .long v) (by rw [hty k hk, hG]) rfl rfl (by rw [List.length_map, List.length_range]; exact hk) hdg (fun H1 locs1 g1 _ g3 => kk H1 locs1 ?_ g3)
  rw [fs_sl (by rw [ho.2]; exact hft), ← hN, ← ent_o (cA := E.2.1) (x := sl x q k v) ho.2 hci] at g1
  rw [wl_set hap.1 h1 (fun r hr => ent_sl hr)] at g1
  exact g1
theorem rpIN (C0 : Cx E A own cc nL rt p s m args meth c) (hap : Ap ad js A) (hP : Wd E ad js x H) (hS : va_S A s.heap H locs) {q ci k index N : Nat} {C host : String} {T : u_T} {v : Int32} {G : Nat → FieldType} (ho : isO js q ci) (hc : vcl[ci]? = some (C, T, N)) (hci : ci < 20) (hN : nf ci = N) (hin : ∀ w ∈ u_ws C T N, w ∈ gtb) (hty : ∀ k, k < N → parseFieldDescriptor (T k).2.2.1 = some (G k)) (hnm : ∀ a, a < N → ∀ b, b < N → a ≠ b → (T a).2.1 ≠ (T b).2.1) (hk : k < N) (hft : ft ci k = 0) (hG : G k = .int) (hfin : (T k).2.2.2 = false) (hd : (T k).1 = C) (hl : Cond.fieldLinkNest own index C (T k).2.1 (T k).2.2.1 host ∈ nst) (hdg : decode cc pc = .ok (.putfield index, 3))
    (kk : ∀ H1 locs1, Wd E ad js (si x q k v) H1 → va_S A s.heap H1 locs1 → W p l e R s m args below meth c H1 locs1 cells slots Q (F0 m (pc + 3) ls rest)) : W p l e R s m args below meth c H locs cells slots Q (F0 m pc ls (.int v :: .ref (ad q) :: rest)) := by
  obtain ⟨hx, hb, -, -, hown, hts, -, hK⟩ := C0
  obtain ⟨n, h1, h2⟩ := wl_at (cA := E.2.1) (ad := ad) (x := x) ho.1
  rw [ent_o ho.2 hci, hN] at h2
  refine va_putN hx hb hts hin G hty hnm hown hK.1 hP hap.D hS n h2 hc k hk ((hK.2.1 _ hl).use rfl) (fun _ h => by rw [hd] at h; exact h) hfin (ty := .int) (v := .int v) (by rw [hty k hk, hG]) rfl rfl (by rw [List.length_map, List.length_range]; exact hk) hdg (fun H1 locs1 g1 _ g3 => kk H1 locs1 ?_ g3)
  rw [fs_si (by rw [ho.2]; exact hft), ← hN, ← ent_o (cA := E.2.1) (x := si x q k v) ho.2 hci] at g1
  rw [wl_set hap.1 h1 (fun r hr => ent_si hr)] at g1
  exact g1
theorem raI (C0 : Cx E A own cc nL rt p s m args meth c) (hP : Wd E ad js x H) {q : Nat} (ho : isO js q 20) {i : Int32} (hi : ixb i (ln q) = true) (hdg : decode cc pc = .ok (.iaload, 1))
    (kk : W p l e R s m args below meth c H locs cells slots Q (F0 m (pc + 1) ls (.int (gi x q (ix i)) :: rest))) : W p l e R s m args below meth c H locs cells slots Q (F0 m pc ls (.int i :: .ref (ad q) :: rest)) := by
  obtain ⟨hx, hb, -, -, hown, hts, -, hK⟩ := C0
  obtain ⟨n, -, h2⟩ := wl_at (cA := E.2.1) (ad := ad) (x := x) ho.1
  rw [ent_20 ho.2] at h2
  exact va_iald hx hb hK.1 hP n 0 h2 rfl (ixb_in hi) hdg kk
theorem raB (C0 : Cx E A own cc nL rt p s m args meth c) (hP : Wd E ad js x H) {q : Nat} (ho : isO js q 21) {i : Int32} (hi : ixb i (ln q) = true) (hdg : decode cc pc = .ok (.baload, 1))
    (kk : W p l e R s m args below meth c H locs cells slots Q (F0 m (pc + 1) ls (.int (gi x q (ix i)) :: rest))) : W p l e R s m args below meth c H locs cells slots Q (F0 m pc ls (.int i :: .ref (ad q) :: rest)) := by
  obtain ⟨hx, hb, -, -, hown, hts, -, hK⟩ := C0
  obtain ⟨n, -, h2⟩ := wl_at (cA := E.2.1) (ad := ad) (x := x) ho.1
  rw [ent_21 ho.2] at h2
  exact va_bald hx hb hK.1 hP n 1 h2 rfl (ixb_in hi) hdg kk
theorem raZ (C0 : Cx E A own cc nL rt p s m args meth c) (hP : Wd E ad js x H) {q : Nat} (ho : isO js q 22) {i : Int32} (hi : ixb i (ln q) = true) (hdg : decode cc pc = .ok (.baload, 1))
    (kk : W p l e R s m args below meth c H locs cells slots Q (F0 m (pc + 1) ls (.int (gi x q (ix i)) :: rest))) : W p l e R s m args below meth c H locs cells slots Q (F0 m pc ls (.int i :: .ref (ad q) :: rest)) := by
  obtain ⟨hx, hb, -, -, hown, hts, -, hK⟩ := C0
  obtain ⟨n, -, h2⟩ := wl_at (cA := E.2.1) (ad := ad) (x := x) ho.1
  rw [ent_22 ho.2] at h2
  exact va_zald hx hb hK.1 hP n 2 h2 rfl (ixb_in hi) hdg kk
theorem raL (C0 : Cx E A own cc nL rt p s m args meth c) (hP : Wd E ad js x H) {q : Nat} (ho : isO js q 23) {i : Int32} (hi : ixb i (ln q) = true) (hdg : decode cc pc = .ok (.laload, 1))
    (kk : W p l e R s m args below meth c H locs cells slots Q (F0 m (pc + 1) ls (.long (gl x q (ix i)) :: rest))) : W p l e R s m args below meth c H locs cells slots Q (F0 m pc ls (.int i :: .ref (ad q) :: rest)) := by
  obtain ⟨hx, hb, -, -, hown, hts, -, hK⟩ := C0
  obtain ⟨n, -, h2⟩ := wl_at (cA := E.2.1) (ad := ad) (x := x) ho.1
  rw [ent_23 ho.2] at h2
  exact va_lald hx hb hK.1 hP n 3 h2 rfl (ixb_in hi) hdg kk
theorem raS (C0 : Cx E A own cc nL rt p s m args meth c) (hP : Wd E ad js x H) {q : Nat} (ho : isO js q 24) {i : Int32} (hi : ixb i (ln q) = true) (hdg : decode cc pc = .ok (.aaload, 1))
    (kk : W p l e R s m args below meth c H locs cells slots Q (F0 m (pc + 1) ls (.ref (ad (rf q (ix i))) :: rest))) : W p l e R s m args below meth c H locs cells slots Q (F0 m pc ls (.int i :: .ref (ad q) :: rest)) := by
  obtain ⟨hx, hb, -, -, hown, hts, -, hK⟩ := C0
  obtain ⟨n, -, h2⟩ := wl_at (cA := E.2.1) (ad := ad) (x := x) ho.1
  rw [ent_24 ho.2] at h2
  exact va_aldq hx hb hK.1 hP n 4 h2 rfl (ixb_in hi) hdg kk
theorem raA (C0 : Cx E A own cc nL rt p s m args meth c) (hP : Wd E ad js x H) {q : Nat} (ho : isO js q 25) {i : Int32} (hi : ixb i (ln q) = true) (hdg : decode cc pc = .ok (.aaload, 1))
    (kk : W p l e R s m args below meth c H locs cells slots Q (F0 m (pc + 1) ls (.ref (ad (rf q (ix i))) :: rest))) : W p l e R s m args below meth c H locs cells slots Q (F0 m pc ls (.int i :: .ref (ad q) :: rest)) := by
  obtain ⟨hx, hb, -, -, hown, hts, -, hK⟩ := C0
  obtain ⟨n, -, h2⟩ := wl_at (cA := E.2.1) (ad := ad) (x := x) ho.1
  rw [ent_25 ho.2] at h2
  have hin := ixb_in hi
  have hlt : i.toNatClampNeg < ln q := Nat.not_le.mp fun z => hin (Or.inr z)
  exact W.aald (v := .ref (ad (rf q (ix i)))) (ty := .array .int) hx hb (hP n _ h2) ((hK.1.2 5 _ rfl).1 (ln q) (fun j => va_rf (some (ad (rf q j))))) rfl (fun z => by cases z) (by show ¬ (i < 0 ∨ (arrV _ _ _).slots.size ≤ _); rw [arrV_size]; exact hin) (by show (arrV _ _ _).slots[_]? = _; rw [arrV_read _ _ hlt]; rfl) rfl rfl hdg kk
theorem rlen (C0 : Cx E A own cc nL rt p s m args meth c) (hP : Wd E ad js x H) {q : Nat} (ho : isO js q 20) (hdg : decode cc pc = .ok (.arraylength, 1))
    (kk : W p l e R s m args below meth c H locs cells slots Q (F0 m (pc + 1) ls (.int (Int32.ofNat (ln q)) :: rest))) : W p l e R s m args below meth c H locs cells slots Q (F0 m pc ls (.ref (ad q) :: rest)) := by
  obtain ⟨hx, hb, -, -, hown, hts, -, hK⟩ := C0
  obtain ⟨n, -, h2⟩ := wl_at (cA := E.2.1) (ad := ad) (x := x) ho.1
  rw [ent_20 ho.2] at h2
  exact va_alen hx hb hK.1 hP n 0 h2 (ty := .int) rfl rfl hdg kk
theorem rlenL (C0 : Cx E A own cc nL rt p s m args meth c) (hP : Wd E ad js x H) {q : Nat} (ho : isO js q 23) (hdg : decode cc pc = .ok (.arraylength, 1))
    (kk : W p l e R s m args below meth c H locs cells slots Q (F0 m (pc + 1) ls (.int (Int32.ofNat (ln q)) :: rest))) : W p l e R s m args below meth c H locs cells slots Q (F0 m pc ls (.ref (ad q) :: rest)) := by
  obtain ⟨hx, hb, -, -, hown, hts, -, hK⟩ := C0
  obtain ⟨n, -, h2⟩ := wl_at (cA := E.2.1) (ad := ad) (x := x) ho.1
  rw [ent_23 ho.2] at h2
  exact va_alen hx hb hK.1 hP n 3 h2 (ty := .long) rfl rfl hdg kk
theorem rsI (C0 : Cx E A own cc nL rt p s m args meth c) (hap : Ap ad js A) (hP : Wd E ad js x H) (hS : va_S A s.heap H locs) {q : Nat} (ho : isO js q 20) {i v : Int32} (hi : ixb i (ln q) = true) (hdg : decode cc pc = .ok (.iastore, 1))
    (kk : ∀ H1 locs1, Wd E ad js (si x q (ix i) v) H1 → va_S A s.heap H1 locs1 → W p l e R s m args below meth c H1 locs1 cells slots Q (F0 m (pc + 1) ls rest)) : W p l e R s m args below meth c H locs cells slots Q (F0 m pc ls (.int v :: .int i :: .ref (ad q) :: rest)) := by
  obtain ⟨hx, hb, -, -, hown, hts, -, hK⟩ := C0
  obtain ⟨n, h1, h2⟩ := wl_at (cA := E.2.1) (ad := ad) (x := x) ho.1
  rw [ent_20 ho.2] at h2
  refine va_iast hx hb hK.1 hP hap.D hS n 0 h2 rfl (ixb_in hi) hdg (fun H1 locs1 g1 _ g3 => kk H1 locs1 ?_ g3)
  rw [← gi_row, ← ent_20 (cA := E.2.1) (ad := ad) ho.2, wl_set hap.1 h1 (fun r hr => ent_si hr)] at g1
  exact g1
theorem rsB (C0 : Cx E A own cc nL rt p s m args meth c) (hap : Ap ad js A) (hP : Wd E ad js x H) (hS : va_S A s.heap H locs) {q : Nat} (ho : isO js q 21) {i v : Int32} (hi : ixb i (ln q) = true) (hdg : decode cc pc = .ok (.bastore, 1))
    (kk : ∀ H1 locs1, Wd E ad js (si x q (ix i) (vp_nar .byte v)) H1 → va_S A s.heap H1 locs1 → W p l e R s m args below meth c H1 locs1 cells slots Q (F0 m (pc + 1) ls rest)) : W p l e R s m args below meth c H locs cells slots Q (F0 m pc ls (.int v :: .int i :: .ref (ad q) :: rest)) := by
  obtain ⟨hx, hb, -, -, hown, hts, -, hK⟩ := C0
  obtain ⟨n, h1, h2⟩ := wl_at (cA := E.2.1) (ad := ad) (x := x) ho.1
  rw [ent_21 ho.2] at h2
  refine va_bast hx hb hK.1 hP hap.D hS n 1 h2 rfl (ixb_in hi) hdg (fun H1 locs1 g1 _ g3 => kk H1 locs1 ?_ g3)
  rw [← gi_row, ← ent_21 (cA := E.2.1) (ad := ad) ho.2, wl_set hap.1 h1 (fun r hr => ent_si hr)] at g1
  exact g1
theorem rsZ (C0 : Cx E A own cc nL rt p s m args meth c) (hap : Ap ad js A) (hP : Wd E ad js x H) (hS : va_S A s.heap H locs) {q : Nat} (ho : isO js q 22) {i v : Int32} (hi : ixb i (ln q) = true) (hdg : decode cc pc = .ok (.bastore, 1))
    (kk : ∀ H1 locs1, Wd E ad js (si x q (ix i) (vp_nar .boolean v)) H1 → va_S A s.heap H1 locs1 → W p l e R s m args below meth c H1 locs1 cells slots Q (F0 m (pc + 1) ls rest)) : W p l e R s m args below meth c H locs cells slots Q (F0 m pc ls (.int v :: .int i :: .ref (ad q) :: rest)) := by
  obtain ⟨hx, hb, -, -, hown, hts, -, hK⟩ := C0
  obtain ⟨n, h1, h2⟩ := wl_at (cA := E.2.1) (ad := ad) (x := x) ho.1
  rw [ent_22 ho.2] at h2
  refine va_zast hx hb hK.1 hP hap.D hS n 2 h2 rfl (ixb_in hi) hdg (fun H1 locs1 g1 _ g3 => kk H1 locs1 ?_ g3)
  rw [← gi_row, ← ent_22 (cA := E.2.1) (ad := ad) ho.2, wl_set hap.1 h1 (fun r hr => ent_si hr)] at g1
  exact g1
theorem rsL (C0 : Cx E A own cc nL rt p s m args meth c) (hap : Ap ad js A) (hP : Wd E ad js x H) (hS : va_S A s.heap H locs) {q : Nat} (ho : isO js q 23) {i : Int32} {v : Int64} (hi : ixb i (ln q) = true) (hdg : decode cc pc = .ok (.lastore, 1))
    (kk : ∀ H1 locs1, Wd E ad js (sl x q (ix i) v) H1 → va_S A s.heap H1 locs1 → W p l e R s m args below meth c H1 locs1 cells slots Q (F0 m (pc + 1) ls rest)) : W p l e R s m args below meth c H locs cells slots Q (F0 m pc ls (.long v :: .int i :: .ref (ad q) :: rest)) := by
  obtain ⟨hx, hb, -, -, hown, hts, -, hK⟩ := C0
  obtain ⟨n, h1, h2⟩ := wl_at (cA := E.2.1) (ad := ad) (x := x) ho.1
  rw [ent_23 ho.2] at h2
  refine va_last hx hb hK.1 hP hap.D hS n 3 h2 rfl (ixb_in hi) hdg (fun H1 locs1 g1 _ g3 => kk H1 locs1 ?_ g3)
  rw [← gl_row, ← ent_23 (cA := E.2.1) (ad := ad) ho.2, wl_set hap.1 h1 (fun r hr => ent_sl hr)] at g1
  exact g1
theorem rcpI (C0 : Cx E A own cc nL rt p s m args meth c) (hap : Ap ad js A) (hP : Wd E ad js x H) (hS : va_S A s.heap H locs) {q d index : Nat} (ho : isO js q 20) (ho2 : isO js d 20) {sp dp n : Int32} (h1 : spb sp n (ln q) = true) (h2 : spb dp n (ln d) = true) (hls : ls.size = nL) (hl : Cond.methodLink own index arraycopyName ∈ gtb) (hn : Cond.native arraycopyName ∈ gtb) (hst : Cond.static arraycopyName ∈ gtb) (hi : Cond.initialized "java/lang/System" ∈ gtb)
    (hframes : 1 ≤ R.frames) (hlocals : (rest.map fun v => v.category).sum + (nativeFrameWords "java/lang/System" "arraycopy" 5 + 11) ≤ R.locals) (hdg : decode cc pc = .ok (.invokestatic index, 3))
    (kk : ∀ H1 locs1, Wd E ad js (cpi x q (ix sp) d (ix dp) (ix n)) H1 → va_S A s.heap H1 locs1 → W p l e R s m args below meth c H1 locs1 cells slots Q (F0 m (pc + 3) ls rest)) : W p l e R s m args below meth c H locs cells slots Q (F0 m pc ls (.int n :: .int dp :: .ref (ad d) :: .int sp :: .ref (ad q) :: rest)) := by
  obtain ⟨hx, hb, hml, -, hown, hts, -, hK⟩ := C0
  obtain ⟨n1, g1, g2⟩ := wl_at (cA := E.2.1) (ad := ad) (x := x) ho.1
  obtain ⟨n2, k1, k2⟩ := wl_at (cA := E.2.1) (ad := ad) (x := x) ho2.1
  rw [ent_20 ho.2] at g2
  rw [ent_20 ho2.2] at k2
  obtain ⟨a1, a2, a3⟩ := spb_in h1
  obtain ⟨b1, b2, b3⟩ := spb_in h2
  refine va_copyi hx hb (hml.trans hls.symm) hown (hts _ hl) (hts _ hn) (hts _ hst) (hts _ hi) hK.1 hP hap.D hS n1 n2 0 0 g2 k2 (ty := .int) rfl rfl rfl a1 b1 a2 a3 b3 (fun _ _ => rfl) hframes hlocals hdg (fun H1 locs1 z1 _ z3 => kk H1 locs1 ?_ z3)
  rw [← gi_cprow, ← ent_20 (cA := E.2.1) (ad := ad) ho2.2, wl_set hap.1 k1 (fun r hr => ent_cpi hr)] at z1
  exact z1
theorem rcpL (C0 : Cx E A own cc nL rt p s m args meth c) (hap : Ap ad js A) (hP : Wd E ad js x H) (hS : va_S A s.heap H locs) {q d index : Nat} (ho : isO js q 23) (ho2 : isO js d 23) {sp dp n : Int32} (h1 : spb sp n (ln q) = true) (h2 : spb dp n (ln d) = true) (hls : ls.size = nL) (hl : Cond.methodLink own index arraycopyName ∈ gtb) (hn : Cond.native arraycopyName ∈ gtb) (hst : Cond.static arraycopyName ∈ gtb) (hi : Cond.initialized "java/lang/System" ∈ gtb)
    (hframes : 1 ≤ R.frames) (hlocals : (rest.map fun v => v.category).sum + (nativeFrameWords "java/lang/System" "arraycopy" 5 + 11) ≤ R.locals) (hdg : decode cc pc = .ok (.invokestatic index, 3))
    (kk : ∀ H1 locs1, Wd E ad js (cpl x q (ix sp) d (ix dp) (ix n)) H1 → va_S A s.heap H1 locs1 → W p l e R s m args below meth c H1 locs1 cells slots Q (F0 m (pc + 3) ls rest)) : W p l e R s m args below meth c H locs cells slots Q (F0 m pc ls (.int n :: .int dp :: .ref (ad d) :: .int sp :: .ref (ad q) :: rest)) := by
  obtain ⟨hx, hb, hml, -, hown, hts, -, hK⟩ := C0
  obtain ⟨n1, g1, g2⟩ := wl_at (cA := E.2.1) (ad := ad) (x := x) ho.1
  obtain ⟨n2, k1, k2⟩ := wl_at (cA := E.2.1) (ad := ad) (x := x) ho2.1
  rw [ent_23 ho.2] at g2
  rw [ent_23 ho2.2] at k2
  obtain ⟨a1, a2, a3⟩ := spb_in h1
  obtain ⟨b1, b2, b3⟩ := spb_in h2
  refine va_copyl hx hb (hml.trans hls.symm) hown (hts _ hl) (hts _ hn) (hts _ hst) (hts _ hi) hK.1 hP hap.D hS n1 n2 3 3 g2 k2 (ty := .long) rfl rfl rfl a1 b1 a2 a3 b3 (fun _ _ => rfl) hframes hlocals hdg (fun H1 locs1 z1 _ z3 => kk H1 locs1 ?_ z3)
  rw [← gl_cprow, ← ent_23 (cA := E.2.1) (ad := ad) ho2.2, wl_set hap.1 k1 (fun r hr => ent_cpl hr)] at z1
  exact z1
/-- a reference, or null, of a local -/
theorem raQn {k : Fin 4} {i : Nat} {o : Option Nat} (hexec : p.tables.exec = Jvm.exec) (hb : c.code = cc) (hdg : decode cc pc = .ok (.aload_n k, 1)) (hi : (k : Nat) = i) (hl : ls[i]? = some (.val (va_re ad o)))
    (kk : W p l e R s m args below meth c H locs cells slots Q (F0 m (pc + 1) ls (va_re ad o :: rest))) : W p l e R s m args below meth c H locs cells slots Q (F0 m pc ls rest) := by
  cases o with
  | none => exact lv_aload_nN hexec hb hdg hi hl kk
  | some q => exact lv_aload_n hexec hb hdg hi hl kk
theorem raQ {i : Nat} {o : Option Nat} (hexec : p.tables.exec = Jvm.exec) (hb : c.code = cc) (hdg : decode cc pc = .ok (.aload i, 2)) (hl : ls[i]? = some (.val (va_re ad o)))
    (kk : W p l e R s m args below meth c H locs cells slots Q (F0 m (pc + 2) ls (va_re ad o :: rest))) : W p l e R s m args below meth c H locs cells slots Q (F0 m pc ls rest) := by
  cases o with
  | none => exact lv_aloadN hexec hb hdg hl kk
  | some q => exact lv_aload hexec hb hdg hl kk
theorem rqS {i nL' : Nat} {o : Option Nat} {lv lv' : List (Nat × Value)} (hexec : p.tables.exec = Jvm.exec) (hb : c.code = cc) (hdg : decode cc pc = .ok (.astore i, 2)) (h : lv_has ls nL' lv) (hn : i < nL') (hl : (i, va_re ad o) :: lv.filter (fun q => !(q.1 == i) && !(q.1 + 1 == i && q.2.category == 2)) = lv')
    (kk : ∀ ls' : Array Slot, lv_has ls' nL' lv' → W p l e R s m args below meth c H locs cells slots Q (F0 m (pc + 2) ls' rest)) : W p l e R s m args below meth c H locs cells slots Q (F0 m pc ls (va_re ad o :: rest)) := by
  cases o with
  | none => exact lv_astoreN hexec hb hdg h hn hl kk
  | some q => exact lv_astore hexec hb hdg h hn hl kk
/-! calls -/
theorem rc0 {mc ms : Nat} {st0 : List Value} {rv : Option Value} {x' : St} {a : Array Value} (hr : va_Run p l e R s m args below meth c H locs cells slots mc ms (F0 m pc ls st0) rest (QX E ad js A rv x' a) A) (hS : va_S A s.heap H locs)
    (kk : ∀ H1 locs1, Wd E ad js x' H1 → H.size ≤ H1.size → (∀ q : Nat, q < H.size → ¬ A q → H1[q]? = H[q]?) → va_S A s.heap H1 locs1 → W p l e R s m args below meth c H1 locs1 (cells + mc) (slots + ms) Q (F0 m (pc + 3) ls (rv.toList ++ rest))) : W p l e R s m args below meth c H locs cells slots Q (F0 m pc ls st0) := by
  intro T hT X
  obtain ⟨v, st₀, t, T', L, h0, X', hL, e1, e2, ⟨⟨hv, hp⟩, hz, hk⟩, st⟩ := hr T hT X
  cases hv
  rw [h0] at hz hk
  obtain ⟨t2, a1, b1⟩ := kk T'.heap (locs ++ L) (by rw [e1]; exact hp) (by rw [e1]; exact hz) (fun q h1 h2 => by rw [e1]; exact hk q h1 h2)
    ⟨Nat.le_trans hS.1 (by rw [e1]; exact hz), fun q h1 h2 => by rw [e1, hk q (Nat.lt_of_lt_of_le h1 hS.1) h2]; exact hS.2.1 q h1 h2, fun q hq => by
      rcases List.mem_append.mp hq with h | h
      · exact hS.2.2 q h
      · exact hL q h⟩ T' rfl X'
  exact ⟨t2, st t2 a1, b1⟩
theorem good_call {w : Cond} (h : w ∈ gtb) : GoodIn gtb (w :: gtb) := by
  intro z hz
  have hm : z ∈ gtb := (List.mem_cons.mp hz).elim (fun e => e ▸ h) (fun q => q)
  exact ⟨hm, good_of_word (List.mem_filter.mp hm).2⟩
theorem PB.blind {av : List Value} : FrameBlind (va_Pc av (PB E A ad js x)) := by
  intro a U g mk h
  exact ⟨h.1, h.2.1, h.2.2.same rfl rfl⟩
theorem rcV {y : MethodName} {b : ByteArray} {mL n index N ci q : Nat} {ret : Option FieldType} {rm : Room} {As st0 : List Value} {rv : Option Value} {x' : St} {C : String} {T : u_T} (C0 : Cx E A own cc nL rt p s m args meth c)
    (hM : Met l y (Cond.code y b mL ret :: gtb) rm (va_Pc (.ref (ad q) :: As) (PB E A ad js x)) (QX E ad js A rv x') 0 0 A) (hP : Wd E ad js x H) (hS : va_S A s.heap H locs) (ho : isO js q ci) (hc : vcl[ci]? = some (C, T, N)) (hci : ci < 20)
    (hwc : Cond.code y b mL ret ∈ gtb) (hwl : Cond.methodLink own index y ∈ gtb) (hwi : Cond.instanceMethod y ∈ gtb) (hws : Cond.selects C y y ∈ gtb) (hwn : Cond.initialized y.cls ∈ gtb) (hrc : rm.cells = 0) (hrs : rm.slots = 0) (hd : y.cls ≠ "java/lang/invoke/MethodHandle" ∧ y.cls ≠ "java/lang/invoke/VarHandle" ∧ (parseMethodDescriptor y.desc).map (fun d => d.parameters.length) = some n) (hn : As.length = n)
    (hR : rm.frames + 1 ≤ R.frames ∧ 8 + (mL + 11) + rm.locals ≤ R.locals) (hls : ls.size = nL) (hst : st0 = As.reverse ++ .ref (ad q) :: rest) (hroom : (rest.map fun v => v.category).sum ≤ 8) (hdg : decode cc pc = .ok (.invokevirtual index, 3)) (hf : cells ≤ R.cells ∧ slots ≤ R.slots)
    (kk : ∀ H1 locs1, Wd E ad js x' H1 → H.size ≤ H1.size → (∀ q : Nat, q < H.size → ¬ A q → H1[q]? = H[q]?) → va_S A s.heap H1 locs1 → W p l e R s m args below meth c H1 locs1 cells slots Q (F0 m (pc + 3) ls (rv.toList ++ rest))) : W p l e R s m args below meth c H locs cells slots Q (F0 m pc ls st0) := by
  obtain ⟨hx, hb, hml, -, hown, hts, -, hK⟩ := id C0
  obtain ⟨k0, -, h2⟩ := wl_at (cA := E.2.1) (ad := ad) (x := x) ho.1
  rw [ent_o ho.2 hci] at h2
  exact rc0 (rest := rest) (va_runV (As := As) (C := C) (n := n) (bytes := b) (maxL := mL) (ret := ret) ⟨hx, hb, hml, hown, hts⟩ hM ⟨callB_of n hts (good_call hwc) rfl hrc hrs (hts _ hwn) (hts _ hwl) hd hR, hts _ hwi, hts _ hws⟩ ⟨PB.blind, va_recv (q := (C, T, N)) hK.1 hP hc h2, fun U hU hW => ⟨rfl, by rw [hU]; exact hP, hK.to hS hU hW⟩⟩ rfl hn hls hst (lv_room hroom) hdg hf) hS kk
theorem rcS {y : MethodName} {b : ByteArray} {mL n index : Nat} {ret : Option FieldType} {rm : Room} {As st0 : List Value} {rv : Option Value} {x' : St} (C0 : Cx E A own cc nL rt p s m args meth c)
    (hM : Met l y (Cond.code y b mL ret :: gtb) rm (va_Pc As (PB E A ad js x)) (QX E ad js A rv x') 0 0 A) (hP : Wd E ad js x H) (hS : va_S A s.heap H locs)
    (hwc : Cond.code y b mL ret ∈ gtb) (hwl : Cond.methodLink own index y ∈ gtb) (hwi : Cond.static y ∈ gtb) (hwn : Cond.initialized y.cls ∈ gtb) (hrc : rm.cells = 0) (hrs : rm.slots = 0) (hd : y.cls ≠ "java/lang/invoke/MethodHandle" ∧ y.cls ≠ "java/lang/invoke/VarHandle" ∧ (parseMethodDescriptor y.desc).map (fun d => d.parameters.length) = some n) (hn : As.length = n)
    (hR : rm.frames + 1 ≤ R.frames ∧ 8 + (mL + 11) + rm.locals ≤ R.locals) (hls : ls.size = nL) (hst : st0 = As.reverse ++ rest) (hroom : (rest.map fun v => v.category).sum ≤ 8) (hdg : decode cc pc = .ok (.invokestatic index, 3)) (hf : cells ≤ R.cells ∧ slots ≤ R.slots)
    (kk : ∀ H1 locs1, Wd E ad js x' H1 → H.size ≤ H1.size → (∀ q : Nat, q < H.size → ¬ A q → H1[q]? = H[q]?) → va_S A s.heap H1 locs1 → W p l e R s m args below meth c H1 locs1 cells slots Q (F0 m (pc + 3) ls (rv.toList ++ rest))) : W p l e R s m args below meth c H locs cells slots Q (F0 m pc ls st0) := by
  obtain ⟨hx, hb, hml, -, hown, hts, -, hK⟩ := id C0
  exact rc0 (rest := rest) (va_runS (As := As) (n := n) (bytes := b) (maxL := mL) (ret := ret) ⟨hx, hb, hml, hown, hts⟩ hM ⟨callB_of n hts (good_call hwc) rfl hrc hrs (hts _ hwn) (hts _ hwl) hd hR, hts _ hwi⟩ ⟨PB.blind, fun U hU hW => ⟨rfl, by rw [hU]; exact hP, hK.to hS hU hW⟩⟩ rfl hn hls hst (lv_room hroom) hdg hf) hS kk
theorem rcSN {y : MethodName} {b : ByteArray} {mL n index : Nat} {host : String} {ret : Option FieldType} {rm : Room} {As st0 : List Value} {rv : Option Value} {x' : St} (C0 : Cx E A own cc nL rt p s m args meth c)
    (hM : Met l y (Cond.code y b mL ret :: gtb) rm (va_Pc As (PB E A ad js x)) (QX E ad js A rv x') 0 0 A) (hP : Wd E ad js x H) (hS : va_S A s.heap H locs)
    (hwc : Cond.code y b mL ret ∈ gtb) (hwl : Cond.methodLinkNest own index y host ∈ nst) (hwi : Cond.static y ∈ gtb) (hwn : Cond.initialized y.cls ∈ gtb) (hrc : rm.cells = 0) (hrs : rm.slots = 0) (hd : y.cls ≠ "java/lang/invoke/MethodHandle" ∧ y.cls ≠ "java/lang/invoke/VarHandle" ∧ (parseMethodDescriptor y.desc).map (fun d => d.parameters.length) = some n) (hn : As.length = n)
    (hR : rm.frames + 1 ≤ R.frames ∧ 8 + (mL + 11) + rm.locals ≤ R.locals) (hls : ls.size = nL) (hst : st0 = As.reverse ++ rest) (hroom : (rest.map fun v => v.category).sum ≤ 8) (hdg : decode cc pc = .ok (.invokestatic index, 3)) (hf : cells ≤ R.cells ∧ slots ≤ R.slots)
    (kk : ∀ H1 locs1, Wd E ad js x' H1 → H.size ≤ H1.size → (∀ q : Nat, q < H.size → ¬ A q → H1[q]? = H[q]?) → va_S A s.heap H1 locs1 → W p l e R s m args below meth c H1 locs1 cells slots Q (F0 m (pc + 3) ls (rv.toList ++ rest))) : W p l e R s m args below meth c H locs cells slots Q (F0 m pc ls st0) := by
  obtain ⟨hx, hb, hml, -, hown, hts, -, hK⟩ := id C0
  exact rc0 (rest := rest) (va_runSN (As := As) (n := n) (bytes := b) (maxL := mL) (ret := ret) (host := host) ⟨hx, hb, hml, hown, hts⟩ hM ⟨va_cnB n hts (good_call hwc) rfl hrc hrs (hK.2.1 _ hwl) (hts _ hwn) hd hR, hts _ hwi, trivial⟩ ⟨PB.blind, fun U hU hW => ⟨rfl, by rw [hU]; exact hP, hK.to hS hU hW⟩⟩ rfl hn hls hst (lv_room hroom) hdg hf) hS kk
/-! returns -/
theorem rrI (C0 : Cx E A own cc nL (some .int) p s m args meth c) (hP : Wd E ad js x H) (hS : va_S A s.heap H locs) {v r : Int32} {x' : St} (hdg : decode cc pc = .ok (.ireturn, 1)) (hf : some (v, x) = some (r, x')) : W p l e R s m args below meth c H locs cells slots (MQ below (QX E ad js A (some (.int r)) x') args s cells slots A) (F0 m pc ls [.int v]) := by
  obtain ⟨rfl, rfl⟩ := of_ret hf
  obtain ⟨hx, hb, -, hr, -, -, hlk, -⟩ := C0
  exact W.iret hx hb hr (fun t ht _ => ⟨⟨rfl, by rw [ht]; exact hP⟩, hS.F ht⟩) hS.2.2 hdg hlk
theorem rrZ (C0 : Cx E A own cc nL (some .boolean) p s m args meth c) (hP : Wd E ad js x H) (hS : va_S A s.heap H locs) {v r : Int32} {x' : St} (hz : v = 0 ∨ v = 1) (hdg : decode cc pc = .ok (.ireturn, 1)) (hf : some (v, x) = some (r, x')) : W p l e R s m args below meth c H locs cells slots (MQ below (QX E ad js A (some (.int r)) x') args s cells slots A) (F0 m pc ls [.int v]) := by
  obtain ⟨rfl, rfl⟩ := of_ret hf
  obtain ⟨hx, hb, -, hr, -, -, hlk, -⟩ := C0
  exact W.zret hx hb hr (by rcases hz with rfl | rfl <;> rfl) (fun t ht _ => ⟨⟨rfl, by rw [ht]; exact hP⟩, hS.F ht⟩) hS.2.2 hdg hlk
theorem rrL (C0 : Cx E A own cc nL (some .long) p s m args meth c) (hP : Wd E ad js x H) (hS : va_S A s.heap H locs) {v r : Int64} {x' : St} (hdg : decode cc pc = .ok (.lreturn, 1)) (hf : some (v, x) = some (r, x')) : W p l e R s m args below meth c H locs cells slots (MQ below (QX E ad js A (some (.long r)) x') args s cells slots A) (F0 m pc ls [.long v]) := by
  obtain ⟨rfl, rfl⟩ := of_ret hf
  obtain ⟨hx, hb, -, hr, -, -, hlk, -⟩ := C0
  exact W.lret hx hb hr (fun t ht _ => ⟨⟨rfl, by rw [ht]; exact hP⟩, hS.F ht⟩) hS.2.2 hdg hlk
theorem rrV (C0 : Cx E A own cc nL none p s m args meth c) (hP : Wd E ad js x H) (hS : va_S A s.heap H locs) {v r : Unit} {x' : St} (hdg : decode cc pc = .ok (.return_, 1)) (hf : some (v, x) = some (r, x')) : W p l e R s m args below meth c H locs cells slots (MQ below (QX E ad js A none x') args s cells slots A) (F0 m pc ls []) := by
  obtain ⟨rfl, rfl⟩ := of_ret hf
  obtain ⟨hx, hb, -, hr, -, -, hlk, -⟩ := C0
  exact W.vret hx hb hr (fun t ht _ => ⟨⟨rfl, by rw [ht]; exact hP⟩, hS.F ht⟩) hS.2.2 hdg hlk
theorem rrQ (C0 : Cx E A own cc nL (some (.array .int)) p s m args meth c) (hP : Wd E ad js x H) (hS : va_S A s.heap H locs) {v r : Option Nat} {x' : St} (hdg : decode cc pc = .ok (.areturn, 1)) (hf : some (v, x) = some (r, x')) : W p l e R s m args below meth c H locs cells slots (MQ below (QX E ad js A (some (va_re ad r)) x') args s cells slots A) (F0 m pc ls [va_re ad v]) := by
  obtain ⟨rfl, rfl⟩ := of_ret hf
  obtain ⟨hx, hb, -, hr, -, -, hlk, -⟩ := C0
  exact W.aret hx hb hr (Or.inr ⟨_, rfl⟩) (by cases v with | none => exact Or.inl rfl | some q => exact Or.inr ⟨_, rfl⟩) (fun t ht _ => ⟨⟨rfl, by rw [ht]; exact hP⟩, hS.F ht⟩) hS.2.2 hdg hlk
end Rows
/-- a method's entry: the context, the locals -/
theorem enter {l : Launch} {y : MethodName} {b : ByteArray} {mL : Nat} {ret : Option FieldType} {rm : Room} {E : Ev} {A : Nat → Prop} {ad : Nat → Nat} {js : List Nat} {x : St} {av : List Value} {Qc : Array Value → State → Outcome → State → Prop} (hy : plainName y.cls = true) (hlen : (lg_sl av).length ≤ mL)
    (body : ∀ (p : Program) (e : Env) (s : State) (m : MethodId) (below : List Frame) (meth : Method) (c : Code) (ls : Array Slot), Cx E A y.cls b mL ret p s m av.toArray meth c → Wd E ad js x s.heap → va_S A s.heap s.heap [] → lv_has ls mL (lv_args 0 av) →
      W p l e rm s m av.toArray below meth c s.heap [] 0 0 (MQ below Qc av.toArray s 0 0 A) (F0 m 0 ls [])) : Met l y (Cond.code y b mL ret :: gtb) rm (va_Pc av (PB E A ad js x)) Qc 0 0 A := by
  refine Met.ofW (cc := b) (maxL := mL) (ret := ret) hy rfl ?_
  intro p e s m args below meth c s₁ B hml hv
  obtain ⟨rfl, hP, hK⟩ := hv
  have hts := atoms_spec (ws := Cond.code y b mL ret :: gtb) B.pre
  have hl := lv_entry av (n := mL) hlen
  rw [lg_entry_eq]
  exact body p e s m below meth c _ ⟨B.exec, B.bytes, hml, B.returns, findClass_of_methodNamed B.named, fun w hw => hts w (List.mem_cons_of_mem _ hw), B.notSynchronized, hK⟩ hP va_S.rf hl
end
