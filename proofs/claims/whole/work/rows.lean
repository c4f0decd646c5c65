section
-- ===== PART A: goes FIRST, ahead of the names: the tables' words, and 'selects' of the private methods out of them =====
/-- a private method of a class that the tables say can be made, by its rows of tables_1 -/
def lw_okq (q : MethodName × Nat) : Prop := (q.1.cls ≠ "java/lang/invoke/MethodHandle" ∧ q.1.cls ≠ "java/lang/invoke/VarHandle") ∧ Cond.instantiable q.1.cls q.2 ∈ tables_1 ∧ Cond.privateMethod q.1 ∈ tables_1 ∧ Cond.instanceMethod q.1 ∈ tables_1
theorem lw_p0 : lw_okq (⟨"DrillCount$Sieve", "inRanges", "(LDrillCount$Axis;LDrillCount$Selection;)J"⟩, 5) := ⟨⟨by decide +kernel, by decide +kernel⟩, List.mem_of_getElem? (i := 102) (by decide +kernel), List.mem_of_getElem? (i := 310) (by decide +kernel), List.mem_of_getElem? (i := 311) (by decide +kernel)⟩
theorem lw_p1 : lw_okq (⟨"DrillCount", "canStandBelow", "(II)Z"⟩, 8) := ⟨⟨by decide +kernel, by decide +kernel⟩, List.mem_of_getElem? (i := 20) (by decide +kernel), List.mem_of_getElem? (i := 338) (by decide +kernel), List.mem_of_getElem? (i := 339) (by decide +kernel)⟩
theorem lw_p2 : lw_okq (⟨"DrillCount$Forest", "hangUnder", "(IJ)V"⟩, 6) := ⟨⟨by decide +kernel, by decide +kernel⟩, List.mem_of_getElem? (i := 28) (by decide +kernel), List.mem_of_getElem? (i := 356) (by decide +kernel), List.mem_of_getElem? (i := 357) (by decide +kernel)⟩
theorem lw_p3 : lw_okq (⟨"DrillCount$Forest", "gather", "(I)V"⟩, 6) := ⟨⟨by decide +kernel, by decide +kernel⟩, List.mem_of_getElem? (i := 28) (by decide +kernel), List.mem_of_getElem? (i := 381) (by decide +kernel), List.mem_of_getElem? (i := 382) (by decide +kernel)⟩
theorem lw_p4 : lw_okq (⟨"DrillCount$Forest", "taggedIn", "(J)J"⟩, 6) := ⟨⟨by decide +kernel, by decide +kernel⟩, List.mem_of_getElem? (i := 28) (by decide +kernel), List.mem_of_getElem? (i := 385) (by decide +kernel), List.mem_of_getElem? (i := 386) (by decide +kernel)⟩
theorem lw_p5 : lw_okq (⟨"DrillCount$Ranking", "rise", "(I)V"⟩, 3) := ⟨⟨by decide +kernel, by decide +kernel⟩, List.mem_of_getElem? (i := 69) (by decide +kernel), List.mem_of_getElem? (i := 403) (by decide +kernel), List.mem_of_getElem? (i := 404) (by decide +kernel)⟩
theorem lw_p6 : lw_okq (⟨"DrillCount$Ranking", "isAhead", "(II)Z"⟩, 3) := ⟨⟨by decide +kernel, by decide +kernel⟩, List.mem_of_getElem? (i := 69) (by decide +kernel), List.mem_of_getElem? (i := 407) (by decide +kernel), List.mem_of_getElem? (i := 408) (by decide +kernel)⟩
theorem lw_p7 : lw_okq (⟨"DrillCount", "hasNumber", "(II)Z"⟩, 8) := ⟨⟨by decide +kernel, by decide +kernel⟩, List.mem_of_getElem? (i := 20) (by decide +kernel), List.mem_of_getElem? (i := 441) (by decide +kernel), List.mem_of_getElem? (i := 442) (by decide +kernel)⟩
theorem lw_p8 : lw_okq (⟨"DrillCount", "canBin", "(II)Z"⟩, 8) := ⟨⟨by decide +kernel, by decide +kernel⟩, List.mem_of_getElem? (i := 20) (by decide +kernel), List.mem_of_getElem? (i := 600) (by decide +kernel), List.mem_of_getElem? (i := 601) (by decide +kernel)⟩
theorem lw_p9 : lw_okq (⟨"DrillCount", "fillRow", "(IJ)V"⟩, 8) := ⟨⟨by decide +kernel, by decide +kernel⟩, List.mem_of_getElem? (i := 20) (by decide +kernel), List.mem_of_getElem? (i := 604) (by decide +kernel), List.mem_of_getElem? (i := 605) (by decide +kernel)⟩
theorem lw_p10 : lw_okq (⟨"DrillCount$Row", "fits", "(II)Z"⟩, 2) := ⟨⟨by decide +kernel, by decide +kernel⟩, List.mem_of_getElem? (i := 207) (by decide +kernel), List.mem_of_getElem? (i := 633) (by decide +kernel), List.mem_of_getElem? (i := 634) (by decide +kernel)⟩
theorem lw_p11 : lw_okq (⟨"DrillCount$Row", "endOfRow", "(II)I"⟩, 2) := ⟨⟨by decide +kernel, by decide +kernel⟩, List.mem_of_getElem? (i := 207) (by decide +kernel), List.mem_of_getElem? (i := 637) (by decide +kernel), List.mem_of_getElem? (i := 638) (by decide +kernel)⟩
theorem lw_p12 : lw_okq (⟨"DrillCount", "startReading", "(I)V"⟩, 8) := ⟨⟨by decide +kernel, by decide +kernel⟩, List.mem_of_getElem? (i := 20) (by decide +kernel), List.mem_of_getElem? (i := 654) (by decide +kernel), List.mem_of_getElem? (i := 655) (by decide +kernel)⟩
theorem lw_p13 : lw_okq (⟨"DrillCount", "readOne", "(I)V"⟩, 8) := ⟨⟨by decide +kernel, by decide +kernel⟩, List.mem_of_getElem? (i := 20) (by decide +kernel), List.mem_of_getElem? (i := 662) (by decide +kernel), List.mem_of_getElem? (i := 663) (by decide +kernel)⟩
theorem lw_p14 : lw_okq (⟨"DrillCount", "fullestBelow", "(IIJ)I"⟩, 8) := ⟨⟨by decide +kernel, by decide +kernel⟩, List.mem_of_getElem? (i := 20) (by decide +kernel), List.mem_of_getElem? (i := 674) (by decide +kernel), List.mem_of_getElem? (i := 675) (by decide +kernel)⟩
theorem lw_p15 : lw_okq (⟨"DrillCount", "fillCovering", "(I)Z"⟩, 8) := ⟨⟨by decide +kernel, by decide +kernel⟩, List.mem_of_getElem? (i := 20) (by decide +kernel), List.mem_of_getElem? (i := 690) (by decide +kernel), List.mem_of_getElem? (i := 691) (by decide +kernel)⟩
def lw_privs_1 : List (MethodName × Nat) := [(⟨"DrillCount$Sieve", "inRanges", "(LDrillCount$Axis;LDrillCount$Selection;)J"⟩, 5), (⟨"DrillCount", "canStandBelow", "(II)Z"⟩, 8), (⟨"DrillCount$Forest", "hangUnder", "(IJ)V"⟩, 6), (⟨"DrillCount$Forest", "gather", "(I)V"⟩, 6), (⟨"DrillCount$Forest", "taggedIn", "(J)J"⟩, 6), (⟨"DrillCount$Ranking", "rise", "(I)V"⟩, 3), (⟨"DrillCount$Ranking", "isAhead", "(II)Z"⟩, 3), (⟨"DrillCount", "hasNumber", "(II)Z"⟩, 8), (⟨"DrillCount", "canBin", "(II)Z"⟩, 8), (⟨"DrillCount", "fillRow", "(IJ)V"⟩, 8), (⟨"DrillCount$Row", "fits", "(II)Z"⟩, 2), (⟨"DrillCount$Row", "endOfRow", "(II)I"⟩, 2), (⟨"DrillCount", "startReading", "(I)V"⟩, 8), (⟨"DrillCount", "readOne", "(I)V"⟩, 8), (⟨"DrillCount", "fullestBelow", "(IIJ)I"⟩, 8), (⟨"DrillCount", "fillCovering", "(I)Z"⟩, 8)]
theorem lw_r1 : ∀ q ∈ lw_privs_1, lw_okq q := List.forall_mem_cons.mpr ⟨lw_p0, List.forall_mem_cons.mpr ⟨lw_p1, List.forall_mem_cons.mpr ⟨lw_p2, List.forall_mem_cons.mpr ⟨lw_p3, List.forall_mem_cons.mpr ⟨lw_p4, List.forall_mem_cons.mpr ⟨lw_p5, List.forall_mem_cons.mpr ⟨lw_p6, List.forall_mem_cons.mpr ⟨lw_p7, List.forall_mem_cons.mpr ⟨lw_p8, List.forall_mem_cons.mpr ⟨lw_p9, List.forall_mem_cons.mpr ⟨lw_p10, List.forall_mem_cons.mpr ⟨lw_p11, List.forall_mem_cons.mpr ⟨lw_p12, List.forall_mem_cons.mpr ⟨lw_p13, List.forall_mem_cons.mpr ⟨lw_p14, List.forall_mem_cons.mpr ⟨lw_p15, fun _ h => absurd h List.not_mem_nil⟩⟩⟩⟩⟩⟩⟩⟩⟩⟩⟩⟩⟩⟩⟩⟩
theorem lw_p16 : lw_okq (⟨"DrillCount$Covering", "choose", "(IIIJ)Z"⟩, 5) := ⟨⟨by decide +kernel, by decide +kernel⟩, List.mem_of_getElem? (i := 224) (by decide +kernel), List.mem_of_getElem? (i := 706) (by decide +kernel), List.mem_of_getElem? (i := 707) (by decide +kernel)⟩
theorem lw_p17 : lw_okq (⟨"java/lang/Throwable", "fillInStackTrace", "(I)Ljava/lang/Throwable;"⟩, 6) := ⟨⟨by decide +kernel, by decide +kernel⟩, List.mem_of_getElem? (i := 801) (by decide +kernel), List.mem_of_getElem? (i := 799) (by decide +kernel), List.mem_of_getElem? (i := 800) (by decide +kernel)⟩
theorem lw_p18 : lw_okq (⟨"DrillCountModel", "isTree", "(I)Z"⟩, 22) := ⟨⟨by decide +kernel, by decide +kernel⟩, List.mem_of_getElem? (i := 853) (by decide +kernel), List.mem_of_getElem? (i := 942) (by decide +kernel), List.mem_of_getElem? (i := 943) (by decide +kernel)⟩
theorem lw_p19 : lw_okq (⟨"DrillCountModel", "isAxis", "(I)Z"⟩, 22) := ⟨⟨by decide +kernel, by decide +kernel⟩, List.mem_of_getElem? (i := 853) (by decide +kernel), List.mem_of_getElem? (i := 946) (by decide +kernel), List.mem_of_getElem? (i := 947) (by decide +kernel)⟩
theorem lw_p20 : lw_okq (⟨"DrillCountModel", "canBe", "(II)Z"⟩, 22) := ⟨⟨by decide +kernel, by decide +kernel⟩, List.mem_of_getElem? (i := 853) (by decide +kernel), List.mem_of_getElem? (i := 950) (by decide +kernel), List.mem_of_getElem? (i := 951) (by decide +kernel)⟩
theorem lw_p21 : lw_okq (⟨"DrillCountModel", "isCategory", "(I)Z"⟩, 22) := ⟨⟨by decide +kernel, by decide +kernel⟩, List.mem_of_getElem? (i := 853) (by decide +kernel), List.mem_of_getElem? (i := 954) (by decide +kernel), List.mem_of_getElem? (i := 955) (by decide +kernel)⟩
theorem lw_p22 : lw_okq (⟨"DrillCountModel", "level", "(I)I"⟩, 22) := ⟨⟨by decide +kernel, by decide +kernel⟩, List.mem_of_getElem? (i := 853) (by decide +kernel), List.mem_of_getElem? (i := 958) (by decide +kernel), List.mem_of_getElem? (i := 959) (by decide +kernel)⟩
theorem lw_p23 : lw_okq (⟨"DrillCountModel", "isIn", "(II)Z"⟩, 22) := ⟨⟨by decide +kernel, by decide +kernel⟩, List.mem_of_getElem? (i := 853) (by decide +kernel), List.mem_of_getElem? (i := 966) (by decide +kernel), List.mem_of_getElem? (i := 967) (by decide +kernel)⟩
theorem lw_p24 : lw_okq (⟨"DrillCountModel", "owns", "()V"⟩, 22) := ⟨⟨by decide +kernel, by decide +kernel⟩, List.mem_of_getElem? (i := 853) (by decide +kernel), List.mem_of_getElem? (i := 970) (by decide +kernel), List.mem_of_getElem? (i := 971) (by decide +kernel)⟩
theorem lw_p25 : lw_okq (⟨"DrillCountModel", "isThere", "(I)Z"⟩, 22) := ⟨⟨by decide +kernel, by decide +kernel⟩, List.mem_of_getElem? (i := 853) (by decide +kernel), List.mem_of_getElem? (i := 982) (by decide +kernel), List.mem_of_getElem? (i := 983) (by decide +kernel)⟩
theorem lw_p26 : lw_okq (⟨"DrillCountModel", "isNumber", "(I)Z"⟩, 22) := ⟨⟨by decide +kernel, by decide +kernel⟩, List.mem_of_getElem? (i := 853) (by decide +kernel), List.mem_of_getElem? (i := 990) (by decide +kernel), List.mem_of_getElem? (i := 991) (by decide +kernel)⟩
theorem lw_p27 : lw_okq (⟨"DrillCountModel", "isNumbered", "(II)Z"⟩, 22) := ⟨⟨by decide +kernel, by decide +kernel⟩, List.mem_of_getElem? (i := 853) (by decide +kernel), List.mem_of_getElem? (i := 998) (by decide +kernel), List.mem_of_getElem? (i := 999) (by decide +kernel)⟩
theorem lw_p28 : lw_okq (⟨"DrillCountModel", "keeps", "()V"⟩, 22) := ⟨⟨by decide +kernel, by decide +kernel⟩, List.mem_of_getElem? (i := 853) (by decide +kernel), List.mem_of_getElem? (i := 1010) (by decide +kernel), List.mem_of_getElem? (i := 1011) (by decide +kernel)⟩
theorem lw_p29 : lw_okq (⟨"DrillCountModel", "copies", "(II)V"⟩, 22) := ⟨⟨by decide +kernel, by decide +kernel⟩, List.mem_of_getElem? (i := 853) (by decide +kernel), List.mem_of_getElem? (i := 1014) (by decide +kernel), List.mem_of_getElem? (i := 1015) (by decide +kernel)⟩
theorem lw_p30 : lw_okq (⟨"DrillCountModel", "isOpen", "(II)Z"⟩, 22) := ⟨⟨by decide +kernel, by decide +kernel⟩, List.mem_of_getElem? (i := 853) (by decide +kernel), List.mem_of_getElem? (i := 1034) (by decide +kernel), List.mem_of_getElem? (i := 1035) (by decide +kernel)⟩
theorem lw_p31 : lw_okq (⟨"DrillCountModel", "opens", "(II)V"⟩, 22) := ⟨⟨by decide +kernel, by decide +kernel⟩, List.mem_of_getElem? (i := 853) (by decide +kernel), List.mem_of_getElem? (i := 1038) (by decide +kernel), List.mem_of_getElem? (i := 1039) (by decide +kernel)⟩
def lw_privs_2 : List (MethodName × Nat) := [(⟨"DrillCount$Covering", "choose", "(IIIJ)Z"⟩, 5), (⟨"java/lang/Throwable", "fillInStackTrace", "(I)Ljava/lang/Throwable;"⟩, 6), (⟨"DrillCountModel", "isTree", "(I)Z"⟩, 22), (⟨"DrillCountModel", "isAxis", "(I)Z"⟩, 22), (⟨"DrillCountModel", "canBe", "(II)Z"⟩, 22), (⟨"DrillCountModel", "isCategory", "(I)Z"⟩, 22), (⟨"DrillCountModel", "level", "(I)I"⟩, 22), (⟨"DrillCountModel", "isIn", "(II)Z"⟩, 22), (⟨"DrillCountModel", "owns", "()V"⟩, 22), (⟨"DrillCountModel", "isThere", "(I)Z"⟩, 22), (⟨"DrillCountModel", "isNumber", "(I)Z"⟩, 22), (⟨"DrillCountModel", "isNumbered", "(II)Z"⟩, 22), (⟨"DrillCountModel", "keeps", "()V"⟩, 22), (⟨"DrillCountModel", "copies", "(II)V"⟩, 22), (⟨"DrillCountModel", "isOpen", "(II)Z"⟩, 22), (⟨"DrillCountModel", "opens", "(II)V"⟩, 22)]
theorem lw_r2 : ∀ q ∈ lw_privs_2, lw_okq q := List.forall_mem_cons.mpr ⟨lw_p16, List.forall_mem_cons.mpr ⟨lw_p17, List.forall_mem_cons.mpr ⟨lw_p18, List.forall_mem_cons.mpr ⟨lw_p19, List.forall_mem_cons.mpr ⟨lw_p20, List.forall_mem_cons.mpr ⟨lw_p21, List.forall_mem_cons.mpr ⟨lw_p22, List.forall_mem_cons.mpr ⟨lw_p23, List.forall_mem_cons.mpr ⟨lw_p24, List.forall_mem_cons.mpr ⟨lw_p25, List.forall_mem_cons.mpr ⟨lw_p26, List.forall_mem_cons.mpr ⟨lw_p27, List.forall_mem_cons.mpr ⟨lw_p28, List.forall_mem_cons.mpr ⟨lw_p29, List.forall_mem_cons.mpr ⟨lw_p30, List.forall_mem_cons.mpr ⟨lw_p31, fun _ h => absurd h List.not_mem_nil⟩⟩⟩⟩⟩⟩⟩⟩⟩⟩⟩⟩⟩⟩⟩⟩
theorem lw_p32 : lw_okq (⟨"DrillCountModel", "isNear", "(III)Z"⟩, 22) := ⟨⟨by decide +kernel, by decide +kernel⟩, List.mem_of_getElem? (i := 853) (by decide +kernel), List.mem_of_getElem? (i := 1054) (by decide +kernel), List.mem_of_getElem? (i := 1055) (by decide +kernel)⟩
theorem lw_p33 : lw_okq (⟨"DrillCountModel", "passes", "(III)Z"⟩, 22) := ⟨⟨by decide +kernel, by decide +kernel⟩, List.mem_of_getElem? (i := 853) (by decide +kernel), List.mem_of_getElem? (i := 1058) (by decide +kernel), List.mem_of_getElem? (i := 1059) (by decide +kernel)⟩
theorem lw_p34 : lw_okq (⟨"DrillCountModel", "hasIt", "(II)Z"⟩, 22) := ⟨⟨by decide +kernel, by decide +kernel⟩, List.mem_of_getElem? (i := 853) (by decide +kernel), List.mem_of_getElem? (i := 1062) (by decide +kernel), List.mem_of_getElem? (i := 1063) (by decide +kernel)⟩
theorem lw_p35 : lw_okq (⟨"DrillCountModel", "isMissing", "(II)Z"⟩, 22) := ⟨⟨by decide +kernel, by decide +kernel⟩, List.mem_of_getElem? (i := 853) (by decide +kernel), List.mem_of_getElem? (i := 1066) (by decide +kernel), List.mem_of_getElem? (i := 1067) (by decide +kernel)⟩
theorem lw_p36 : lw_okq (⟨"DrillCountModel", "isRanged", "(III)Z"⟩, 22) := ⟨⟨by decide +kernel, by decide +kernel⟩, List.mem_of_getElem? (i := 853) (by decide +kernel), List.mem_of_getElem? (i := 1070) (by decide +kernel), List.mem_of_getElem? (i := 1071) (by decide +kernel)⟩
theorem lw_p37 : lw_okq (⟨"DrillCountModel", "passedBy", "(I)I"⟩, 22) := ⟨⟨by decide +kernel, by decide +kernel⟩, List.mem_of_getElem? (i := 853) (by decide +kernel), List.mem_of_getElem? (i := 1074) (by decide +kernel), List.mem_of_getElem? (i := 1075) (by decide +kernel)⟩
theorem lw_p38 : lw_okq (⟨"DrillCountModel", "placeOf", "(I)I"⟩, 22) := ⟨⟨by decide +kernel, by decide +kernel⟩, List.mem_of_getElem? (i := 853) (by decide +kernel), List.mem_of_getElem? (i := 1078) (by decide +kernel), List.mem_of_getElem? (i := 1079) (by decide +kernel)⟩
theorem lw_p39 : lw_okq (⟨"DrillCountModel", "orders", "()V"⟩, 22) := ⟨⟨by decide +kernel, by decide +kernel⟩, List.mem_of_getElem? (i := 853) (by decide +kernel), List.mem_of_getElem? (i := 1082) (by decide +kernel), List.mem_of_getElem? (i := 1083) (by decide +kernel)⟩
theorem lw_p40 : lw_okq (⟨"DrillCountModel", "isAhead", "(II)Z"⟩, 22) := ⟨⟨by decide +kernel, by decide +kernel⟩, List.mem_of_getElem? (i := 853) (by decide +kernel), List.mem_of_getElem? (i := 1086) (by decide +kernel), List.mem_of_getElem? (i := 1087) (by decide +kernel)⟩
theorem lw_p41 : lw_okq (⟨"DrillCountModel", "shownOf", "(I)I"⟩, 22) := ⟨⟨by decide +kernel, by decide +kernel⟩, List.mem_of_getElem? (i := 853) (by decide +kernel), List.mem_of_getElem? (i := 1110) (by decide +kernel), List.mem_of_getElem? (i := 1111) (by decide +kernel)⟩
theorem lw_p42 : lw_okq (⟨"DrillCountModel", "counts", "(II)Z"⟩, 22) := ⟨⟨by decide +kernel, by decide +kernel⟩, List.mem_of_getElem? (i := 853) (by decide +kernel), List.mem_of_getElem? (i := 1114) (by decide +kernel), List.mem_of_getElem? (i := 1115) (by decide +kernel)⟩
theorem lw_p43 : lw_okq (⟨"DrillCountModel", "lifted", "(I)I"⟩, 22) := ⟨⟨by decide +kernel, by decide +kernel⟩, List.mem_of_getElem? (i := 853) (by decide +kernel), List.mem_of_getElem? (i := 1118) (by decide +kernel), List.mem_of_getElem? (i := 1119) (by decide +kernel)⟩
theorem lw_p44 : lw_okq (⟨"DrillCountModel", "hitsBy", "(I)I"⟩, 22) := ⟨⟨by decide +kernel, by decide +kernel⟩, List.mem_of_getElem? (i := 853) (by decide +kernel), List.mem_of_getElem? (i := 1130) (by decide +kernel), List.mem_of_getElem? (i := 1131) (by decide +kernel)⟩
theorem lw_p45 : lw_okq (⟨"DrillCountModel", "ownOf", "(I)I"⟩, 22) := ⟨⟨by decide +kernel, by decide +kernel⟩, List.mem_of_getElem? (i := 853) (by decide +kernel), List.mem_of_getElem? (i := 1142) (by decide +kernel), List.mem_of_getElem? (i := 1143) (by decide +kernel)⟩
theorem lw_p46 : lw_okq (⟨"DrillCountModel", "isLeaf", "(I)Z"⟩, 22) := ⟨⟨by decide +kernel, by decide +kernel⟩, List.mem_of_getElem? (i := 853) (by decide +kernel), List.mem_of_getElem? (i := 1150) (by decide +kernel), List.mem_of_getElem? (i := 1151) (by decide +kernel)⟩
theorem lw_p47 : lw_okq (⟨"DrillCountModel", "isCut", "(II)Z"⟩, 22) := ⟨⟨by decide +kernel, by decide +kernel⟩, List.mem_of_getElem? (i := 853) (by decide +kernel), List.mem_of_getElem? (i := 1158) (by decide +kernel), List.mem_of_getElem? (i := 1159) (by decide +kernel)⟩
def lw_privs_3 : List (MethodName × Nat) := [(⟨"DrillCountModel", "isNear", "(III)Z"⟩, 22), (⟨"DrillCountModel", "passes", "(III)Z"⟩, 22), (⟨"DrillCountModel", "hasIt", "(II)Z"⟩, 22), (⟨"DrillCountModel", "isMissing", "(II)Z"⟩, 22), (⟨"DrillCountModel", "isRanged", "(III)Z"⟩, 22), (⟨"DrillCountModel", "passedBy", "(I)I"⟩, 22), (⟨"DrillCountModel", "placeOf", "(I)I"⟩, 22), (⟨"DrillCountModel", "orders", "()V"⟩, 22), (⟨"DrillCountModel", "isAhead", "(II)Z"⟩, 22), (⟨"DrillCountModel", "shownOf", "(I)I"⟩, 22), (⟨"DrillCountModel", "counts", "(II)Z"⟩, 22), (⟨"DrillCountModel", "lifted", "(I)I"⟩, 22), (⟨"DrillCountModel", "hitsBy", "(I)I"⟩, 22), (⟨"DrillCountModel", "ownOf", "(I)I"⟩, 22), (⟨"DrillCountModel", "isLeaf", "(I)Z"⟩, 22), (⟨"DrillCountModel", "isCut", "(II)Z"⟩, 22)]
theorem lw_r3 : ∀ q ∈ lw_privs_3, lw_okq q := List.forall_mem_cons.mpr ⟨lw_p32, List.forall_mem_cons.mpr ⟨lw_p33, List.forall_mem_cons.mpr ⟨lw_p34, List.forall_mem_cons.mpr ⟨lw_p35, List.forall_mem_cons.mpr ⟨lw_p36, List.forall_mem_cons.mpr ⟨lw_p37, List.forall_mem_cons.mpr ⟨lw_p38, List.forall_mem_cons.mpr ⟨lw_p39, List.forall_mem_cons.mpr ⟨lw_p40, List.forall_mem_cons.mpr ⟨lw_p41, List.forall_mem_cons.mpr ⟨lw_p42, List.forall_mem_cons.mpr ⟨lw_p43, List.forall_mem_cons.mpr ⟨lw_p44, List.forall_mem_cons.mpr ⟨lw_p45, List.forall_mem_cons.mpr ⟨lw_p46, List.forall_mem_cons.mpr ⟨lw_p47, fun _ h => absurd h List.not_mem_nil⟩⟩⟩⟩⟩⟩⟩⟩⟩⟩⟩⟩⟩⟩⟩⟩
theorem lw_p48 : lw_okq (⟨"DrillCountModel", "binsOf", "(II)I"⟩, 22) := ⟨⟨by decide +kernel, by decide +kernel⟩, List.mem_of_getElem? (i := 853) (by decide +kernel), List.mem_of_getElem? (i := 1162) (by decide +kernel), List.mem_of_getElem? (i := 1163) (by decide +kernel)⟩
theorem lw_p49 : lw_okq (⟨"DrillCountModel", "numbersOf", "(II)V"⟩, 22) := ⟨⟨by decide +kernel, by decide +kernel⟩, List.mem_of_getElem? (i := 853) (by decide +kernel), List.mem_of_getElem? (i := 1166) (by decide +kernel), List.mem_of_getElem? (i := 1167) (by decide +kernel)⟩
theorem lw_p50 : lw_okq (⟨"DrillCountModel", "rowsBy", "(I)I"⟩, 22) := ⟨⟨by decide +kernel, by decide +kernel⟩, List.mem_of_getElem? (i := 853) (by decide +kernel), List.mem_of_getElem? (i := 1178) (by decide +kernel), List.mem_of_getElem? (i := 1179) (by decide +kernel)⟩
theorem lw_p51 : lw_okq (⟨"DrillCountModel", "tells", "(I)V"⟩, 22) := ⟨⟨by decide +kernel, by decide +kernel⟩, List.mem_of_getElem? (i := 853) (by decide +kernel), List.mem_of_getElem? (i := 1186) (by decide +kernel), List.mem_of_getElem? (i := 1187) (by decide +kernel)⟩
theorem lw_p52 : lw_okq (⟨"DrillCountModel", "aheadOf", "(I)I"⟩, 22) := ⟨⟨by decide +kernel, by decide +kernel⟩, List.mem_of_getElem? (i := 853) (by decide +kernel), List.mem_of_getElem? (i := 1190) (by decide +kernel), List.mem_of_getElem? (i := 1191) (by decide +kernel)⟩
theorem lw_p53 : lw_okq (⟨"DrillCountModel", "isCertain", "(III)Z"⟩, 22) := ⟨⟨by decide +kernel, by decide +kernel⟩, List.mem_of_getElem? (i := 853) (by decide +kernel), List.mem_of_getElem? (i := 1201) (by decide +kernel), List.mem_of_getElem? (i := 1202) (by decide +kernel)⟩
theorem lw_p54 : lw_okq (⟨"DrillCountModel", "bestBelow", "(II)I"⟩, 22) := ⟨⟨by decide +kernel, by decide +kernel⟩, List.mem_of_getElem? (i := 853) (by decide +kernel), List.mem_of_getElem? (i := 1209) (by decide +kernel), List.mem_of_getElem? (i := 1210) (by decide +kernel)⟩
theorem lw_p55 : lw_okq (⟨"DrillCountModel", "coverers", "(I)I"⟩, 22) := ⟨⟨by decide +kernel, by decide +kernel⟩, List.mem_of_getElem? (i := 853) (by decide +kernel), List.mem_of_getElem? (i := 1224) (by decide +kernel), List.mem_of_getElem? (i := 1225) (by decide +kernel)⟩
theorem lw_p56 : lw_okq (⟨"DrillCountModel", "bestCover", "(II)I"⟩, 22) := ⟨⟨by decide +kernel, by decide +kernel⟩, List.mem_of_getElem? (i := 853) (by decide +kernel), List.mem_of_getElem? (i := 1228) (by decide +kernel), List.mem_of_getElem? (i := 1229) (by decide +kernel)⟩
theorem lw_p57 : lw_okq (⟨"DrillCountModel", "isCovered", "(III)Z"⟩, 22) := ⟨⟨by decide +kernel, by decide +kernel⟩, List.mem_of_getElem? (i := 853) (by decide +kernel), List.mem_of_getElem? (i := 1238) (by decide +kernel), List.mem_of_getElem? (i := 1239) (by decide +kernel)⟩
theorem lw_p58 : lw_okq (⟨"DrillCountModel", "alikeOf", "(II)I"⟩, 22) := ⟨⟨by decide +kernel, by decide +kernel⟩, List.mem_of_getElem? (i := 853) (by decide +kernel), List.mem_of_getElem? (i := 1250) (by decide +kernel), List.mem_of_getElem? (i := 1251) (by decide +kernel)⟩
theorem lw_p59 : lw_okq (⟨"DrillCountModel", "numberedAt", "(I)I"⟩, 22) := ⟨⟨by decide +kernel, by decide +kernel⟩, List.mem_of_getElem? (i := 853) (by decide +kernel), List.mem_of_getElem? (i := 1270) (by decide +kernel), List.mem_of_getElem? (i := 1271) (by decide +kernel)⟩
def lw_privs_4 : List (MethodName × Nat) := [(⟨"DrillCountModel", "binsOf", "(II)I"⟩, 22), (⟨"DrillCountModel", "numbersOf", "(II)V"⟩, 22), (⟨"DrillCountModel", "rowsBy", "(I)I"⟩, 22), (⟨"DrillCountModel", "tells", "(I)V"⟩, 22), (⟨"DrillCountModel", "aheadOf", "(I)I"⟩, 22), (⟨"DrillCountModel", "isCertain", "(III)Z"⟩, 22), (⟨"DrillCountModel", "bestBelow", "(II)I"⟩, 22), (⟨"DrillCountModel", "coverers", "(I)I"⟩, 22), (⟨"DrillCountModel", "bestCover", "(II)I"⟩, 22), (⟨"DrillCountModel", "isCovered", "(III)Z"⟩, 22), (⟨"DrillCountModel", "alikeOf", "(II)I"⟩, 22), (⟨"DrillCountModel", "numberedAt", "(I)I"⟩, 22)]
theorem lw_r4 : ∀ q ∈ lw_privs_4, lw_okq q := List.forall_mem_cons.mpr ⟨lw_p48, List.forall_mem_cons.mpr ⟨lw_p49, List.forall_mem_cons.mpr ⟨lw_p50, List.forall_mem_cons.mpr ⟨lw_p51, List.forall_mem_cons.mpr ⟨lw_p52, List.forall_mem_cons.mpr ⟨lw_p53, List.forall_mem_cons.mpr ⟨lw_p54, List.forall_mem_cons.mpr ⟨lw_p55, List.forall_mem_cons.mpr ⟨lw_p56, List.forall_mem_cons.mpr ⟨lw_p57, List.forall_mem_cons.mpr ⟨lw_p58, List.forall_mem_cons.mpr ⟨lw_p59, fun _ h => absurd h List.not_mem_nil⟩⟩⟩⟩⟩⟩⟩⟩⟩⟩⟩⟩
def lw_privs : List (MethodName × Nat) := lw_privs_1 ++ (lw_privs_2 ++ (lw_privs_3 ++ (lw_privs_4)))
def lw_tbl : List Cond := k2_sels lw_privs ++ tables_1
theorem lw_privs_ok : ∀ q ∈ lw_privs, lw_okq q := by
  show ∀ q ∈ lw_privs_1 ++ (lw_privs_2 ++ (lw_privs_3 ++ (lw_privs_4))), lw_okq q
  exact List.forall_mem_append.mpr ⟨lw_r1, List.forall_mem_append.mpr ⟨lw_r2, List.forall_mem_append.mpr ⟨lw_r3, lw_r4⟩⟩⟩
/-! ===== BEGIN words of one list among another's, by their places ===== -/
theorem goodIn_r {big : List Cond} (ws : List Cond) (ps : List Nat) (hp : ws = ps.filterMap (fun i => big[i]?)) (h : ws.all goodWord = true) : GoodIn big ws := by
  intro w hw
  have h1 := List.all_eq_true.mp h w hw
  rw [hp] at hw
  obtain ⟨i, -, hi⟩ := List.mem_filterMap.mp hw
  have hm : w ∈ big := by first | exact List.mem_of_getElem? hi | exact List.getElem?_mem hi
  exact ⟨hm, good_of_word h1⟩
theorem goodIn_app {big a b : List Cond} (ha : GoodIn big a) (hb : GoodIn big b) : GoodIn big (a ++ b) := fun w h => (List.mem_append.mp h).elim (ha w) (hb w)
theorem goodIn_ca {big a b : List Cond} {c : Cond} (ha : GoodIn big (c :: a)) (hb : GoodIn big b) : GoodIn big (c :: (a ++ b)) := fun w h => (List.mem_cons.mp h).elim (fun e => ha w (List.mem_cons.mpr (Or.inl e))) (fun h => (List.mem_append.mp h).elim (fun h => ha w (List.mem_cons.mpr (Or.inr h))) (hb w))
theorem goodIn_sub {big ws : List Cond} (hm : ∀ w ∈ ws, w ∈ big) (h : ws.all goodWord = true) : GoodIn big ws := fun w hw => ⟨hm w hw, good_of_word (List.all_eq_true.mp h w hw)⟩
/-! ===== END ===== -/

/-! ===== BEGIN exceptions that leave a method, and their catching by the caller (launches without stack traces) ===== -/
section VXA
/-! The laws vx_back, vx_callV, vx_callS, vx_callSW, vx_throw0, vx_throwS follow proofs of the library, with one case more: JvmDerived/Free/Laws.lean (Back.of_free), Shelf42/LK1.lean (callV, callS), Shelf/KitTraced.lean (throwNew0V, throwNewS). -/
/-- where a method has thrown q: the class by its name, the cell, what was written, the world -/
def vx_T (XC : String → State → State → Prop) (st : State) (q : Addr) (t : State) (mc ms : Nat) (free : Addr → Prop) : Prop :=
  ∃ (E : String) (ce : Cell) (L : List Loc), XC E st t ∧ t.heap[q]? = some ce ∧ ce.vm = .none ∧ st.vm.findClass E = some ce.cls ∧ st.WarmedH t.vm ∧ st.sameButNew ({ t with vm := st.vm } : State) L mc ms ∧ ∀ z ∈ L, free z.base
def vx_Q (Qc : Array Value → State → Outcome → State → Prop) (XC : String → State → State → Prop) (mc ms : Nat) (free : Addr → Prop) : Array Value → State → Outcome → State → Prop := fun a st o t =>
  (Qc a st o t ∧ ∃ L, FrameEnd st o t L mc ms ∧ ∀ q ∈ L, free q.base) ∨ ∃ q, o = .threw q ∧ vx_T XC st q t mc ms free
/-- a callee that returns or throws -/
def vx_Met (l : Launch) (y : MethodName) (ws : List Cond) (rm : Room) (Pc : Array Value → State → Prop) (Qc : Array Value → State → Outcome → State → Prop) (XC : String → State → State → Prop) (mc ms : Nat) (free : Addr → Prop) : Prop :=
  MetFree l y (headSpec ws rm) Pc (fun _ _ _ _ _ => True) (vx_Q Qc XC mc ms free)
def vx_Post (XC : String → State → State → Prop) (mc ms : Nat) (free : Addr → Prop) : Pt → Array Value → Addr → Pt → Prop := fun A a q B =>
  ∃ (g : JFrame) (mk : MethodId) (t : State) (L : List Loc) (E : String) (ce : Cell), B.U.heap = t.heap ∧ B.U.vm = t.vm ∧ XC E (A.U.calling g mk a) t ∧ t.heap[q]? = some ce ∧ ce.vm = .none ∧ A.U.vm.findClass E = some ce.cls ∧ B.locs = A.locs ++ L ∧ (∀ z ∈ L, free z.base) ∧ B.cells = A.cells + mc ∧ B.slots = A.slots + ms
def vx_Back (l : Launch) (R : Room) (p : Program) (e : Env) (below : List Frame) (s : State) (sargs : Array Value) (y : MethodName) (len W9 : Nat)
    (Pre : Pt → Array Value → Prop) (Post : Pt → Array Value → Option Value → Pt → Prop) (PostX : Pt → Array Value → Addr → Pt → Prop) : Prop :=
  ∀ (m : MethodId) (meth : Method) (c : Code) (A : Pt) (g : JFrame) (ig : Instr) (mk : MethodId) (a : Array Value),
    Stand p l e R s m sargs below meth c A.U A.locs A.cells A.slots → g.method = m → g.locals.size = c.maxLocals → decode c.code g.pc = .ok (ig, len) →
    2 * g.monitorRoom + (g.stack.map fun v => v.category).sum ≤ W9 → A.U.methodNamed? y = some mk → Pre A a →
    (∃ (v : Option Value) (B : Pt), Stand p l e R s m sargs below meth c B.U B.locs B.cells B.slots ∧ Post A a v B ∧
      Steps p.tables e below (doInvoke e (A.U.setTop g) [] mk a).1 (B.U.setTop { g with pc := g.pc + len, stack := v.toList ++ g.stack })) ∨
    (∃ (q : Addr) (B : Pt), Stand p l e R s m sargs below meth c B.U B.locs B.cells B.slots ∧ PostX A a q B ∧
      Steps p.tables e below (doInvoke e (A.U.setTop g) [] mk a).1 ((B.U.setTop g).pushFrame (.throwing q)))
section Payer
variable {l : Launch} {R : Room} {p : Program} {e : Env} {below : List Frame} {s : State} {sargs : Array Value} {y : MethodName} {len W9 : Nat}
theorem vx_back {ws : List Cond} {rm : Room} {Pc : Array Value → State → Prop} {Qc : Array Value → State → Outcome → State → Prop} {XC : String → State → State → Prop} {mc ms : Nat} {free : Addr → Prop} {bytes : ByteArray} {maxL : Nat} {ret : Option FieldType}
    (hM : vx_Met l y ws rm Pc Qc XC mc ms free) (hblind : FrameBlind Pc) (hrc : rm.cells = mc) (hrs : rm.slots = ms)
    (hframes : rm.frames + 1 ≤ R.frames) (hlocals : W9 + (maxL + 11) + rm.locals ≤ R.locals)
    (hws : ∀ w ∈ ws, ∀ a' U, s.WarmedH U.vm → w.before a' U = true) (hcode : Cond.code y bytes maxL ret ∈ ws) (hinit : ∀ a' U, s.WarmedH U.vm → (Cond.initialized y.cls).before a' U = true) :
    vx_Back l R p e below s sargs y len W9 (PreOf R mc ms Pc) (PostOf Qc mc ms free) (vx_Post XC mc ms free) := by
  intro m meth c A g ig mk a X hg hsize hdg hW hn hp
  have h1 : (headSpec ws rm).pre.before a A.U = true := atoms_intro fun w hw => hws w hw _ _ X.warmed
  have h2 : (Cond.code y bytes maxL ret).before a A.U = true := hws _ hcode _ _ X.warmed
  have h3 : (Cond.initialized y.cls).before a A.U = true := hinit _ _ X.warmed
  have h4 : A.cells + (headSpec ws rm).room.cells ≤ R.cells := by rw [show (headSpec ws rm).room.cells = mc from hrc]; exact hp.1
  have h5 : A.slots + (headSpec ws rm).room.slots ≤ R.slots := by rw [show (headSpec ws rm).room.slots = ms from hrs]; exact hp.2.1
  have hPc : Pc a (A.U.calling g mk a) := hblind _ _ _ _ hp.2.2
  obtain ⟨U, Ls, c0, s0⟩ := A
  dsimp only [Pt.U, Pt.locs, Pt.cells, Pt.slots] at h1 h2 h3 h4 h5 X hn hPc ⊢
  obtain ⟨methY, cY, hmY, hcY, -, hlY, -, -, -, -⟩ := Cond.code_spec hn h2
  obtain ⟨kY, hkY, -⟩ := className_of_methodNamed hn
  have hinitY : kY.init = .initialized := Cond.initialized_spec (findClass_of_methodNamed hn) hkY h3
  have h : At U g.method c below := by rw [hg]; exact X.here
  have hlocals9 : W9 + (maxL + 11) + (headSpec ws rm).room.locals ≤ R.locals := hlocals
  have happ : (headSpec ws rm).appliesLoose y e.platform (U.calling g mk a) = true :=
    Spec.appliesLoose_calling (g := g) h hdg hn hkY hinitY
      (X.room_calling (g := g) (R' := (headSpec ws rm).room) hsize hmY hcY hframes (by rw [hlY]; omega) h4 h5) h1
  obtain ⟨mid, hmid⟩ := h.above
  have hfr : (U.setTop g).frames = (.java g :: mid) ++ below := by rw [State.frames_setTop' g h.top, hmid]; rfl
  obtain ⟨o, s₂, hsteps, -, hend, hq⟩ := Steps.callFree hM p X.admits X.cas X.clock (acts := []) hfr happ hPc trivial
  have hq' : vx_Q Qc XC mc ms free a (U.calling g mk a) o s₂ := hq
  rw [State.frames_setTop' g h.top] at hend
  obtain ⟨g₀, hg0⟩ := Option.isSome_iff_exists.mp h.top
  obtain ⟨r, hr⟩ := State.topJava?_eq_some.mp hg0
  have hr' : (({ U with heap := s₂.heap, slotsUsed := s₂.slotsUsed } : State).setVm s₂.vm).frames = .java g₀ :: r := hr
  rcases hq' with ⟨hqc, L, hfe, hL⟩ | ⟨q, rfl, E, ce, L, hx, hce, hcv, hcl, hW₂, hsm, hL⟩
  · obtain ⟨⟨v, rfl⟩, hW₂, e2, q2, q3, q4, q5, q6⟩ := id hfe
    have e3 : s₂ = ({ (U.calling g mk a).setFrames s₂.frames with heap := s₂.heap, slotsUsed := s₂.slotsUsed } : State).setVm s₂.vm := by
      have : s₂ = ({ s₂ with vm := (U.calling g mk a).vm } : State).setVm s₂.vm := rfl
      rw [e2] at this
      exact this
    obtain ⟨c₂, i₂, len₂, hc₂, hd₂, hf₂⟩ := hend
    have hW' : U.WarmedH s₂.vm := hW₂
    have hcc : c₂ = c := by
      have h1 : s₂.code? g.method = U.code? g.method := by
        rw [State.code?_eq, State.code?_eq, hW'.alike.method?]
      exact Option.some.inj (hc₂.symm.trans (h1.trans h.code))
    subst hcc
    have hlen : len₂ = len := by rw [hdg] at hd₂; cases hd₂; rfl
    subst hlen
    have hs₂ : s₂ = (({ U with heap := s₂.heap, slotsUsed := s₂.slotsUsed } : State).setVm s₂.vm).setTop { g with pc := g.pc + len₂, stack := v.toList ++ g.stack } := by
      refine e3.trans ?_
      rw [hf₂, State.calling_eq h.top, State.setFrames_setFrames, State.setTop_of_frames _ hr', hr]
      rfl
    have hsame : U.sameButNew ({ U with heap := s₂.heap, slotsUsed := s₂.slotsUsed } : State) L mc ms := by
      refine ⟨?_, q2, q3, q4, q5, q6⟩
      obtain ⟨t, ht, -⟩ := State.frames_cons hr
      show ({ U with heap := s₂.heap, slotsUsed := s₂.slotsUsed } : State) = { U.setFrames U.frames with heap := s₂.heap, slotsUsed := s₂.slotsUsed }
      rw [State.setFrames_self ht]
    subst hg
    refine Or.inl ⟨v, ⟨(({ U with heap := s₂.heap, slotsUsed := s₂.slotsUsed } : State).setVm s₂.vm), Ls ++ L, c0 + mc, s0 + ms⟩,
      ⟨X.admits, X.cas, X.clock, X.frames, X.room, X.hears, X.method, X.code, (X.here.setHeapUsed s₂.heap s₂.slotsUsed).setVm hW'.alike, X.tail, State.WarmedH.trans X.warmed hW', X.limits, X.bytes, X.same.trans (hsame.setVm s.vm)⟩,
      ⟨g, mk, s₂, L, rfl, rfl, hqc, rfl, hL, rfl, rfl⟩, ?_⟩
    show Steps p.tables e below _ ((({ U with heap := s₂.heap, slotsUsed := s₂.slotsUsed } : State).setVm s₂.vm).setTop { g with pc := g.pc + len₂, stack := v.toList ++ g.stack })
    rw [← hs₂]
    exact hsteps
  · obtain ⟨e2, q2, q3, q4, q5, q6⟩ := id hsm
    have e3 : s₂ = ({ (U.calling g mk a).setFrames s₂.frames with heap := s₂.heap, slotsUsed := s₂.slotsUsed } : State).setVm s₂.vm := by
      have : s₂ = ({ s₂ with vm := (U.calling g mk a).vm } : State).setVm s₂.vm := rfl
      rw [e2] at this
      exact this
    have hf₂ : s₂.frames = .throwing q :: .java g :: U.frames.tail := hend
    have hW' : U.WarmedH s₂.vm := hW₂
    have hs₂ : s₂ = ((({ U with heap := s₂.heap, slotsUsed := s₂.slotsUsed } : State).setVm s₂.vm).setTop g).pushFrame (.throwing q) := by
      refine e3.trans ?_
      rw [hf₂, State.calling_eq h.top, State.setFrames_setFrames, State.pushFrame, State.frames_setTop _ hr', State.setTop_of_frames _ hr', State.setFrames_setFrames, hr]
      rfl
    have hsame : U.sameButNew ({ U with heap := s₂.heap, slotsUsed := s₂.slotsUsed } : State) L mc ms := by
      refine ⟨?_, q2, q3, q4, q5, q6⟩
      obtain ⟨t, ht, -⟩ := State.frames_cons hr
      show ({ U with heap := s₂.heap, slotsUsed := s₂.slotsUsed } : State) = { U.setFrames U.frames with heap := s₂.heap, slotsUsed := s₂.slotsUsed }
      rw [State.setFrames_self ht]
    subst hg
    refine Or.inr ⟨q, ⟨(({ U with heap := s₂.heap, slotsUsed := s₂.slotsUsed } : State).setVm s₂.vm), Ls ++ L, c0 + mc, s0 + ms⟩,
      ⟨X.admits, X.cas, X.clock, X.frames, X.room, X.hears, X.method, X.code, (X.here.setHeapUsed s₂.heap s₂.slotsUsed).setVm hW'.alike, X.tail, State.WarmedH.trans X.warmed hW', X.limits, X.bytes, X.same.trans (hsame.setVm s.vm)⟩,
      ⟨g, mk, s₂, L, E, ce, rfl, rfl, hx, hce, hcv, hcl, rfl, hL, rfl, rfl⟩, ?_⟩
    show Steps p.tables e below _ (((({ U with heap := s₂.heap, slotsUsed := s₂.slotsUsed } : State).setVm s₂.vm).setTop g).pushFrame (.throwing q))
    rw [← hs₂]
    exact hsteps
end Payer
section Calls
variable {p : Program} {l : Launch} {e : Env} {R : Room} {s : State} {m : MethodId} {args : Array Value} {below : List Frame} {meth : Method} {c : Code} {T : State} {locs : List Loc} {cells slots : Nat}
theorem vx_callV (X : Stand p l e R s m args below meth c T locs cells slots) (hexec : p.tables.exec = Jvm.exec) {own C : String} {index : Nat} {y : MethodName} {bytes : ByteArray} {maxL : Nat} {ret : Option FieldType}
    (hown : s.vm.findClass own = some m.cls) (hlink : (Cond.methodLink own index y).before args s = true) (hinst : (Cond.instanceMethod y).before args s = true) (hsel : (Cond.selects C y y).before args s = true)
    (hcode : (Cond.code y bytes maxL ret).before args s = true) (hy : y.cls ≠ "java/lang/invoke/MethodHandle" ∧ y.cls ≠ "java/lang/invoke/VarHandle")
    {W9 : Nat} {Pre : Pt → Array Value → Prop} {Post : Pt → Array Value → Option Value → Pt → Prop} {PostX : Pt → Array Value → Addr → Pt → Prop} (hK : vx_Back l R p e below s args y 3 W9 Pre Post PostX)
    {b : Addr} {cellB : Cell} (hcell : T.heap[b]? = some cellB) (hobj : cellB.vm.isStatics = false) (hcls : s.vm.findClass C = some cellB.cls)
    {g : JFrame} (hg : g.method = m) (hsize : g.locals.size = c.maxLocals) {argsL rest : List Value} (hlen : ∀ sig, parseMethodDescriptor y.desc = some sig → argsL.length = sig.parameters.length)
    (hstack : g.stack = argsL.reverse ++ .ref b :: rest) (hW : 2 * g.monitorRoom + (rest.map fun v => v.category).sum ≤ W9) (hdg : decode c.code g.pc = .ok (.invokevirtual index, 3))
    (hpre : ∀ vm₁, s.WarmedH vm₁ → Pre ⟨T.setVm vm₁, locs, cells, slots⟩ (Value.ref b :: argsL).toArray) :
    (∃ (v : Option Value) (vm₁ : Vm) (B : Pt), s.WarmedH vm₁ ∧ Stand p l e R s m args below meth c B.U B.locs B.cells B.slots ∧ Post ⟨T.setVm vm₁, locs, cells, slots⟩ (Value.ref b :: argsL).toArray v B ∧
      ∀ target, Steps p.tables e below (B.U.setTop { g with pc := g.pc + 3, stack := v.toList ++ rest }) target → Steps p.tables e below (T.setTop g) target) ∨
    (∃ (q : Addr) (vm₁ : Vm) (B : Pt), s.WarmedH vm₁ ∧ Stand p l e R s m args below meth c B.U B.locs B.cells B.slots ∧ PostX ⟨T.setVm vm₁, locs, cells, slots⟩ (Value.ref b :: argsL).toArray q B ∧
      Steps p.tables e below (T.setTop g) ((B.U.setTop { g with stack := rest }).pushFrame (.throwing q))) := by
  obtain ⟨mk, methM, hnamed, hmethM, hstM, habM⟩ := Cond.instanceMethod_spec hinst
  obtain ⟨methM', cM, hmethM', -, -, -, -, -, -, hsigM⟩ := Cond.code_spec hnamed hcode
  cases hmethM.symm.trans hmethM'
  obtain ⟨c2, r2, m2, q1, q2, q3, q4, kP, hkP, hkPi⟩ := Cond.selects_spec hsel
  cases hcls.symm.trans q1
  cases (State.methodFound?_of_named hnamed hy).symm.trans q2
  cases hnamed.symm.trans q3
  have hselP : selectMethod e.platform s.vm cellB.cls mk = .method mk := by rw [Launch.admits_selectMethod X.admits]; exact q4
  obtain ⟨vm₁, X₁, hstep₁⟩ := X.invokevirtual hexec hown hlink hnamed hmethM hstM hkP hkPi hy (a := b) (cell := cellB) hcell
    (fun z h => by rw [h] at hobj; cases hobj) hselP hmethM habM hkP hkPi (g := g) hg (argsL := argsL) (rest := rest) (hlen _ hsigM) hstack hdg
  rcases hK m meth c ⟨T.setVm vm₁, locs, cells, slots⟩ { g with stack := rest } (.invokevirtual index) mk (Value.ref b :: argsL).toArray X₁ hg hsize hdg hW (X₁.named hnamed) (hpre vm₁ X₁.warmed) with ⟨v, B, X', hpost, hsteps⟩ | ⟨q, B, X', hpost, hsteps⟩
  · exact Or.inl ⟨v, vm₁, B, X₁.warmed, X', hpost, fun target h => hstep₁ _ fun acts => by rw [doInvoke_state]; exact hsteps.trans h⟩
  · exact Or.inr ⟨q, vm₁, B, X₁.warmed, X', hpost, hstep₁ _ fun acts => by rw [doInvoke_state]; exact hsteps⟩
theorem vx_callS (X : Stand p l e R s m args below meth c T locs cells slots) (hexec : p.tables.exec = Jvm.exec) {own : String} {index : Nat} {y : MethodName} {bytes : ByteArray} {maxL : Nat} {ret : Option FieldType}
    (hown : s.vm.findClass own = some m.cls) (hlink : (Cond.methodLink own index y).before args s = true) (hstat : (Cond.static y).before args s = true) (hinit : (Cond.initialized y.cls).before args s = true)
    (hcode : (Cond.code y bytes maxL ret).before args s = true) (hy : y.cls ≠ "java/lang/invoke/MethodHandle" ∧ y.cls ≠ "java/lang/invoke/VarHandle")
    {W9 : Nat} {Pre : Pt → Array Value → Prop} {Post : Pt → Array Value → Option Value → Pt → Prop} {PostX : Pt → Array Value → Addr → Pt → Prop} (hK : vx_Back l R p e below s args y 3 W9 Pre Post PostX)
    {g : JFrame} (hg : g.method = m) (hsize : g.locals.size = c.maxLocals) {argsL rest : List Value} (hlen : ∀ sig, parseMethodDescriptor y.desc = some sig → argsL.length = sig.parameters.length)
    (hstack : g.stack = argsL.reverse ++ rest) (hW : 2 * g.monitorRoom + (rest.map fun v => v.category).sum ≤ W9) (hdg : decode c.code g.pc = .ok (.invokestatic index, 3))
    (hpre : ∀ vm₁, s.WarmedH vm₁ → Pre ⟨T.setVm vm₁, locs, cells, slots⟩ argsL.toArray) :
    (∃ (v : Option Value) (vm₁ : Vm) (B : Pt), s.WarmedH vm₁ ∧ Stand p l e R s m args below meth c B.U B.locs B.cells B.slots ∧ Post ⟨T.setVm vm₁, locs, cells, slots⟩ argsL.toArray v B ∧
      ∀ target, Steps p.tables e below (B.U.setTop { g with pc := g.pc + 3, stack := v.toList ++ rest }) target → Steps p.tables e below (T.setTop g) target) ∨
    (∃ (q : Addr) (vm₁ : Vm) (B : Pt), s.WarmedH vm₁ ∧ Stand p l e R s m args below meth c B.U B.locs B.cells B.slots ∧ PostX ⟨T.setVm vm₁, locs, cells, slots⟩ argsL.toArray q B ∧
      Steps p.tables e below (T.setTop g) ((B.U.setTop { g with stack := rest }).pushFrame (.throwing q))) := by
  obtain ⟨mk, hnamed⟩ := Cond.code_named hcode
  obtain ⟨methM, cM, hmethM, -, -, -, -, -, -, hsigM⟩ := Cond.code_spec hnamed hcode
  have hstatic : methM.isStatic = true := Cond.static_spec hnamed hmethM hstat
  obtain ⟨kP, hkP, -⟩ := className_of_methodNamed hnamed
  have hinitP : kP.init = .initialized := Cond.initialized_spec (findClass_of_methodNamed hnamed) hkP hinit
  obtain ⟨vm₁, X₁, hstep₁⟩ := X.invokestatic hexec hown hlink hnamed hmethM hstatic hkP hinitP hy (g := g) hg (argsL := argsL) (rest := rest) (hlen _ hsigM) hstack hdg
  rcases hK m meth c ⟨T.setVm vm₁, locs, cells, slots⟩ { g with stack := rest } (.invokestatic index) mk argsL.toArray X₁ hg hsize hdg hW (X₁.named hnamed) (hpre vm₁ X₁.warmed) with ⟨v, B, X', hpost, hsteps⟩ | ⟨q, B, X', hpost, hsteps⟩
  · exact Or.inl ⟨v, vm₁, B, X₁.warmed, X', hpost, fun target h => hstep₁ _ fun acts => by rw [doInvoke_state]; exact hsteps.trans h⟩
  · exact Or.inr ⟨q, vm₁, B, X₁.warmed, X', hpost, hstep₁ _ fun acts => by rw [doInvoke_state]; exact hsteps⟩
end Calls
theorem vx_cls {s : State} {T : State} {vm₁ : Vm} {E : String} {k : ClassId} (hW : s.WarmedH vm₁) (h : (T.setVm vm₁).vm.findClass E = some k) : s.vm.findClass E = some k := by
  have h1 : vm₁.findClass E = some k := h
  rw [hW.alike.findClass] at h1
  exact h1
/-- the method's frame g, with q thrown over it -/
def vx_W (p : Program) (l : Launch) (e : Env) (R : Room) (s : State) (m : MethodId) (args : Array Value) (below : List Frame) (meth : Method) (c : Code) (H : Heap) (locs : List Loc) (cells slots : Nat) (Q : State → Prop) (g : JFrame) (q : Addr) : Prop :=
  ∀ T : State, T.heap = H → Stand p l e R s m args below meth c T locs cells slots → ∃ t, Steps p.tables e below ((T.setTop g).pushFrame (.throwing q)) t ∧ Q t
def vx_Run (p : Program) (l : Launch) (e : Env) (R : Room) (s : State) (m : MethodId) (args : Array Value) (below : List Frame) (meth : Method) (c : Code) (H : Heap) (locs : List Loc) (cells slots mc ms : Nat) (g : JFrame) (rest : List Value) (Qa : State → Outcome → State → Prop) (XC : String → State → State → Prop) (free : Addr → Prop) : Prop :=
  ∀ T : State, T.heap = H → Stand p l e R s m args below meth c T locs cells slots →
    (∃ (v : Option Value) (st₀ t T' : State) (L : List Loc), st₀.heap = H ∧ Stand p l e R s m args below meth c T' (locs ++ L) (cells + mc) (slots + ms) ∧ (∀ q ∈ L, free q.base) ∧ T'.heap = t.heap ∧ T'.vm = t.vm ∧ Qa st₀ (.returned v) t ∧
      Goes p e below T g T' { g with pc := g.pc + 3, stack := v.toList ++ rest }) ∨
    (∃ (q : Addr) (st₀ t T' : State) (L : List Loc) (E : String) (ce : Cell), st₀.heap = H ∧ Stand p l e R s m args below meth c T' (locs ++ L) (cells + mc) (slots + ms) ∧ (∀ z ∈ L, free z.base) ∧ T'.heap = t.heap ∧ T'.vm = t.vm ∧ XC E st₀ t ∧ t.heap[q]? = some ce ∧ ce.vm = .none ∧ s.vm.findClass E = some ce.cls ∧
      Steps p.tables e below (T.setTop g) ((T'.setTop { g with stack := rest }).pushFrame (.throwing q)))
def vx_X {S : Type} (px : S → Prop) (B : String → S → State → Prop) (A : Nat → Prop) : String → State → State → Prop := fun E st t => ∃ u : S, px u ∧ B E u t ∧ va_F A st t
section Runs
variable {p : Program} {l : Launch} {e : Env} {R : Room} {s : State} {m : MethodId} {args : Array Value} {below : List Frame} {meth : Method} {c : Code} {H : Heap} {locs : List Loc} {cells slots : Nat}
variable {y : MethodName} {bytes cc : ByteArray} {maxL nL mc ms n index : Nat} {ret : Option FieldType} {ws : List Cond} {rm : Room} {Pc : Array Value → State → Prop} {Qc : Array Value → State → Outcome → State → Prop} {XC : String → State → State → Prop} {free : Addr → Prop} {Ts : List Cond} {own C : String} {b : Addr} {As rest : List Value} {g : JFrame}
theorem vx_callBack (cb : CallB R s args own index y bytes maxL ret ws rm mc ms n) (hM : vx_Met l y ws rm Pc Qc XC mc ms free) (hbl : FrameBlind Pc) : vx_Back l R p e below s args y 3 8 (PreOf R mc ms Pc) (PostOf Qc mc ms free) (vx_Post XC mc ms free) := by
  obtain ⟨hrc, hrs, hfr, hlo, hws, hcw, -, hini, -⟩ := cb
  exact vx_back (bytes := bytes) (maxL := maxL) (ret := ret) hM hbl hrc hrs hfr hlo hws hcw (fun a' U hW => word_at hW (Or.inl (by first | rfl | simp [Cond.onTables, Cond.keeps, Cond.steady])) hini)
theorem vx_runV (S : CallFix p m c cc nL s args Ts own) (hM : vx_Met l y ws rm Pc Qc XC mc ms free) (cw : CallW R s args own C index y bytes maxL ret ws rm mc ms n) (hp : PreV s H C b Pc As)
    (hg : g.method = m) (hn : As.length = n) (hsize : g.locals.size = nL) (hstack : g.stack = As.reverse ++ .ref b :: rest) (hW : 2 * g.monitorRoom + (rest.map fun v => v.category).sum ≤ 8) (hdg : decode cc g.pc = .ok (.invokevirtual index, 3)) (hf : cells + mc ≤ R.cells ∧ slots + ms ≤ R.slots) :
    vx_Run p l e R s m args below meth c H locs cells slots mc ms g rest (Qc (Value.ref b :: As).toArray) XC free := by
  have hK : vx_Back l R p e below s args y 3 8 (PreOf R mc ms Pc) (PostOf Qc mc ms free) (vx_Post XC mc ms free) := vx_callBack cw.1 hM hp.1
  obtain ⟨⟨-, -, -, -, -, -, hcode, -, hy, hlen, hl⟩, hin, hse⟩ := cw
  obtain ⟨hx, hb, hml, ho, -⟩ := S
  obtain ⟨-, ⟨cellB, hcB, hoB, hclB⟩, hPc⟩ := hp
  intro T hT X
  rcases vx_callV X hx (C := C) (bytes := bytes) (maxL := maxL) (ret := ret) ho hl hin hse hcode hy hK (by rw [hT]; exact hcB) hoB hclB hg (hsize.trans hml.symm) (argsL := As) (rest := rest) (fun sig h => hn.trans (hlen sig h)) hstack hW (by rw [hb]; exact hdg)
    (fun vm₁ hW₁ => ⟨hf.1, hf.2, hPc (T.setVm vm₁) hT hW₁⟩) with ⟨v, vm₁, ⟨U', l2, c2, s2⟩, hW₁, X', ⟨g', mk, t, L, e1, e2, hq, h1, hL, h2, h3⟩, st⟩ | ⟨q, vm₁, ⟨U', l2, c2, s2⟩, hW₁, X', ⟨g', mk, t, L, E, ce, e1, e2, hq, hce, hcv, hcl, h1, hL, h2, h3⟩, st⟩
  · dsimp only [Pt.U, Pt.locs, Pt.cells, Pt.slots] at X' e1 e2 h1 h2 h3 st
    subst h1; subst h2; subst h3
    exact Or.inl ⟨v, (T.setVm vm₁).calling g' mk (Value.ref b :: As).toArray, t, U', L, hT, X', hL, e1, e2, hq, st⟩
  · dsimp only [Pt.U, Pt.locs, Pt.cells, Pt.slots] at X' e1 e2 h1 h2 h3 st hcl
    subst h1; subst h2; subst h3
    exact Or.inr ⟨q, (T.setVm vm₁).calling g' mk (Value.ref b :: As).toArray, t, U', L, E, ce, hT, X', hL, e1, e2, hq, hce, hcv, vx_cls hW₁ hcl, st⟩
theorem vx_runS (S : CallFix p m c cc nL s args Ts own) (hM : vx_Met l y ws rm Pc Qc XC mc ms free) (cw : CallB R s args own index y bytes maxL ret ws rm mc ms n ∧ (Cond.static y).before args s = true) (hp : PreS s H Pc As)
    (hg : g.method = m) (hn : As.length = n) (hsize : g.locals.size = nL) (hstack : g.stack = As.reverse ++ rest) (hW : 2 * g.monitorRoom + (rest.map fun v => v.category).sum ≤ 8) (hdg : decode cc g.pc = .ok (.invokestatic index, 3)) (hf : cells + mc ≤ R.cells ∧ slots + ms ≤ R.slots) :
    vx_Run p l e R s m args below meth c H locs cells slots mc ms g rest (Qc As.toArray) XC free := by
  have hK : vx_Back l R p e below s args y 3 8 (PreOf R mc ms Pc) (PostOf Qc mc ms free) (vx_Post XC mc ms free) := vx_callBack cw.1 hM hp.1
  obtain ⟨⟨-, -, -, -, -, -, hcode, hini, hy, hlen, hl⟩, hstt⟩ := cw
  obtain ⟨hx, hb, hml, ho, -⟩ := S
  intro T hT X
  rcases vx_callS X hx (bytes := bytes) (maxL := maxL) (ret := ret) ho hl hstt hini hcode hy hK hg (hsize.trans hml.symm) (argsL := As) (rest := rest) (fun sig h => hn.trans (hlen sig h)) hstack hW (by rw [hb]; exact hdg)
    (fun vm₁ hW₁ => ⟨hf.1, hf.2, hp.2 (T.setVm vm₁) hT hW₁⟩) with ⟨v, vm₁, ⟨U', l2, c2, s2⟩, hW₁, X', ⟨g', mk, t, L, e1, e2, hq, h1, hL, h2, h3⟩, st⟩ | ⟨q, vm₁, ⟨U', l2, c2, s2⟩, hW₁, X', ⟨g', mk, t, L, E, ce, e1, e2, hq, hce, hcv, hcl, h1, hL, h2, h3⟩, st⟩
  · dsimp only [Pt.U, Pt.locs, Pt.cells, Pt.slots] at X' e1 e2 h1 h2 h3 st
    subst h1; subst h2; subst h3
    exact Or.inl ⟨v, (T.setVm vm₁).calling g' mk As.toArray, t, U', L, hT, X', hL, e1, e2, hq, st⟩
  · dsimp only [Pt.U, Pt.locs, Pt.cells, Pt.slots] at X' e1 e2 h1 h2 h3 st hcl
    subst h1; subst h2; subst h3
    exact Or.inr ⟨q, (T.setVm vm₁).calling g' mk As.toArray, t, U', L, E, ce, hT, X', hL, e1, e2, hq, hce, hcv, vx_cls hW₁ hcl, st⟩
end Runs
section Rows
variable {p : Program} {l : Launch} {e : Env} {R : Room} {s : State} {m : MethodId} {args : Array Value} {below : List Frame} {meth : Method} {c : Code} {H : Heap} {locs : List Loc} {cells slots : Nat} {Q : State → Prop}
variable {mc ms : Nat} {free : Addr → Prop} {A0 A1 : Nat → Prop} {H0 : Heap} {a : Array Value} {pc : Nat} {ls : Array Slot} {st0 rest : List Value}
theorem vx_keep {st₀ t T' : State} {L : List Loc} (h0 : st₀.heap = H) (e1 : T'.heap = t.heap) (hS : va_S A0 H0 H locs) (hA : ∀ q, q < H.size → A1 q → A0 q) (hf : ∀ q, free q → A0 q) (hL : ∀ q ∈ L, free q.base) (hF : va_F A1 st₀ t) :
    H.size ≤ T'.heap.size ∧ (∀ q : Nat, q < H.size → ¬ A1 q → T'.heap[q]? = H[q]?) ∧ va_S A0 H0 T'.heap (locs ++ L) := by
  obtain ⟨hz, hk⟩ := hF
  rw [h0] at hz hk
  exact ⟨by rw [e1]; exact hz, fun q h1 h2 => by rw [e1]; exact hk q h1 h2,
    ⟨Nat.le_trans hS.1 (by rw [e1]; exact hz), fun q h1 h2 => by rw [e1, hk q (Nat.lt_of_lt_of_le h1 hS.1) (fun z => h2 (hA q (Nat.lt_of_lt_of_le h1 hS.1) z))]; exact hS.2.1 q h1 h2, fun q hq => by
      rcases List.mem_append.mp hq with h | h
      · exact hS.2.2 q h
      · exact hf _ (hL q h)⟩⟩
theorem vx_calli {S SX : Type} {post : Int32 → S → Prop} {px : SX → Prop} {B : S → State → Prop} {BX : String → SX → State → Prop} {AX : Nat → Prop} (hr : vx_Run p l e R s m args below meth c H locs cells slots mc ms (F0 m pc ls st0) rest (va_Qi post B A1 a) (vx_X px BX AX) free) (hS : va_S A0 H0 H locs) (hA : ∀ q, q < H.size → A1 q → A0 q) (hf : ∀ q, free q → A0 q) (hAX : ∀ q, q < H.size → AX q → A0 q)
    (kx : ∀ (E : String) (ce : Cell) (q9 : Addr) (u : SX) (t : State) (H1 : Heap) (locs1 : List Loc), t.heap = H1 → s.vm.Alike t.vm → px u → BX E u t → H.size ≤ H1.size → (∀ q : Nat, q < H.size → ¬ AX q → H1[q]? = H[q]?) → va_S A0 H0 H1 locs1 → H1[q9]? = some ce → ce.vm = .none → s.vm.findClass E = some ce.cls → vx_W p l e R s m args below meth c H1 locs1 (cells + mc) (slots + ms) Q (F0 m pc ls rest) q9)
    (kk : ∀ (r : Int32) (u : S) (t : State) (H1 : Heap) (locs1 : List Loc), t.heap = H1 → s.vm.Alike t.vm → post r u → B u t → H.size ≤ H1.size → (∀ q : Nat, q < H.size → ¬ A1 q → H1[q]? = H[q]?) → va_S A0 H0 H1 locs1 → W p l e R s m args below meth c H1 locs1 (cells + mc) (slots + ms) Q (F0 m (pc + 3) ls (.int r :: rest))) : W p l e R s m args below meth c H locs cells slots Q (F0 m pc ls st0) := by
  intro T hT X
  rcases hr T hT X with ⟨v, st₀, t, T', L, h0, X', hL, e1, e2, ⟨⟨r, u, hv, hp, hb⟩, hF⟩, st⟩ | ⟨q, st₀, t, T', L, E, ce, h0, X', hL, e1, e2, ⟨u, hp, hb, hF⟩, hce, hcv, hcl, st⟩
  · cases hv
    obtain ⟨k1, k2, k3⟩ := vx_keep h0 e1 hS hA hf hL hF
    obtain ⟨t2, a1, b1⟩ := kk r u t T'.heap (locs ++ L) e1.symm (by rw [← e2]; exact X'.warmed.alike) hp hb k1 k2 k3 T' rfl X'
    exact ⟨t2, st t2 a1, b1⟩
  · obtain ⟨k1, k2, k3⟩ := vx_keep h0 e1 hS hAX hf hL hF
    obtain ⟨t2, a1, b1⟩ := kx E ce q u t T'.heap (locs ++ L) e1.symm (by rw [← e2]; exact X'.warmed.alike) hp hb k1 k2 k3 (by rw [e1]; exact hce) hcv hcl T' rfl X'
    exact ⟨t2, st.trans a1, b1⟩
theorem vx_calll {S SX : Type} {post : Int64 → S → Prop} {px : SX → Prop} {B : S → State → Prop} {BX : String → SX → State → Prop} {AX : Nat → Prop} (hr : vx_Run p l e R s m args below meth c H locs cells slots mc ms (F0 m pc ls st0) rest (va_Ql post B A1 a) (vx_X px BX AX) free) (hS : va_S A0 H0 H locs) (hA : ∀ q, q < H.size → A1 q → A0 q) (hf : ∀ q, free q → A0 q) (hAX : ∀ q, q < H.size → AX q → A0 q)
    (kx : ∀ (E : String) (ce : Cell) (q9 : Addr) (u : SX) (t : State) (H1 : Heap) (locs1 : List Loc), t.heap = H1 → s.vm.Alike t.vm → px u → BX E u t → H.size ≤ H1.size → (∀ q : Nat, q < H.size → ¬ AX q → H1[q]? = H[q]?) → va_S A0 H0 H1 locs1 → H1[q9]? = some ce → ce.vm = .none → s.vm.findClass E = some ce.cls → vx_W p l e R s m args below meth c H1 locs1 (cells + mc) (slots + ms) Q (F0 m pc ls rest) q9)
    (kk : ∀ (r : Int64) (u : S) (t : State) (H1 : Heap) (locs1 : List Loc), t.heap = H1 → s.vm.Alike t.vm → post r u → B u t → H.size ≤ H1.size → (∀ q : Nat, q < H.size → ¬ A1 q → H1[q]? = H[q]?) → va_S A0 H0 H1 locs1 → W p l e R s m args below meth c H1 locs1 (cells + mc) (slots + ms) Q (F0 m (pc + 3) ls (.long r :: rest))) : W p l e R s m args below meth c H locs cells slots Q (F0 m pc ls st0) := by
  intro T hT X
  rcases hr T hT X with ⟨v, st₀, t, T', L, h0, X', hL, e1, e2, ⟨⟨r, u, hv, hp, hb⟩, hF⟩, st⟩ | ⟨q, st₀, t, T', L, E, ce, h0, X', hL, e1, e2, ⟨u, hp, hb, hF⟩, hce, hcv, hcl, st⟩
  · cases hv
    obtain ⟨k1, k2, k3⟩ := vx_keep h0 e1 hS hA hf hL hF
    obtain ⟨t2, a1, b1⟩ := kk r u t T'.heap (locs ++ L) e1.symm (by rw [← e2]; exact X'.warmed.alike) hp hb k1 k2 k3 T' rfl X'
    exact ⟨t2, st t2 a1, b1⟩
  · obtain ⟨k1, k2, k3⟩ := vx_keep h0 e1 hS hAX hf hL hF
    obtain ⟨t2, a1, b1⟩ := kx E ce q u t T'.heap (locs ++ L) e1.symm (by rw [← e2]; exact X'.warmed.alike) hp hb k1 k2 k3 (by rw [e1]; exact hce) hcv hcl T' rfl X'
    exact ⟨t2, st.trans a1, b1⟩
theorem vx_callf {S SX : Type} {post : UInt32 → S → Prop} {px : SX → Prop} {B : S → State → Prop} {BX : String → SX → State → Prop} {AX : Nat → Prop} (hr : vx_Run p l e R s m args below meth c H locs cells slots mc ms (F0 m pc ls st0) rest (va_Qf post B A1 a) (vx_X px BX AX) free) (hS : va_S A0 H0 H locs) (hA : ∀ q, q < H.size → A1 q → A0 q) (hf : ∀ q, free q → A0 q) (hAX : ∀ q, q < H.size → AX q → A0 q)
    (kx : ∀ (E : String) (ce : Cell) (q9 : Addr) (u : SX) (t : State) (H1 : Heap) (locs1 : List Loc), t.heap = H1 → s.vm.Alike t.vm → px u → BX E u t → H.size ≤ H1.size → (∀ q : Nat, q < H.size → ¬ AX q → H1[q]? = H[q]?) → va_S A0 H0 H1 locs1 → H1[q9]? = some ce → ce.vm = .none → s.vm.findClass E = some ce.cls → vx_W p l e R s m args below meth c H1 locs1 (cells + mc) (slots + ms) Q (F0 m pc ls rest) q9)
    (kk : ∀ (r : UInt32) (u : S) (t : State) (H1 : Heap) (locs1 : List Loc), t.heap = H1 → s.vm.Alike t.vm → post r u → B u t → H.size ≤ H1.size → (∀ q : Nat, q < H.size → ¬ A1 q → H1[q]? = H[q]?) → va_S A0 H0 H1 locs1 → W p l e R s m args below meth c H1 locs1 (cells + mc) (slots + ms) Q (F0 m (pc + 3) ls (.float r :: rest))) : W p l e R s m args below meth c H locs cells slots Q (F0 m pc ls st0) := by
  intro T hT X
  rcases hr T hT X with ⟨v, st₀, t, T', L, h0, X', hL, e1, e2, ⟨⟨r, u, hv, hp, hb⟩, hF⟩, st⟩ | ⟨q, st₀, t, T', L, E, ce, h0, X', hL, e1, e2, ⟨u, hp, hb, hF⟩, hce, hcv, hcl, st⟩
  · cases hv
    obtain ⟨k1, k2, k3⟩ := vx_keep h0 e1 hS hA hf hL hF
    obtain ⟨t2, a1, b1⟩ := kk r u t T'.heap (locs ++ L) e1.symm (by rw [← e2]; exact X'.warmed.alike) hp hb k1 k2 k3 T' rfl X'
    exact ⟨t2, st t2 a1, b1⟩
  · obtain ⟨k1, k2, k3⟩ := vx_keep h0 e1 hS hAX hf hL hF
    obtain ⟨t2, a1, b1⟩ := kx E ce q u t T'.heap (locs ++ L) e1.symm (by rw [← e2]; exact X'.warmed.alike) hp hb k1 k2 k3 (by rw [e1]; exact hce) hcv hcl T' rfl X'
    exact ⟨t2, st.trans a1, b1⟩
theorem vx_calld {S SX : Type} {post : UInt64 → S → Prop} {px : SX → Prop} {B : S → State → Prop} {BX : String → SX → State → Prop} {AX : Nat → Prop} (hr : vx_Run p l e R s m args below meth c H locs cells slots mc ms (F0 m pc ls st0) rest (va_Qd post B A1 a) (vx_X px BX AX) free) (hS : va_S A0 H0 H locs) (hA : ∀ q, q < H.size → A1 q → A0 q) (hf : ∀ q, free q → A0 q) (hAX : ∀ q, q < H.size → AX q → A0 q)
    (kx : ∀ (E : String) (ce : Cell) (q9 : Addr) (u : SX) (t : State) (H1 : Heap) (locs1 : List Loc), t.heap = H1 → s.vm.Alike t.vm → px u → BX E u t → H.size ≤ H1.size → (∀ q : Nat, q < H.size → ¬ AX q → H1[q]? = H[q]?) → va_S A0 H0 H1 locs1 → H1[q9]? = some ce → ce.vm = .none → s.vm.findClass E = some ce.cls → vx_W p l e R s m args below meth c H1 locs1 (cells + mc) (slots + ms) Q (F0 m pc ls rest) q9)
    (kk : ∀ (r : UInt64) (u : S) (t : State) (H1 : Heap) (locs1 : List Loc), t.heap = H1 → s.vm.Alike t.vm → post r u → B u t → H.size ≤ H1.size → (∀ q : Nat, q < H.size → ¬ A1 q → H1[q]? = H[q]?) → va_S A0 H0 H1 locs1 → W p l e R s m args below meth c H1 locs1 (cells + mc) (slots + ms) Q (F0 m (pc + 3) ls (.double r :: rest))) : W p l e R s m args below meth c H locs cells slots Q (F0 m pc ls st0) := by
  intro T hT X
  rcases hr T hT X with ⟨v, st₀, t, T', L, h0, X', hL, e1, e2, ⟨⟨r, u, hv, hp, hb⟩, hF⟩, st⟩ | ⟨q, st₀, t, T', L, E, ce, h0, X', hL, e1, e2, ⟨u, hp, hb, hF⟩, hce, hcv, hcl, st⟩
  · cases hv
    obtain ⟨k1, k2, k3⟩ := vx_keep h0 e1 hS hA hf hL hF
    obtain ⟨t2, a1, b1⟩ := kk r u t T'.heap (locs ++ L) e1.symm (by rw [← e2]; exact X'.warmed.alike) hp hb k1 k2 k3 T' rfl X'
    exact ⟨t2, st t2 a1, b1⟩
  · obtain ⟨k1, k2, k3⟩ := vx_keep h0 e1 hS hAX hf hL hF
    obtain ⟨t2, a1, b1⟩ := kx E ce q u t T'.heap (locs ++ L) e1.symm (by rw [← e2]; exact X'.warmed.alike) hp hb k1 k2 k3 (by rw [e1]; exact hce) hcv hcl T' rfl X'
    exact ⟨t2, st.trans a1, b1⟩
theorem vx_callv {S SX : Type} {post : S → Prop} {px : SX → Prop} {B : S → State → Prop} {BX : String → SX → State → Prop} {AX : Nat → Prop} (hr : vx_Run p l e R s m args below meth c H locs cells slots mc ms (F0 m pc ls st0) rest (va_Qv post B A1 a) (vx_X px BX AX) free) (hS : va_S A0 H0 H locs) (hA : ∀ q, q < H.size → A1 q → A0 q) (hf : ∀ q, free q → A0 q) (hAX : ∀ q, q < H.size → AX q → A0 q)
    (kx : ∀ (E : String) (ce : Cell) (q9 : Addr) (u : SX) (t : State) (H1 : Heap) (locs1 : List Loc), t.heap = H1 → s.vm.Alike t.vm → px u → BX E u t → H.size ≤ H1.size → (∀ q : Nat, q < H.size → ¬ AX q → H1[q]? = H[q]?) → va_S A0 H0 H1 locs1 → H1[q9]? = some ce → ce.vm = .none → s.vm.findClass E = some ce.cls → vx_W p l e R s m args below meth c H1 locs1 (cells + mc) (slots + ms) Q (F0 m pc ls rest) q9)
    (kk : ∀ (u : S) (t : State) (H1 : Heap) (locs1 : List Loc), t.heap = H1 → s.vm.Alike t.vm → post u → B u t → H.size ≤ H1.size → (∀ q : Nat, q < H.size → ¬ A1 q → H1[q]? = H[q]?) → va_S A0 H0 H1 locs1 → W p l e R s m args below meth c H1 locs1 (cells + mc) (slots + ms) Q (F0 m (pc + 3) ls (rest))) : W p l e R s m args below meth c H locs cells slots Q (F0 m pc ls st0) := by
  intro T hT X
  rcases hr T hT X with ⟨v, st₀, t, T', L, h0, X', hL, e1, e2, ⟨⟨u, hv, hp, hb⟩, hF⟩, st⟩ | ⟨q, st₀, t, T', L, E, ce, h0, X', hL, e1, e2, ⟨u, hp, hb, hF⟩, hce, hcv, hcl, st⟩
  · cases hv
    obtain ⟨k1, k2, k3⟩ := vx_keep h0 e1 hS hA hf hL hF
    obtain ⟨t2, a1, b1⟩ := kk u t T'.heap (locs ++ L) e1.symm (by rw [← e2]; exact X'.warmed.alike) hp hb k1 k2 k3 T' rfl X'
    exact ⟨t2, st t2 a1, b1⟩
  · obtain ⟨k1, k2, k3⟩ := vx_keep h0 e1 hS hAX hf hL hF
    obtain ⟨t2, a1, b1⟩ := kx E ce q u t T'.heap (locs ++ L) e1.symm (by rw [← e2]; exact X'.warmed.alike) hp hb k1 k2 k3 (by rw [e1]; exact hce) hcv hcl T' rfl X'
    exact ⟨t2, st.trans a1, b1⟩
/-- caught by the row x of this method's table; the rows ahead don't take it -/
theorem vx_catch {own name : String} {E : String} {ce : Cell} {q : Addr} (hown : s.vm.findClass own = some m.cls) (pre : List ExceptionTableEntry) (x : ExceptionTableEntry) (suf : List ExceptionTableEntry) (hsplit : c.exceptionTable.toList = pre ++ x :: suf)
    (hpass : ∀ z ∈ pre, covers z pc = false ∨ (z.catchType ≠ 0 ∧ ∃ nm : String, (Cond.classLink own z.catchType nm).before args s = true ∧ va_Nc E nm s)) (hx : covers x pc = true) (h0 : x.catchType ≠ 0)
    (hlink : (Cond.classLink own x.catchType name).before args s = true) (hcast : (Cond.castable E name).before args s = true) (hcell : H[q]? = some ce) (hv : ce.vm = .none) (hcl : s.vm.findClass E = some ce.cls)
    (kk : W p l e R s m args below meth c H locs cells slots Q (F0 m x.handlerPc ls [.ref q])) : vx_W p l e R s m args below meth c H locs cells slots Q (F0 m pc ls rest) q := by
  intro T hT X
  have hpl : e.platform.magicAccessors = ({} : Platform).magicAccessors := by rw [X.admits.platform]
  obtain ⟨c3, c4, hc3, hc4, hasg⟩ := Cond.castable_spec hcast
  cases Option.some.inj (hc3.symm.trans hcl)
  obtain ⟨c5, hc5, hcl5⟩ := Cond.classLink_spec hown hlink e.platform hpl
  cases Option.some.inj (hc4.symm.trans hc5)
  obtain ⟨vm', X', st⟩ := X.thenCaughtThrough q (g := F0 m pc ls rest) rfl (Steps.refl _) (by rw [hT]; exact hcell) (by rw [hv]; rfl) (by obtain ⟨k9, h9, -⟩ := Vm.findClass_spec hcl; exact ⟨k9, h9⟩) pre x suf hsplit
    (fun z hz => by
      rcases hpass z hz with h | ⟨hz0, nm, hl1, hn1⟩
      · exact Or.inl h
      · obtain ⟨c6, hc6, hcl6⟩ := Cond.classLink_spec hown hl1 e.platform hpl
        obtain ⟨a8, b8, h1, h2, h3⟩ := hn1
        cases Option.some.inj (h1.symm.trans hcl)
        cases Option.some.inj (h2.symm.trans hc6)
        exact Or.inr ⟨hz0, _, hcl6, h3⟩) hx (Or.inr ⟨h0, c4, hcl5, hasg⟩)
  obtain ⟨t, a1, b1⟩ := kk (T.setVm vm') hT X'
  exact ⟨t, st.trans a1, b1⟩
end Rows
section Ends
variable {p : Program} {l : Launch} {e : Env} {R : Room} {s : State} {m : MethodId} {args : Array Value} {below : List Frame} {meth : Method} {c : Code} {H : Heap} {locs : List Loc} {cells slots : Nat} {Q : State → Prop}
variable {mc ms : Nat} {free : Addr → Prop} {A0 A1 : Nat → Prop} {H0 : Heap} {a : Array Value} {ls : Array Slot} {st0 rest : List Value}
variable {Qc : Array Value → State → Outcome → State → Prop} {XC : String → State → State → Prop}
/-- what a body that may throw owes at its end -/
def vx_MQ (below : List Frame) (Qc : Array Value → State → Outcome → State → Prop) (XC : String → State → State → Prop) (a : Array Value) (s : State) (mc ms : Nat) (free : Addr → Prop) : State → Prop := fun t =>
  ∃ o, t.status = .running ∧ Ended t below o ∧ vx_Q Qc XC mc ms free a s o t
theorem vx_ret {g : JFrame} {mc ms : Nat} (k : W p l e R s m args below meth c H locs cells slots (MQ below Qc args s mc ms free) g) : W p l e R s m args below meth c H locs cells slots (vx_MQ below Qc XC args s mc ms free) g := by
  intro T hT X
  obtain ⟨t, a1, o, b1, b2, b3, b4⟩ := k T hT X
  exact ⟨t, a1, o, b1, b2, Or.inl ⟨b3, b4⟩⟩
/-- not caught here: it goes on to the caller -/
theorem vx_widen {g : JFrame} {q : Addr} {k n : Nat} (h1 : cells ≤ k) (h2 : slots ≤ n) (kk : vx_W p l e R s m args below meth c H locs k n Q g q) : vx_W p l e R s m args below meth c H locs cells slots Q g q := fun T hT X => kk T hT (stand_widen X h1 h2)
theorem vx_out {pc : Nat} {E : String} {ce : Cell} {q : Addr} {mc ms : Nat} (hout : ∀ x ∈ c.exceptionTable.toList, covers x pc = false) (hlocks : meth.locks = false) (hcell : H[q]? = some ce) (hv : ce.vm = .none) (hcl : s.vm.findClass E = some ce.cls)
    (hx : ∀ t : State, t.heap = H → s.vm.Alike t.vm → XC E s t) (hf : ∀ z ∈ locs, free z.base) (hc : cells ≤ mc) (hs : slots ≤ ms) :
    vx_W p l e R s m args below meth c H locs cells slots (vx_MQ below Qc XC args s mc ms free) (F0 m pc ls rest) q := by
  intro T hT X
  obtain ⟨st1, hrun, hend, hW, hsm⟩ := X.leaveThrown q (g := F0 m pc ls rest) rfl rfl rfl hout hlocks
  have hcell9 : (T.setFrames (.throwing q :: below)).heap[q]? = some ce := by
    show T.heap[q]? = some ce
    rw [hT]; exact hcell
  exact ⟨_, st1, .threw q, hrun, hend, Or.inr ⟨q, rfl, E, ce, locs, hx _ hT hW.alike, hcell9, hv, hcl, hW, hsm.mono hc hs, hf⟩⟩
theorem vx_frame {U : State} {k n : Nat} (h : s.sameButNew ({ U with vm := s.vm } : State) locs k n) : s.heap.size ≤ U.heap.size ∧ ∀ q : Nat, q < s.heap.size → (∀ z ∈ locs, z.base ≠ q) → U.heap[q]? = s.heap[q]? := by
  obtain ⟨-, h2, -, -, -, h6⟩ := h
  refine ⟨h2, fun q hq hz => ?_⟩
  obtain ⟨c9, e1, e2, e3, e4⟩ := h6 q _ (Array.getElem?_eq_getElem hq)
  have hs : c9.slots = (s.heap[q]).slots := Array.ext_getElem? fun i => e4 i fun hm => hz _ hm rfl
  have h9 : c9 = s.heap[q] := by
    rw [hs] at e2
    exact e2
  have e5 : U.heap[q]? = some c9 := e1
  rw [e5, h9, Array.getElem?_eq_getElem hq]
/-- the words of a throw but the four that speak of the heap -/
def vx_no (w : Cond) : Bool := decide (w ≠ .isRef (.static Bundle.tN "UNASSIGNED_STACK" Bundle.steD)) && decide (w ≠ .isRef (.static Bundle.tN "SUPPRESSED_SENTINEL" Bundle.listD)) && decide (w ≠ .laysStatic Bundle.tN "UNASSIGNED_STACK" Bundle.steD) && decide (w ≠ .laysStatic Bundle.tN "SUPPRESSED_SENTINEL" Bundle.listD)
def vx_at0 (own : String) (ic : Nat) (X : String) (names : List String) : List Cond := (Bundle.ownAtoms0 own ic X names).filter vx_no
def vx_atS (own : String) (ic : Nat) (X : String) (names : List String) : List Cond := (Bundle.ownAtoms own ic X names).filter vx_no
/-- a word that the tables alone decide, or a good one -/
def vx_ot (w : Cond) : Bool := w.onTables || goodWord w
theorem vx_ot_at {args a' : Array Value} {s U : State} {w : Cond} (hW : s.WarmedH U.vm) (hvm : s.vm = U.vm) (hg : vx_ot w = true) (h : w.before args s = true) : w.before a' U = true := by
  simp only [vx_ot, Bool.or_eq_true] at hg
  rcases hg with hg | hg
  · exact va_tabs hg hvm h
  · exact word_at hW (good_of_word hg) h
/-- a list's words: the good ones out of the method's own list, the others by premises of their own -/
theorem vx_hat {args : Array Value} {s : State} {L B : List Cond} (h1 : ∀ w ∈ L.filter goodWord, w.before args s = true) (h2 : ∀ w ∈ L.filter (fun w => !goodWord w), w ∈ B) (h3 : ∀ w ∈ B, w.before args s = true) : ∀ w ∈ L, w.before args s = true := by
  intro w hw
  by_cases g : goodWord w = true
  · exact h1 w (List.mem_filter.mpr ⟨hw, g⟩)
  · refine h3 w (h2 w (List.mem_filter.mpr ⟨hw, ?_⟩))
    show (!goodWord w) = true
    cases hgw : goodWord w
    · rfl
    · exact absurd hgw g
theorem vx_c {args : Array Value} {s : State} {w : Cond} {B : List Cond} (h : w.before args s = true) (t : ∀ w ∈ B, w.before args s = true) : ∀ w' ∈ w :: B, w'.before args s = true := fun w' h' => (List.mem_cons.mp h').elim (fun e => by rw [e]; exact h) (t w')
theorem vx_n {args : Array Value} {s : State} : ∀ w ∈ ([] : List Cond), w.before args s = true := fun _ h => nomatch h
theorem vx_own {args : Array Value} {s : State} {L : List Cond} (h1 : ∀ w ∈ L.filter vx_no, w.before args s = true)
    (hU : (Cond.isRef (.static Bundle.tN "UNASSIGNED_STACK" Bundle.steD)).before args s = true) (hN : (Cond.isRef (.static Bundle.tN "SUPPRESSED_SENTINEL" Bundle.listD)).before args s = true)
    (lU : (Cond.laysStatic Bundle.tN "UNASSIGNED_STACK" Bundle.steD).before args s = true) (lN : (Cond.laysStatic Bundle.tN "SUPPRESSED_SENTINEL" Bundle.listD).before args s = true) : ∀ w ∈ L, w.before args s = true := by
  intro w hw
  by_cases e1 : w = .isRef (.static Bundle.tN "UNASSIGNED_STACK" Bundle.steD)
  · rw [e1]; exact hU
  · by_cases e2 : w = .isRef (.static Bundle.tN "SUPPRESSED_SENTINEL" Bundle.listD)
    · rw [e2]; exact hN
    · by_cases e3 : w = .laysStatic Bundle.tN "UNASSIGNED_STACK" Bundle.steD
      · rw [e3]; exact lU
      · by_cases e4 : w = .laysStatic Bundle.tN "SUPPRESSED_SENTINEL" Bundle.listD
        · rw [e4]; exact lN
        · exact h1 w (List.mem_filter.mpr ⟨hw, by unfold vx_no; rw [decide_eq_true e1, decide_eq_true e2, decide_eq_true e3, decide_eq_true e4]; rfl⟩)
/-- where a static field lies, its class's statics cell in H -/
def vx_L (C n d : String) (A : Nat → Prop) (U : State) (H : Heap) : Prop := ∃ (c : ClassId) (k : Class) (i : Nat) (f : Field) (a : Nat) (cell : Cell), U.vm.findClass C = some c ∧ U.fieldFound? C n d = some (c, k, i, f) ∧ f.isStatic = true ∧ k.statics = some a ∧ H[a]? = some cell ∧ cell.vm.isStatics = true ∧ cell.cls = c ∧ f.slot < cell.slots.size ∧ k.staticTypes[f.slot]? = some f.type ∧ ¬ A a
theorem vx_L.moved {C n d : String} {A : Nat → Prop} {u U : State} {H : Heap} (hvm : u.vm.Alike U.vm) (h : vx_L C n d A u H) : vx_L C n d A U H := by
  obtain ⟨c, k, i, f, a, cell, h1, h2, h3, h4, h5, h6, h7, h8, h9, h10⟩ := h
  obtain ⟨k', hi', he⟩ := State.fieldFound?_setVm hvm h2
  exact ⟨c, k', i, f, a, cell, by rw [hvm.findClass]; exact h1, hi', h3, by rw [he]; exact h4, h5, h6, h7, h8, by rw [he]; exact h9, h10⟩
theorem vx_L.kept {C n d : String} {A : Nat → Prop} {U : State} {H H1 : Heap} (h : vx_L C n d A U H) (hq : ∀ a : Nat, a < H.size → ¬ A a → H1[a]? = H[a]?) : vx_L C n d A U H1 := by
  obtain ⟨c, k, i, f, a, cell, h1, h2, h3, h4, h5, h6, h7, h8, h9, h10⟩ := h
  exact ⟨c, k, i, f, a, cell, h1, h2, h3, h4, by rw [hq a (Array.getElem?_eq_some_iff.mp h5).1 h10]; exact h5, h6, h7, h8, h9, h10⟩
theorem vx_L.narrow {C n d : String} {A B : Nat → Prop} {U : State} {H : Heap} (h : vx_L C n d A U H) (hAB : ∀ q, B q → A q) : vx_L C n d B U H := by
  obtain ⟨c, k, i, f, a, cell, h1, h2, h3, h4, h5, h6, h7, h8, h9, h10⟩ := h
  exact ⟨c, k, i, f, a, cell, h1, h2, h3, h4, h5, h6, h7, h8, h9, fun z => h10 (hAB _ z)⟩
theorem vx_L.word {C n d : String} {A : Nat → Prop} {s : State} {args : Array Value} (h : vx_L C n d A s s.heap) : (Cond.laysStatic C n d).before args s = true := by
  obtain ⟨c, k, i, f, a, cell, h1, h2, h3, h4, h5, h6, h7, h8, h9, -⟩ := h
  show (Cond.laysStatic C n d).holds args s none s [] = true
  exact Cond.laysStatic_of h1 h2 h3 h4 h5 h6 h7 h8 h9
/-- .. and what it holds: null or some reference -/
def vx_Zq (C n d : String) (A : Nat → Prop) (U : State) (H : Heap) : Prop := va_Zq C n d A U H ∧ vx_L C n d A U H
theorem vx_Zq.moved {C n d : String} {A : Nat → Prop} {u U : State} {H : Heap} (hvm : u.vm.Alike U.vm) (h : vx_Zq C n d A u H) : vx_Zq C n d A U H := ⟨va_Zq.moved hvm h.1, vx_L.moved hvm h.2⟩
theorem vx_Zq.kept {C n d : String} {A : Nat → Prop} {U : State} {H H1 : Heap} (h : vx_Zq C n d A U H) (hq : ∀ a : Nat, a < H.size → ¬ A a → H1[a]? = H[a]?) : vx_Zq C n d A U H1 := ⟨va_Zq.kept h.1 hq, vx_L.kept h.2 hq⟩
theorem vx_Zq.narrow {C n d : String} {A B : Nat → Prop} {U : State} {H : Heap} (h : vx_Zq C n d A U H) (hAB : ∀ q, B q → A q) : vx_Zq C n d B U H := ⟨va_Zq.narrow h.1 hAB, vx_L.narrow h.2 hAB⟩
theorem vx_Zqof {args : Array Value} {s : State} {C n d : String} {A : Nat → Prop} (hl : (Cond.laysStatic C n d).before args s = true) (hini : (Cond.initialized C).before args s = true) (h : (Cond.isRef (.static C n d)).before args s = true) (hA : ∀ a : Nat, a < s.heap.size → ¬ A a) : vx_Zq C n d A s s.heap := by
  refine ⟨va_Zqof hl hini h hA, ?_⟩
  obtain ⟨c, k, i, f, a, cell, h1, h2, h3, h4, h5, h6, h7, h8, h9⟩ := Cond.laysStatic_spec hl
  exact ⟨c, k, i, f, a, cell, h1, h2, h3, h4, h5, h6, h7, h8, h9, hA a (Array.getElem?_eq_some_iff.mp h5).1⟩
theorem vx_isRef {C n d : String} {v : Value} {A : Nat → Prop} {s : State} {args : Array Value} (h : va_Z C n d v A s s.heap) (hv : v.isRef = true) : (Cond.isRef (.static C n d)).before args s = true := by
  obtain ⟨cf, kf, fi, f, a, cell, h1, h2, h3, h4, h5, h6, h7, -⟩ := h
  have he : (Term.static C n d).eval args s none [] s = some v := by
    simp [Term.eval, State.fieldNamed?, h1, h2, h4, h5, h6, h7]
  simp only [Cond.before, Cond.holds, Cond.value, he]
  cases v <;> simp_all [Value.isRef]
theorem vx_isRefq {C n d : String} {A : Nat → Prop} {s : State} {args : Array Value} (h : va_Zq C n d A s s.heap) : (Cond.isRef (.static C n d)).before args s = true := by
  rcases h with h | ⟨t, h⟩
  · exact vx_isRef h rfl
  · exact vx_isRef h rfl
/-- the same frame, seen from here: as if the method were called anew in this heap -/
theorem vx_rebase {T : State} (X : Stand p l e R s m args below meth c T locs cells slots) {R' : Room} (hf : R'.frames ≤ R.frames) (hl : R'.locals ≤ R.locals) (hc : cells + R'.cells ≤ R.cells) (hs : slots + R'.slots ≤ R.slots) :
    Stand p l e R' ((T.setVm s.vm).setFrames (.invoking m args :: below)) m args below meth c T [] 0 0 := by
  have htop : (T.setVm s.vm).topJava?.isSome := X.here.top
  have hF : ((T.setVm s.vm).setFrames (.invoking m args :: below)).frames = .invoking m args :: below := State.frames_setFrames _ (State.cur_lt_of_top htop)
  obtain ⟨g₀, hg0⟩ := Option.isSome_iff_exists.mp htop
  obtain ⟨r, hr⟩ := State.topJava?_eq_some.mp hg0
  have hl9 : e.platform.stackLimits (T.setVm s.vm).me = e.platform.stackLimits s.me := X.limits
  have hb9 : (T.setVm s.vm).me.stackBytes = s.me.stackBytes := X.bytes
  refine ⟨X.admits, X.cas, X.clock, hF, ?_, X.hears, X.method, X.code, X.here, X.tail, X.warmed, ?_, ?_, ?_⟩
  · have h := X.room
    have hU : ((T.setVm s.vm).setFrames (.invoking m args :: below)).localsInUse = s.localsInUse := by
      rw [State.localsInUse_invoking hF (meth := meth) (c := c) X.method X.code, State.localsInUse_invoking X.frames X.method X.code]
    simp only [State.hasRoom, Bool.and_eq_true, decide_eq_true_eq] at h ⊢
    obtain ⟨⟨⟨⟨h1, h2, h3, h4, h5, h6⟩, h7⟩, h8⟩, h9⟩ := h
    rw [X.frames, List.length_cons] at h2 h3
    have q1 := X.heapSize
    have q2 := X.used
    simp only [hF, hU, List.length_cons, State.stackLimits_setFrames, State.stackBytes_setFrames, hl9, hb9]
    refine ⟨⟨⟨⟨by omega, by omega, by omega, by omega, by omega, h6⟩, ?_⟩, ?_⟩, X.book⟩
    · show T.heap.size + R'.cells ≤ e.platform.maxCells
      omega
    · show T.slotsUsed + R'.slots ≤ e.platform.maxSlots
      omega
  · rw [State.stackLimits_setFrames]; rfl
  · rw [State.stackBytes_setFrames]; rfl
  · refine ⟨?_, Nat.le_refl _, Nat.le_refl _, ?_, ?_, fun a c9 h9 => ⟨c9, h9, rfl, rfl, fun _ _ => rfl⟩⟩
    · obtain ⟨t, ht, -⟩ := State.frames_cons hr
      show T.setVm s.vm = { ((T.setVm s.vm).setFrames (.invoking m args :: below)).setFrames (T.setVm s.vm).frames with heap := T.heap, slotsUsed := T.slotsUsed }
      rw [State.setFrames_setFrames, State.setFrames_self ht]
      rfl
    · show T.slotsUsed = T.slotsUsed + ((T.heap.toList.drop T.heap.size).map (·.slots.size)).sum
      rw [List.drop_eq_nil_of_le (Nat.le_of_eq Array.length_toList)]
      rfl
    · show ((T.heap.toList.drop T.heap.size).map (·.slots.size)).sum ≤ 0
      rw [List.drop_eq_nil_of_le (Nat.le_of_eq Array.length_toList)]
      exact Nat.le_refl _
/-- 'throw new E()': new; dup; invokespecial; athrow -/
theorem vx_throw0 {cc : ByteArray} {pc : Nat} (hexec : p.tables.exec = Jvm.exec) (hb : c.code = cc) (hl : l.stackTraces = false) {own cls : String} {names : List String} {ik ic mc ms : Nat} {A : Nat → Prop}
    (hown : s.vm.findClass own = some m.cls) (hcls : Bundle.fit cls = true) (hnames : ∀ n ∈ names, Bundle.fit n = true)
    (hk : (Cond.classLink own ik cls).before args s = true) (hini : (Cond.initialized cls).before args s = true) (hat : ∀ w ∈ vx_at0 own ic cls names, w.before args s = true)
    (hgood : ∀ w ∈ Cond.classLink own ik cls :: Cond.initialized cls :: vx_at0 own ic cls names, vx_ot w = true)
    (hU : vx_Zq Bundle.tN "UNASSIGNED_STACK" Bundle.steD A s s.heap) (hN : vx_Zq Bundle.tN "SUPPRESSED_SENTINEL" Bundle.listD A s s.heap) (hS : va_S A s.heap H locs) (hsize : ls.size = c.maxLocals)
    (d0 : decode cc pc = .ok (.new ik, 3)) (d3 : decode cc (pc + 3) = .ok (.dup, 1)) (d4 : decode cc (pc + 4) = .ok (.invokespecial ic, 3)) (d7 : decode cc (pc + 7) = .ok (.athrow, 1))
    (hout : ∀ x ∈ c.exceptionTable.toList, covers x (pc + 7) = false)
    (hRframes : names.length + 3 < R.frames) (hRlocals : (rest.map fun v => v.category).sum + (13 * (names.length + 1) + 42) ≤ R.locals) (hRcells : cells + 1 ≤ R.cells) (hRslots : slots + 6 ≤ R.slots) (hlocks : meth.locks = false)
    (hx : ∀ t : State, s.vm.Alike t.vm → H.size ≤ t.heap.size → (∀ q : Nat, q < H.size → t.heap[q]? = H[q]?) → XC cls s t)
    (hf : ∀ z ∈ locs, free z.base) (hc : cells + 1 ≤ mc) (hs : slots + 6 ≤ ms) :
    W p l e R s m args below meth c H locs cells slots (vx_MQ below Qc XC args s mc ms free) (F0 m pc ls rest) := by
  intro T hT X
  have htr : e.platform.stackTraces = false := (show e.platform.stackTraces = l.stackTraces by rw [X.admits.platform]).trans hl
  have Y := vx_rebase X (R' := { frames := R.frames, locals := R.locals, cells := 1, slots := 6 }) (Nat.le_refl _) (Nat.le_refl _) hRcells hRslots
  obtain ⟨s', hA⟩ : ∃ z, z = (T.setVm s.vm).setFrames (.invoking m args :: below) := ⟨_, rfl⟩
  rw [← hA] at Y
  have hvm : s'.vm = s.vm := by rw [hA]; rfl
  have hhp : s'.heap = H := by rw [hA]; exact hT
  have hW0 : s.WarmedH s'.vm := by rw [hvm]; exact State.WarmedH.refl s
  have hat' : ∀ w ∈ vx_at0 own ic cls names, w.before args s' = true := fun w hw => vx_ot_at hW0 hvm.symm (hgood w (List.mem_cons_of_mem _ (List.mem_cons_of_mem _ hw))) (hat w hw)
  have hk' : (Cond.classLink own ik cls).before args s' = true := vx_ot_at hW0 hvm.symm (hgood _ List.mem_cons_self) hk
  have hini' : (Cond.initialized cls).before args s' = true := vx_ot_at hW0 hvm.symm (hgood _ (List.mem_cons_of_mem _ List.mem_cons_self)) hini
  have hU' : vx_Zq Bundle.tN "UNASSIGNED_STACK" Bundle.steD A s' s'.heap := by rw [hhp]; exact vx_Zq.moved hW0.alike (hU.kept hS.2.1)
  have hN' : vx_Zq Bundle.tN "SUPPRESSED_SENTINEL" Bundle.listD A s' s'.heap := by rw [hhp]; exact vx_Zq.moved hW0.alike (hN.kept hS.2.1)
  have h : ∀ w ∈ Bundle.ownAtoms0 own ic cls names, w.before args s' = true := vx_own hat' (vx_isRefq hU'.1) (vx_isRefq hN'.1) hU'.2.word hN'.2.word
  have hown' : s'.vm.findClass own = some m.cls := by rw [hvm]; exact hown
  have hins : (Cond.instantiable cls 6).before args s' = true := h _ (by simp [Bundle.ownAtoms0])
  obtain ⟨vm₁, cX, kX, hfX, hkX, -, -, X₁, st1⟩ := Y.newCold hexec (own := own) (C := cls) (index := ik) (n := 6) hown' hk' hins hini'
    (g := F0 m pc ls rest) rfl (by rw [hb]; exact d0) (Nat.le_refl _) (Nat.le_refl _)
  generalize hT1 : (T.setVm vm₁).pushCell { cls := cX, slots := kX.instanceTypes.map defaultValue, vm := .none } = T1 at X₁ st1
  have hcat : (Value.ref T.heap.size).category = 1 := rfl
  have hcellA : T1.heap[T.heap.size]? = some (freshCell cX kX) := by rw [← hT1]; exact State.heap_pushCell_size _ _
  have d3' : decode c.code (pc + 3) = .ok (.dup, 1) := by rw [hb]; exact d3
  obtain ⟨U, hsteps, hrun, hend, hW, hsame, ce, hce, hO⟩ := X₁.ctorThrow0 hexec htr (own := own) (cls := cls) (names := names) (ic := ic) hown' hcls hnames h (fun x hx => nomatch hx) hfX hkX hcellA (by rw [hhp, hT]; exact Nat.le_refl _)
    (g := { method := m, pc := pc + 4, locals := ls, stack := .ref T.heap.size :: .ref T.heap.size :: rest, locked := none }) rfl hsize rfl rfl (rest := rest) rfl
    (by rw [hb]; exact d4) (by rw [hb]; exact d7) hout hRframes (by simp only [List.map_cons, List.sum_cons, hcat]; omega) hlocks
  obtain ⟨f1, f2⟩ := vx_frame hsame
  rw [hhp] at f1 f2
  have hWs : s.WarmedH U.vm := State.WarmedH.trans hW0 hW
  have hcl : s.vm.findClass cls = some ce.cls := by
    have h9 := hO.cls
    rw [hvm] at h9
    exact h9
  have hall : s.sameButNew ({ U with vm := s.vm } : State) locs mc ms := by
    subst hA
    obtain ⟨e1, e2⟩ := hsame
    rw [State.setFrames_setFrames] at e1
    have h2 : (T.setVm s.vm).sameButNew ({ U with vm := s.vm } : State) [] (0 + 1) (0 + 6) := ⟨e1, e2⟩
    have h3 := X.same.trans h2
    rw [List.append_nil] at h3
    exact h3.mono hc hs
  refine ⟨U, ?_, .threw T.heap.size, hrun, hend, Or.inr ⟨T.heap.size, rfl, cls, ce, locs, hx U hWs.alike f1 (fun q hq => f2 q hq (fun z hz => nomatch hz)), hce, hO.vm, hcl, hWs, hall, hf⟩⟩
  refine st1 _ ?_
  show Steps p.tables e below (T1.setTop { method := m, pc := pc + 3, locals := ls, stack := .ref T.heap.size :: rest, locked := none }) _
  jvm_step X₁.here [X₁.here.top, hexec, d3', Value.category]
  exact hsteps
/-- 'throw new E("text")': new; dup; ldc; invokespecial; athrow -/
theorem vx_throwS {cc : ByteArray} {pc : Nat} (hexec : p.tables.exec = Jvm.exec) (hb : c.code = cc) (hl : l.stackTraces = false) {own cls text : String} {names : List String} {ik is ic mc ms sa : Nat} {A : Nat → Prop}
    (hown : s.vm.findClass own = some m.cls) (hcls : Bundle.fit cls = true) (hnames : ∀ n ∈ names, Bundle.fit n = true)
    (hk : (Cond.classLink own ik cls).before args s = true) (hini : (Cond.initialized cls).before args s = true) (hstr : vk_R own is text sa s) (hat : ∀ w ∈ vx_atS own ic cls names, w.before args s = true)
    (hgood : ∀ w ∈ Cond.classLink own ik cls :: Cond.initialized cls :: vx_atS own ic cls names, vx_ot w = true)
    (hU : vx_Zq Bundle.tN "UNASSIGNED_STACK" Bundle.steD A s s.heap) (hN : vx_Zq Bundle.tN "SUPPRESSED_SENTINEL" Bundle.listD A s s.heap) (hS : va_S A s.heap H locs) (hsize : ls.size = c.maxLocals)
    (d0 : decode cc pc = .ok (.new ik, 3)) (d3 : decode cc (pc + 3) = .ok (.dup, 1)) (d4 : decode cc (pc + 4) = .ok (.ldc is, 2)) (d6 : decode cc (pc + 6) = .ok (.invokespecial ic, 3)) (d9 : decode cc (pc + 9) = .ok (.athrow, 1))
    (hout : ∀ x ∈ c.exceptionTable.toList, covers x (pc + 9) = false)
    (hRframes : names.length + 3 < R.frames) (hRlocals : (rest.map fun v => v.category).sum + (13 * (names.length + 1) + 43) ≤ R.locals) (hRcells : cells + 1 ≤ R.cells) (hRslots : slots + 6 ≤ R.slots) (hlocks : meth.locks = false)
    (hx : ∀ t : State, s.vm.Alike t.vm → H.size ≤ t.heap.size → (∀ q : Nat, q < H.size → t.heap[q]? = H[q]?) → XC cls s t)
    (hf : ∀ z ∈ locs, free z.base) (hc : cells + 1 ≤ mc) (hs : slots + 6 ≤ ms) :
    W p l e R s m args below meth c H locs cells slots (vx_MQ below Qc XC args s mc ms free) (F0 m pc ls rest) := by
  intro T hT X
  have htr : e.platform.stackTraces = false := (show e.platform.stackTraces = l.stackTraces by rw [X.admits.platform]).trans hl
  have Y := vx_rebase X (R' := { frames := R.frames, locals := R.locals, cells := 1, slots := 6 }) (Nat.le_refl _) (Nat.le_refl _) hRcells hRslots
  obtain ⟨s', hA⟩ : ∃ z, z = (T.setVm s.vm).setFrames (.invoking m args :: below) := ⟨_, rfl⟩
  rw [← hA] at Y
  have hvm : s'.vm = s.vm := by rw [hA]; rfl
  have hhp : s'.heap = H := by rw [hA]; exact hT
  have hW0 : s.WarmedH s'.vm := by rw [hvm]; exact State.WarmedH.refl s
  have hat' : ∀ w ∈ vx_atS own ic cls names, w.before args s' = true := fun w hw => vx_ot_at hW0 hvm.symm (hgood w (List.mem_cons_of_mem _ (List.mem_cons_of_mem _ hw))) (hat w hw)
  have hk' : (Cond.classLink own ik cls).before args s' = true := vx_ot_at hW0 hvm.symm (hgood _ List.mem_cons_self) hk
  have hini' : (Cond.initialized cls).before args s' = true := vx_ot_at hW0 hvm.symm (hgood _ (List.mem_cons_of_mem _ List.mem_cons_self)) hini
  have hU' : vx_Zq Bundle.tN "UNASSIGNED_STACK" Bundle.steD A s' s'.heap := by rw [hhp]; exact vx_Zq.moved hW0.alike (hU.kept hS.2.1)
  have hN' : vx_Zq Bundle.tN "SUPPRESSED_SENTINEL" Bundle.listD A s' s'.heap := by rw [hhp]; exact vx_Zq.moved hW0.alike (hN.kept hS.2.1)
  have h : ∀ w ∈ Bundle.ownAtoms own ic cls names, w.before args s' = true := vx_own hat' (vx_isRefq hU'.1) (vx_isRefq hN'.1) hU'.2.word hN'.2.word
  have hown' : s'.vm.findClass own = some m.cls := by rw [hvm]; exact hown
  have hins : (Cond.instantiable cls 6).before args s' = true := h _ (by simp [Bundle.ownAtoms])
  obtain ⟨vm₁, cX, kX, hfX, hkX, -, -, X₁, st1⟩ := Y.newCold hexec (own := own) (C := cls) (index := ik) (n := 6) hown' hk' hins hini'
    (g := F0 m pc ls rest) rfl (by rw [hb]; exact d0) (Nat.le_refl _) (Nat.le_refl _)
  generalize hT1 : (T.setVm vm₁).pushCell { cls := cX, slots := kX.instanceTypes.map defaultValue, vm := .none } = T1 at X₁ st1
  have hcat : (Value.ref T.heap.size).category = 1 := rfl
  have hcellA : T1.heap[T.heap.size]? = some (freshCell cX kX) := by rw [← hT1]; exact State.heap_pushCell_size _ _
  have d3' : decode c.code (pc + 3) = .ok (.dup, 1) := by rw [hb]; exact d3
  have d4' : decode c.code (pc + 4) = .ok (.ldc is, 2) := by rw [hb]; exact d4
  have hstr' : vk_R own is text sa s' := vk_R.warm hW0 hstr
  obtain ⟨U, hsteps, hrun, hend, hW, hsame, ce, hce, hO⟩ := X₁.ctorThrowS hexec htr (own := own) (cls := cls) (names := names) (ic := ic) hown' hcls hnames h (fun x hx => nomatch hx) hfX hkX hcellA (by rw [hhp, hT]; exact Nat.le_refl _) (msg := .ref sa) rfl
    (g := { method := m, pc := pc + 6, locals := ls, stack := .ref sa :: .ref T.heap.size :: .ref T.heap.size :: rest, locked := none }) rfl hsize rfl rfl (rest := rest) rfl
    (by rw [hb]; exact d6) (by rw [hb]; exact d9) hout hRframes (by simp only [List.map_cons, List.sum_cons, hcat]; omega) hlocks
  obtain ⟨f1, f2⟩ := vx_frame hsame
  rw [hhp] at f1 f2
  have hWs : s.WarmedH U.vm := State.WarmedH.trans hW0 hW
  have hcl : s.vm.findClass cls = some ce.cls := by
    have h9 := hO.cls
    rw [hvm] at h9
    exact h9
  have hall : s.sameButNew ({ U with vm := s.vm } : State) locs mc ms := by
    subst hA
    obtain ⟨e1, e2⟩ := hsame
    rw [State.setFrames_setFrames] at e1
    have h2 : (T.setVm s.vm).sameButNew ({ U with vm := s.vm } : State) [] (0 + 1) (0 + 6) := ⟨e1, e2⟩
    have h3 := X.same.trans h2
    rw [List.append_nil] at h3
    exact h3.mono hc hs
  refine ⟨U, ?_, .threw T.heap.size, hrun, hend, Or.inr ⟨T.heap.size, rfl, cls, ce, locs, hx U hWs.alike f1 (fun q hq => f2 q hq (fun z hz => nomatch hz)), hce, hO.vm, hcl, hWs, hall, hf⟩⟩
  refine st1 _ ?_
  show Steps p.tables e below (T1.setTop { method := m, pc := pc + 3, locals := ls, stack := .ref T.heap.size :: rest, locked := none }) _
  jvm_step X₁.here [X₁.here.top, hexec, d3', Value.category]
  exact X₁.ldcString hexec (own := own) (text := text) (index := is) (a := sa) hown' hstr'.1 hstr'.2
    (g := { method := m, pc := pc + 4, locals := ls, stack := .ref T.heap.size :: .ref T.heap.size :: rest, locked := none }) rfl d4' _ hsteps
/-- 'throw new E("text")', the text by a wide index -/
theorem vx_throwSW {cc : ByteArray} {pc : Nat} (hexec : p.tables.exec = Jvm.exec) (hb : c.code = cc) (hl : l.stackTraces = false) {own cls text : String} {names : List String} {ik is ic mc ms sa : Nat} {A : Nat → Prop}
    (hown : s.vm.findClass own = some m.cls) (hcls : Bundle.fit cls = true) (hnames : ∀ n ∈ names, Bundle.fit n = true)
    (hk : (Cond.classLink own ik cls).before args s = true) (hini : (Cond.initialized cls).before args s = true) (hstr : vk_R own is text sa s) (hat : ∀ w ∈ vx_atS own ic cls names, w.before args s = true)
    (hgood : ∀ w ∈ Cond.classLink own ik cls :: Cond.initialized cls :: vx_atS own ic cls names, vx_ot w = true)
    (hU : vx_Zq Bundle.tN "UNASSIGNED_STACK" Bundle.steD A s s.heap) (hN : vx_Zq Bundle.tN "SUPPRESSED_SENTINEL" Bundle.listD A s s.heap) (hS : va_S A s.heap H locs) (hsize : ls.size = c.maxLocals)
    (d0 : decode cc pc = .ok (.new ik, 3)) (d3 : decode cc (pc + 3) = .ok (.dup, 1)) (d4 : decode cc (pc + 4) = .ok (.ldc_w is, 3)) (d7 : decode cc (pc + 7) = .ok (.invokespecial ic, 3)) (d10 : decode cc (pc + 10) = .ok (.athrow, 1))
    (hout : ∀ x ∈ c.exceptionTable.toList, covers x (pc + 10) = false)
    (hRframes : names.length + 3 < R.frames) (hRlocals : (rest.map fun v => v.category).sum + (13 * (names.length + 1) + 43) ≤ R.locals) (hRcells : cells + 1 ≤ R.cells) (hRslots : slots + 6 ≤ R.slots) (hlocks : meth.locks = false)
    (hx : ∀ t : State, s.vm.Alike t.vm → H.size ≤ t.heap.size → (∀ q : Nat, q < H.size → t.heap[q]? = H[q]?) → XC cls s t)
    (hf : ∀ z ∈ locs, free z.base) (hc : cells + 1 ≤ mc) (hs : slots + 6 ≤ ms) :
    W p l e R s m args below meth c H locs cells slots (vx_MQ below Qc XC args s mc ms free) (F0 m pc ls rest) := by
  intro T hT X
  have htr : e.platform.stackTraces = false := (show e.platform.stackTraces = l.stackTraces by rw [X.admits.platform]).trans hl
  have Y := vx_rebase X (R' := { frames := R.frames, locals := R.locals, cells := 1, slots := 6 }) (Nat.le_refl _) (Nat.le_refl _) hRcells hRslots
  obtain ⟨s', hA⟩ : ∃ z, z = (T.setVm s.vm).setFrames (.invoking m args :: below) := ⟨_, rfl⟩
  rw [← hA] at Y
  have hvm : s'.vm = s.vm := by rw [hA]; rfl
  have hhp : s'.heap = H := by rw [hA]; exact hT
  have hW0 : s.WarmedH s'.vm := by rw [hvm]; exact State.WarmedH.refl s
  have hat' : ∀ w ∈ vx_atS own ic cls names, w.before args s' = true := fun w hw => vx_ot_at hW0 hvm.symm (hgood w (List.mem_cons_of_mem _ (List.mem_cons_of_mem _ hw))) (hat w hw)
  have hk' : (Cond.classLink own ik cls).before args s' = true := vx_ot_at hW0 hvm.symm (hgood _ List.mem_cons_self) hk
  have hini' : (Cond.initialized cls).before args s' = true := vx_ot_at hW0 hvm.symm (hgood _ (List.mem_cons_of_mem _ List.mem_cons_self)) hini
  have hU' : vx_Zq Bundle.tN "UNASSIGNED_STACK" Bundle.steD A s' s'.heap := by rw [hhp]; exact vx_Zq.moved hW0.alike (hU.kept hS.2.1)
  have hN' : vx_Zq Bundle.tN "SUPPRESSED_SENTINEL" Bundle.listD A s' s'.heap := by rw [hhp]; exact vx_Zq.moved hW0.alike (hN.kept hS.2.1)
  have h : ∀ w ∈ Bundle.ownAtoms own ic cls names, w.before args s' = true := vx_own hat' (vx_isRefq hU'.1) (vx_isRefq hN'.1) hU'.2.word hN'.2.word
  have hown' : s'.vm.findClass own = some m.cls := by rw [hvm]; exact hown
  have hins : (Cond.instantiable cls 6).before args s' = true := h _ (by simp [Bundle.ownAtoms])
  obtain ⟨vm₁, cX, kX, hfX, hkX, -, -, X₁, st1⟩ := Y.newCold hexec (own := own) (C := cls) (index := ik) (n := 6) hown' hk' hins hini'
    (g := F0 m pc ls rest) rfl (by rw [hb]; exact d0) (Nat.le_refl _) (Nat.le_refl _)
  generalize hT1 : (T.setVm vm₁).pushCell { cls := cX, slots := kX.instanceTypes.map defaultValue, vm := .none } = T1 at X₁ st1
  have hcat : (Value.ref T.heap.size).category = 1 := rfl
  have hcellA : T1.heap[T.heap.size]? = some (freshCell cX kX) := by rw [← hT1]; exact State.heap_pushCell_size _ _
  have d3' : decode c.code (pc + 3) = .ok (.dup, 1) := by rw [hb]; exact d3
  have d4' : decode c.code (pc + 4) = .ok (.ldc_w is, 3) := by rw [hb]; exact d4
  have hstr' : vk_R own is text sa s' := vk_R.warm hW0 hstr
  obtain ⟨U, hsteps, hrun, hend, hW, hsame, ce, hce, hO⟩ := X₁.ctorThrowS hexec htr (own := own) (cls := cls) (names := names) (ic := ic) hown' hcls hnames h (fun x hx => nomatch hx) hfX hkX hcellA (by rw [hhp, hT]; exact Nat.le_refl _) (msg := .ref sa) rfl
    (g := { method := m, pc := pc + 7, locals := ls, stack := .ref sa :: .ref T.heap.size :: .ref T.heap.size :: rest, locked := none }) rfl hsize rfl rfl (rest := rest) rfl
    (by rw [hb]; exact d7) (by rw [hb]; exact d10) hout hRframes (by simp only [List.map_cons, List.sum_cons, hcat]; omega) hlocks
  obtain ⟨f1, f2⟩ := vx_frame hsame
  rw [hhp] at f1 f2
  have hWs : s.WarmedH U.vm := State.WarmedH.trans hW0 hW
  have hcl : s.vm.findClass cls = some ce.cls := by
    have h9 := hO.cls
    rw [hvm] at h9
    exact h9
  have hall : s.sameButNew ({ U with vm := s.vm } : State) locs mc ms := by
    subst hA
    obtain ⟨e1, e2⟩ := hsame
    rw [State.setFrames_setFrames] at e1
    have h2 : (T.setVm s.vm).sameButNew ({ U with vm := s.vm } : State) [] (0 + 1) (0 + 6) := ⟨e1, e2⟩
    have h3 := X.same.trans h2
    rw [List.append_nil] at h3
    exact h3.mono hc hs
  refine ⟨U, ?_, .threw T.heap.size, hrun, hend, Or.inr ⟨T.heap.size, rfl, cls, ce, locs, hx U hWs.alike f1 (fun q hq => f2 q hq (fun z hz => nomatch hz)), hce, hO.vm, hcl, hWs, hall, hf⟩⟩
  refine st1 _ ?_
  show Steps p.tables e below (T1.setTop { method := m, pc := pc + 3, locals := ls, stack := .ref T.heap.size :: rest, locked := none }) _
  jvm_step X₁.here [X₁.here.top, hexec, d3', Value.category]
  exact X₁.ldcStringW hexec (own := own) (text := text) (index := is) (a := sa) hown' hstr'.1 hstr'.2
    (g := { method := m, pc := pc + 4, locals := ls, stack := .ref T.heap.size :: .ref T.heap.size :: rest, locked := none }) rfl d4' _ hsteps
end Ends
section Bodies
variable {l : Launch}
theorem vx_ofW {y : MethodName} {ws ws' : List Cond} {rm : Room} {Pc : Array Value → State → Prop} {Qc : Array Value → State → Outcome → State → Prop} {XC : String → State → State → Prop} {mc ms : Nat} {free : Addr → Prop} {cc : ByteArray} {maxL : Nat} {ret : Option FieldType}
    (hy : plainName y.cls = true) (hw : ws = Cond.code y cc maxL ret :: ws')
    (body : ∀ p e s m args below meth c s₁, BodyLoose p l y (headSpec ws rm) cc maxL ret e s m args below meth c s₁ → c.maxLocals = maxL → (∀ x ∈ c.exceptionTable.toList, False) → Pc args s →
      W p l e (headSpec ws rm).room s m args below meth c s.heap [] 0 0 (vx_MQ below Qc XC args s mc ms free) (entryFrame m args maxL)) : vx_Met l y ws rm Pc Qc XC mc ms free := by
  refine MetFree.of_bodyS (code := cc) (maxLocals := maxL) (ret := ret) hy ?_ ?_
  · intro args s m h hn
    obtain ⟨meth, c, h1, h2, h3, h4, h5, h6, -, -⟩ := Cond.code_spec hn (atoms_spec (ws := ws) h _ (by rw [hw]; exact List.mem_cons_self))
    exact ⟨meth, c, h1, h2, h3, h4, h5, h6⟩
  · intro p e s m args below meth c s₁ B hml hP _
    have hh0 : s₁.heap = s.heap := by rw [B.state]; rfl
    have ht : ∀ x ∈ c.exceptionTable.toList, False := by
      obtain ⟨meth9, c9, h1, h2, -, -, -, -, h7, -⟩ := Cond.code_spec B.named (atoms_spec (ws := ws) B.pre _ (by rw [hw]; exact List.mem_cons_self))
      cases Option.some.inj (h1.symm.trans B.method)
      cases Option.some.inj (h2.symm.trans (Stand.of_body B).code)
      intro x hx
      rw [Array.isEmpty_iff.mp h7] at hx
      cases hx
    obtain ⟨t, a1, o, b1, b2, b3⟩ := body p e s m args below meth c s₁ B hml ht hP s₁ hh0 (Stand.of_body B)
    exact ⟨t, o, a1, b1, b2, b3⟩
/-- the table of a body with handlers -/
theorem vx_table {p : Program} {x y : MethodName} {S : Spec} {cc bytes : ByteArray} {maxL maxL' : Nat} {ret ret' : Option FieldType} {e : Env} {s s₁ : State} {m : MethodId} {args : Array Value} {below : List Frame} {meth : Method} {c : Code} {hh : List (Nat × Nat × Nat × Nat)}
    (B : BodyLoose p l y S cc maxL ret e s m args below meth c s₁) (h : (Cond.codeWith y bytes maxL' ret' hh).before args s = true) : c.exceptionTable.toList = tableOf hh := by
  obtain ⟨m9, meth9, c9, hn9, h1, h2, -, -, h6, -⟩ := Cond.codeWith_spec h
  cases Option.some.inj (hn9.symm.trans B.named)
  cases Option.some.inj (h1.symm.trans B.method)
  cases Option.some.inj (h2.symm.trans (Stand.of_body B).code)
  rw [← h6, table_eq]
end Bodies
end VXA
/-! ===== END ===== -/
/-! ===== BEGIN a static call of a method with an exception table ===== -/
section VXS
variable {p : Program} {l : Launch} {e : Env} {R : Room} {s : State} {m : MethodId} {args : Array Value} {below : List Frame} {meth : Method} {c : Code} {T : State} {H : Heap} {locs : List Loc} {cells slots : Nat}
abbrev vx_CSW (R : Room) (s : State) (args : Array Value) (own : String) (index : Nat) (y : MethodName) (bytes : ByteArray) (maxL : Nat) (ret : Option FieldType) (hh : List (Nat × Nat × Nat × Nat)) (ws : List Cond) (rm : Room) (mc ms n : Nat) : Prop :=
  (rm.cells = mc ∧ rm.slots = ms ∧ rm.frames + 1 ≤ R.frames ∧ 8 + (maxL + 11) + rm.locals ≤ R.locals ∧ (∀ w ∈ ws, ∀ (a' : Array Value) (U : State), s.WarmedH U.vm → w.before a' U = true) ∧ Cond.codeWith y bytes maxL ret hh ∈ ws) ∧
  (Cond.codeWith y bytes maxL ret hh).before args s = true ∧ (Cond.initialized y.cls).before args s = true ∧ (y.cls ≠ "java/lang/invoke/MethodHandle" ∧ y.cls ≠ "java/lang/invoke/VarHandle") ∧
  (∀ sig, parseMethodDescriptor y.desc = some sig → n = sig.parameters.length) ∧ (Cond.methodLink own index y).before args s = true ∧ (Cond.static y).before args s = true
theorem vx_cwSW {own : String} {index maxL mc ms : Nat} {y : MethodName} {bytes : ByteArray} {ret : Option FieldType} {hh : List (Nat × Nat × Nat × Nat)} {Ts ws ws' : List Cond} {rm : Room} (n : Nat) (ht : ∀ w ∈ Ts, w.before args s = true) (hT : GoodIn Ts (va_wsS own index y ws)) (hw : ws = Cond.codeWith y bytes maxL ret hh :: ws') (hrc : rm.cells = mc) (hrs : rm.slots = ms)
    (hd : y.cls ≠ "java/lang/invoke/MethodHandle" ∧ y.cls ≠ "java/lang/invoke/VarHandle" ∧ (parseMethodDescriptor y.desc).map (fun d => d.parameters.length) = some n) (hR : rm.frames + 1 ≤ R.frames ∧ 8 + (maxL + 11) + rm.locals ≤ R.locals) :
    vx_CSW R s args own index y bytes maxL ret hh ws rm mc ms n := by
  have ok : ∀ w ∈ va_wsS own index y ws, w.before args s = true := fun w h => ht w (hT w h).1
  have hG : GoodIn Ts ws := fun w h => hT w (by unfold va_wsS; exact List.mem_append_right _ h)
  have hc : Cond.codeWith y bytes maxL ret hh ∈ ws := by rw [hw]; exact List.mem_cons_self
  refine ⟨⟨hrc, hrs, hR.1, hR.2, pay_in ht hG, hc⟩, ht _ (hG _ hc).1, ok _ (by simp [va_wsS]), ⟨hd.1, hd.2.1⟩, fun sig h => ?_, ok _ (by simp [va_wsS]), ok _ (by simp [va_wsS])⟩
  have h2 := hd.2.2
  rw [h] at h2
  exact (Option.some.inj h2).symm
theorem vx_callSW (X : Stand p l e R s m args below meth c T locs cells slots) (hexec : p.tables.exec = Jvm.exec) {own : String} {index : Nat} {y : MethodName} {bytes : ByteArray} {maxL : Nat} {ret : Option FieldType} {hh : List (Nat × Nat × Nat × Nat)}
    (hown : s.vm.findClass own = some m.cls) (hlink : (Cond.methodLink own index y).before args s = true) (hstat : (Cond.static y).before args s = true) (hinit : (Cond.initialized y.cls).before args s = true)
    (hcode : (Cond.codeWith y bytes maxL ret hh).before args s = true) (hy : y.cls ≠ "java/lang/invoke/MethodHandle" ∧ y.cls ≠ "java/lang/invoke/VarHandle")
    {W9 : Nat} {Pre : Pt → Array Value → Prop} {Post : Pt → Array Value → Option Value → Pt → Prop} (hK : Back l R p e below s args y 3 W9 Pre Post)
    {g : JFrame} (hg : g.method = m) (hsize : g.locals.size = c.maxLocals) {argsL rest : List Value} (hlen : ∀ sig, parseMethodDescriptor y.desc = some sig → argsL.length = sig.parameters.length)
    (hstack : g.stack = argsL.reverse ++ rest) (hW : 2 * g.monitorRoom + (rest.map fun v => v.category).sum ≤ W9) (hdg : decode c.code g.pc = .ok (.invokestatic index, 3))
    (hpre : ∀ vm₁, s.WarmedH vm₁ → Pre ⟨T.setVm vm₁, locs, cells, slots⟩ argsL.toArray) :
    ∃ (v : Option Value) (vm₁ : Vm) (B : Pt), s.WarmedH vm₁ ∧ Stand p l e R s m args below meth c B.U B.locs B.cells B.slots ∧ Post ⟨T.setVm vm₁, locs, cells, slots⟩ argsL.toArray v B ∧
      ∀ target, Steps p.tables e below (B.U.setTop { g with pc := g.pc + 3, stack := v.toList ++ rest }) target → Steps p.tables e below (T.setTop g) target := by
  obtain ⟨mk, methM, cM, hnamed, hmethM, -, -, -, -, -, -, hsigM⟩ := Cond.codeWith_spec hcode
  have hstatic : methM.isStatic = true := Cond.static_spec hnamed hmethM hstat
  obtain ⟨kP, hkP, -⟩ := className_of_methodNamed hnamed
  have hinitP : kP.init = .initialized := Cond.initialized_spec (findClass_of_methodNamed hnamed) hkP hinit
  obtain ⟨vm₁, X₁, hstep₁⟩ := X.invokestatic hexec hown hlink hnamed hmethM hstatic hkP hinitP hy (g := g) hg (argsL := argsL) (rest := rest) (hlen _ hsigM) hstack hdg
  obtain ⟨v, B, X', hpost, hsteps⟩ := hK m meth c ⟨T.setVm vm₁, locs, cells, slots⟩ { g with stack := rest } (.invokestatic index) mk argsL.toArray X₁ hg hsize hdg hW (X₁.named hnamed) (hpre vm₁ X₁.warmed)
  exact ⟨v, vm₁, B, X₁.warmed, X', hpost, fun target h => hstep₁ _ fun acts => by rw [doInvoke_state]; exact hsteps.trans h⟩
theorem vx_runSW {y : MethodName} {bytes cc : ByteArray} {maxL nL mc ms n index : Nat} {ret : Option FieldType} {hh : List (Nat × Nat × Nat × Nat)} {ws : List Cond} {rm : Room} {Pc : Array Value → State → Prop} {Qc : Array Value → State → Outcome → State → Prop} {free : Addr → Prop} {Ts : List Cond} {own : String} {As rest : List Value} {g : JFrame}
    (S : CallFix p m c cc nL s args Ts own) (hM : Met l y ws rm Pc Qc mc ms free) (cw : vx_CSW R s args own index y bytes maxL ret hh ws rm mc ms n) (hp : PreS s H Pc As)
    (hg : g.method = m) (hn : As.length = n) (hsize : g.locals.size = nL) (hstack : g.stack = As.reverse ++ rest) (hW : 2 * g.monitorRoom + (rest.map fun v => v.category).sum ≤ 8) (hdg : decode cc g.pc = .ok (.invokestatic index, 3)) (hf : cells + mc ≤ R.cells ∧ slots + ms ≤ R.slots) :
    va_Run p l e R s m args below meth c H locs cells slots mc ms g rest (Qc As.toArray) (free) := by
  obtain ⟨⟨hrc, hrs, hfr, hlo, hws, hcw⟩, hcode, hini, hy, hlen, hl, hstt⟩ := cw
  have hK : Back l R p e below s args y 3 8 (PreOf R mc ms Pc) (PostOf Qc mc ms free) := va_backW (hh := hh) (bytes := bytes) (maxL := maxL) (ret := ret) hM hp.1 hrc hrs hfr hlo hws hcw (fun a' U hW => word_at hW (Or.inl (by first | rfl | simp [Cond.onTables, Cond.keeps, Cond.steady])) hini)
  obtain ⟨hx, hb, hml, ho, -⟩ := S
  intro T hT X
  obtain ⟨v, vm₁, ⟨U', l2, c2, s2⟩, hW₁, X', ⟨g', mk, t, L, e1, e2, hq, h1, hL, h2, h3⟩, st⟩ := vx_callSW X hx (hh := hh) (bytes := bytes) (maxL := maxL) (ret := ret) ho hl hstt hini hcode hy hK hg (hsize.trans hml.symm) (argsL := As) (rest := rest) (fun sig h => hn.trans (hlen sig h)) hstack hW (by rw [hb]; exact hdg)
    (fun vm₁ hW₁ => ⟨hf.1, hf.2, hp.2 (T.setVm vm₁) hT hW₁⟩)
  dsimp only [Pt.U, Pt.locs, Pt.cells, Pt.slots] at X' e1 e2 h1 h2 h3 st
  subst h1; subst h2; subst h3
  exact ⟨v, (T.setVm vm₁).calling g' mk As.toArray, t, U', L, hT, X', hL, e1, e2, hq, st⟩
/-- not caught here, past rows that name other classes: it goes on to the caller -/
theorem vx_outP {p : Program} {l : Launch} {e : Env} {R : Room} {s : State} {m : MethodId} {args : Array Value} {below : List Frame} {meth : Method} {c : Code} {H : Heap} {locs : List Loc} {cells slots : Nat} {free : Addr → Prop} {ls : Array Slot} {rest : List Value} {Qc : Array Value → State → Outcome → State → Prop} {XC : String → State → State → Prop}
    {pc : Nat} {own E : String} {ce : Cell} {q : Addr} {mc ms : Nat} (hown : s.vm.findClass own = some m.cls) (hlocks : meth.locks = false)
    (hpass : ∀ z ∈ c.exceptionTable.toList, covers z pc = false ∨ (z.catchType ≠ 0 ∧ ∃ nm : String, (Cond.classLink own z.catchType nm).before args s = true ∧ va_Nc E nm s)) (hcell : H[q]? = some ce) (hv : ce.vm = .none) (hcl : s.vm.findClass E = some ce.cls)
    (hx : ∀ t : State, t.heap = H → s.vm.Alike t.vm → XC E s t) (hf : ∀ z ∈ locs, free z.base) (hc : cells ≤ mc) (hs : slots ≤ ms) :
    vx_W p l e R s m args below meth c H locs cells slots (vx_MQ below Qc XC args s mc ms free) (F0 m pc ls rest) q := by
  intro T hT X
  have hpl : e.platform.magicAccessors = ({} : Platform).magicAccessors := by rw [X.admits.platform]
  obtain ⟨vm', hW', X', st⟩ := X.outThrough hlocks q (g := F0 m pc ls rest) rfl rfl rfl (cell := ce) (by rw [hT]; exact hcell) (by rw [hv]; rfl)
    (by obtain ⟨k9, h9, -⟩ := Vm.findClass_spec hcl; exact ⟨k9, h9⟩) (fun z hz => by
      rcases hpass z hz with h | ⟨hz0, nm, hl1, hn1⟩
      · exact Or.inl h
      · obtain ⟨c6, hc6, hcl6⟩ := Cond.classLink_spec hown hl1 e.platform hpl
        obtain ⟨a8, b8, h1, h2, h3⟩ := hn1
        cases Option.some.inj (h1.symm.trans hcl)
        cases Option.some.inj (h2.symm.trans hc6)
        exact Or.inr ⟨hz0, _, hcl6, h3⟩)
  obtain ⟨g₀, hfr⟩ := X'.frames_eq
  have hcell9 : ((T.setVm vm').setFrames (.throwing q :: below)).heap[q]? = some ce := by
    show T.heap[q]? = some ce
    rw [hT]; exact hcell
  have hend : Ended ((T.setVm vm').setFrames (.throwing q :: below)) below (.threw q) := State.frames_setFrames _ (State.cur_lt_of_frames hfr)
  refine ⟨(T.setVm vm').setFrames (.throwing q :: below), ?_, .threw q, X'.here.running, hend, Or.inr ⟨q, rfl, E, ce, locs, hx _ hT (X'.ends _).1.alike, hcell9, hv, hcl, (X'.ends _).1, (X'.ends _).2.mono hc hs, hf⟩⟩
  rw [X.pushThrowing_eq]
  exact st
/-- a thing of a world lies in the heap -/
theorem vx_lt {D : va_G} {cl : List vw_C} {ws : va_W} {H1 : Heap} (h : va_P D cl ws H1) {k : Nat} {q : Nat × va_E} (hk : ws[k]? = some q) : q.1 < H1.size := (h k q hk).lt
end VXS
/-! ===== END ===== -/
/-! ===== BEGIN methods with a table of their own: called by a name, returning or throwing ===== -/
section VXH
/-! vx_backW, vx_callVX, vx_callSX, vx_callVW, vx_runVW, vx_runVX, vx_runSX, vx_ofWH follow the same proofs as their sisters above (Free/Laws.lean, Shelf42/LK1.lean); vx_outP calls Shelf42/NT130.lean (outThrough). -/
section
variable {l : Launch} {R : Room} {p : Program} {e : Env} {below : List Frame} {s : State} {sargs : Array Value} {y : MethodName} {len W9 : Nat}
theorem vx_backW {ws : List Cond} {rm : Room} {Pc : Array Value → State → Prop} {Qc : Array Value → State → Outcome → State → Prop} {XC : String → State → State → Prop} {mc ms : Nat} {free : Addr → Prop} {bytes : ByteArray} {maxL : Nat} {ret : Option FieldType} {hh : List (Nat × Nat × Nat × Nat)}
    (hM : vx_Met l y ws rm Pc Qc XC mc ms free) (hblind : FrameBlind Pc) (hrc : rm.cells = mc) (hrs : rm.slots = ms)
    (hframes : rm.frames + 1 ≤ R.frames) (hlocals : W9 + (maxL + 11) + rm.locals ≤ R.locals)
    (hws : ∀ w ∈ ws, ∀ a' U, s.WarmedH U.vm → w.before a' U = true) (hcode : Cond.codeWith y bytes maxL ret hh ∈ ws) (hinit : ∀ a' U, s.WarmedH U.vm → (Cond.initialized y.cls).before a' U = true) :
    vx_Back l R p e below s sargs y len W9 (PreOf R mc ms Pc) (PostOf Qc mc ms free) (vx_Post XC mc ms free) := by
  intro m meth c A g ig mk a X hg hsize hdg hW hn hp
  have h1 : (headSpec ws rm).pre.before a A.U = true := atoms_intro fun w hw => hws w hw _ _ X.warmed
  have h2 : (Cond.codeWith y bytes maxL ret hh).before a A.U = true := hws _ hcode _ _ X.warmed
  have h3 : (Cond.initialized y.cls).before a A.U = true := hinit _ _ X.warmed
  have h4 : A.cells + (headSpec ws rm).room.cells ≤ R.cells := by rw [show (headSpec ws rm).room.cells = mc from hrc]; exact hp.1
  have h5 : A.slots + (headSpec ws rm).room.slots ≤ R.slots := by rw [show (headSpec ws rm).room.slots = ms from hrs]; exact hp.2.1
  have hPc : Pc a (A.U.calling g mk a) := hblind _ _ _ _ hp.2.2
  obtain ⟨U, Ls, c0, s0⟩ := A
  dsimp only [Pt.U, Pt.locs, Pt.cells, Pt.slots] at h1 h2 h3 h4 h5 X hn hPc ⊢
  obtain ⟨m9, methY, cY, hn9, hmY, hcY, -, hlY, -⟩ := Cond.codeWith_spec h2
  cases Option.some.inj (hn9.symm.trans hn)
  obtain ⟨kY, hkY, -⟩ := className_of_methodNamed hn
  have hinitY : kY.init = .initialized := Cond.initialized_spec (findClass_of_methodNamed hn) hkY h3
  have h : At U g.method c below := by rw [hg]; exact X.here
  have hlocals9 : W9 + (maxL + 11) + (headSpec ws rm).room.locals ≤ R.locals := hlocals
  have happ : (headSpec ws rm).appliesLoose y e.platform (U.calling g mk a) = true :=
    Spec.appliesLoose_calling (g := g) h hdg hn hkY hinitY
      (X.room_calling (g := g) (R' := (headSpec ws rm).room) hsize hmY hcY hframes (by rw [hlY]; omega) h4 h5) h1
  obtain ⟨mid, hmid⟩ := h.above
  have hfr : (U.setTop g).frames = (.java g :: mid) ++ below := by rw [State.frames_setTop' g h.top, hmid]; rfl
  obtain ⟨o, s₂, hsteps, -, hend, hq⟩ := Steps.callFree hM p X.admits X.cas X.clock (acts := []) hfr happ hPc trivial
  have hq' : vx_Q Qc XC mc ms free a (U.calling g mk a) o s₂ := hq
  rw [State.frames_setTop' g h.top] at hend
  obtain ⟨g₀, hg0⟩ := Option.isSome_iff_exists.mp h.top
  obtain ⟨r, hr⟩ := State.topJava?_eq_some.mp hg0
  have hr' : (({ U with heap := s₂.heap, slotsUsed := s₂.slotsUsed } : State).setVm s₂.vm).frames = .java g₀ :: r := hr
  rcases hq' with ⟨hqc, L, hfe, hL⟩ | ⟨q, rfl, E, ce, L, hx, hce, hcv, hcl, hW₂, hsm, hL⟩
  · obtain ⟨⟨v, rfl⟩, hW₂, e2, q2, q3, q4, q5, q6⟩ := id hfe
    have e3 : s₂ = ({ (U.calling g mk a).setFrames s₂.frames with heap := s₂.heap, slotsUsed := s₂.slotsUsed } : State).setVm s₂.vm := by
      have : s₂ = ({ s₂ with vm := (U.calling g mk a).vm } : State).setVm s₂.vm := rfl
      rw [e2] at this
      exact this
    obtain ⟨c₂, i₂, len₂, hc₂, hd₂, hf₂⟩ := hend
    have hW' : U.WarmedH s₂.vm := hW₂
    have hcc : c₂ = c := by
      have h1 : s₂.code? g.method = U.code? g.method := by
        rw [State.code?_eq, State.code?_eq, hW'.alike.method?]
      exact Option.some.inj (hc₂.symm.trans (h1.trans h.code))
    subst hcc
    have hlen : len₂ = len := by rw [hdg] at hd₂; cases hd₂; rfl
    subst hlen
    have hs₂ : s₂ = (({ U with heap := s₂.heap, slotsUsed := s₂.slotsUsed } : State).setVm s₂.vm).setTop { g with pc := g.pc + len₂, stack := v.toList ++ g.stack } := by
      refine e3.trans ?_
      rw [hf₂, State.calling_eq h.top, State.setFrames_setFrames, State.setTop_of_frames _ hr', hr]
      rfl
    have hsame : U.sameButNew ({ U with heap := s₂.heap, slotsUsed := s₂.slotsUsed } : State) L mc ms := by
      refine ⟨?_, q2, q3, q4, q5, q6⟩
      obtain ⟨t, ht, -⟩ := State.frames_cons hr
      show ({ U with heap := s₂.heap, slotsUsed := s₂.slotsUsed } : State) = { U.setFrames U.frames with heap := s₂.heap, slotsUsed := s₂.slotsUsed }
      rw [State.setFrames_self ht]
    subst hg
    refine Or.inl ⟨v, ⟨(({ U with heap := s₂.heap, slotsUsed := s₂.slotsUsed } : State).setVm s₂.vm), Ls ++ L, c0 + mc, s0 + ms⟩,
      ⟨X.admits, X.cas, X.clock, X.frames, X.room, X.hears, X.method, X.code, (X.here.setHeapUsed s₂.heap s₂.slotsUsed).setVm hW'.alike, X.tail, State.WarmedH.trans X.warmed hW', X.limits, X.bytes, X.same.trans (hsame.setVm s.vm)⟩,
      ⟨g, mk, s₂, L, rfl, rfl, hqc, rfl, hL, rfl, rfl⟩, ?_⟩
    show Steps p.tables e below _ ((({ U with heap := s₂.heap, slotsUsed := s₂.slotsUsed } : State).setVm s₂.vm).setTop { g with pc := g.pc + len₂, stack := v.toList ++ g.stack })
    rw [← hs₂]
    exact hsteps
  · obtain ⟨e2, q2, q3, q4, q5, q6⟩ := id hsm
    have e3 : s₂ = ({ (U.calling g mk a).setFrames s₂.frames with heap := s₂.heap, slotsUsed := s₂.slotsUsed } : State).setVm s₂.vm := by
      have : s₂ = ({ s₂ with vm := (U.calling g mk a).vm } : State).setVm s₂.vm := rfl
      rw [e2] at this
      exact this
    have hf₂ : s₂.frames = .throwing q :: .java g :: U.frames.tail := hend
    have hW' : U.WarmedH s₂.vm := hW₂
    have hs₂ : s₂ = ((({ U with heap := s₂.heap, slotsUsed := s₂.slotsUsed } : State).setVm s₂.vm).setTop g).pushFrame (.throwing q) := by
      refine e3.trans ?_
      rw [hf₂, State.calling_eq h.top, State.setFrames_setFrames, State.pushFrame, State.frames_setTop _ hr', State.setTop_of_frames _ hr', State.setFrames_setFrames, hr]
      rfl
    have hsame : U.sameButNew ({ U with heap := s₂.heap, slotsUsed := s₂.slotsUsed } : State) L mc ms := by
      refine ⟨?_, q2, q3, q4, q5, q6⟩
      obtain ⟨t, ht, -⟩ := State.frames_cons hr
      show ({ U with heap := s₂.heap, slotsUsed := s₂.slotsUsed } : State) = { U.setFrames U.frames with heap := s₂.heap, slotsUsed := s₂.slotsUsed }
      rw [State.setFrames_self ht]
    subst hg
    refine Or.inr ⟨q, ⟨(({ U with heap := s₂.heap, slotsUsed := s₂.slotsUsed } : State).setVm s₂.vm), Ls ++ L, c0 + mc, s0 + ms⟩,
      ⟨X.admits, X.cas, X.clock, X.frames, X.room, X.hears, X.method, X.code, (X.here.setHeapUsed s₂.heap s₂.slotsUsed).setVm hW'.alike, X.tail, State.WarmedH.trans X.warmed hW', X.limits, X.bytes, X.same.trans (hsame.setVm s.vm)⟩,
      ⟨g, mk, s₂, L, E, ce, rfl, rfl, hx, hce, hcv, hcl, rfl, hL, rfl, rfl⟩, ?_⟩
    show Steps p.tables e below _ (((({ U with heap := s₂.heap, slotsUsed := s₂.slotsUsed } : State).setVm s₂.vm).setTop g).pushFrame (.throwing q))
    rw [← hs₂]
    exact hsteps
end
variable {p : Program} {l : Launch} {e : Env} {R : Room} {s : State} {m : MethodId} {args : Array Value} {below : List Frame} {meth : Method} {c : Code} {T : State} {H : Heap} {locs : List Loc} {cells slots : Nat}
theorem vx_callVX (X : Stand p l e R s m args below meth c T locs cells slots) (hexec : p.tables.exec = Jvm.exec) {own C : String} {index : Nat} {y : MethodName} {bytes : ByteArray} {maxL : Nat} {ret : Option FieldType} {hh : List (Nat × Nat × Nat × Nat)}
    (hown : s.vm.findClass own = some m.cls) (hlink : (Cond.methodLink own index y).before args s = true) (hinst : (Cond.instanceMethod y).before args s = true) (hsel : (Cond.selects C y y).before args s = true)
    (hcode : (Cond.codeWith y bytes maxL ret hh).before args s = true) (hy : y.cls ≠ "java/lang/invoke/MethodHandle" ∧ y.cls ≠ "java/lang/invoke/VarHandle")
    {W9 : Nat} {Pre : Pt → Array Value → Prop} {Post : Pt → Array Value → Option Value → Pt → Prop} {PostX : Pt → Array Value → Addr → Pt → Prop} (hK : vx_Back l R p e below s args y 3 W9 Pre Post PostX)
    {b : Addr} {cellB : Cell} (hcell : T.heap[b]? = some cellB) (hobj : cellB.vm.isStatics = false) (hcls : s.vm.findClass C = some cellB.cls)
    {g : JFrame} (hg : g.method = m) (hsize : g.locals.size = c.maxLocals) {argsL rest : List Value} (hlen : ∀ sig, parseMethodDescriptor y.desc = some sig → argsL.length = sig.parameters.length)
    (hstack : g.stack = argsL.reverse ++ .ref b :: rest) (hW : 2 * g.monitorRoom + (rest.map fun v => v.category).sum ≤ W9) (hdg : decode c.code g.pc = .ok (.invokevirtual index, 3))
    (hpre : ∀ vm₁, s.WarmedH vm₁ → Pre ⟨T.setVm vm₁, locs, cells, slots⟩ (Value.ref b :: argsL).toArray) :
    (∃ (v : Option Value) (vm₁ : Vm) (B : Pt), s.WarmedH vm₁ ∧ Stand p l e R s m args below meth c B.U B.locs B.cells B.slots ∧ Post ⟨T.setVm vm₁, locs, cells, slots⟩ (Value.ref b :: argsL).toArray v B ∧
      ∀ target, Steps p.tables e below (B.U.setTop { g with pc := g.pc + 3, stack := v.toList ++ rest }) target → Steps p.tables e below (T.setTop g) target) ∨
    (∃ (q : Addr) (vm₁ : Vm) (B : Pt), s.WarmedH vm₁ ∧ Stand p l e R s m args below meth c B.U B.locs B.cells B.slots ∧ PostX ⟨T.setVm vm₁, locs, cells, slots⟩ (Value.ref b :: argsL).toArray q B ∧
      Steps p.tables e below (T.setTop g) ((B.U.setTop { g with stack := rest }).pushFrame (.throwing q))) := by
  obtain ⟨mk, methM, hnamed, hmethM, hstM, habM⟩ := Cond.instanceMethod_spec hinst
  obtain ⟨m8, methM', cM, hn8, hmethM', -, -, -, -, -, -, hsigM⟩ := Cond.codeWith_spec hcode
  cases Option.some.inj (hn8.symm.trans hnamed)
  cases hmethM.symm.trans hmethM'
  obtain ⟨c2, r2, m2, q1, q2, q3, q4, kP, hkP, hkPi⟩ := Cond.selects_spec hsel
  cases hcls.symm.trans q1
  cases (State.methodFound?_of_named hnamed hy).symm.trans q2
  cases hnamed.symm.trans q3
  have hselP : selectMethod e.platform s.vm cellB.cls mk = .method mk := by rw [Launch.admits_selectMethod X.admits]; exact q4
  obtain ⟨vm₁, X₁, hstep₁⟩ := X.invokevirtual hexec hown hlink hnamed hmethM hstM hkP hkPi hy (a := b) (cell := cellB) hcell
    (fun z h => by rw [h] at hobj; cases hobj) hselP hmethM habM hkP hkPi (g := g) hg (argsL := argsL) (rest := rest) (hlen _ hsigM) hstack hdg
  rcases hK m meth c ⟨T.setVm vm₁, locs, cells, slots⟩ { g with stack := rest } (.invokevirtual index) mk (Value.ref b :: argsL).toArray X₁ hg hsize hdg hW (X₁.named hnamed) (hpre vm₁ X₁.warmed) with ⟨v, B, X', hpost, hsteps⟩ | ⟨q, B, X', hpost, hsteps⟩
  · exact Or.inl ⟨v, vm₁, B, X₁.warmed, X', hpost, fun target h => hstep₁ _ fun acts => by rw [doInvoke_state]; exact hsteps.trans h⟩
  · exact Or.inr ⟨q, vm₁, B, X₁.warmed, X', hpost, hstep₁ _ fun acts => by rw [doInvoke_state]; exact hsteps⟩
theorem vx_callSX (X : Stand p l e R s m args below meth c T locs cells slots) (hexec : p.tables.exec = Jvm.exec) {own : String} {index : Nat} {y : MethodName} {bytes : ByteArray} {maxL : Nat} {ret : Option FieldType} {hh : List (Nat × Nat × Nat × Nat)}
    (hown : s.vm.findClass own = some m.cls) (hlink : (Cond.methodLink own index y).before args s = true) (hstat : (Cond.static y).before args s = true) (hinit : (Cond.initialized y.cls).before args s = true)
    (hcode : (Cond.codeWith y bytes maxL ret hh).before args s = true) (hy : y.cls ≠ "java/lang/invoke/MethodHandle" ∧ y.cls ≠ "java/lang/invoke/VarHandle")
    {W9 : Nat} {Pre : Pt → Array Value → Prop} {Post : Pt → Array Value → Option Value → Pt → Prop} {PostX : Pt → Array Value → Addr → Pt → Prop} (hK : vx_Back l R p e below s args y 3 W9 Pre Post PostX)
    {g : JFrame} (hg : g.method = m) (hsize : g.locals.size = c.maxLocals) {argsL rest : List Value} (hlen : ∀ sig, parseMethodDescriptor y.desc = some sig → argsL.length = sig.parameters.length)
    (hstack : g.stack = argsL.reverse ++ rest) (hW : 2 * g.monitorRoom + (rest.map fun v => v.category).sum ≤ W9) (hdg : decode c.code g.pc = .ok (.invokestatic index, 3))
    (hpre : ∀ vm₁, s.WarmedH vm₁ → Pre ⟨T.setVm vm₁, locs, cells, slots⟩ argsL.toArray) :
    (∃ (v : Option Value) (vm₁ : Vm) (B : Pt), s.WarmedH vm₁ ∧ Stand p l e R s m args below meth c B.U B.locs B.cells B.slots ∧ Post ⟨T.setVm vm₁, locs, cells, slots⟩ argsL.toArray v B ∧
      ∀ target, Steps p.tables e below (B.U.setTop { g with pc := g.pc + 3, stack := v.toList ++ rest }) target → Steps p.tables e below (T.setTop g) target) ∨
    (∃ (q : Addr) (vm₁ : Vm) (B : Pt), s.WarmedH vm₁ ∧ Stand p l e R s m args below meth c B.U B.locs B.cells B.slots ∧ PostX ⟨T.setVm vm₁, locs, cells, slots⟩ argsL.toArray q B ∧
      Steps p.tables e below (T.setTop g) ((B.U.setTop { g with stack := rest }).pushFrame (.throwing q))) := by
  obtain ⟨mk, methM, cM, hnamed, hmethM, -, -, -, -, -, -, hsigM⟩ := Cond.codeWith_spec hcode
  have hstatic : methM.isStatic = true := Cond.static_spec hnamed hmethM hstat
  obtain ⟨kP, hkP, -⟩ := className_of_methodNamed hnamed
  have hinitP : kP.init = .initialized := Cond.initialized_spec (findClass_of_methodNamed hnamed) hkP hinit
  obtain ⟨vm₁, X₁, hstep₁⟩ := X.invokestatic hexec hown hlink hnamed hmethM hstatic hkP hinitP hy (g := g) hg (argsL := argsL) (rest := rest) (hlen _ hsigM) hstack hdg
  rcases hK m meth c ⟨T.setVm vm₁, locs, cells, slots⟩ { g with stack := rest } (.invokestatic index) mk argsL.toArray X₁ hg hsize hdg hW (X₁.named hnamed) (hpre vm₁ X₁.warmed) with ⟨v, B, X', hpost, hsteps⟩ | ⟨q, B, X', hpost, hsteps⟩
  · exact Or.inl ⟨v, vm₁, B, X₁.warmed, X', hpost, fun target h => hstep₁ _ fun acts => by rw [doInvoke_state]; exact hsteps.trans h⟩
  · exact Or.inr ⟨q, vm₁, B, X₁.warmed, X', hpost, hstep₁ _ fun acts => by rw [doInvoke_state]; exact hsteps⟩
theorem vx_callVW (X : Stand p l e R s m args below meth c T locs cells slots) (hexec : p.tables.exec = Jvm.exec) {own C : String} {index : Nat} {y : MethodName} {bytes : ByteArray} {maxL : Nat} {ret : Option FieldType} {hh : List (Nat × Nat × Nat × Nat)}
    (hown : s.vm.findClass own = some m.cls) (hlink : (Cond.methodLink own index y).before args s = true) (hinst : (Cond.instanceMethod y).before args s = true) (hsel : (Cond.selects C y y).before args s = true)
    (hcode : (Cond.codeWith y bytes maxL ret hh).before args s = true) (hy : y.cls ≠ "java/lang/invoke/MethodHandle" ∧ y.cls ≠ "java/lang/invoke/VarHandle")
    {W9 : Nat} {Pre : Pt → Array Value → Prop} {Post : Pt → Array Value → Option Value → Pt → Prop} (hK : Back l R p e below s args y 3 W9 Pre Post)
    {b : Addr} {cellB : Cell} (hcell : T.heap[b]? = some cellB) (hobj : cellB.vm.isStatics = false) (hcls : s.vm.findClass C = some cellB.cls)
    {g : JFrame} (hg : g.method = m) (hsize : g.locals.size = c.maxLocals) {argsL rest : List Value} (hlen : ∀ sig, parseMethodDescriptor y.desc = some sig → argsL.length = sig.parameters.length)
    (hstack : g.stack = argsL.reverse ++ .ref b :: rest) (hW : 2 * g.monitorRoom + (rest.map fun v => v.category).sum ≤ W9) (hdg : decode c.code g.pc = .ok (.invokevirtual index, 3))
    (hpre : ∀ vm₁, s.WarmedH vm₁ → Pre ⟨T.setVm vm₁, locs, cells, slots⟩ (Value.ref b :: argsL).toArray) :
    ∃ (v : Option Value) (vm₁ : Vm) (B : Pt), s.WarmedH vm₁ ∧ Stand p l e R s m args below meth c B.U B.locs B.cells B.slots ∧ Post ⟨T.setVm vm₁, locs, cells, slots⟩ (Value.ref b :: argsL).toArray v B ∧
      ∀ target, Steps p.tables e below (B.U.setTop { g with pc := g.pc + 3, stack := v.toList ++ rest }) target → Steps p.tables e below (T.setTop g) target := by
  obtain ⟨mk, methM, hnamed, hmethM, hstM, habM⟩ := Cond.instanceMethod_spec hinst
  obtain ⟨m8, methM', cM, hn8, hmethM', -, -, -, -, -, -, hsigM⟩ := Cond.codeWith_spec hcode
  cases Option.some.inj (hn8.symm.trans hnamed)
  cases hmethM.symm.trans hmethM'
  obtain ⟨c2, r2, m2, q1, q2, q3, q4, kP, hkP, hkPi⟩ := Cond.selects_spec hsel
  cases hcls.symm.trans q1
  cases (State.methodFound?_of_named hnamed hy).symm.trans q2
  cases hnamed.symm.trans q3
  have hselP : selectMethod e.platform s.vm cellB.cls mk = .method mk := by rw [Launch.admits_selectMethod X.admits]; exact q4
  obtain ⟨vm₁, X₁, hstep₁⟩ := X.invokevirtual hexec hown hlink hnamed hmethM hstM hkP hkPi hy (a := b) (cell := cellB) hcell
    (fun z h => by rw [h] at hobj; cases hobj) hselP hmethM habM hkP hkPi (g := g) hg (argsL := argsL) (rest := rest) (hlen _ hsigM) hstack hdg
  obtain ⟨v, B, X', hpost, hsteps⟩ := hK m meth c ⟨T.setVm vm₁, locs, cells, slots⟩ { g with stack := rest } (.invokevirtual index) mk (Value.ref b :: argsL).toArray X₁ hg hsize hdg hW (X₁.named hnamed) (hpre vm₁ X₁.warmed)
  exact ⟨v, vm₁, B, X₁.warmed, X', hpost, fun target h => hstep₁ _ fun acts => by rw [doInvoke_state]; exact hsteps.trans h⟩
abbrev vx_CVW (R : Room) (s : State) (args : Array Value) (own C : String) (index : Nat) (y : MethodName) (bytes : ByteArray) (maxL : Nat) (ret : Option FieldType) (hh : List (Nat × Nat × Nat × Nat)) (ws : List Cond) (rm : Room) (mc ms n : Nat) : Prop :=
  (rm.cells = mc ∧ rm.slots = ms ∧ rm.frames + 1 ≤ R.frames ∧ 8 + (maxL + 11) + rm.locals ≤ R.locals ∧ (∀ w ∈ ws, ∀ (a' : Array Value) (U : State), s.WarmedH U.vm → w.before a' U = true) ∧ Cond.codeWith y bytes maxL ret hh ∈ ws) ∧
  (Cond.codeWith y bytes maxL ret hh).before args s = true ∧ (Cond.initialized y.cls).before args s = true ∧ (y.cls ≠ "java/lang/invoke/MethodHandle" ∧ y.cls ≠ "java/lang/invoke/VarHandle") ∧
  (∀ sig, parseMethodDescriptor y.desc = some sig → n = sig.parameters.length) ∧ (Cond.methodLink own index y).before args s = true ∧ (Cond.instanceMethod y).before args s = true ∧ (Cond.selects C y y).before args s = true
theorem vx_cwVW {own C : String} {index maxL mc ms : Nat} {y : MethodName} {bytes : ByteArray} {ret : Option FieldType} {hh : List (Nat × Nat × Nat × Nat)} {Ts ws ws' : List Cond} {rm : Room} (n : Nat) (ht : ∀ w ∈ Ts, w.before args s = true) (hT : GoodIn Ts (wsV own index C y ws)) (hw : ws = Cond.codeWith y bytes maxL ret hh :: ws') (hrc : rm.cells = mc) (hrs : rm.slots = ms)
    (hd : y.cls = C ∧ y.cls ≠ "java/lang/invoke/MethodHandle" ∧ y.cls ≠ "java/lang/invoke/VarHandle" ∧ (parseMethodDescriptor y.desc).map (fun d => d.parameters.length) = some n) (hR : rm.frames + 1 ≤ R.frames ∧ 8 + (maxL + 11) + rm.locals ≤ R.locals) :
    vx_CVW R s args own C index y bytes maxL ret hh ws rm mc ms n := by
  obtain ⟨hC, hd⟩ := hd
  subst hC
  have ok : ∀ w ∈ wsV own index y.cls y ws, w.before args s = true := fun w h => ht w (hT w h).1
  have hG : GoodIn Ts ws := fun w h => hT w (by unfold wsV; exact List.mem_append_right _ h)
  have hc : Cond.codeWith y bytes maxL ret hh ∈ ws := by rw [hw]; exact List.mem_cons_self
  refine ⟨⟨hrc, hrs, hR.1, hR.2, pay_in ht hG, hc⟩, ht _ (hG _ hc).1, ok _ (by simp [wsV]), ⟨hd.1, hd.2.1⟩, fun sig h => ?_, ok _ (by simp [wsV]), ok _ (by simp [wsV]), ok _ (by simp [wsV])⟩
  have h2 := hd.2.2
  rw [h] at h2
  exact (Option.some.inj h2).symm
theorem vx_runVW {y : MethodName} {bytes cc : ByteArray} {maxL nL mc ms n index : Nat} {ret : Option FieldType} {hh : List (Nat × Nat × Nat × Nat)} {ws : List Cond} {rm : Room} {Pc : Array Value → State → Prop} {Qc : Array Value → State → Outcome → State → Prop} {free : Addr → Prop} {Ts : List Cond} {own C : String} {b : Addr} {As rest : List Value} {g : JFrame}
    (S : CallFix p m c cc nL s args Ts own) (hM : Met l y ws rm Pc Qc mc ms free) (cw : vx_CVW R s args own C index y bytes maxL ret hh ws rm mc ms n) (hp : PreV s H C b Pc As)
    (hg : g.method = m) (hn : As.length = n) (hsize : g.locals.size = nL) (hstack : g.stack = As.reverse ++ .ref b :: rest) (hW : 2 * g.monitorRoom + (rest.map fun v => v.category).sum ≤ 8) (hdg : decode cc g.pc = .ok (.invokevirtual index, 3)) (hf : cells + mc ≤ R.cells ∧ slots + ms ≤ R.slots) :
    va_Run p l e R s m args below meth c H locs cells slots mc ms g rest (Qc (Value.ref b :: As).toArray) free := by
  obtain ⟨⟨hrc, hrs, hfr, hlo, hws, hcw⟩, hcode, hini, hy, hlen, hl, hin, hse⟩ := cw
  have hK : Back l R p e below s args y 3 8 (PreOf R mc ms Pc) (PostOf Qc mc ms free) := va_backW (hh := hh) (bytes := bytes) (maxL := maxL) (ret := ret) hM hp.1 hrc hrs hfr hlo hws hcw (fun a' U hW => word_at hW (Or.inl (by first | rfl | simp [Cond.onTables, Cond.keeps, Cond.steady])) hini)
  obtain ⟨hx, hb, hml, ho, -⟩ := S
  obtain ⟨-, ⟨cellB, hcB, hoB, hclB⟩, hPc⟩ := hp
  intro T hT X
  obtain ⟨v, vm₁, ⟨U', l2, c2, s2⟩, hW₁, X', ⟨g', mk, t, L, e1, e2, hq, h1, hL, h2, h3⟩, st⟩ := vx_callVW X hx (C := C) (hh := hh) (bytes := bytes) (maxL := maxL) (ret := ret) ho hl hin hse hcode hy hK (by rw [hT]; exact hcB) hoB hclB hg (hsize.trans hml.symm) (argsL := As) (rest := rest) (fun sig h => hn.trans (hlen sig h)) hstack hW (by rw [hb]; exact hdg)
    (fun vm₁ hW₁ => ⟨hf.1, hf.2, hPc (T.setVm vm₁) hT hW₁⟩)
  dsimp only [Pt.U, Pt.locs, Pt.cells, Pt.slots] at X' e1 e2 h1 h2 h3 st
  subst h1; subst h2; subst h3
  exact ⟨v, (T.setVm vm₁).calling g' mk (Value.ref b :: As).toArray, t, U', L, hT, X', hL, e1, e2, hq, st⟩
section
variable {y : MethodName} {bytes cc : ByteArray} {maxL nL mc ms n index : Nat} {ret : Option FieldType} {ws : List Cond} {rm : Room} {Pc : Array Value → State → Prop} {Qc : Array Value → State → Outcome → State → Prop} {XC : String → State → State → Prop} {free : Addr → Prop} {Ts : List Cond} {own C : String} {b : Addr} {As rest : List Value} {g : JFrame}
theorem vx_runVX {hh : List (Nat × Nat × Nat × Nat)} (S : CallFix p m c cc nL s args Ts own) (hM : vx_Met l y ws rm Pc Qc XC mc ms free) (cw : vx_CVW R s args own C index y bytes maxL ret hh ws rm mc ms n) (hp : PreV s H C b Pc As)
    (hg : g.method = m) (hn : As.length = n) (hsize : g.locals.size = nL) (hstack : g.stack = As.reverse ++ .ref b :: rest) (hW : 2 * g.monitorRoom + (rest.map fun v => v.category).sum ≤ 8) (hdg : decode cc g.pc = .ok (.invokevirtual index, 3)) (hf : cells + mc ≤ R.cells ∧ slots + ms ≤ R.slots) :
    vx_Run p l e R s m args below meth c H locs cells slots mc ms g rest (Qc (Value.ref b :: As).toArray) XC free := by
  obtain ⟨⟨hrc, hrs, hfr, hlo, hws, hcw⟩, hcode, hini, hy, hlen, hl, hin, hse⟩ := cw
  have hK : vx_Back l R p e below s args y 3 8 (PreOf R mc ms Pc) (PostOf Qc mc ms free) (vx_Post XC mc ms free) := vx_backW (hh := hh) (bytes := bytes) (maxL := maxL) (ret := ret) hM hp.1 hrc hrs hfr hlo hws hcw (fun a' U hW => word_at hW (Or.inl (by first | rfl | simp [Cond.onTables, Cond.keeps, Cond.steady])) hini)
  obtain ⟨hx, hb, hml, ho, -⟩ := S
  obtain ⟨-, ⟨cellB, hcB, hoB, hclB⟩, hPc⟩ := hp
  intro T hT X
  rcases vx_callVX X hx (C := C) (hh := hh) (bytes := bytes) (maxL := maxL) (ret := ret) ho hl hin hse hcode hy hK (by rw [hT]; exact hcB) hoB hclB hg (hsize.trans hml.symm) (argsL := As) (rest := rest) (fun sig h => hn.trans (hlen sig h)) hstack hW (by rw [hb]; exact hdg)
    (fun vm₁ hW₁ => ⟨hf.1, hf.2, hPc (T.setVm vm₁) hT hW₁⟩) with ⟨v, vm₁, ⟨U', l2, c2, s2⟩, hW₁, X', ⟨g', mk, t, L, e1, e2, hq, h1, hL, h2, h3⟩, st⟩ | ⟨q, vm₁, ⟨U', l2, c2, s2⟩, hW₁, X', ⟨g', mk, t, L, E, ce, e1, e2, hq, hce, hcv, hcl, h1, hL, h2, h3⟩, st⟩
  · dsimp only [Pt.U, Pt.locs, Pt.cells, Pt.slots] at X' e1 e2 h1 h2 h3 st
    subst h1; subst h2; subst h3
    exact Or.inl ⟨v, (T.setVm vm₁).calling g' mk (Value.ref b :: As).toArray, t, U', L, hT, X', hL, e1, e2, hq, st⟩
  · dsimp only [Pt.U, Pt.locs, Pt.cells, Pt.slots] at X' e1 e2 h1 h2 h3 st hcl
    subst h1; subst h2; subst h3
    exact Or.inr ⟨q, (T.setVm vm₁).calling g' mk (Value.ref b :: As).toArray, t, U', L, E, ce, hT, X', hL, e1, e2, hq, hce, hcv, vx_cls hW₁ hcl, st⟩
theorem vx_runSX {hh : List (Nat × Nat × Nat × Nat)} (S : CallFix p m c cc nL s args Ts own) (hM : vx_Met l y ws rm Pc Qc XC mc ms free) (cw : vx_CSW R s args own index y bytes maxL ret hh ws rm mc ms n) (hp : PreS s H Pc As)
    (hg : g.method = m) (hn : As.length = n) (hsize : g.locals.size = nL) (hstack : g.stack = As.reverse ++ rest) (hW : 2 * g.monitorRoom + (rest.map fun v => v.category).sum ≤ 8) (hdg : decode cc g.pc = .ok (.invokestatic index, 3)) (hf : cells + mc ≤ R.cells ∧ slots + ms ≤ R.slots) :
    vx_Run p l e R s m args below meth c H locs cells slots mc ms g rest (Qc As.toArray) XC free := by
  obtain ⟨⟨hrc, hrs, hfr, hlo, hws, hcw⟩, hcode, hini, hy, hlen, hl, hstt⟩ := cw
  have hK : vx_Back l R p e below s args y 3 8 (PreOf R mc ms Pc) (PostOf Qc mc ms free) (vx_Post XC mc ms free) := vx_backW (hh := hh) (bytes := bytes) (maxL := maxL) (ret := ret) hM hp.1 hrc hrs hfr hlo hws hcw (fun a' U hW => word_at hW (Or.inl (by first | rfl | simp [Cond.onTables, Cond.keeps, Cond.steady])) hini)
  obtain ⟨hx, hb, hml, ho, -⟩ := S
  intro T hT X
  rcases vx_callSX X hx (hh := hh) (bytes := bytes) (maxL := maxL) (ret := ret) ho hl hstt hini hcode hy hK hg (hsize.trans hml.symm) (argsL := As) (rest := rest) (fun sig h => hn.trans (hlen sig h)) hstack hW (by rw [hb]; exact hdg)
    (fun vm₁ hW₁ => ⟨hf.1, hf.2, hp.2 (T.setVm vm₁) hT hW₁⟩) with ⟨v, vm₁, ⟨U', l2, c2, s2⟩, hW₁, X', ⟨g', mk, t, L, e1, e2, hq, h1, hL, h2, h3⟩, st⟩ | ⟨q, vm₁, ⟨U', l2, c2, s2⟩, hW₁, X', ⟨g', mk, t, L, E, ce, e1, e2, hq, hce, hcv, hcl, h1, hL, h2, h3⟩, st⟩
  · dsimp only [Pt.U, Pt.locs, Pt.cells, Pt.slots] at X' e1 e2 h1 h2 h3 st
    subst h1; subst h2; subst h3
    exact Or.inl ⟨v, (T.setVm vm₁).calling g' mk As.toArray, t, U', L, hT, X', hL, e1, e2, hq, st⟩
  · dsimp only [Pt.U, Pt.locs, Pt.cells, Pt.slots] at X' e1 e2 h1 h2 h3 st hcl
    subst h1; subst h2; subst h3
    exact Or.inr ⟨q, (T.setVm vm₁).calling g' mk As.toArray, t, U', L, E, ce, hT, X', hL, e1, e2, hq, hce, hcv, vx_cls hW₁ hcl, st⟩
end
end VXH
theorem vx_ofWH {l : Launch} {y : MethodName} {ws ws' : List Cond} {rm : Room} {Pc : Array Value → State → Prop} {Qc : Array Value → State → Outcome → State → Prop} {XC : String → State → State → Prop} {mc ms : Nat} {free : Addr → Prop} {cc : ByteArray} {maxL : Nat} {ret : Option FieldType} {hh : List (Nat × Nat × Nat × Nat)}
    (hy : plainName y.cls = true) (hw : ws = Cond.codeWith y cc maxL ret hh :: ws')
    (body : ∀ p e s m args below meth c s₁, BodyLoose p l y (headSpec ws rm) cc maxL ret e s m args below meth c s₁ → c.maxLocals = maxL → Pc args s →
      W p l e (headSpec ws rm).room s m args below meth c s.heap [] 0 0 (vx_MQ below Qc XC args s mc ms free) (entryFrame m args maxL)) : vx_Met l y ws rm Pc Qc XC mc ms free := by
  refine MetFree.of_bodyS (code := cc) (maxLocals := maxL) (ret := ret) hy ?_ ?_
  · intro args s m h hn
    obtain ⟨m9, meth, c, hn9, h1, h2, h3, h4, -, h5, h6, -⟩ := Cond.codeWith_spec (atoms_spec (ws := ws) h _ (by rw [hw]; exact List.mem_cons_self))
    cases hn.symm.trans hn9
    exact ⟨meth, c, h1, h2, h3, h4, h5, h6⟩
  · intro p e s m args below meth c s₁ B hml hP _
    have hh0 : s₁.heap = s.heap := by rw [B.state]; rfl
    obtain ⟨t, a1, o, b1, b2, b3⟩ := body p e s m args below meth c s₁ B hml hP s₁ hh0 (Stand.of_body B)
    exact ⟨t, o, a1, b1, b2, b3⟩
/-! ===== END ===== -/
end
section
def RX0 : String := "DrillCount$Axis"
def TX0 : u_T := fun k => match k with
  | 0 => ("DrillCount$Axis", "kind", "I", false)
  | 1 => ("DrillCount$Axis", "chosen", "LDrillCount$Selection;", true)
  | 2 => ("DrillCount$Axis", "numbers", "[I", true)
  | _ => ("DrillCount$Axis", "numbered", "J", false)
def tyX0 : Nat → FieldType := fun k => match k with
  | 0 => .int
  | 1 => .object "DrillCount$Selection"
  | 2 => .array .int
  | _ => .long
abbrev wsX00 : List Cond := u_ws RX0 TX0 4
theorem nmX0 : ∀ a, a < 4 → ∀ b, b < 4 → a ≠ b → (TX0 a).2.1 ≠ (TX0 b).2.1 := by decide +kernel
theorem tyX0_ok : ∀ k, k < 4 → parseFieldDescriptor (TX0 k).2.2.1 = some (tyX0 k) := by decide +kernel
abbrev cX0_init : ByteArray := prog_2_method_1_code
def yX0_init : MethodName := ⟨RX0, "<init>", "()V"⟩
def RX1 : String := "DrillCount$Covering"
def TX1 : u_T := fun k => match k with
  | 0 => ("DrillCount$Covering", "numbers", "[I", true)
  | 1 => ("DrillCount$Covering", "having", "[J", true)
  | 2 => ("DrillCount$Covering", "reach", "[J", true)
  | 3 => ("DrillCount$Covering", "chosen", "[I", true)
  | _ => ("DrillCount$Covering", "size", "I", false)
def tyX1 : Nat → FieldType := fun k => match k with
  | 0 => .array .int
  | 1 => .array .long
  | 2 => .array .long
  | 3 => .array .int
  | _ => .int
abbrev wsX10 : List Cond := u_ws RX1 TX1 5
theorem nmX1 : ∀ a, a < 5 → ∀ b, b < 5 → a ≠ b → (TX1 a).2.1 ≠ (TX1 b).2.1 := by decide +kernel
theorem tyX1_ok : ∀ k, k < 5 → parseFieldDescriptor (TX1 k).2.2.1 = some (tyX1 k) := by decide +kernel
abbrev cX1_init : ByteArray := prog_3_method_1_code
def yX1_init : MethodName := ⟨RX1, "<init>", "()V"⟩
abbrev cX1_clear : ByteArray := prog_3_method_2_code
def yX1_clear : MethodName := ⟨RX1, "clear", "()V"⟩
abbrev cX1_put : ByteArray := prog_3_method_3_code
def yX1_put : MethodName := ⟨RX1, "put", "(IJ)V"⟩
abbrev cX1_solve : ByteArray := prog_3_method_4_code
def yX1_solve : MethodName := ⟨RX1, "solve", "(J)I"⟩
abbrev cX1_choose : ByteArray := prog_3_method_5_code
def yX1_choose : MethodName := ⟨RX1, "choose", "(IIIJ)Z"⟩
def RX2 : String := "DrillCount$Forest"
def TX2 : u_T := fun k => match k with
  | 0 => ("DrillCount$Forest", "axisOf", "[I", true)
  | 1 => ("DrillCount$Forest", "above", "[I", true)
  | 2 => ("DrillCount$Forest", "under", "[J", true)
  | 3 => ("DrillCount$Forest", "tagged", "[J", true)
  | 4 => ("DrillCount$Forest", "having", "[J", true)
  | _ => ("DrillCount$Forest", "size", "I", false)
def tyX2 : Nat → FieldType := fun k => match k with
  | 0 => .array .int
  | 1 => .array .int
  | 2 => .array .long
  | 3 => .array .long
  | 4 => .array .long
  | _ => .int
abbrev wsX20 : List Cond := u_ws RX2 TX2 6
theorem nmX2 : ∀ a, a < 6 → ∀ b, b < 6 → a ≠ b → (TX2 a).2.1 ≠ (TX2 b).2.1 := by decide +kernel
theorem tyX2_ok : ∀ k, k < 6 → parseFieldDescriptor (TX2 k).2.2.1 = some (tyX2 k) := by decide +kernel
abbrev cX2_init : ByteArray := prog_4_method_1_code
def yX2_init : MethodName := ⟨RX2, "<init>", "()V"⟩
abbrev cX2_knows : ByteArray := prog_4_method_2_code
def yX2_knows : MethodName := ⟨RX2, "knows", "(I)Z"⟩
abbrev cX2_grow : ByteArray := prog_4_method_3_code
def yX2_grow : MethodName := ⟨RX2, "grow", "(II)I"⟩
abbrev cX2_hang : ByteArray := prog_4_method_4_code
def yX2_hang : MethodName := ⟨RX2, "hang", "(II)V"⟩
abbrev cX2_hangUnder : ByteArray := prog_4_method_5_code
def yX2_hangUnder : MethodName := ⟨RX2, "hangUnder", "(IJ)V"⟩
abbrev cX2_turnTag : ByteArray := prog_4_method_6_code
def yX2_turnTag : MethodName := ⟨RX2, "turnTag", "(II)V"⟩
abbrev cX2_gather : ByteArray := prog_4_method_7_code
def yX2_gather : MethodName := ⟨RX2, "gather", "(I)V"⟩
abbrev cX2_taggedIn : ByteArray := prog_4_method_8_code
def yX2_taggedIn : MethodName := ⟨RX2, "taggedIn", "(J)J"⟩
abbrev cX2_taggedOn : ByteArray := prog_4_method_9_code
def yX2_taggedOn : MethodName := ⟨RX2, "taggedOn", "(I)J"⟩
abbrev cX2_level : ByteArray := prog_4_method_10_code
def yX2_level : MethodName := ⟨RX2, "level", "(I)I"⟩
abbrev cX2_levelBelow : ByteArray := prog_4_method_11_code
def yX2_levelBelow : MethodName := ⟨RX2, "levelBelow", "(I)I"⟩
abbrev cX2_height : ByteArray := prog_4_method_12_code
def yX2_height : MethodName := ⟨RX2, "height", "(I)I"⟩
abbrev cX2_havingAny : ByteArray := prog_4_method_13_code
def yX2_havingAny : MethodName := ⟨RX2, "havingAny", "(J)J"⟩
abbrev cX2_havingAll : ByteArray := prog_4_method_14_code
def yX2_havingAll : MethodName := ⟨RX2, "havingAll", "(J)J"⟩
abbrev cX2_howManyHeldBy : ByteArray := prog_4_method_15_code
def yX2_howManyHeldBy : MethodName := ⟨RX2, "howManyHeldBy", "(J)I"⟩
def RX3 : String := "DrillCount$Ranking"
def TX3 : u_T := fun k => match k with
  | 0 => ("DrillCount$Ranking", "who", "[I", true)
  | 1 => ("DrillCount$Ranking", "points", "[I", true)
  | _ => ("DrillCount$Ranking", "size", "I", false)
def tyX3 : Nat → FieldType := fun k => match k with
  | 0 => .array .int
  | 1 => .array .int
  | _ => .int
abbrev wsX30 : List Cond := u_ws RX3 TX3 3
theorem nmX3 : ∀ a, a < 3 → ∀ b, b < 3 → a ≠ b → (TX3 a).2.1 ≠ (TX3 b).2.1 := by decide +kernel
theorem tyX3_ok : ∀ k, k < 3 → parseFieldDescriptor (TX3 k).2.2.1 = some (tyX3 k) := by decide +kernel
abbrev cX3_init : ByteArray := prog_5_method_1_code
def yX3_init : MethodName := ⟨RX3, "<init>", "(I)V"⟩
abbrev cX3_clear : ByteArray := prog_5_method_2_code
def yX3_clear : MethodName := ⟨RX3, "clear", "()V"⟩
abbrev cX3_put : ByteArray := prog_5_method_3_code
def yX3_put : MethodName := ⟨RX3, "put", "(II)V"⟩
abbrev cX3_take : ByteArray := prog_5_method_4_code
def yX3_take : MethodName := ⟨RX3, "take", "(I)V"⟩
abbrev cX3_placeOf : ByteArray := prog_5_method_5_code
def yX3_placeOf : MethodName := ⟨RX3, "placeOf", "(I)I"⟩
abbrev cX3_settle : ByteArray := prog_5_method_6_code
def yX3_settle : MethodName := ⟨RX3, "settle", "()V"⟩
abbrev cX3_rise : ByteArray := prog_5_method_7_code
def yX3_rise : MethodName := ⟨RX3, "rise", "(I)V"⟩
abbrev cX3_isAhead : ByteArray := prog_5_method_8_code
def yX3_isAhead : MethodName := ⟨RX3, "isAhead", "(II)Z"⟩
abbrev cX3_isCertain : ByteArray := prog_5_method_9_code
def yX3_isCertain : MethodName := ⟨RX3, "isCertain", "(II)Z"⟩
def RX4 : String := "DrillCount$Row"
def TX4 : u_T := fun k => match k with
  | 0 => ("DrillCount$Row", "values", "[I", true)
  | _ => ("DrillCount$Row", "size", "I", false)
def tyX4 : Nat → FieldType := fun k => match k with
  | 0 => .array .int
  | _ => .int
abbrev wsX40 : List Cond := u_ws RX4 TX4 2
theorem nmX4 : ∀ a, a < 2 → ∀ b, b < 2 → a ≠ b → (TX4 a).2.1 ≠ (TX4 b).2.1 := by decide +kernel
theorem tyX4_ok : ∀ k, k < 2 → parseFieldDescriptor (TX4 k).2.2.1 = some (tyX4 k) := by decide +kernel
abbrev cX4_init : ByteArray := prog_6_method_1_code
def yX4_init : MethodName := ⟨RX4, "<init>", "(I)V"⟩
abbrev cX4_clear : ByteArray := prog_6_method_2_code
def yX4_clear : MethodName := ⟨RX4, "clear", "()V"⟩
abbrev cX4_put : ByteArray := prog_6_method_3_code
def yX4_put : MethodName := ⟨RX4, "put", "(I)V"⟩
abbrev cX4_startOfBin : ByteArray := prog_6_method_4_code
def yX4_startOfBin : MethodName := ⟨RX4, "startOfBin", "(II)I"⟩
abbrev cX4_howManyBins : ByteArray := prog_6_method_5_code
def yX4_howManyBins : MethodName := ⟨RX4, "howManyBins", "(I)I"⟩
abbrev cX4_endOfBin : ByteArray := prog_6_method_6_code
def yX4_endOfBin : MethodName := ⟨RX4, "endOfBin", "(II)I"⟩
abbrev cX4_flattest : ByteArray := prog_6_method_7_code
def yX4_flattest : MethodName := ⟨RX4, "flattest", "(I)I"⟩
abbrev cX4_fits : ByteArray := prog_6_method_8_code
def yX4_fits : MethodName := ⟨RX4, "fits", "(II)Z"⟩
abbrev cX4_endOfRow : ByteArray := prog_6_method_9_code
def yX4_endOfRow : MethodName := ⟨RX4, "endOfRow", "(II)I"⟩
def RX5 : String := "DrillCount$Selection"
def TX5 : u_T := fun k => match k with
  | 0 => ("DrillCount$Selection", "categories", "J", false)
  | 1 => ("DrillCount$Selection", "absent", "Z", false)
  | 2 => ("DrillCount$Selection", "ranges", "I", false)
  | 3 => ("DrillCount$Selection", "lows", "[I", true)
  | _ => ("DrillCount$Selection", "highs", "[I", true)
def tyX5 : Nat → FieldType := fun k => match k with
  | 0 => .long
  | 1 => .boolean
  | 2 => .int
  | 3 => .array .int
  | _ => .array .int
abbrev wsX50 : List Cond := u_ws RX5 TX5 5
theorem nmX5 : ∀ a, a < 5 → ∀ b, b < 5 → a ≠ b → (TX5 a).2.1 ≠ (TX5 b).2.1 := by decide +kernel
theorem tyX5_ok : ∀ k, k < 5 → parseFieldDescriptor (TX5 k).2.2.1 = some (tyX5 k) := by decide +kernel
abbrev cX5_init : ByteArray := prog_7_method_1_code
def yX5_init : MethodName := ⟨RX5, "<init>", "()V"⟩
abbrev cX5_isOpen : ByteArray := prog_7_method_2_code
def yX5_isOpen : MethodName := ⟨RX5, "isOpen", "()Z"⟩
abbrev cX5_clear : ByteArray := prog_7_method_3_code
def yX5_clear : MethodName := ⟨RX5, "clear", "()V"⟩
abbrev cX5_copy : ByteArray := prog_7_method_4_code
def yX5_copy : MethodName := ⟨RX5, "copy", "(LDrillCount$Selection;)V"⟩
abbrev cX5_addRange : ByteArray := prog_7_method_5_code
def yX5_addRange : MethodName := ⟨RX5, "addRange", "(II)V"⟩
abbrev cX5_dropRange : ByteArray := prog_7_method_6_code
def yX5_dropRange : MethodName := ⟨RX5, "dropRange", "(I)V"⟩
abbrev cX5_takesNumber : ByteArray := prog_7_method_7_code
def yX5_takesNumber : MethodName := ⟨RX5, "takesNumber", "(I)Z"⟩
def RX6 : String := "DrillCount$Shelf"
def TX6 : u_T := fun k => match k with
  | 0 => ("DrillCount$Shelf", "order", "LDrillCount$Ranking;", true)
  | 1 => ("DrillCount$Shelf", "there", "J", false)
  | _ => ("DrillCount$Shelf", "size", "I", false)
def tyX6 : Nat → FieldType := fun k => match k with
  | 0 => .object "DrillCount$Ranking"
  | 1 => .long
  | _ => .int
abbrev wsX60 : List Cond := u_ws RX6 TX6 3
theorem nmX6 : ∀ a, a < 3 → ∀ b, b < 3 → a ≠ b → (TX6 a).2.1 ≠ (TX6 b).2.1 := by decide +kernel
theorem tyX6_ok : ∀ k, k < 3 → parseFieldDescriptor (TX6 k).2.2.1 = some (tyX6 k) := by decide +kernel
abbrev cX6_init : ByteArray := prog_8_method_1_code
def yX6_init : MethodName := ⟨RX6, "<init>", "()V"⟩
abbrev cX6_knows : ByteArray := prog_8_method_2_code
def yX6_knows : MethodName := ⟨RX6, "knows", "(I)Z"⟩
abbrev cX6_isThere : ByteArray := prog_8_method_3_code
def yX6_isThere : MethodName := ⟨RX6, "isThere", "(I)Z"⟩
abbrev cX6_lay : ByteArray := prog_8_method_4_code
def yX6_lay : MethodName := ⟨RX6, "lay", "(I)I"⟩
abbrev cX6_discard : ByteArray := prog_8_method_5_code
def yX6_discard : MethodName := ⟨RX6, "discard", "(I)V"⟩
def RX7 : String := "DrillCount$Sieve"
def TX7 : u_T := fun k => match k with
  | 0 => ("DrillCount$Sieve", "forest", "LDrillCount$Forest;", true)
  | 1 => ("DrillCount$Sieve", "shelf", "LDrillCount$Shelf;", true)
  | 2 => ("DrillCount$Sieve", "axes", "[LDrillCount$Axis;", true)
  | 3 => ("DrillCount$Sieve", "passing", "[J", true)
  | _ => ("DrillCount$Sieve", "size", "I", false)
def tyX7 : Nat → FieldType := fun k => match k with
  | 0 => .object "DrillCount$Forest"
  | 1 => .object "DrillCount$Shelf"
  | 2 => .array (.object "DrillCount$Axis")
  | 3 => .array .long
  | _ => .int
abbrev wsX70 : List Cond := u_ws RX7 TX7 5
theorem nmX7 : ∀ a, a < 5 → ∀ b, b < 5 → a ≠ b → (TX7 a).2.1 ≠ (TX7 b).2.1 := by decide +kernel
theorem tyX7_ok : ∀ k, k < 5 → parseFieldDescriptor (TX7 k).2.2.1 = some (tyX7 k) := by decide +kernel
abbrev cX7_init : ByteArray := prog_9_method_1_code
def yX7_init : MethodName := ⟨RX7, "<init>", "(LDrillCount$Forest;LDrillCount$Shelf;)V"⟩
abbrev cX7_knows : ByteArray := prog_9_method_2_code
def yX7_knows : MethodName := ⟨RX7, "knows", "(I)Z"⟩
abbrev cX7_isNumeric : ByteArray := prog_9_method_3_code
def yX7_isNumeric : MethodName := ⟨RX7, "isNumeric", "(I)Z"⟩
abbrev cX7_isTree : ByteArray := prog_9_method_4_code
def yX7_isTree : MethodName := ⟨RX7, "isTree", "(I)Z"⟩
abbrev cX7_addAxis : ByteArray := prog_9_method_5_code
def yX7_addAxis : MethodName := ⟨RX7, "addAxis", "(I)I"⟩
abbrev cX7_renew : ByteArray := prog_9_method_6_code
def yX7_renew : MethodName := ⟨RX7, "renew", "()V"⟩
abbrev cX7_sift : ByteArray := prog_9_method_7_code
def yX7_sift : MethodName := ⟨RX7, "sift", "(ILDrillCount$Selection;)J"⟩
abbrev cX7_inRanges : ByteArray := prog_9_method_8_code
def yX7_inRanges : MethodName := ⟨RX7, "inRanges", "(LDrillCount$Axis;LDrillCount$Selection;)J"⟩
abbrev cX7_absentOn : ByteArray := prog_9_method_9_code
def yX7_absentOn : MethodName := ⟨RX7, "absentOn", "(I)J"⟩
abbrev cX7_hits : ByteArray := prog_9_method_10_code
def yX7_hits : MethodName := ⟨RX7, "hits", "()J"⟩
abbrev cX7_lifted : ByteArray := prog_9_method_11_code
def yX7_lifted : MethodName := ⟨RX7, "lifted", "(II)J"⟩
abbrev cX7_audience : ByteArray := prog_9_method_12_code
def yX7_audience : MethodName := ⟨RX7, "audience", "(I)J"⟩
abbrev cX7_showing : ByteArray := prog_9_method_13_code
def yX7_showing : MethodName := ⟨RX7, "showing", "(I)I"⟩
abbrev cX7_passedBy : ByteArray := prog_9_method_14_code
def yX7_passedBy : MethodName := ⟨RX7, "passedBy", "(I)I"⟩
abbrev cX7_howManyCategoriesChosen : ByteArray := prog_9_method_15_code
def yX7_howManyCategoriesChosen : MethodName := ⟨RX7, "howManyCategoriesChosen", "()I"⟩
abbrev cX7_howManyRanges : ByteArray := prog_9_method_16_code
def yX7_howManyRanges : MethodName := ⟨RX7, "howManyRanges", "()I"⟩
abbrev cX7_narrowed : ByteArray := prog_9_method_17_code
def yX7_narrowed : MethodName := ⟨RX7, "narrowed", "()I"⟩
def RX8 : String := "DrillCount$Trail"
def TX8 : u_T := fun k => match k with
  | 0 => ("DrillCount$Trail", "axisOf", "[I", true)
  | 1 => ("DrillCount$Trail", "before", "[LDrillCount$Selection;", true)
  | 2 => ("DrillCount$Trail", "next", "I", false)
  | _ => ("DrillCount$Trail", "size", "I", false)
def tyX8 : Nat → FieldType := fun k => match k with
  | 0 => .array .int
  | 1 => .array (.object "DrillCount$Selection")
  | 2 => .int
  | _ => .int
abbrev wsX80 : List Cond := u_ws RX8 TX8 4
theorem nmX8 : ∀ a, a < 4 → ∀ b, b < 4 → a ≠ b → (TX8 a).2.1 ≠ (TX8 b).2.1 := by decide +kernel
theorem tyX8_ok : ∀ k, k < 4 → parseFieldDescriptor (TX8 k).2.2.1 = some (tyX8 k) := by decide +kernel
abbrev cX8_init : ByteArray := prog_10_method_1_code
def yX8_init : MethodName := ⟨RX8, "<init>", "()V"⟩
abbrev cX8_note : ByteArray := prog_10_method_2_code
def yX8_note : MethodName := ⟨RX8, "note", "(ILDrillCount$Selection;)V"⟩
abbrev cX8_takeBack : ByteArray := prog_10_method_3_code
def yX8_takeBack : MethodName := ⟨RX8, "takeBack", "([LDrillCount$Axis;)V"⟩
def RX9 : String := "DrillCount"
def TX9 : u_T := fun k => match k with
  | 0 => ("DrillCount", "forest", "LDrillCount$Forest;", true)
  | 1 => ("DrillCount", "shelf", "LDrillCount$Shelf;", true)
  | 2 => ("DrillCount", "sieve", "LDrillCount$Sieve;", true)
  | 3 => ("DrillCount", "trail", "LDrillCount$Trail;", true)
  | 4 => ("DrillCount", "ranking", "LDrillCount$Ranking;", true)
  | 5 => ("DrillCount", "row", "LDrillCount$Row;", true)
  | 6 => ("DrillCount", "trial", "LDrillCount$Selection;", true)
  | _ => ("DrillCount", "covering", "LDrillCount$Covering;", true)
def tyX9 : Nat → FieldType := fun k => match k with
  | 0 => .object "DrillCount$Forest"
  | 1 => .object "DrillCount$Shelf"
  | 2 => .object "DrillCount$Sieve"
  | 3 => .object "DrillCount$Trail"
  | 4 => .object "DrillCount$Ranking"
  | 5 => .object "DrillCount$Row"
  | 6 => .object "DrillCount$Selection"
  | _ => .object "DrillCount$Covering"
abbrev wsX90 : List Cond := u_ws RX9 TX9 8
theorem nmX9 : ∀ a, a < 8 → ∀ b, b < 8 → a ≠ b → (TX9 a).2.1 ≠ (TX9 b).2.1 := by decide +kernel
theorem tyX9_ok : ∀ k, k < 8 → parseFieldDescriptor (TX9 k).2.2.1 = some (tyX9 k) := by decide +kernel
abbrev cX9_init : ByteArray := prog_1_method_1_code
def yX9_init : MethodName := ⟨RX9, "<init>", "()V"⟩
abbrev cX9_axis : ByteArray := prog_1_method_2_code
def yX9_axis : MethodName := ⟨RX9, "axis", "(I)I"⟩
abbrev cX9_category : ByteArray := prog_1_method_3_code
def yX9_category : MethodName := ⟨RX9, "category", "(II)I"⟩
abbrev cX9_move : ByteArray := prog_1_method_4_code
def yX9_move : MethodName := ⟨RX9, "move", "(II)Z"⟩
abbrev cX9_document : ByteArray := prog_1_method_5_code
def yX9_document : MethodName := ⟨RX9, "document", "(I)I"⟩
abbrev cX9_tag : ByteArray := prog_1_method_6_code
def yX9_tag : MethodName := ⟨RX9, "tag", "(IIZ)Z"⟩
abbrev cX9_number : ByteArray := prog_1_method_7_code
def yX9_number : MethodName := ⟨RX9, "number", "(III)Z"⟩
abbrev cX9_unnumber : ByteArray := prog_1_method_8_code
def yX9_unnumber : MethodName := ⟨RX9, "unnumber", "(II)Z"⟩
abbrev cX9_remove : ByteArray := prog_1_method_9_code
def yX9_remove : MethodName := ⟨RX9, "remove", "(I)Z"⟩
abbrev cX9_select : ByteArray := prog_1_method_10_code
def yX9_select : MethodName := ⟨RX9, "select", "(IZ)Z"⟩
abbrev cX9_range : ByteArray := prog_1_method_11_code
def yX9_range : MethodName := ⟨RX9, "range", "(III)I"⟩
abbrev cX9_drop : ByteArray := prog_1_method_12_code
def yX9_drop : MethodName := ⟨RX9, "drop", "(II)Z"⟩
abbrev cX9_missing : ByteArray := prog_1_method_13_code
def yX9_missing : MethodName := ⟨RX9, "missing", "(IZ)Z"⟩
abbrev cX9_open : ByteArray := prog_1_method_14_code
def yX9_open : MethodName := ⟨RX9, "open", "(I)Z"⟩
abbrev cX9_back : ByteArray := prog_1_method_15_code
def yX9_back : MethodName := ⟨RX9, "back", "()Z"⟩
abbrev cX9_of : ByteArray := prog_1_method_16_code
def yX9_of : MethodName := ⟨RX9, "of", "(II)I"⟩
abbrev cX9_doc : ByteArray := prog_1_method_17_code
def yX9_doc : MethodName := ⟨RX9, "doc", "(II)I"⟩
abbrev cX9_has : ByteArray := prog_1_method_18_code
def yX9_has : MethodName := ⟨RX9, "has", "(II)Z"⟩
abbrev cX9_numberOf : ByteArray := prog_1_method_19_code
def yX9_numberOf : MethodName := ⟨RX9, "numberOf", "(II)I"⟩
abbrev cX9_hit : ByteArray := prog_1_method_20_code
def yX9_hit : MethodName := ⟨RX9, "hit", "(I)I"⟩
abbrev cX9_near : ByteArray := prog_1_method_21_code
def yX9_near : MethodName := ⟨RX9, "near", "(I)I"⟩
abbrev cX9_shown : ByteArray := prog_1_method_22_code
def yX9_shown : MethodName := ⟨RX9, "shown", "(I)I"⟩
abbrev cX9_shownMissing : ByteArray := prog_1_method_23_code
def yX9_shownMissing : MethodName := ⟨RX9, "shownMissing", "(I)I"⟩
abbrev cX9_click : ByteArray := prog_1_method_24_code
def yX9_click : MethodName := ⟨RX9, "click", "(II)I"⟩
abbrev cX9_lift : ByteArray := prog_1_method_25_code
def yX9_lift : MethodName := ⟨RX9, "lift", "(II)I"⟩
abbrev cX9_sums : ByteArray := prog_1_method_26_code
def yX9_sums : MethodName := ⟨RX9, "sums", "(II)I"⟩
abbrev cX9_sets : ByteArray := prog_1_method_27_code
def yX9_sets : MethodName := ⟨RX9, "sets", "(II)J"⟩
abbrev cX9_bin : ByteArray := prog_1_method_28_code
def yX9_bin : MethodName := ⟨RX9, "bin", "(IIII)I"⟩
abbrev cX9_bins : ByteArray := prog_1_method_29_code
def yX9_bins : MethodName := ⟨RX9, "bins", "(II)I"⟩
abbrev cX9_even : ByteArray := prog_1_method_30_code
def yX9_even : MethodName := ⟨RX9, "even", "(II)I"⟩
abbrev cX9_middle : ByteArray := prog_1_method_31_code
def yX9_middle : MethodName := ⟨RX9, "middle", "(II)I"⟩
abbrev cX9_top : ByteArray := prog_1_method_32_code
def yX9_top : MethodName := ⟨RX9, "top", "(III)I"⟩
abbrev cX9_read : ByteArray := prog_1_method_33_code
def yX9_read : MethodName := ⟨RX9, "read", "(II)I"⟩
abbrev cX9_path : ByteArray := prog_1_method_34_code
def yX9_path : MethodName := ⟨RX9, "path", "(II)I"⟩
abbrev cX9_split : ByteArray := prog_1_method_35_code
def yX9_split : MethodName := ⟨RX9, "split", "()I"⟩
abbrev cX9_cover : ByteArray := prog_1_method_36_code
def yX9_cover : MethodName := ⟨RX9, "cover", "(II)I"⟩
abbrev cX9_both : ByteArray := prog_1_method_37_code
def yX9_both : MethodName := ⟨RX9, "both", "(II)I"⟩
abbrev cX9_alike : ByteArray := prog_1_method_38_code
def yX9_alike : MethodName := ⟨RX9, "alike", "(II)I"⟩
abbrev cX9_nearest : ByteArray := prog_1_method_39_code
def yX9_nearest : MethodName := ⟨RX9, "nearest", "(I)I"⟩
abbrev cX9_miss : ByteArray := prog_1_method_40_code
def yX9_miss : MethodName := ⟨RX9, "miss", "(I)I"⟩
abbrev cX9_most : ByteArray := prog_1_method_41_code
def yX9_most : MethodName := ⟨RX9, "most", "()I"⟩
abbrev cX9_count : ByteArray := prog_1_method_42_code
def yX9_count : MethodName := ⟨RX9, "count", "(I)I"⟩
abbrev cX9_bit : ByteArray := prog_1_method_43_code
def yX9_bit : MethodName := ⟨RX9, "bit", "(I)J"⟩
abbrev cX9_inSet : ByteArray := prog_1_method_44_code
def yX9_inSet : MethodName := ⟨RX9, "inSet", "(JI)Z"⟩
abbrev cX9_canStandBelow : ByteArray := prog_1_method_45_code
def yX9_canStandBelow : MethodName := ⟨RX9, "canStandBelow", "(II)Z"⟩
abbrev cX9_hasNumber : ByteArray := prog_1_method_46_code
def yX9_hasNumber : MethodName := ⟨RX9, "hasNumber", "(II)Z"⟩
abbrev cX9_canBin : ByteArray := prog_1_method_47_code
def yX9_canBin : MethodName := ⟨RX9, "canBin", "(II)Z"⟩
abbrev cX9_fillRow : ByteArray := prog_1_method_48_code
def yX9_fillRow : MethodName := ⟨RX9, "fillRow", "(IJ)V"⟩
abbrev cX9_startReading : ByteArray := prog_1_method_49_code
def yX9_startReading : MethodName := ⟨RX9, "startReading", "(I)V"⟩
abbrev cX9_readOne : ByteArray := prog_1_method_50_code
def yX9_readOne : MethodName := ⟨RX9, "readOne", "(I)V"⟩
abbrev cX9_fullestBelow : ByteArray := prog_1_method_51_code
def yX9_fullestBelow : MethodName := ⟨RX9, "fullestBelow", "(IIJ)I"⟩
abbrev cX9_fillCovering : ByteArray := prog_1_method_52_code
def yX9_fillCovering : MethodName := ⟨RX9, "fillCovering", "(I)Z"⟩
def RX10 : String := "DrillCountModel"
def TX10 : u_T := fun k => match k with
  | 0 => ("DrillCountModel", "thrown", "I", false)
  | 1 => ("DrillCountModel", "axes", "I", false)
  | 2 => ("DrillCountModel", "categories", "I", false)
  | 3 => ("DrillCountModel", "documents", "I", false)
  | 4 => ("DrillCountModel", "kindOf", "[I", true)
  | 5 => ("DrillCountModel", "axisOf", "[I", true)
  | 6 => ("DrillCountModel", "below", "[I", true)
  | 7 => ("DrillCountModel", "score", "[I", true)
  | 8 => ("DrillCountModel", "there", "[Z", true)
  | 9 => ("DrillCountModel", "tagged", "[Z", true)
  | 10 => ("DrillCountModel", "numberAt", "[I", true)
  | 11 => ("DrillCountModel", "hasNumber", "[Z", true)
  | 12 => ("DrillCountModel", "chosen", "[I", true)
  | 13 => ("DrillCountModel", "backs", "I", false)
  | 14 => ("DrillCountModel", "having0", "[Z", true)
  | 15 => ("DrillCountModel", "order", "[I", true)
  | 16 => ("DrillCountModel", "many", "I", false)
  | 17 => ("DrillCountModel", "having", "[I", true)
  | 18 => ("DrillCountModel", "numbered", "I", false)
  | 19 => ("DrillCountModel", "binned", "[I", true)
  | 20 => ("DrillCountModel", "told", "[I", true)
  | _ => ("DrillCountModel", "among", "[I", true)
def tyX10 : Nat → FieldType := fun k => match k with
  | 0 => .int
  | 1 => .int
  | 2 => .int
  | 3 => .int
  | 4 => .array .int
  | 5 => .array .int
  | 6 => .array .int
  | 7 => .array .int
  | 8 => .array .boolean
  | 9 => .array .boolean
  | 10 => .array .int
  | 11 => .array .boolean
  | 12 => .array .int
  | 13 => .int
  | 14 => .array .boolean
  | 15 => .array .int
  | 16 => .int
  | 17 => .array .int
  | 18 => .int
  | 19 => .array .int
  | 20 => .array .int
  | _ => .array .int
abbrev wsX100 : List Cond := u_ws RX10 TX10 22
theorem nmX10 : ∀ a, a < 22 → ∀ b, b < 22 → a ≠ b → (TX10 a).2.1 ≠ (TX10 b).2.1 := by decide +kernel
theorem tyX10_ok : ∀ k, k < 22 → parseFieldDescriptor (TX10 k).2.2.1 = some (tyX10 k) := by decide +kernel
abbrev cX10_init : ByteArray := prog_12_method_1_code
def yX10_init : MethodName := ⟨RX10, "<init>", "()V"⟩
abbrev cX10_thrown : ByteArray := prog_12_method_2_code
def yX10_thrown : MethodName := ⟨RX10, "thrown", "()I"⟩
abbrev cX10_within : ByteArray := prog_12_method_3_code
def yX10_within : MethodName := ⟨RX10, "within", "(III)Z"⟩
abbrev cX10_isAxis : ByteArray := prog_12_method_4_code
def yX10_isAxis : MethodName := ⟨RX10, "isAxis", "(I)Z"⟩
abbrev cX10_isTree : ByteArray := prog_12_method_5_code
def yX10_isTree : MethodName := ⟨RX10, "isTree", "(I)Z"⟩
abbrev cX10_isNumber : ByteArray := prog_12_method_6_code
def yX10_isNumber : MethodName := ⟨RX10, "isNumber", "(I)Z"⟩
abbrev cX10_isCategory : ByteArray := prog_12_method_7_code
def yX10_isCategory : MethodName := ⟨RX10, "isCategory", "(I)Z"⟩
abbrev cX10_isThere : ByteArray := prog_12_method_8_code
def yX10_isThere : MethodName := ⟨RX10, "isThere", "(I)Z"⟩
abbrev cX10_level : ByteArray := prog_12_method_9_code
def yX10_level : MethodName := ⟨RX10, "level", "(I)I"⟩
abbrev cX10_isIn : ByteArray := prog_12_method_10_code
def yX10_isIn : MethodName := ⟨RX10, "isIn", "(II)Z"⟩
abbrev cX10_axis : ByteArray := prog_12_method_11_code
def yX10_axis : MethodName := ⟨RX10, "axis", "(I)I"⟩
abbrev cX10_canBe : ByteArray := prog_12_method_12_code
def yX10_canBe : MethodName := ⟨RX10, "canBe", "(II)Z"⟩
abbrev cX10_category : ByteArray := prog_12_method_13_code
def yX10_category : MethodName := ⟨RX10, "category", "(II)I"⟩
abbrev cX10_move : ByteArray := prog_12_method_14_code
def yX10_move : MethodName := ⟨RX10, "move", "(II)Z"⟩
abbrev cX10_document : ByteArray := prog_12_method_15_code
def yX10_document : MethodName := ⟨RX10, "document", "(I)I"⟩
abbrev cX10_tag : ByteArray := prog_12_method_16_code
def yX10_tag : MethodName := ⟨RX10, "tag", "(IIZ)Z"⟩
abbrev cX10_number : ByteArray := prog_12_method_17_code
def yX10_number : MethodName := ⟨RX10, "number", "(III)Z"⟩
abbrev cX10_isNumbered : ByteArray := prog_12_method_18_code
def yX10_isNumbered : MethodName := ⟨RX10, "isNumbered", "(II)Z"⟩
abbrev cX10_unnumber : ByteArray := prog_12_method_19_code
def yX10_unnumber : MethodName := ⟨RX10, "unnumber", "(II)Z"⟩
abbrev cX10_remove : ByteArray := prog_12_method_20_code
def yX10_remove : MethodName := ⟨RX10, "remove", "(I)Z"⟩
abbrev cX10_copies : ByteArray := prog_12_method_21_code
def yX10_copies : MethodName := ⟨RX10, "copies", "(II)V"⟩
abbrev cX10_keeps : ByteArray := prog_12_method_22_code
def yX10_keeps : MethodName := ⟨RX10, "keeps", "()V"⟩
abbrev cX10_select : ByteArray := prog_12_method_23_code
def yX10_select : MethodName := ⟨RX10, "select", "(IZ)Z"⟩
abbrev cX10_range : ByteArray := prog_12_method_24_code
def yX10_range : MethodName := ⟨RX10, "range", "(III)I"⟩
abbrev cX10_drop : ByteArray := prog_12_method_25_code
def yX10_drop : MethodName := ⟨RX10, "drop", "(II)Z"⟩
abbrev cX10_missing : ByteArray := prog_12_method_26_code
def yX10_missing : MethodName := ⟨RX10, "missing", "(IZ)Z"⟩
abbrev cX10_isOpen : ByteArray := prog_12_method_27_code
def yX10_isOpen : MethodName := ⟨RX10, "isOpen", "(II)Z"⟩
abbrev cX10_opens : ByteArray := prog_12_method_28_code
def yX10_opens : MethodName := ⟨RX10, "opens", "(II)V"⟩
abbrev cX10_open : ByteArray := prog_12_method_29_code
def yX10_open : MethodName := ⟨RX10, "open", "(I)Z"⟩
abbrev cX10_back : ByteArray := prog_12_method_30_code
def yX10_back : MethodName := ⟨RX10, "back", "()Z"⟩
abbrev cX10_owns : ByteArray := prog_12_method_31_code
def yX10_owns : MethodName := ⟨RX10, "owns", "()V"⟩
abbrev cX10_hasIt : ByteArray := prog_12_method_32_code
def yX10_hasIt : MethodName := ⟨RX10, "hasIt", "(II)Z"⟩
abbrev cX10_isMissing : ByteArray := prog_12_method_33_code
def yX10_isMissing : MethodName := ⟨RX10, "isMissing", "(II)Z"⟩
abbrev cX10_isRanged : ByteArray := prog_12_method_34_code
def yX10_isRanged : MethodName := ⟨RX10, "isRanged", "(III)Z"⟩
abbrev cX10_passes : ByteArray := prog_12_method_35_code
def yX10_passes : MethodName := ⟨RX10, "passes", "(III)Z"⟩
abbrev cX10_isNear : ByteArray := prog_12_method_36_code
def yX10_isNear : MethodName := ⟨RX10, "isNear", "(III)Z"⟩
abbrev cX10_hitsBy : ByteArray := prog_12_method_37_code
def yX10_hitsBy : MethodName := ⟨RX10, "hitsBy", "(I)I"⟩
abbrev cX10_isAhead : ByteArray := prog_12_method_38_code
def yX10_isAhead : MethodName := ⟨RX10, "isAhead", "(II)Z"⟩
abbrev cX10_orders : ByteArray := prog_12_method_39_code
def yX10_orders : MethodName := ⟨RX10, "orders", "()V"⟩
abbrev cX10_of : ByteArray := prog_12_method_40_code
def yX10_of : MethodName := ⟨RX10, "of", "(II)I"⟩
abbrev cX10_passedBy : ByteArray := prog_12_method_41_code
def yX10_passedBy : MethodName := ⟨RX10, "passedBy", "(I)I"⟩
abbrev cX10_placeOf : ByteArray := prog_12_method_42_code
def yX10_placeOf : MethodName := ⟨RX10, "placeOf", "(I)I"⟩
abbrev cX10_doc : ByteArray := prog_12_method_43_code
def yX10_doc : MethodName := ⟨RX10, "doc", "(II)I"⟩
abbrev cX10_has : ByteArray := prog_12_method_44_code
def yX10_has : MethodName := ⟨RX10, "has", "(II)Z"⟩
abbrev cX10_numberOf : ByteArray := prog_12_method_45_code
def yX10_numberOf : MethodName := ⟨RX10, "numberOf", "(II)I"⟩
abbrev cX10_hit : ByteArray := prog_12_method_46_code
def yX10_hit : MethodName := ⟨RX10, "hit", "(I)I"⟩
abbrev cX10_near : ByteArray := prog_12_method_47_code
def yX10_near : MethodName := ⟨RX10, "near", "(I)I"⟩
abbrev cX10_lifted : ByteArray := prog_12_method_48_code
def yX10_lifted : MethodName := ⟨RX10, "lifted", "(I)I"⟩
abbrev cX10_counts : ByteArray := prog_12_method_49_code
def yX10_counts : MethodName := ⟨RX10, "counts", "(II)Z"⟩
abbrev cX10_shownOf : ByteArray := prog_12_method_50_code
def yX10_shownOf : MethodName := ⟨RX10, "shownOf", "(I)I"⟩
abbrev cX10_shown : ByteArray := prog_12_method_51_code
def yX10_shown : MethodName := ⟨RX10, "shown", "(I)I"⟩
abbrev cX10_shownMissing : ByteArray := prog_12_method_52_code
def yX10_shownMissing : MethodName := ⟨RX10, "shownMissing", "(I)I"⟩
abbrev cX10_click : ByteArray := prog_12_method_53_code
def yX10_click : MethodName := ⟨RX10, "click", "(II)I"⟩
abbrev cX10_lift : ByteArray := prog_12_method_54_code
def yX10_lift : MethodName := ⟨RX10, "lift", "(II)I"⟩
abbrev cX10_ownOf : ByteArray := prog_12_method_55_code
def yX10_ownOf : MethodName := ⟨RX10, "ownOf", "(I)I"⟩
abbrev cX10_sums : ByteArray := prog_12_method_56_code
def yX10_sums : MethodName := ⟨RX10, "sums", "(II)I"⟩
abbrev cX10_isLeaf : ByteArray := prog_12_method_57_code
def yX10_isLeaf : MethodName := ⟨RX10, "isLeaf", "(I)Z"⟩
abbrev cX10_sets : ByteArray := prog_12_method_58_code
def yX10_sets : MethodName := ⟨RX10, "sets", "(II)J"⟩
abbrev cX10_numbersOf : ByteArray := prog_12_method_59_code
def yX10_numbersOf : MethodName := ⟨RX10, "numbersOf", "(II)V"⟩
abbrev cX10_binsOf : ByteArray := prog_12_method_60_code
def yX10_binsOf : MethodName := ⟨RX10, "binsOf", "(II)I"⟩
abbrev cX10_isCut : ByteArray := prog_12_method_61_code
def yX10_isCut : MethodName := ⟨RX10, "isCut", "(II)Z"⟩
abbrev cX10_bin : ByteArray := prog_12_method_62_code
def yX10_bin : MethodName := ⟨RX10, "bin", "(IIII)I"⟩
abbrev cX10_bins : ByteArray := prog_12_method_63_code
def yX10_bins : MethodName := ⟨RX10, "bins", "(II)I"⟩
abbrev cX10_rowsBy : ByteArray := prog_12_method_64_code
def yX10_rowsBy : MethodName := ⟨RX10, "rowsBy", "(I)I"⟩
abbrev cX10_even : ByteArray := prog_12_method_65_code
def yX10_even : MethodName := ⟨RX10, "even", "(II)I"⟩
abbrev cX10_isBetter : ByteArray := prog_12_method_66_code
def yX10_isBetter : MethodName := ⟨RX10, "isBetter", "(IIII)Z"⟩
abbrev cX10_tells : ByteArray := prog_12_method_67_code
def yX10_tells : MethodName := ⟨RX10, "tells", "(I)V"⟩
abbrev cX10_aheadOf : ByteArray := prog_12_method_68_code
def yX10_aheadOf : MethodName := ⟨RX10, "aheadOf", "(I)I"⟩
abbrev cX10_top : ByteArray := prog_12_method_69_code
def yX10_top : MethodName := ⟨RX10, "top", "(III)I"⟩
abbrev cX10_isCertain : ByteArray := prog_12_method_70_code
def yX10_isCertain : MethodName := ⟨RX10, "isCertain", "(III)Z"⟩
abbrev cX10_read : ByteArray := prog_12_method_71_code
def yX10_read : MethodName := ⟨RX10, "read", "(II)I"⟩
abbrev cX10_bestBelow : ByteArray := prog_12_method_72_code
def yX10_bestBelow : MethodName := ⟨RX10, "bestBelow", "(II)I"⟩
abbrev cX10_path : ByteArray := prog_12_method_73_code
def yX10_path : MethodName := ⟨RX10, "path", "(II)I"⟩
abbrev cX10_apart : ByteArray := prog_12_method_74_code
def yX10_apart : MethodName := ⟨RX10, "apart", "(II)I"⟩
abbrev cX10_split : ByteArray := prog_12_method_75_code
def yX10_split : MethodName := ⟨RX10, "split", "()I"⟩
abbrev cX10_coverers : ByteArray := prog_12_method_76_code
def yX10_coverers : MethodName := ⟨RX10, "coverers", "(I)I"⟩
abbrev cX10_isCovered : ByteArray := prog_12_method_77_code
def yX10_isCovered : MethodName := ⟨RX10, "isCovered", "(III)Z"⟩
abbrev cX10_manyOf : ByteArray := prog_12_method_78_code
def yX10_manyOf : MethodName := ⟨RX10, "manyOf", "(I)I"⟩
abbrev cX10_isFirst : ByteArray := prog_12_method_79_code
def yX10_isFirst : MethodName := ⟨RX10, "isFirst", "(II)Z"⟩
abbrev cX10_bestCover : ByteArray := prog_12_method_80_code
def yX10_bestCover : MethodName := ⟨RX10, "bestCover", "(II)I"⟩
abbrev cX10_cover : ByteArray := prog_12_method_81_code
def yX10_cover : MethodName := ⟨RX10, "cover", "(II)I"⟩
abbrev cX10_both : ByteArray := prog_12_method_82_code
def yX10_both : MethodName := ⟨RX10, "both", "(II)I"⟩
abbrev cX10_alikeOf : ByteArray := prog_12_method_83_code
def yX10_alikeOf : MethodName := ⟨RX10, "alikeOf", "(II)I"⟩
abbrev cX10_alike : ByteArray := prog_12_method_84_code
def yX10_alike : MethodName := ⟨RX10, "alike", "(II)I"⟩
abbrev cX10_nearest : ByteArray := prog_12_method_85_code
def yX10_nearest : MethodName := ⟨RX10, "nearest", "(I)I"⟩
abbrev cX10_miss : ByteArray := prog_12_method_86_code
def yX10_miss : MethodName := ⟨RX10, "miss", "(I)I"⟩
abbrev cX10_most : ByteArray := prog_12_method_87_code
def yX10_most : MethodName := ⟨RX10, "most", "()I"⟩
abbrev cX10_numberedAt : ByteArray := prog_12_method_88_code
def yX10_numberedAt : MethodName := ⟨RX10, "numberedAt", "(I)I"⟩
abbrev cX10_middle : ByteArray := prog_12_method_89_code
def yX10_middle : MethodName := ⟨RX10, "middle", "(II)I"⟩
abbrev cX10_count : ByteArray := prog_12_method_90_code
def yX10_count : MethodName := ⟨RX10, "count", "(I)I"⟩
def RJx145de : String := "java/io/Serializable"
def TJx145de : u_T := fun k => match k with
  | _ => ("", "", "", false)
def tyJx145de : Nat → FieldType := fun k => match k with
  | _ => .int
abbrev wsJx145de0 : List Cond := u_ws RJx145de TJx145de 0
theorem nmJx145de : ∀ a, a < 0 → ∀ b, b < 0 → a ≠ b → (TJx145de a).2.1 ≠ (TJx145de b).2.1 := by decide +kernel
theorem tyJx145de_ok : ∀ k, k < 0 → parseFieldDescriptor (TJx145de k).2.2.1 = some (tyJx145de k) := by decide +kernel
def RJ6 : String := "java/lang/Integer"
def TJ6 : u_T := fun k => match k with
  | _ => ("", "", "", false)
def tyJ6 : Nat → FieldType := fun k => match k with
  | _ => .int
abbrev wsJ60 : List Cond := u_ws RJ6 TJ6 0
theorem nmJ6 : ∀ a, a < 0 → ∀ b, b < 0 → a ≠ b → (TJ6 a).2.1 ≠ (TJ6 b).2.1 := by decide +kernel
theorem tyJ6_ok : ∀ k, k < 0 → parseFieldDescriptor (TJ6 k).2.2.1 = some (tyJ6 k) := by decide +kernel
abbrev cJ6_bitCount_0f7a4 : ByteArray := prog_15_method_49_code
def yJ6_bitCount_0f7a4 : MethodName := ⟨RJ6, "bitCount", "(I)I"⟩
def RJ13 : String := "java/lang/Long"
def TJ13 : u_T := fun k => match k with
  | _ => ("", "", "", false)
def tyJ13 : Nat → FieldType := fun k => match k with
  | _ => .int
abbrev wsJ130 : List Cond := u_ws RJ13 TJ13 0
theorem nmJ13 : ∀ a, a < 0 → ∀ b, b < 0 → a ≠ b → (TJ13 a).2.1 ≠ (TJ13 b).2.1 := by decide +kernel
theorem tyJ13_ok : ∀ k, k < 0 → parseFieldDescriptor (TJ13 k).2.2.1 = some (tyJ13 k) := by decide +kernel
abbrev cJ13_bitCount_95d88 : ByteArray := prog_16_method_50_code
def yJ13_bitCount_95d88 : MethodName := ⟨RJ13, "bitCount", "(J)I"⟩
def RJ9 : String := "java/lang/Math"
def TJ9 : u_T := fun k => match k with
  | _ => ("", "", "", false)
def tyJ9 : Nat → FieldType := fun k => match k with
  | _ => .int
abbrev wsJ90 : List Cond := u_ws RJ9 TJ9 0
theorem nmJ9 : ∀ a, a < 0 → ∀ b, b < 0 → a ≠ b → (TJ9 a).2.1 ≠ (TJ9 b).2.1 := by decide +kernel
theorem tyJ9_ok : ∀ k, k < 0 → parseFieldDescriptor (TJ9 k).2.2.1 = some (tyJ9 k) := by decide +kernel
abbrev cJ9_abs_0f7a4 : ByteArray := prog_17_method_59_code
def yJ9_abs_0f7a4 : MethodName := ⟨RJ9, "abs", "(I)I"⟩
abbrev cJ9_max_7cf53 : ByteArray := prog_17_method_65_code
def yJ9_max_7cf53 : MethodName := ⟨RJ9, "max", "(II)I"⟩
abbrev cJ9_min_7cf53 : ByteArray := prog_17_method_69_code
def yJ9_min_7cf53 : MethodName := ⟨RJ9, "min", "(II)I"⟩
def RJ0 : String := "java/lang/String"
def TJ0 : u_T := fun k => match k with
  | _ => ("", "", "", false)
def tyJ0 : Nat → FieldType := fun k => match k with
  | _ => .int
abbrev wsJ00 : List Cond := u_ws RJ0 TJ0 0
theorem nmJ0 : ∀ a, a < 0 → ∀ b, b < 0 → a ≠ b → (TJ0 a).2.1 ≠ (TJ0 b).2.1 := by decide +kernel
theorem tyJ0_ok : ∀ k, k < 0 → parseFieldDescriptor (TJ0 k).2.2.1 = some (tyJ0 k) := by decide +kernel
def RL : String := "DrillCountLaw"
abbrev cL_numberOf : ByteArray := method_3_code
def yL_numberOf : MethodName := ⟨RL, "numberOf", "(LDrillCount;II[J)I"⟩
abbrev cL_bin : ByteArray := method_4_code
def yL_bin : MethodName := ⟨RL, "bin", "(LDrillCount;IIII[J)I"⟩
abbrev cL_middle : ByteArray := method_5_code
def yL_middle : MethodName := ⟨RL, "middle", "(LDrillCount;II[J)I"⟩
abbrev cL_law : ByteArray := code
def yL_law : MethodName := ⟨RL, "law", "([I)Z"⟩
abbrev vwCl : List vw_C := [(RX0, TX0, 4), (RX1, TX1, 5), (RX2, TX2, 6), (RX3, TX3, 3), (RX4, TX4, 2), (RX5, TX5, 5), (RX6, TX6, 3), (RX7, TX7, 5), (RX8, TX8, 4), (RX9, TX9, 8), (RX10, TX10, 22)]
end
section
def BW : List Cond := lw_tbl.filter goodWord
theorem bw_tbl {w : Cond} (h : w ∈ tables_1) (g : goodWord w = true) : w ∈ BW := List.mem_filter.mpr ⟨List.mem_append_right _ h, g⟩
theorem bw_1 {w : Cond} (h : w ∈ tables_1_1) (g : goodWord w = true) : w ∈ BW := bw_tbl (show w ∈ tables_1_1 ++ (tables_1_2 ++ (tables_1_3 ++ (tables_1_4 ++ (tables_1_5 ++ tables_1_6)))) from (List.mem_append_left _ h)) g
theorem bw_2 {w : Cond} (h : w ∈ tables_1_2) (g : goodWord w = true) : w ∈ BW := bw_tbl (show w ∈ tables_1_1 ++ (tables_1_2 ++ (tables_1_3 ++ (tables_1_4 ++ (tables_1_5 ++ tables_1_6)))) from (List.mem_append_right _ (List.mem_append_left _ h))) g
theorem bw_3 {w : Cond} (h : w ∈ tables_1_3) (g : goodWord w = true) : w ∈ BW := bw_tbl (show w ∈ tables_1_1 ++ (tables_1_2 ++ (tables_1_3 ++ (tables_1_4 ++ (tables_1_5 ++ tables_1_6)))) from (List.mem_append_right _ (List.mem_append_right _ (List.mem_append_left _ h)))) g
theorem bw_4 {w : Cond} (h : w ∈ tables_1_4) (g : goodWord w = true) : w ∈ BW := bw_tbl (show w ∈ tables_1_1 ++ (tables_1_2 ++ (tables_1_3 ++ (tables_1_4 ++ (tables_1_5 ++ tables_1_6)))) from (List.mem_append_right _ (List.mem_append_right _ (List.mem_append_right _ (List.mem_append_left _ h))))) g
theorem bw_5 {w : Cond} (h : w ∈ tables_1_5) (g : goodWord w = true) : w ∈ BW := bw_tbl (show w ∈ tables_1_1 ++ (tables_1_2 ++ (tables_1_3 ++ (tables_1_4 ++ (tables_1_5 ++ tables_1_6)))) from (List.mem_append_right _ (List.mem_append_right _ (List.mem_append_right _ (List.mem_append_right _ (List.mem_append_left _ h)))))) g
theorem bw_6 {w : Cond} (h : w ∈ tables_1_6) (g : goodWord w = true) : w ∈ BW := bw_tbl (show w ∈ tables_1_1 ++ (tables_1_2 ++ (tables_1_3 ++ (tables_1_4 ++ (tables_1_5 ++ tables_1_6)))) from (List.mem_append_right _ (List.mem_append_right _ (List.mem_append_right _ (List.mem_append_right _ (List.mem_append_right _ h)))))) g
theorem bw_p {w : Cond} (h : w ∈ k2_sels lw_privs) (g : goodWord w = true) : w ∈ BW := List.mem_filter.mpr ⟨List.mem_append_left _ h, g⟩
theorem mw_1_0 : Cond.initialized RL ∈ BW := bw_1 (List.mem_of_getElem? (i := 0) rfl) rfl
theorem mw_1_1 : Cond.initialized RX9 ∈ BW := bw_1 (List.mem_of_getElem? (i := 1) rfl) rfl
theorem mw_1_2 : Cond.initialized RX2 ∈ BW := bw_1 (List.mem_of_getElem? (i := 2) rfl) rfl
theorem mw_1_3 : Cond.initialized RX6 ∈ BW := bw_1 (List.mem_of_getElem? (i := 3) rfl) rfl
theorem mw_1_4 : Cond.initialized RX3 ∈ BW := bw_1 (List.mem_of_getElem? (i := 4) rfl) rfl
theorem mw_1_5 : Cond.initialized RX7 ∈ BW := bw_1 (List.mem_of_getElem? (i := 5) rfl) rfl
theorem mw_1_6 : Cond.initialized RX0 ∈ BW := bw_1 (List.mem_of_getElem? (i := 6) rfl) rfl
theorem mw_1_7 : Cond.initialized RX5 ∈ BW := bw_1 (List.mem_of_getElem? (i := 7) rfl) rfl
theorem mw_1_8 : Cond.initialized RX8 ∈ BW := bw_1 (List.mem_of_getElem? (i := 8) rfl) rfl
theorem mw_1_9 : Cond.initialized RX4 ∈ BW := bw_1 (List.mem_of_getElem? (i := 9) rfl) rfl
theorem mw_1_10 : Cond.initialized RX1 ∈ BW := bw_1 (List.mem_of_getElem? (i := 10) rfl) rfl
theorem mw_1_11 : Cond.initialized RX10 ∈ BW := bw_1 (List.mem_of_getElem? (i := 11) rfl) rfl
theorem mw_1_12 : Cond.initialized RJ9 ∈ BW := bw_1 (List.mem_of_getElem? (i := 12) rfl) rfl
theorem mw_1_13 : Cond.initialized RJ13 ∈ BW := bw_1 (List.mem_of_getElem? (i := 13) rfl) rfl
theorem mw_1_18 : Cond.initialized RJ6 ∈ BW := bw_1 (List.mem_of_getElem? (i := 18) rfl) rfl
theorem mw_1_19 : Cond.classLink RL 8 RX9 ∈ BW := bw_1 (List.mem_of_getElem? (i := 19) rfl) rfl
theorem mw_1_20 : Cond.instantiable RX9 8 ∈ BW := bw_1 (List.mem_of_getElem? (i := 20) rfl) rfl
theorem mw_1_21 : Cond.methodLink RL 22 yX9_init ∈ BW := bw_1 (List.mem_of_getElem? (i := 21) rfl) rfl
theorem mw_1_22 : Cond.instanceMethod yX9_init ∈ BW := bw_1 (List.mem_of_getElem? (i := 22) rfl) rfl
theorem mw_1_23 : Cond.code yX9_init cX9_init 1 (none : Option Jvm.ClassFile.FieldType) ∈ BW := bw_1 (List.mem_of_getElem? (i := 23) rfl) rfl
theorem mw_1_24 : Cond.methodLink RX9 1 objectInit ∈ BW := bw_1 (List.mem_of_getElem? (i := 24) rfl) rfl
theorem mw_1_25 : Cond.instanceMethod objectInit ∈ BW := bw_1 (List.mem_of_getElem? (i := 25) rfl) rfl
theorem mw_1_27 : Cond.classLink RX9 7 RX2 ∈ BW := bw_1 (List.mem_of_getElem? (i := 27) rfl) rfl
theorem mw_1_28 : Cond.instantiable RX2 6 ∈ BW := bw_1 (List.mem_of_getElem? (i := 28) rfl) rfl
theorem mw_1_30 : Cond.instanceMethod yX2_init ∈ BW := bw_1 (List.mem_of_getElem? (i := 30) rfl) rfl
theorem mw_1_31 : Cond.code yX2_init cX2_init 1 (none : Option Jvm.ClassFile.FieldType) ∈ BW := bw_1 (List.mem_of_getElem? (i := 31) rfl) rfl
theorem mw_1_32 : Cond.methodLink RX2 3 objectInit ∈ BW := bw_1 (List.mem_of_getElem? (i := 32) rfl) rfl
theorem mw_1_33 : Cond.fieldLink RX2 9 "DrillCount$Forest" "axisOf" "[I" ∈ BW := bw_1 (List.mem_of_getElem? (i := 33) rfl) rfl
theorem mw_1_34 : Cond.fieldLink RX9 96 "DrillCount$Forest" "axisOf" "[I" ∈ BW := bw_1 (List.mem_of_getElem? (i := 34) rfl) rfl
theorem mw_1_35 : Cond.fieldLink RX7 119 "DrillCount$Forest" "axisOf" "[I" ∈ BW := bw_1 (List.mem_of_getElem? (i := 35) rfl) rfl
theorem mw_1_36 : Cond.fieldLink RX2 15 "DrillCount$Forest" "above" "[I" ∈ BW := bw_1 (List.mem_of_getElem? (i := 36) rfl) rfl
theorem mw_1_37 : Cond.fieldLink RX9 195 "DrillCount$Forest" "above" "[I" ∈ BW := bw_1 (List.mem_of_getElem? (i := 37) rfl) rfl
theorem mw_1_38 : Cond.fieldLink RX2 18 "DrillCount$Forest" "under" "[J" ∈ BW := bw_1 (List.mem_of_getElem? (i := 38) rfl) rfl
theorem mw_1_39 : Cond.fieldLink RX9 100 "DrillCount$Forest" "under" "[J" ∈ BW := bw_1 (List.mem_of_getElem? (i := 39) rfl) rfl
theorem mw_1_40 : Cond.fieldLink RX2 22 "DrillCount$Forest" "tagged" "[J" ∈ BW := bw_1 (List.mem_of_getElem? (i := 40) rfl) rfl
theorem mw_1_41 : Cond.fieldLink RX9 125 "DrillCount$Forest" "tagged" "[J" ∈ BW := bw_1 (List.mem_of_getElem? (i := 41) rfl) rfl
theorem mw_1_42 : Cond.fieldLink RX2 25 "DrillCount$Forest" "having" "[J" ∈ BW := bw_1 (List.mem_of_getElem? (i := 42) rfl) rfl
theorem mw_1_43 : Cond.fieldLink RX7 125 "DrillCount$Forest" "having" "[J" ∈ BW := bw_1 (List.mem_of_getElem? (i := 43) rfl) rfl
theorem mw_1_44 : Cond.fieldLink RX9 224 "DrillCount$Forest" "having" "[J" ∈ BW := bw_1 (List.mem_of_getElem? (i := 44) rfl) rfl
theorem mw_1_45 : Cond.fieldLink RX2 28 "DrillCount$Forest" "size" "I" ∈ BW := bw_1 (List.mem_of_getElem? (i := 45) rfl) rfl
theorem mw_1_46 : Cond.fieldLink RX9 81 "DrillCount$Forest" "size" "I" ∈ BW := bw_1 (List.mem_of_getElem? (i := 46) rfl) rfl
theorem mw_1_47 : Cond.laysFinal "DrillCount$Forest" "DrillCount$Forest" "axisOf" "[I" ∈ BW := bw_1 (List.mem_of_getElem? (i := 47) rfl) rfl
theorem mw_1_49 : Cond.laysFinal "DrillCount$Forest" "DrillCount$Forest" "above" "[I" ∈ BW := bw_1 (List.mem_of_getElem? (i := 49) rfl) rfl
theorem mw_1_51 : Cond.laysFinal "DrillCount$Forest" "DrillCount$Forest" "under" "[J" ∈ BW := bw_1 (List.mem_of_getElem? (i := 51) rfl) rfl
theorem mw_1_53 : Cond.laysFinal "DrillCount$Forest" "DrillCount$Forest" "tagged" "[J" ∈ BW := bw_1 (List.mem_of_getElem? (i := 53) rfl) rfl
theorem mw_1_55 : Cond.laysFinal "DrillCount$Forest" "DrillCount$Forest" "having" "[J" ∈ BW := bw_1 (List.mem_of_getElem? (i := 55) rfl) rfl
theorem mw_1_57 : Cond.lays "DrillCount$Forest" "DrillCount$Forest" "size" "I" ∈ BW := bw_1 (List.mem_of_getElem? (i := 57) rfl) rfl
theorem mw_1_60 : Cond.arrayClass FieldType.int ∈ BW := bw_1 (List.mem_of_getElem? (i := 60) rfl) rfl
theorem mw_1_61 : Cond.arrayClass FieldType.long ∈ BW := bw_1 (List.mem_of_getElem? (i := 61) rfl) rfl
theorem mw_1_62 : Cond.classLink RX9 16 RX6 ∈ BW := bw_1 (List.mem_of_getElem? (i := 62) rfl) rfl
theorem mw_1_63 : Cond.instantiable RX6 3 ∈ BW := bw_1 (List.mem_of_getElem? (i := 63) rfl) rfl
theorem mw_1_65 : Cond.instanceMethod yX6_init ∈ BW := bw_1 (List.mem_of_getElem? (i := 65) rfl) rfl
theorem mw_1_66 : Cond.code yX6_init cX6_init 1 (none : Option Jvm.ClassFile.FieldType) ∈ BW := bw_1 (List.mem_of_getElem? (i := 66) rfl) rfl
theorem mw_1_67 : Cond.methodLink RX6 3 objectInit ∈ BW := bw_1 (List.mem_of_getElem? (i := 67) rfl) rfl
theorem mw_1_68 : Cond.classLink RX6 9 RX3 ∈ BW := bw_1 (List.mem_of_getElem? (i := 68) rfl) rfl
theorem mw_1_69 : Cond.instantiable RX3 3 ∈ BW := bw_1 (List.mem_of_getElem? (i := 69) rfl) rfl
theorem mw_1_70 : Cond.methodLink RX6 11 yX3_init ∈ BW := bw_1 (List.mem_of_getElem? (i := 70) rfl) rfl
theorem mw_1_71 : Cond.instanceMethod yX3_init ∈ BW := bw_1 (List.mem_of_getElem? (i := 71) rfl) rfl
theorem mw_1_72 : Cond.code yX3_init cX3_init 2 (none : Option Jvm.ClassFile.FieldType) ∈ BW := bw_1 (List.mem_of_getElem? (i := 72) rfl) rfl
theorem mw_1_73 : Cond.methodLink RX3 3 objectInit ∈ BW := bw_1 (List.mem_of_getElem? (i := 73) rfl) rfl
theorem mw_1_74 : Cond.fieldLink RX3 9 "DrillCount$Ranking" "who" "[I" ∈ BW := bw_1 (List.mem_of_getElem? (i := 74) rfl) rfl
theorem mw_1_75 : Cond.fieldLink RX9 235 "DrillCount$Ranking" "who" "[I" ∈ BW := bw_1 (List.mem_of_getElem? (i := 75) rfl) rfl
theorem mw_1_76 : Cond.fieldLink RX3 15 "DrillCount$Ranking" "points" "[I" ∈ BW := bw_1 (List.mem_of_getElem? (i := 76) rfl) rfl
theorem mw_1_77 : Cond.fieldLink RX9 211 "DrillCount$Ranking" "points" "[I" ∈ BW := bw_1 (List.mem_of_getElem? (i := 77) rfl) rfl
theorem mw_1_78 : Cond.fieldLink RX3 18 "DrillCount$Ranking" "size" "I" ∈ BW := bw_1 (List.mem_of_getElem? (i := 78) rfl) rfl
theorem mw_1_79 : Cond.fieldLink RX9 234 "DrillCount$Ranking" "size" "I" ∈ BW := bw_1 (List.mem_of_getElem? (i := 79) rfl) rfl
theorem mw_1_80 : Cond.laysFinal "DrillCount$Ranking" "DrillCount$Ranking" "who" "[I" ∈ BW := bw_1 (List.mem_of_getElem? (i := 80) rfl) rfl
theorem mw_1_82 : Cond.laysFinal "DrillCount$Ranking" "DrillCount$Ranking" "points" "[I" ∈ BW := bw_1 (List.mem_of_getElem? (i := 82) rfl) rfl
theorem mw_1_84 : Cond.lays "DrillCount$Ranking" "DrillCount$Ranking" "size" "I" ∈ BW := bw_1 (List.mem_of_getElem? (i := 84) rfl) rfl
theorem mw_1_87 : Cond.fieldLink RX6 14 "DrillCount$Shelf" "order" "LDrillCount$Ranking;" ∈ BW := bw_1 (List.mem_of_getElem? (i := 87) rfl) rfl
theorem mw_1_88 : Cond.fieldLink RX9 208 "DrillCount$Shelf" "order" "LDrillCount$Ranking;" ∈ BW := bw_1 (List.mem_of_getElem? (i := 88) rfl) rfl
theorem mw_1_89 : Cond.fieldLink RX6 28 "DrillCount$Shelf" "there" "J" ∈ BW := bw_1 (List.mem_of_getElem? (i := 89) rfl) rfl
theorem mw_1_90 : Cond.fieldLink RX7 58 "DrillCount$Shelf" "there" "J" ∈ BW := bw_1 (List.mem_of_getElem? (i := 90) rfl) rfl
theorem mw_1_91 : Cond.fieldLink RX6 20 "DrillCount$Shelf" "size" "I" ∈ BW := bw_1 (List.mem_of_getElem? (i := 91) rfl) rfl
theorem mw_1_92 : Cond.fieldLink RX9 118 "DrillCount$Shelf" "size" "I" ∈ BW := bw_1 (List.mem_of_getElem? (i := 92) rfl) rfl
theorem mw_1_93 : Cond.fieldLink RX7 88 "DrillCount$Shelf" "size" "I" ∈ BW := bw_1 (List.mem_of_getElem? (i := 93) rfl) rfl
theorem mw_1_94 : Cond.laysFinal "DrillCount$Shelf" "DrillCount$Shelf" "order" "LDrillCount$Ranking;" ∈ BW := bw_1 (List.mem_of_getElem? (i := 94) rfl) rfl
theorem mw_1_96 : Cond.lays "DrillCount$Shelf" "DrillCount$Shelf" "there" "J" ∈ BW := bw_1 (List.mem_of_getElem? (i := 96) rfl) rfl
theorem mw_1_98 : Cond.lays "DrillCount$Shelf" "DrillCount$Shelf" "size" "I" ∈ BW := bw_1 (List.mem_of_getElem? (i := 98) rfl) rfl
theorem mw_1_101 : Cond.classLink RX9 23 RX7 ∈ BW := bw_1 (List.mem_of_getElem? (i := 101) rfl) rfl
theorem mw_1_102 : Cond.instantiable RX7 5 ∈ BW := bw_1 (List.mem_of_getElem? (i := 102) rfl) rfl
theorem mw_1_103 : Cond.methodLink RX9 25 yX7_init ∈ BW := bw_1 (List.mem_of_getElem? (i := 103) rfl) rfl
theorem mw_1_104 : Cond.instanceMethod yX7_init ∈ BW := bw_1 (List.mem_of_getElem? (i := 104) rfl) rfl
theorem mw_1_105 : Cond.code yX7_init cX7_init 4 (none : Option Jvm.ClassFile.FieldType) ∈ BW := bw_1 (List.mem_of_getElem? (i := 105) rfl) rfl
theorem mw_1_106 : Cond.methodLink RX7 3 objectInit ∈ BW := bw_1 (List.mem_of_getElem? (i := 106) rfl) rfl
theorem mw_1_107 : Cond.classLink RX7 9 RX0 ∈ BW := bw_1 (List.mem_of_getElem? (i := 107) rfl) rfl
theorem mw_1_109 : Cond.instantiable RX0 4 ∈ BW := bw_1 (List.mem_of_getElem? (i := 109) rfl) rfl
theorem mw_1_111 : Cond.instanceMethod yX0_init ∈ BW := bw_1 (List.mem_of_getElem? (i := 111) rfl) rfl
theorem mw_1_112 : Cond.code yX0_init cX0_init 1 (none : Option Jvm.ClassFile.FieldType) ∈ BW := bw_1 (List.mem_of_getElem? (i := 112) rfl) rfl
theorem mw_1_113 : Cond.methodLink RX0 3 objectInit ∈ BW := bw_1 (List.mem_of_getElem? (i := 113) rfl) rfl
theorem mw_1_114 : Cond.classLink RX0 15 RX5 ∈ BW := bw_1 (List.mem_of_getElem? (i := 114) rfl) rfl
theorem mw_1_115 : Cond.instantiable RX5 5 ∈ BW := bw_1 (List.mem_of_getElem? (i := 115) rfl) rfl
theorem mw_1_117 : Cond.instanceMethod yX5_init ∈ BW := bw_1 (List.mem_of_getElem? (i := 117) rfl) rfl
theorem mw_1_118 : Cond.code yX5_init cX5_init 1 (none : Option Jvm.ClassFile.FieldType) ∈ BW := bw_1 (List.mem_of_getElem? (i := 118) rfl) rfl
theorem mw_1_119 : Cond.methodLink RX5 3 objectInit ∈ BW := bw_1 (List.mem_of_getElem? (i := 119) rfl) rfl
theorem mw_1_120 : Cond.fieldLink RX5 18 "DrillCount$Selection" "categories" "J" ∈ BW := bw_1 (List.mem_of_getElem? (i := 120) rfl) rfl
theorem mw_1_121 : Cond.fieldLink RX7 68 "DrillCount$Selection" "categories" "J" ∈ BW := bw_1 (List.mem_of_getElem? (i := 121) rfl) rfl
theorem mw_1_122 : Cond.fieldLink RX9 162 "DrillCount$Selection" "categories" "J" ∈ BW := bw_1 (List.mem_of_getElem? (i := 122) rfl) rfl
theorem mw_1_123 : Cond.fieldLink RX5 22 "DrillCount$Selection" "absent" "Z" ∈ BW := bw_1 (List.mem_of_getElem? (i := 123) rfl) rfl
theorem mw_1_124 : Cond.fieldLink RX7 77 "DrillCount$Selection" "absent" "Z" ∈ BW := bw_1 (List.mem_of_getElem? (i := 124) rfl) rfl
theorem mw_1_125 : Cond.fieldLink RX9 179 "DrillCount$Selection" "absent" "Z" ∈ BW := bw_1 (List.mem_of_getElem? (i := 125) rfl) rfl
theorem mw_1_126 : Cond.fieldLink RX5 26 "DrillCount$Selection" "ranges" "I" ∈ BW := bw_1 (List.mem_of_getElem? (i := 126) rfl) rfl
theorem mw_1_127 : Cond.fieldLink RX9 169 "DrillCount$Selection" "ranges" "I" ∈ BW := bw_1 (List.mem_of_getElem? (i := 127) rfl) rfl
theorem mw_1_128 : Cond.fieldLink RX7 134 "DrillCount$Selection" "ranges" "I" ∈ BW := bw_1 (List.mem_of_getElem? (i := 128) rfl) rfl
theorem mw_1_129 : Cond.fieldLink RX5 9 "DrillCount$Selection" "lows" "[I" ∈ BW := bw_1 (List.mem_of_getElem? (i := 129) rfl) rfl
theorem mw_1_130 : Cond.fieldLink RX5 15 "DrillCount$Selection" "highs" "[I" ∈ BW := bw_1 (List.mem_of_getElem? (i := 130) rfl) rfl
theorem mw_1_131 : Cond.lays "DrillCount$Selection" "DrillCount$Selection" "categories" "J" ∈ BW := bw_1 (List.mem_of_getElem? (i := 131) rfl) rfl
theorem mw_1_133 : Cond.lays "DrillCount$Selection" "DrillCount$Selection" "absent" "Z" ∈ BW := bw_1 (List.mem_of_getElem? (i := 133) rfl) rfl
theorem mw_1_135 : Cond.lays "DrillCount$Selection" "DrillCount$Selection" "ranges" "I" ∈ BW := bw_1 (List.mem_of_getElem? (i := 135) rfl) rfl
theorem mw_1_137 : Cond.laysFinal "DrillCount$Selection" "DrillCount$Selection" "lows" "[I" ∈ BW := bw_1 (List.mem_of_getElem? (i := 137) rfl) rfl
theorem mw_1_139 : Cond.laysFinal "DrillCount$Selection" "DrillCount$Selection" "highs" "[I" ∈ BW := bw_1 (List.mem_of_getElem? (i := 139) rfl) rfl
theorem mw_1_142 : Cond.fieldLink RX0 9 "DrillCount$Axis" "kind" "I" ∈ BW := bw_1 (List.mem_of_getElem? (i := 142) rfl) rfl
theorem mw_1_143 : Cond.fieldLink RX7 38 "DrillCount$Axis" "kind" "I" ∈ BW := bw_1 (List.mem_of_getElem? (i := 143) rfl) rfl
theorem mw_1_144 : Cond.fieldLink RX9 255 "DrillCount$Axis" "kind" "I" ∈ BW := bw_1 (List.mem_of_getElem? (i := 144) rfl) rfl
theorem mw_1_145 : Cond.fieldLink RX0 18 "DrillCount$Axis" "chosen" "LDrillCount$Selection;" ∈ BW := bw_1 (List.mem_of_getElem? (i := 145) rfl) rfl
theorem mw_1_146 : Cond.fieldLink RX8 39 "DrillCount$Axis" "chosen" "LDrillCount$Selection;" ∈ BW := bw_1 (List.mem_of_getElem? (i := 146) rfl) rfl
theorem mw_1_147 : Cond.fieldLink RX7 44 "DrillCount$Axis" "chosen" "LDrillCount$Selection;" ∈ BW := bw_1 (List.mem_of_getElem? (i := 147) rfl) rfl
theorem mw_1_148 : Cond.fieldLink RX9 159 "DrillCount$Axis" "chosen" "LDrillCount$Selection;" ∈ BW := bw_1 (List.mem_of_getElem? (i := 148) rfl) rfl
theorem mw_1_149 : Cond.fieldLink RX0 22 "DrillCount$Axis" "numbers" "[I" ∈ BW := bw_1 (List.mem_of_getElem? (i := 149) rfl) rfl
theorem mw_1_150 : Cond.fieldLink RX9 138 "DrillCount$Axis" "numbers" "[I" ∈ BW := bw_1 (List.mem_of_getElem? (i := 150) rfl) rfl
theorem mw_1_151 : Cond.fieldLink RX7 96 "DrillCount$Axis" "numbers" "[I" ∈ BW := bw_1 (List.mem_of_getElem? (i := 151) rfl) rfl
theorem mw_1_152 : Cond.fieldLink RX9 143 "DrillCount$Axis" "numbered" "J" ∈ BW := bw_1 (List.mem_of_getElem? (i := 152) rfl) rfl
theorem mw_1_153 : Cond.fieldLink RX7 89 "DrillCount$Axis" "numbered" "J" ∈ BW := bw_1 (List.mem_of_getElem? (i := 153) rfl) rfl
theorem mw_1_154 : Cond.lays "DrillCount$Axis" "DrillCount$Axis" "kind" "I" ∈ BW := bw_1 (List.mem_of_getElem? (i := 154) rfl) rfl
theorem mw_1_156 : Cond.laysFinal "DrillCount$Axis" "DrillCount$Axis" "chosen" "LDrillCount$Selection;" ∈ BW := bw_1 (List.mem_of_getElem? (i := 156) rfl) rfl
theorem mw_1_158 : Cond.laysFinal "DrillCount$Axis" "DrillCount$Axis" "numbers" "[I" ∈ BW := bw_1 (List.mem_of_getElem? (i := 158) rfl) rfl
theorem mw_1_160 : Cond.lays "DrillCount$Axis" "DrillCount$Axis" "numbered" "J" ∈ BW := bw_1 (List.mem_of_getElem? (i := 160) rfl) rfl
theorem mw_1_163 : Cond.fieldLink RX7 21 "DrillCount$Sieve" "forest" "LDrillCount$Forest;" ∈ BW := bw_1 (List.mem_of_getElem? (i := 163) rfl) rfl
theorem mw_1_164 : Cond.fieldLink RX7 25 "DrillCount$Sieve" "shelf" "LDrillCount$Shelf;" ∈ BW := bw_1 (List.mem_of_getElem? (i := 164) rfl) rfl
theorem mw_1_165 : Cond.fieldLink RX7 11 "DrillCount$Sieve" "axes" "[LDrillCount$Axis;" ∈ BW := bw_1 (List.mem_of_getElem? (i := 165) rfl) rfl
theorem mw_1_166 : Cond.fieldLink RX9 134 "DrillCount$Sieve" "axes" "[LDrillCount$Axis;" ∈ BW := bw_1 (List.mem_of_getElem? (i := 166) rfl) rfl
theorem mw_1_167 : Cond.fieldLink RX7 17 "DrillCount$Sieve" "passing" "[J" ∈ BW := bw_1 (List.mem_of_getElem? (i := 167) rfl) rfl
theorem mw_1_168 : Cond.fieldLink RX7 30 "DrillCount$Sieve" "size" "I" ∈ BW := bw_1 (List.mem_of_getElem? (i := 168) rfl) rfl
theorem mw_1_169 : Cond.fieldLink RX9 69 "DrillCount$Sieve" "size" "I" ∈ BW := bw_1 (List.mem_of_getElem? (i := 169) rfl) rfl
theorem mw_1_170 : Cond.laysFinal "DrillCount$Sieve" "DrillCount$Sieve" "forest" "LDrillCount$Forest;" ∈ BW := bw_1 (List.mem_of_getElem? (i := 170) rfl) rfl
theorem mw_1_172 : Cond.laysFinal "DrillCount$Sieve" "DrillCount$Sieve" "shelf" "LDrillCount$Shelf;" ∈ BW := bw_1 (List.mem_of_getElem? (i := 172) rfl) rfl
theorem mw_1_174 : Cond.laysFinal "DrillCount$Sieve" "DrillCount$Sieve" "axes" "[LDrillCount$Axis;" ∈ BW := bw_1 (List.mem_of_getElem? (i := 174) rfl) rfl
theorem mw_1_176 : Cond.laysFinal "DrillCount$Sieve" "DrillCount$Sieve" "passing" "[J" ∈ BW := bw_1 (List.mem_of_getElem? (i := 176) rfl) rfl
theorem mw_1_178 : Cond.lays "DrillCount$Sieve" "DrillCount$Sieve" "size" "I" ∈ BW := bw_1 (List.mem_of_getElem? (i := 178) rfl) rfl
theorem mw_1_181 : Cond.classLink RX9 32 RX8 ∈ BW := bw_1 (List.mem_of_getElem? (i := 181) rfl) rfl
theorem mw_1_182 : Cond.instantiable RX8 4 ∈ BW := bw_1 (List.mem_of_getElem? (i := 182) rfl) rfl
theorem mw_1_183 : Cond.methodLink RX9 34 yX8_init ∈ BW := bw_1 (List.mem_of_getElem? (i := 183) rfl) rfl
theorem mw_1_184 : Cond.instanceMethod yX8_init ∈ BW := bw_1 (List.mem_of_getElem? (i := 184) rfl) rfl
theorem mw_1_185 : Cond.code yX8_init cX8_init 2 (none : Option Jvm.ClassFile.FieldType) ∈ BW := bw_1 (List.mem_of_getElem? (i := 185) rfl) rfl
theorem mw_1_186 : Cond.methodLink RX8 3 objectInit ∈ BW := bw_1 (List.mem_of_getElem? (i := 186) rfl) rfl
theorem mw_1_187 : Cond.classLink RX8 15 RX5 ∈ BW := bw_1 (List.mem_of_getElem? (i := 187) rfl) rfl
theorem mw_1_190 : Cond.fieldLink RX8 9 "DrillCount$Trail" "axisOf" "[I" ∈ BW := bw_1 (List.mem_of_getElem? (i := 190) rfl) rfl
theorem mw_1_191 : Cond.fieldLink RX8 17 "DrillCount$Trail" "before" "[LDrillCount$Selection;" ∈ BW := bw_1 (List.mem_of_getElem? (i := 191) rfl) rfl
theorem mw_1_192 : Cond.fieldLink RX8 22 "DrillCount$Trail" "next" "I" ∈ BW := bw_1 (List.mem_of_getElem? (i := 192) rfl) rfl
theorem mw_1_193 : Cond.fieldLink RX8 30 "DrillCount$Trail" "size" "I" ∈ BW := bw_1 (List.mem_of_getElem? (i := 193) rfl) rfl
theorem mw_1_194 : Cond.fieldLink RX9 190 "DrillCount$Trail" "size" "I" ∈ BW := bw_1 (List.mem_of_getElem? (i := 194) rfl) rfl
theorem mw_1_195 : Cond.laysFinal "DrillCount$Trail" "DrillCount$Trail" "axisOf" "[I" ∈ BW := bw_1 (List.mem_of_getElem? (i := 195) rfl) rfl
theorem mw_1_197 : Cond.laysFinal "DrillCount$Trail" "DrillCount$Trail" "before" "[LDrillCount$Selection;" ∈ BW := bw_1 (List.mem_of_getElem? (i := 197) rfl) rfl
theorem mw_1_199 : Cond.lays "DrillCount$Trail" "DrillCount$Trail" "next" "I" ∈ BW := bw_1 (List.mem_of_getElem? (i := 199) rfl) rfl
theorem mw_1_201 : Cond.lays "DrillCount$Trail" "DrillCount$Trail" "size" "I" ∈ BW := bw_1 (List.mem_of_getElem? (i := 201) rfl) rfl
theorem mw_1_204 : Cond.classLink RX9 39 RX3 ∈ BW := bw_1 (List.mem_of_getElem? (i := 204) rfl) rfl
theorem mw_1_205 : Cond.methodLink RX9 41 yX3_init ∈ BW := bw_1 (List.mem_of_getElem? (i := 205) rfl) rfl
theorem mw_1_206 : Cond.classLink RX9 48 RX4 ∈ BW := bw_1 (List.mem_of_getElem? (i := 206) rfl) rfl
theorem mw_1_207 : Cond.instantiable RX4 2 ∈ BW := bw_1 (List.mem_of_getElem? (i := 207) rfl) rfl
theorem mw_1_208 : Cond.methodLink RX9 50 yX4_init ∈ BW := bw_1 (List.mem_of_getElem? (i := 208) rfl) rfl
theorem mw_1_209 : Cond.instanceMethod yX4_init ∈ BW := bw_1 (List.mem_of_getElem? (i := 209) rfl) rfl
theorem mw_1_210 : Cond.code yX4_init cX4_init 2 (none : Option Jvm.ClassFile.FieldType) ∈ BW := bw_1 (List.mem_of_getElem? (i := 210) rfl) rfl
theorem mw_1_211 : Cond.methodLink RX4 1 objectInit ∈ BW := bw_1 (List.mem_of_getElem? (i := 211) rfl) rfl
theorem mw_1_212 : Cond.fieldLink RX4 7 "DrillCount$Row" "values" "[I" ∈ BW := bw_1 (List.mem_of_getElem? (i := 212) rfl) rfl
theorem mw_1_213 : Cond.fieldLink RX9 278 "DrillCount$Row" "values" "[I" ∈ BW := bw_1 (List.mem_of_getElem? (i := 213) rfl) rfl
theorem mw_1_214 : Cond.fieldLink RX4 13 "DrillCount$Row" "size" "I" ∈ BW := bw_1 (List.mem_of_getElem? (i := 214) rfl) rfl
theorem mw_1_215 : Cond.fieldLink RX9 274 "DrillCount$Row" "size" "I" ∈ BW := bw_1 (List.mem_of_getElem? (i := 215) rfl) rfl
theorem mw_1_216 : Cond.laysFinal "DrillCount$Row" "DrillCount$Row" "values" "[I" ∈ BW := bw_1 (List.mem_of_getElem? (i := 216) rfl) rfl
theorem mw_1_218 : Cond.lays "DrillCount$Row" "DrillCount$Row" "size" "I" ∈ BW := bw_1 (List.mem_of_getElem? (i := 218) rfl) rfl
theorem mw_1_221 : Cond.classLink RX9 55 RX5 ∈ BW := bw_1 (List.mem_of_getElem? (i := 221) rfl) rfl
theorem mw_1_223 : Cond.classLink RX9 62 RX1 ∈ BW := bw_1 (List.mem_of_getElem? (i := 223) rfl) rfl
theorem mw_1_224 : Cond.instantiable RX1 5 ∈ BW := bw_1 (List.mem_of_getElem? (i := 224) rfl) rfl
theorem mw_1_226 : Cond.instanceMethod yX1_init ∈ BW := bw_1 (List.mem_of_getElem? (i := 226) rfl) rfl
theorem mw_1_227 : Cond.code yX1_init cX1_init 1 (none : Option Jvm.ClassFile.FieldType) ∈ BW := bw_1 (List.mem_of_getElem? (i := 227) rfl) rfl
theorem mw_1_228 : Cond.methodLink RX1 3 objectInit ∈ BW := bw_1 (List.mem_of_getElem? (i := 228) rfl) rfl
theorem mw_1_229 : Cond.fieldLink RX1 9 "DrillCount$Covering" "numbers" "[I" ∈ BW := bw_1 (List.mem_of_getElem? (i := 229) rfl) rfl
theorem mw_1_230 : Cond.fieldLink RX1 15 "DrillCount$Covering" "having" "[J" ∈ BW := bw_1 (List.mem_of_getElem? (i := 230) rfl) rfl
theorem mw_1_231 : Cond.fieldLink RX1 19 "DrillCount$Covering" "reach" "[J" ∈ BW := bw_1 (List.mem_of_getElem? (i := 231) rfl) rfl
theorem mw_1_232 : Cond.fieldLink RX1 22 "DrillCount$Covering" "chosen" "[I" ∈ BW := bw_1 (List.mem_of_getElem? (i := 232) rfl) rfl
theorem mw_1_233 : Cond.fieldLink RX9 322 "DrillCount$Covering" "chosen" "[I" ∈ BW := bw_1 (List.mem_of_getElem? (i := 233) rfl) rfl
theorem mw_1_234 : Cond.fieldLink RX1 25 "DrillCount$Covering" "size" "I" ∈ BW := bw_1 (List.mem_of_getElem? (i := 234) rfl) rfl
theorem mw_1_235 : Cond.fieldLink RX9 346 "DrillCount$Covering" "size" "I" ∈ BW := bw_1 (List.mem_of_getElem? (i := 235) rfl) rfl
theorem mw_1_236 : Cond.laysFinal "DrillCount$Covering" "DrillCount$Covering" "numbers" "[I" ∈ BW := bw_1 (List.mem_of_getElem? (i := 236) rfl) rfl
theorem mw_1_238 : Cond.laysFinal "DrillCount$Covering" "DrillCount$Covering" "having" "[J" ∈ BW := bw_1 (List.mem_of_getElem? (i := 238) rfl) rfl
theorem mw_2_0 : Cond.laysFinal "DrillCount$Covering" "DrillCount$Covering" "reach" "[J" ∈ BW := bw_2 (List.mem_of_getElem? (i := 0) rfl) rfl
theorem mw_2_2 : Cond.laysFinal "DrillCount$Covering" "DrillCount$Covering" "chosen" "[I" ∈ BW := bw_2 (List.mem_of_getElem? (i := 2) rfl) rfl
theorem mw_2_4 : Cond.lays "DrillCount$Covering" "DrillCount$Covering" "size" "I" ∈ BW := bw_2 (List.mem_of_getElem? (i := 4) rfl) rfl
theorem mw_2_7 : Cond.fieldLink RX9 10 "DrillCount" "forest" "LDrillCount$Forest;" ∈ BW := bw_2 (List.mem_of_getElem? (i := 7) rfl) rfl
theorem mw_2_8 : Cond.fieldLink RX9 19 "DrillCount" "shelf" "LDrillCount$Shelf;" ∈ BW := bw_2 (List.mem_of_getElem? (i := 8) rfl) rfl
theorem mw_2_9 : Cond.fieldLink RX9 28 "DrillCount" "sieve" "LDrillCount$Sieve;" ∈ BW := bw_2 (List.mem_of_getElem? (i := 9) rfl) rfl
theorem mw_2_10 : Cond.fieldLink RX9 35 "DrillCount" "trail" "LDrillCount$Trail;" ∈ BW := bw_2 (List.mem_of_getElem? (i := 10) rfl) rfl
theorem mw_2_11 : Cond.fieldLink RX9 44 "DrillCount" "ranking" "LDrillCount$Ranking;" ∈ BW := bw_2 (List.mem_of_getElem? (i := 11) rfl) rfl
theorem mw_2_12 : Cond.fieldLink RX9 51 "DrillCount" "row" "LDrillCount$Row;" ∈ BW := bw_2 (List.mem_of_getElem? (i := 12) rfl) rfl
theorem mw_2_13 : Cond.fieldLink RX9 58 "DrillCount" "trial" "LDrillCount$Selection;" ∈ BW := bw_2 (List.mem_of_getElem? (i := 13) rfl) rfl
theorem mw_2_14 : Cond.fieldLink RX9 65 "DrillCount" "covering" "LDrillCount$Covering;" ∈ BW := bw_2 (List.mem_of_getElem? (i := 14) rfl) rfl
theorem mw_2_15 : Cond.laysFinal "DrillCount" "DrillCount" "forest" "LDrillCount$Forest;" ∈ BW := bw_2 (List.mem_of_getElem? (i := 15) rfl) rfl
theorem mw_2_17 : Cond.laysFinal "DrillCount" "DrillCount" "shelf" "LDrillCount$Shelf;" ∈ BW := bw_2 (List.mem_of_getElem? (i := 17) rfl) rfl
theorem mw_2_19 : Cond.laysFinal "DrillCount" "DrillCount" "sieve" "LDrillCount$Sieve;" ∈ BW := bw_2 (List.mem_of_getElem? (i := 19) rfl) rfl
theorem mw_2_21 : Cond.laysFinal "DrillCount" "DrillCount" "trail" "LDrillCount$Trail;" ∈ BW := bw_2 (List.mem_of_getElem? (i := 21) rfl) rfl
theorem mw_2_23 : Cond.laysFinal "DrillCount" "DrillCount" "ranking" "LDrillCount$Ranking;" ∈ BW := bw_2 (List.mem_of_getElem? (i := 23) rfl) rfl
theorem mw_2_25 : Cond.laysFinal "DrillCount" "DrillCount" "row" "LDrillCount$Row;" ∈ BW := bw_2 (List.mem_of_getElem? (i := 25) rfl) rfl
theorem mw_2_27 : Cond.laysFinal "DrillCount" "DrillCount" "trial" "LDrillCount$Selection;" ∈ BW := bw_2 (List.mem_of_getElem? (i := 27) rfl) rfl
theorem mw_2_29 : Cond.laysFinal "DrillCount" "DrillCount" "covering" "LDrillCount$Covering;" ∈ BW := bw_2 (List.mem_of_getElem? (i := 29) rfl) rfl
theorem mw_2_32 : Cond.methodLink RL 26 yX9_axis ∈ BW := bw_2 (List.mem_of_getElem? (i := 32) rfl) rfl
theorem mw_2_33 : Cond.instanceMethod yX9_axis ∈ BW := bw_2 (List.mem_of_getElem? (i := 33) rfl) rfl
theorem mw_2_34 : Cond.selects RX9 yX9_axis yX9_axis ∈ BW := bw_2 (List.mem_of_getElem? (i := 34) rfl) rfl
theorem mw_2_35 : Cond.code yX9_axis cX9_axis 2 (some .int) ∈ BW := bw_2 (List.mem_of_getElem? (i := 35) rfl) rfl
theorem mw_2_36 : Cond.methodLink RX9 73 yX7_addAxis ∈ BW := bw_2 (List.mem_of_getElem? (i := 36) rfl) rfl
theorem mw_2_37 : Cond.instanceMethod yX7_addAxis ∈ BW := bw_2 (List.mem_of_getElem? (i := 37) rfl) rfl
theorem mw_2_38 : Cond.selects RX7 yX7_addAxis yX7_addAxis ∈ BW := bw_2 (List.mem_of_getElem? (i := 38) rfl) rfl
theorem mw_2_39 : Cond.code yX7_addAxis cX7_addAxis 3 (some .int) ∈ BW := bw_2 (List.mem_of_getElem? (i := 39) rfl) rfl
theorem mw_2_40 : Cond.methodLink RX7 41 yX7_renew ∈ BW := bw_2 (List.mem_of_getElem? (i := 40) rfl) rfl
theorem mw_2_41 : Cond.instanceMethod yX7_renew ∈ BW := bw_2 (List.mem_of_getElem? (i := 41) rfl) rfl
theorem mw_2_42 : Cond.selects RX7 yX7_renew yX7_renew ∈ BW := bw_2 (List.mem_of_getElem? (i := 42) rfl) rfl
theorem mw_2_43 : Cond.code yX7_renew cX7_renew 2 (none : Option Jvm.ClassFile.FieldType) ∈ BW := bw_2 (List.mem_of_getElem? (i := 43) rfl) rfl
theorem mw_2_44 : Cond.methodLink RX7 48 yX7_sift ∈ BW := bw_2 (List.mem_of_getElem? (i := 44) rfl) rfl
theorem mw_2_45 : Cond.instanceMethod yX7_sift ∈ BW := bw_2 (List.mem_of_getElem? (i := 45) rfl) rfl
theorem mw_2_46 : Cond.selects RX7 yX7_sift yX7_sift ∈ BW := bw_2 (List.mem_of_getElem? (i := 46) rfl) rfl
theorem mw_2_47 : Cond.code yX7_sift cX7_sift 7 (some .long) ∈ BW := bw_2 (List.mem_of_getElem? (i := 47) rfl) rfl
theorem mw_2_48 : Cond.methodLink RX7 52 yX5_isOpen ∈ BW := bw_2 (List.mem_of_getElem? (i := 48) rfl) rfl
theorem mw_2_49 : Cond.instanceMethod yX5_isOpen ∈ BW := bw_2 (List.mem_of_getElem? (i := 49) rfl) rfl
theorem mw_2_50 : Cond.selects RX5 yX5_isOpen yX5_isOpen ∈ BW := bw_2 (List.mem_of_getElem? (i := 50) rfl) rfl
theorem mw_2_51 : Cond.code yX5_isOpen cX5_isOpen 1 (some .boolean) ∈ BW := bw_2 (List.mem_of_getElem? (i := 51) rfl) rfl
theorem mw_2_52 : Cond.methodLink RX7 64 yX7_absentOn ∈ BW := bw_2 (List.mem_of_getElem? (i := 52) rfl) rfl
theorem mw_2_53 : Cond.instanceMethod yX7_absentOn ∈ BW := bw_2 (List.mem_of_getElem? (i := 53) rfl) rfl
theorem mw_2_54 : Cond.selects RX7 yX7_absentOn yX7_absentOn ∈ BW := bw_2 (List.mem_of_getElem? (i := 54) rfl) rfl
theorem mw_2_55 : Cond.code yX7_absentOn cX7_absentOn 3 (some .long) ∈ BW := bw_2 (List.mem_of_getElem? (i := 55) rfl) rfl
theorem mw_2_56 : Cond.methodLink RX7 106 yX2_taggedOn ∈ BW := bw_2 (List.mem_of_getElem? (i := 56) rfl) rfl
theorem mw_2_57 : Cond.instanceMethod yX2_taggedOn ∈ BW := bw_2 (List.mem_of_getElem? (i := 57) rfl) rfl
theorem mw_2_58 : Cond.selects RX2 yX2_taggedOn yX2_taggedOn ∈ BW := bw_2 (List.mem_of_getElem? (i := 58) rfl) rfl
theorem mw_2_59 : Cond.code yX2_taggedOn cX2_taggedOn 5 (some .long) ∈ BW := bw_2 (List.mem_of_getElem? (i := 59) rfl) rfl
theorem mw_2_60 : Cond.constantLong RX7 109 (-1) ∈ BW := bw_2 (List.mem_of_getElem? (i := 60) rfl) rfl
theorem mw_2_61 : Cond.methodLink RX7 71 yX2_havingAll ∈ BW := bw_2 (List.mem_of_getElem? (i := 61) rfl) rfl
theorem mw_2_62 : Cond.instanceMethod yX2_havingAll ∈ BW := bw_2 (List.mem_of_getElem? (i := 62) rfl) rfl
theorem mw_2_63 : Cond.selects RX2 yX2_havingAll yX2_havingAll ∈ BW := bw_2 (List.mem_of_getElem? (i := 63) rfl) rfl
theorem mw_2_64 : Cond.code yX2_havingAll cX2_havingAll 6 (some .long) ∈ BW := bw_2 (List.mem_of_getElem? (i := 64) rfl) rfl
theorem mw_2_65 : Cond.constantLong RX2 44 (-1) ∈ BW := bw_2 (List.mem_of_getElem? (i := 65) rfl) rfl
theorem mw_2_67 : Cond.static yX9_inSet ∈ BW := bw_2 (List.mem_of_getElem? (i := 67) rfl) rfl
theorem mw_2_68 : Cond.code yX9_inSet cX9_inSet 3 (some .boolean) ∈ BW := bw_2 (List.mem_of_getElem? (i := 68) rfl) rfl
theorem mw_2_69 : Cond.methodLink RX7 81 yX7_inRanges ∈ BW := bw_2 (List.mem_of_getElem? (i := 69) rfl) rfl
theorem mw_2_71 : Cond.instanceMethod yX7_inRanges ∈ BW := bw_2 (List.mem_of_getElem? (i := 71) rfl) rfl
theorem mw_2_72 : Cond.code yX7_inRanges cX7_inRanges 6 (some .long) ∈ BW := bw_2 (List.mem_of_getElem? (i := 72) rfl) rfl
theorem mw_2_74 : Cond.methodLink RX7 100 yX5_takesNumber ∈ BW := bw_2 (List.mem_of_getElem? (i := 74) rfl) rfl
theorem mw_2_75 : Cond.instanceMethod yX5_takesNumber ∈ BW := bw_2 (List.mem_of_getElem? (i := 75) rfl) rfl
theorem mw_2_76 : Cond.selects RX5 yX5_takesNumber yX5_takesNumber ∈ BW := bw_2 (List.mem_of_getElem? (i := 76) rfl) rfl
theorem mw_2_77 : Cond.code yX5_takesNumber cX5_takesNumber 3 (some .boolean) ∈ BW := bw_2 (List.mem_of_getElem? (i := 77) rfl) rfl
theorem mw_2_79 : Cond.static yX9_bit ∈ BW := bw_2 (List.mem_of_getElem? (i := 79) rfl) rfl
theorem mw_2_80 : Cond.code yX9_bit cX9_bit 1 (some .long) ∈ BW := bw_2 (List.mem_of_getElem? (i := 80) rfl) rfl
theorem mw_2_81 : Cond.methodLink RX7 85 yX2_havingAny ∈ BW := bw_2 (List.mem_of_getElem? (i := 81) rfl) rfl
theorem mw_2_82 : Cond.instanceMethod yX2_havingAny ∈ BW := bw_2 (List.mem_of_getElem? (i := 82) rfl) rfl
theorem mw_2_83 : Cond.selects RX2 yX2_havingAny yX2_havingAny ∈ BW := bw_2 (List.mem_of_getElem? (i := 83) rfl) rfl
theorem mw_2_84 : Cond.code yX2_havingAny cX2_havingAny 6 (some .long) ∈ BW := bw_2 (List.mem_of_getElem? (i := 84) rfl) rfl
theorem mw_2_85 : Cond.methodLink RL 31 yX9_category ∈ BW := bw_2 (List.mem_of_getElem? (i := 85) rfl) rfl
theorem mw_2_86 : Cond.instanceMethod yX9_category ∈ BW := bw_2 (List.mem_of_getElem? (i := 86) rfl) rfl
theorem mw_2_87 : Cond.selects RX9 yX9_category yX9_category ∈ BW := bw_2 (List.mem_of_getElem? (i := 87) rfl) rfl
theorem mw_2_88 : Cond.code yX9_category cX9_category 3 (some .int) ∈ BW := bw_2 (List.mem_of_getElem? (i := 88) rfl) rfl
theorem mw_2_89 : Cond.methodLink RX9 77 yX7_isTree ∈ BW := bw_2 (List.mem_of_getElem? (i := 89) rfl) rfl
theorem mw_2_90 : Cond.instanceMethod yX7_isTree ∈ BW := bw_2 (List.mem_of_getElem? (i := 90) rfl) rfl
theorem mw_2_91 : Cond.selects RX7 yX7_isTree yX7_isTree ∈ BW := bw_2 (List.mem_of_getElem? (i := 91) rfl) rfl
theorem mw_2_92 : Cond.code yX7_isTree cX7_isTree 2 (some .boolean) ∈ BW := bw_2 (List.mem_of_getElem? (i := 92) rfl) rfl
theorem mw_2_93 : Cond.methodLink RX7 34 yX7_knows ∈ BW := bw_2 (List.mem_of_getElem? (i := 93) rfl) rfl
theorem mw_2_94 : Cond.instanceMethod yX7_knows ∈ BW := bw_2 (List.mem_of_getElem? (i := 94) rfl) rfl
theorem mw_2_95 : Cond.selects RX7 yX7_knows yX7_knows ∈ BW := bw_2 (List.mem_of_getElem? (i := 95) rfl) rfl
theorem mw_2_96 : Cond.code yX7_knows cX7_knows 2 (some .boolean) ∈ BW := bw_2 (List.mem_of_getElem? (i := 96) rfl) rfl
theorem mw_2_97 : Cond.methodLink RX9 82 yX9_canStandBelow ∈ BW := bw_2 (List.mem_of_getElem? (i := 97) rfl) rfl
theorem mw_2_99 : Cond.instanceMethod yX9_canStandBelow ∈ BW := bw_2 (List.mem_of_getElem? (i := 99) rfl) rfl
theorem mw_2_100 : Cond.code yX9_canStandBelow cX9_canStandBelow 3 (some .boolean) ∈ BW := bw_2 (List.mem_of_getElem? (i := 100) rfl) rfl
theorem mw_2_101 : Cond.methodLink RX9 93 yX2_knows ∈ BW := bw_2 (List.mem_of_getElem? (i := 101) rfl) rfl
theorem mw_2_102 : Cond.instanceMethod yX2_knows ∈ BW := bw_2 (List.mem_of_getElem? (i := 102) rfl) rfl
theorem mw_2_103 : Cond.selects RX2 yX2_knows yX2_knows ∈ BW := bw_2 (List.mem_of_getElem? (i := 103) rfl) rfl
theorem mw_2_104 : Cond.code yX2_knows cX2_knows 2 (some .boolean) ∈ BW := bw_2 (List.mem_of_getElem? (i := 104) rfl) rfl
theorem mw_2_105 : Cond.methodLink RX9 86 yX2_levelBelow ∈ BW := bw_2 (List.mem_of_getElem? (i := 105) rfl) rfl
theorem mw_2_106 : Cond.instanceMethod yX2_levelBelow ∈ BW := bw_2 (List.mem_of_getElem? (i := 106) rfl) rfl
theorem mw_2_107 : Cond.selects RX2 yX2_levelBelow yX2_levelBelow ∈ BW := bw_2 (List.mem_of_getElem? (i := 107) rfl) rfl
theorem mw_2_108 : Cond.code yX2_levelBelow cX2_levelBelow 5 (some .int) ∈ BW := bw_2 (List.mem_of_getElem? (i := 108) rfl) rfl
theorem mw_2_109 : Cond.methodLink RX2 40 yX2_knows ∈ BW := bw_2 (List.mem_of_getElem? (i := 109) rfl) rfl
theorem mw_2_110 : Cond.methodLink RX9 89 yX2_grow ∈ BW := bw_2 (List.mem_of_getElem? (i := 110) rfl) rfl
theorem mw_2_111 : Cond.instanceMethod yX2_grow ∈ BW := bw_2 (List.mem_of_getElem? (i := 111) rfl) rfl
theorem mw_2_112 : Cond.selects RX2 yX2_grow yX2_grow ∈ BW := bw_2 (List.mem_of_getElem? (i := 112) rfl) rfl
theorem mw_2_113 : Cond.code yX2_grow cX2_grow 4 (some .int) ∈ BW := bw_2 (List.mem_of_getElem? (i := 113) rfl) rfl
theorem mw_2_115 : Cond.methodLink RX2 36 yX2_hangUnder ∈ BW := bw_2 (List.mem_of_getElem? (i := 115) rfl) rfl
theorem mw_2_117 : Cond.instanceMethod yX2_hangUnder ∈ BW := bw_2 (List.mem_of_getElem? (i := 117) rfl) rfl
theorem mw_2_118 : Cond.code yX2_hangUnder cX2_hangUnder 6 (none : Option Jvm.ClassFile.FieldType) ∈ BW := bw_2 (List.mem_of_getElem? (i := 118) rfl) rfl
theorem mw_2_119 : Cond.methodLink RL 35 yX9_move ∈ BW := bw_2 (List.mem_of_getElem? (i := 119) rfl) rfl
theorem mw_2_120 : Cond.instanceMethod yX9_move ∈ BW := bw_2 (List.mem_of_getElem? (i := 120) rfl) rfl
theorem mw_2_121 : Cond.selects RX9 yX9_move yX9_move ∈ BW := bw_2 (List.mem_of_getElem? (i := 121) rfl) rfl
theorem mw_2_122 : Cond.code yX9_move cX9_move 3 (some .boolean) ∈ BW := bw_2 (List.mem_of_getElem? (i := 122) rfl) rfl
theorem mw_2_123 : Cond.methodLink RX9 104 yX9_inSet ∈ BW := bw_2 (List.mem_of_getElem? (i := 123) rfl) rfl
theorem mw_2_124 : Cond.methodLink RX9 108 yX2_height ∈ BW := bw_2 (List.mem_of_getElem? (i := 124) rfl) rfl
theorem mw_2_125 : Cond.instanceMethod yX2_height ∈ BW := bw_2 (List.mem_of_getElem? (i := 125) rfl) rfl
theorem mw_2_126 : Cond.selects RX2 yX2_height yX2_height ∈ BW := bw_2 (List.mem_of_getElem? (i := 126) rfl) rfl
theorem mw_2_127 : Cond.code yX2_height cX2_height 4 (some .int) ∈ BW := bw_2 (List.mem_of_getElem? (i := 127) rfl) rfl
theorem mw_2_128 : Cond.methodLink RX2 62 yX2_level ∈ BW := bw_2 (List.mem_of_getElem? (i := 128) rfl) rfl
theorem mw_2_129 : Cond.instanceMethod yX2_level ∈ BW := bw_2 (List.mem_of_getElem? (i := 129) rfl) rfl
theorem mw_2_130 : Cond.selects RX2 yX2_level yX2_level ∈ BW := bw_2 (List.mem_of_getElem? (i := 130) rfl) rfl
theorem mw_2_131 : Cond.code yX2_level cX2_level 2 (some .int) ∈ BW := bw_2 (List.mem_of_getElem? (i := 131) rfl) rfl
theorem mw_2_132 : Cond.methodLink RX2 58 yX2_levelBelow ∈ BW := bw_2 (List.mem_of_getElem? (i := 132) rfl) rfl
theorem mw_2_133 : Cond.methodLink RX2 65 yJ9_max_7cf53 ∈ BW := bw_2 (List.mem_of_getElem? (i := 133) rfl) rfl
theorem mw_2_134 : Cond.static yJ9_max_7cf53 ∈ BW := bw_2 (List.mem_of_getElem? (i := 134) rfl) rfl
theorem mw_2_135 : Cond.code yJ9_max_7cf53 cJ9_max_7cf53 2 (some .int) ∈ BW := bw_2 (List.mem_of_getElem? (i := 135) rfl) rfl
theorem mw_2_136 : Cond.methodLink RX9 111 yX2_hang ∈ BW := bw_2 (List.mem_of_getElem? (i := 136) rfl) rfl
theorem mw_2_137 : Cond.instanceMethod yX2_hang ∈ BW := bw_2 (List.mem_of_getElem? (i := 137) rfl) rfl
theorem mw_2_138 : Cond.selects RX2 yX2_hang yX2_hang ∈ BW := bw_2 (List.mem_of_getElem? (i := 138) rfl) rfl
theorem mw_2_139 : Cond.code yX2_hang cX2_hang 8 (none : Option Jvm.ClassFile.FieldType) ∈ BW := bw_2 (List.mem_of_getElem? (i := 139) rfl) rfl
theorem mw_2_140 : Cond.methodLink RX2 46 yX2_gather ∈ BW := bw_2 (List.mem_of_getElem? (i := 140) rfl) rfl
theorem mw_2_142 : Cond.instanceMethod yX2_gather ∈ BW := bw_2 (List.mem_of_getElem? (i := 142) rfl) rfl
theorem mw_2_143 : Cond.code yX2_gather cX2_gather 4 (none : Option Jvm.ClassFile.FieldType) ∈ BW := bw_2 (List.mem_of_getElem? (i := 143) rfl) rfl
theorem mw_2_144 : Cond.methodLink RX2 50 yX2_taggedIn ∈ BW := bw_2 (List.mem_of_getElem? (i := 144) rfl) rfl
theorem mw_2_146 : Cond.instanceMethod yX2_taggedIn ∈ BW := bw_2 (List.mem_of_getElem? (i := 146) rfl) rfl
theorem mw_2_147 : Cond.code yX2_taggedIn cX2_taggedIn 6 (some .long) ∈ BW := bw_2 (List.mem_of_getElem? (i := 147) rfl) rfl
theorem mw_2_148 : Cond.methodLink RX9 115 yX7_renew ∈ BW := bw_2 (List.mem_of_getElem? (i := 148) rfl) rfl
theorem mw_2_149 : Cond.methodLink RL 40 yX9_document ∈ BW := bw_2 (List.mem_of_getElem? (i := 149) rfl) rfl
theorem mw_2_150 : Cond.instanceMethod yX9_document ∈ BW := bw_2 (List.mem_of_getElem? (i := 150) rfl) rfl
theorem mw_2_151 : Cond.selects RX9 yX9_document yX9_document ∈ BW := bw_2 (List.mem_of_getElem? (i := 151) rfl) rfl
theorem mw_2_152 : Cond.code yX9_document cX9_document 3 (some .int) ∈ BW := bw_2 (List.mem_of_getElem? (i := 152) rfl) rfl
theorem mw_2_153 : Cond.methodLink RX9 119 yX6_lay ∈ BW := bw_2 (List.mem_of_getElem? (i := 153) rfl) rfl
theorem mw_2_154 : Cond.instanceMethod yX6_lay ∈ BW := bw_2 (List.mem_of_getElem? (i := 154) rfl) rfl
theorem mw_2_155 : Cond.selects RX6 yX6_lay yX6_lay ∈ BW := bw_2 (List.mem_of_getElem? (i := 155) rfl) rfl
theorem mw_2_156 : Cond.code yX6_lay cX6_lay 3 (some .int) ∈ BW := bw_2 (List.mem_of_getElem? (i := 156) rfl) rfl
theorem mw_2_158 : Cond.methodLink RX6 40 yX3_put ∈ BW := bw_2 (List.mem_of_getElem? (i := 158) rfl) rfl
theorem mw_2_159 : Cond.instanceMethod yX3_put ∈ BW := bw_2 (List.mem_of_getElem? (i := 159) rfl) rfl
theorem mw_2_160 : Cond.selects RX3 yX3_put yX3_put ∈ BW := bw_2 (List.mem_of_getElem? (i := 160) rfl) rfl
theorem mw_2_161 : Cond.code yX3_put cX3_put 3 (none : Option Jvm.ClassFile.FieldType) ∈ BW := bw_2 (List.mem_of_getElem? (i := 161) rfl) rfl
theorem mw_2_162 : Cond.methodLink RX3 22 yX3_rise ∈ BW := bw_2 (List.mem_of_getElem? (i := 162) rfl) rfl
theorem mw_2_164 : Cond.instanceMethod yX3_rise ∈ BW := bw_2 (List.mem_of_getElem? (i := 164) rfl) rfl
theorem mw_2_165 : Cond.code yX3_rise cX3_rise 4 (none : Option Jvm.ClassFile.FieldType) ∈ BW := bw_2 (List.mem_of_getElem? (i := 165) rfl) rfl
theorem mw_2_166 : Cond.methodLink RX3 30 yX3_isAhead ∈ BW := bw_2 (List.mem_of_getElem? (i := 166) rfl) rfl
theorem mw_2_168 : Cond.instanceMethod yX3_isAhead ∈ BW := bw_2 (List.mem_of_getElem? (i := 168) rfl) rfl
theorem mw_2_169 : Cond.code yX3_isAhead cX3_isAhead 3 (some .boolean) ∈ BW := bw_2 (List.mem_of_getElem? (i := 169) rfl) rfl
theorem mw_2_170 : Cond.methodLink RL 44 yX9_tag ∈ BW := bw_2 (List.mem_of_getElem? (i := 170) rfl) rfl
theorem mw_2_171 : Cond.instanceMethod yX9_tag ∈ BW := bw_2 (List.mem_of_getElem? (i := 171) rfl) rfl
theorem mw_2_172 : Cond.selects RX9 yX9_tag yX9_tag ∈ BW := bw_2 (List.mem_of_getElem? (i := 172) rfl) rfl
theorem mw_2_173 : Cond.code yX9_tag cX9_tag 4 (some .boolean) ∈ BW := bw_2 (List.mem_of_getElem? (i := 173) rfl) rfl
theorem mw_2_174 : Cond.methodLink RX9 122 yX6_isThere ∈ BW := bw_2 (List.mem_of_getElem? (i := 174) rfl) rfl
theorem mw_2_175 : Cond.instanceMethod yX6_isThere ∈ BW := bw_2 (List.mem_of_getElem? (i := 175) rfl) rfl
theorem mw_2_176 : Cond.selects RX6 yX6_isThere yX6_isThere ∈ BW := bw_2 (List.mem_of_getElem? (i := 176) rfl) rfl
theorem mw_2_177 : Cond.code yX6_isThere cX6_isThere 2 (some .boolean) ∈ BW := bw_2 (List.mem_of_getElem? (i := 177) rfl) rfl
theorem mw_2_178 : Cond.methodLink RX6 24 yX6_knows ∈ BW := bw_2 (List.mem_of_getElem? (i := 178) rfl) rfl
theorem mw_2_179 : Cond.instanceMethod yX6_knows ∈ BW := bw_2 (List.mem_of_getElem? (i := 179) rfl) rfl
theorem mw_2_180 : Cond.selects RX6 yX6_knows yX6_knows ∈ BW := bw_2 (List.mem_of_getElem? (i := 180) rfl) rfl
theorem mw_2_181 : Cond.code yX6_knows cX6_knows 2 (some .boolean) ∈ BW := bw_2 (List.mem_of_getElem? (i := 181) rfl) rfl
theorem mw_2_183 : Cond.methodLink RX9 128 yX2_turnTag ∈ BW := bw_2 (List.mem_of_getElem? (i := 183) rfl) rfl
theorem mw_2_184 : Cond.instanceMethod yX2_turnTag ∈ BW := bw_2 (List.mem_of_getElem? (i := 184) rfl) rfl
theorem mw_2_185 : Cond.selects RX2 yX2_turnTag yX2_turnTag ∈ BW := bw_2 (List.mem_of_getElem? (i := 185) rfl) rfl
theorem mw_2_186 : Cond.code yX2_turnTag cX2_turnTag 3 (none : Option Jvm.ClassFile.FieldType) ∈ BW := bw_2 (List.mem_of_getElem? (i := 186) rfl) rfl
theorem mw_2_187 : Cond.methodLink RL 49 yX9_number ∈ BW := bw_2 (List.mem_of_getElem? (i := 187) rfl) rfl
theorem mw_2_188 : Cond.instanceMethod yX9_number ∈ BW := bw_2 (List.mem_of_getElem? (i := 188) rfl) rfl
theorem mw_2_189 : Cond.selects RX9 yX9_number yX9_number ∈ BW := bw_2 (List.mem_of_getElem? (i := 189) rfl) rfl
theorem mw_2_190 : Cond.code yX9_number cX9_number 4 (some .boolean) ∈ BW := bw_2 (List.mem_of_getElem? (i := 190) rfl) rfl
theorem mw_2_191 : Cond.methodLink RX9 131 yX7_isNumeric ∈ BW := bw_2 (List.mem_of_getElem? (i := 191) rfl) rfl
theorem mw_2_192 : Cond.instanceMethod yX7_isNumeric ∈ BW := bw_2 (List.mem_of_getElem? (i := 192) rfl) rfl
theorem mw_2_193 : Cond.selects RX7 yX7_isNumeric yX7_isNumeric ∈ BW := bw_2 (List.mem_of_getElem? (i := 193) rfl) rfl
theorem mw_2_194 : Cond.code yX7_isNumeric cX7_isNumeric 2 (some .boolean) ∈ BW := bw_2 (List.mem_of_getElem? (i := 194) rfl) rfl
theorem mw_2_195 : Cond.methodLink RX9 147 yX9_bit ∈ BW := bw_2 (List.mem_of_getElem? (i := 195) rfl) rfl
theorem mw_2_196 : Cond.methodLink RL 54 yX9_unnumber ∈ BW := bw_2 (List.mem_of_getElem? (i := 196) rfl) rfl
theorem mw_2_197 : Cond.instanceMethod yX9_unnumber ∈ BW := bw_2 (List.mem_of_getElem? (i := 197) rfl) rfl
theorem mw_2_198 : Cond.selects RX9 yX9_unnumber yX9_unnumber ∈ BW := bw_2 (List.mem_of_getElem? (i := 198) rfl) rfl
theorem mw_2_199 : Cond.code yX9_unnumber cX9_unnumber 3 (some .boolean) ∈ BW := bw_2 (List.mem_of_getElem? (i := 199) rfl) rfl
theorem mw_2_200 : Cond.methodLink RX9 151 yX9_hasNumber ∈ BW := bw_2 (List.mem_of_getElem? (i := 200) rfl) rfl
theorem mw_2_202 : Cond.instanceMethod yX9_hasNumber ∈ BW := bw_2 (List.mem_of_getElem? (i := 202) rfl) rfl
theorem mw_2_203 : Cond.code yX9_hasNumber cX9_hasNumber 3 (some .boolean) ∈ BW := bw_2 (List.mem_of_getElem? (i := 203) rfl) rfl
theorem mw_2_204 : Cond.constantLong RX9 154 (-1) ∈ BW := bw_2 (List.mem_of_getElem? (i := 204) rfl) rfl
theorem mw_2_205 : Cond.methodLink RL 58 yX9_remove ∈ BW := bw_2 (List.mem_of_getElem? (i := 205) rfl) rfl
theorem mw_2_206 : Cond.instanceMethod yX9_remove ∈ BW := bw_2 (List.mem_of_getElem? (i := 206) rfl) rfl
theorem mw_2_207 : Cond.selects RX9 yX9_remove yX9_remove ∈ BW := bw_2 (List.mem_of_getElem? (i := 207) rfl) rfl
theorem mw_2_208 : Cond.code yX9_remove cX9_remove 2 (some .boolean) ∈ BW := bw_2 (List.mem_of_getElem? (i := 208) rfl) rfl
theorem mw_2_209 : Cond.methodLink RX9 156 yX6_discard ∈ BW := bw_2 (List.mem_of_getElem? (i := 209) rfl) rfl
theorem mw_2_210 : Cond.instanceMethod yX6_discard ∈ BW := bw_2 (List.mem_of_getElem? (i := 210) rfl) rfl
theorem mw_2_211 : Cond.selects RX6 yX6_discard yX6_discard ∈ BW := bw_2 (List.mem_of_getElem? (i := 211) rfl) rfl
theorem mw_2_212 : Cond.code yX6_discard cX6_discard 2 (none : Option Jvm.ClassFile.FieldType) ∈ BW := bw_2 (List.mem_of_getElem? (i := 212) rfl) rfl
theorem mw_2_213 : Cond.constantLong RX6 44 (-1) ∈ BW := bw_2 (List.mem_of_getElem? (i := 213) rfl) rfl
theorem mw_2_214 : Cond.methodLink RX6 46 yX3_take ∈ BW := bw_2 (List.mem_of_getElem? (i := 214) rfl) rfl
theorem mw_2_215 : Cond.instanceMethod yX3_take ∈ BW := bw_2 (List.mem_of_getElem? (i := 215) rfl) rfl
theorem mw_2_216 : Cond.selects RX3 yX3_take yX3_take ∈ BW := bw_2 (List.mem_of_getElem? (i := 216) rfl) rfl
theorem mw_2_217 : Cond.code yX3_take cX3_take 4 (none : Option Jvm.ClassFile.FieldType) ∈ BW := bw_2 (List.mem_of_getElem? (i := 217) rfl) rfl
theorem mw_2_218 : Cond.methodLink RX3 26 yX3_placeOf ∈ BW := bw_2 (List.mem_of_getElem? (i := 218) rfl) rfl
theorem mw_2_219 : Cond.instanceMethod yX3_placeOf ∈ BW := bw_2 (List.mem_of_getElem? (i := 219) rfl) rfl
theorem mw_2_220 : Cond.selects RX3 yX3_placeOf yX3_placeOf ∈ BW := bw_2 (List.mem_of_getElem? (i := 220) rfl) rfl
theorem mw_2_221 : Cond.code yX3_placeOf cX3_placeOf 3 (some .int) ∈ BW := bw_2 (List.mem_of_getElem? (i := 221) rfl) rfl
theorem mw_2_222 : Cond.methodLink RL 63 yX9_select ∈ BW := bw_2 (List.mem_of_getElem? (i := 222) rfl) rfl
theorem mw_2_223 : Cond.instanceMethod yX9_select ∈ BW := bw_2 (List.mem_of_getElem? (i := 223) rfl) rfl
theorem mw_2_224 : Cond.selects RX9 yX9_select yX9_select ∈ BW := bw_2 (List.mem_of_getElem? (i := 224) rfl) rfl
theorem mw_2_225 : Cond.code yX9_select cX9_select 5 (some .boolean) ∈ BW := bw_2 (List.mem_of_getElem? (i := 225) rfl) rfl
theorem mw_2_226 : Cond.methodLink RX9 165 yX8_note ∈ BW := bw_2 (List.mem_of_getElem? (i := 226) rfl) rfl
theorem mw_2_227 : Cond.instanceMethod yX8_note ∈ BW := bw_2 (List.mem_of_getElem? (i := 227) rfl) rfl
theorem mw_2_228 : Cond.selects RX8 yX8_note yX8_note ∈ BW := bw_2 (List.mem_of_getElem? (i := 228) rfl) rfl
theorem mw_2_229 : Cond.code yX8_note cX8_note 3 (none : Option Jvm.ClassFile.FieldType) ∈ BW := bw_2 (List.mem_of_getElem? (i := 229) rfl) rfl
theorem mw_2_230 : Cond.methodLink RX8 26 yX5_copy ∈ BW := bw_2 (List.mem_of_getElem? (i := 230) rfl) rfl
theorem mw_2_231 : Cond.instanceMethod yX5_copy ∈ BW := bw_2 (List.mem_of_getElem? (i := 231) rfl) rfl
theorem mw_2_232 : Cond.selects RX5 yX5_copy yX5_copy ∈ BW := bw_2 (List.mem_of_getElem? (i := 232) rfl) rfl
theorem mw_2_233 : Cond.code yX5_copy cX5_copy 3 (none : Option Jvm.ClassFile.FieldType) ∈ BW := bw_2 (List.mem_of_getElem? (i := 233) rfl) rfl
theorem mw_2_234 : Cond.methodLink RX8 33 yJ9_min_7cf53 ∈ BW := bw_2 (List.mem_of_getElem? (i := 234) rfl) rfl
theorem mw_2_235 : Cond.static yJ9_min_7cf53 ∈ BW := bw_2 (List.mem_of_getElem? (i := 235) rfl) rfl
theorem mw_2_236 : Cond.code yJ9_min_7cf53 cJ9_min_7cf53 2 (some .int) ∈ BW := bw_2 (List.mem_of_getElem? (i := 236) rfl) rfl
theorem mw_2_237 : Cond.methodLink RL 68 yX9_range ∈ BW := bw_2 (List.mem_of_getElem? (i := 237) rfl) rfl
theorem mw_2_238 : Cond.instanceMethod yX9_range ∈ BW := bw_2 (List.mem_of_getElem? (i := 238) rfl) rfl
theorem mw_2_239 : Cond.selects RX9 yX9_range yX9_range ∈ BW := bw_2 (List.mem_of_getElem? (i := 239) rfl) rfl
theorem mw_3_0 : Cond.code yX9_range cX9_range 5 (some .int) ∈ BW := bw_3 (List.mem_of_getElem? (i := 0) rfl) rfl
theorem mw_3_1 : Cond.methodLink RX9 172 yX5_addRange ∈ BW := bw_3 (List.mem_of_getElem? (i := 1) rfl) rfl
theorem mw_3_2 : Cond.instanceMethod yX5_addRange ∈ BW := bw_3 (List.mem_of_getElem? (i := 2) rfl) rfl
theorem mw_3_3 : Cond.selects RX5 yX5_addRange yX5_addRange ∈ BW := bw_3 (List.mem_of_getElem? (i := 3) rfl) rfl
theorem mw_3_4 : Cond.code yX5_addRange cX5_addRange 3 (none : Option Jvm.ClassFile.FieldType) ∈ BW := bw_3 (List.mem_of_getElem? (i := 4) rfl) rfl
theorem mw_3_5 : Cond.methodLink RL 73 yX9_drop ∈ BW := bw_3 (List.mem_of_getElem? (i := 5) rfl) rfl
theorem mw_3_6 : Cond.instanceMethod yX9_drop ∈ BW := bw_3 (List.mem_of_getElem? (i := 6) rfl) rfl
theorem mw_3_7 : Cond.selects RX9 yX9_drop yX9_drop ∈ BW := bw_3 (List.mem_of_getElem? (i := 7) rfl) rfl
theorem mw_3_8 : Cond.code yX9_drop cX9_drop 4 (some .boolean) ∈ BW := bw_3 (List.mem_of_getElem? (i := 8) rfl) rfl
theorem mw_3_9 : Cond.methodLink RX9 175 yX5_dropRange ∈ BW := bw_3 (List.mem_of_getElem? (i := 9) rfl) rfl
theorem mw_3_10 : Cond.instanceMethod yX5_dropRange ∈ BW := bw_3 (List.mem_of_getElem? (i := 10) rfl) rfl
theorem mw_3_11 : Cond.selects RX5 yX5_dropRange yX5_dropRange ∈ BW := bw_3 (List.mem_of_getElem? (i := 11) rfl) rfl
theorem mw_3_12 : Cond.code yX5_dropRange cX5_dropRange 3 (none : Option Jvm.ClassFile.FieldType) ∈ BW := bw_3 (List.mem_of_getElem? (i := 12) rfl) rfl
theorem mw_3_13 : Cond.methodLink RL 77 yX9_missing ∈ BW := bw_3 (List.mem_of_getElem? (i := 13) rfl) rfl
theorem mw_3_14 : Cond.instanceMethod yX9_missing ∈ BW := bw_3 (List.mem_of_getElem? (i := 14) rfl) rfl
theorem mw_3_15 : Cond.selects RX9 yX9_missing yX9_missing ∈ BW := bw_3 (List.mem_of_getElem? (i := 15) rfl) rfl
theorem mw_3_16 : Cond.code yX9_missing cX9_missing 4 (some .boolean) ∈ BW := bw_3 (List.mem_of_getElem? (i := 16) rfl) rfl
theorem mw_3_17 : Cond.methodLink RX9 178 yX7_knows ∈ BW := bw_3 (List.mem_of_getElem? (i := 17) rfl) rfl
theorem mw_3_18 : Cond.methodLink RL 81 yX9_open ∈ BW := bw_3 (List.mem_of_getElem? (i := 18) rfl) rfl
theorem mw_3_19 : Cond.instanceMethod yX9_open ∈ BW := bw_3 (List.mem_of_getElem? (i := 19) rfl) rfl
theorem mw_3_20 : Cond.selects RX9 yX9_open yX9_open ∈ BW := bw_3 (List.mem_of_getElem? (i := 20) rfl) rfl
theorem mw_3_21 : Cond.code yX9_open cX9_open 3 (some .boolean) ∈ BW := bw_3 (List.mem_of_getElem? (i := 21) rfl) rfl
theorem mw_3_22 : Cond.methodLink RX9 183 yX5_isOpen ∈ BW := bw_3 (List.mem_of_getElem? (i := 22) rfl) rfl
theorem mw_3_23 : Cond.methodLink RX9 187 yX5_clear ∈ BW := bw_3 (List.mem_of_getElem? (i := 23) rfl) rfl
theorem mw_3_24 : Cond.instanceMethod yX5_clear ∈ BW := bw_3 (List.mem_of_getElem? (i := 24) rfl) rfl
theorem mw_3_25 : Cond.selects RX5 yX5_clear yX5_clear ∈ BW := bw_3 (List.mem_of_getElem? (i := 25) rfl) rfl
theorem mw_3_26 : Cond.code yX5_clear cX5_clear 1 (none : Option Jvm.ClassFile.FieldType) ∈ BW := bw_3 (List.mem_of_getElem? (i := 26) rfl) rfl
theorem mw_3_27 : Cond.methodLink RL 85 yX9_back ∈ BW := bw_3 (List.mem_of_getElem? (i := 27) rfl) rfl
theorem mw_3_28 : Cond.instanceMethod yX9_back ∈ BW := bw_3 (List.mem_of_getElem? (i := 28) rfl) rfl
theorem mw_3_29 : Cond.selects RX9 yX9_back yX9_back ∈ BW := bw_3 (List.mem_of_getElem? (i := 29) rfl) rfl
theorem mw_3_30 : Cond.code yX9_back cX9_back 1 (some .boolean) ∈ BW := bw_3 (List.mem_of_getElem? (i := 30) rfl) rfl
theorem mw_3_31 : Cond.methodLink RX9 191 yX8_takeBack ∈ BW := bw_3 (List.mem_of_getElem? (i := 31) rfl) rfl
theorem mw_3_32 : Cond.instanceMethod yX8_takeBack ∈ BW := bw_3 (List.mem_of_getElem? (i := 32) rfl) rfl
theorem mw_3_33 : Cond.selects RX8 yX8_takeBack yX8_takeBack ∈ BW := bw_3 (List.mem_of_getElem? (i := 33) rfl) rfl
theorem mw_3_34 : Cond.code yX8_takeBack cX8_takeBack 2 (none : Option Jvm.ClassFile.FieldType) ∈ BW := bw_3 (List.mem_of_getElem? (i := 34) rfl) rfl
theorem mw_3_35 : Cond.methodLink RL 90 yX9_of ∈ BW := bw_3 (List.mem_of_getElem? (i := 35) rfl) rfl
theorem mw_3_36 : Cond.instanceMethod yX9_of ∈ BW := bw_3 (List.mem_of_getElem? (i := 36) rfl) rfl
theorem mw_3_37 : Cond.selects RX9 yX9_of yX9_of ∈ BW := bw_3 (List.mem_of_getElem? (i := 37) rfl) rfl
theorem mw_3_38 : Cond.code yX9_of cX9_of 4 (some .int) ∈ BW := bw_3 (List.mem_of_getElem? (i := 38) rfl) rfl
theorem mw_3_39 : Cond.methodLink RX9 198 yX2_level ∈ BW := bw_3 (List.mem_of_getElem? (i := 39) rfl) rfl
theorem mw_3_40 : Cond.methodLink RX9 201 yJ13_bitCount_95d88 ∈ BW := bw_3 (List.mem_of_getElem? (i := 40) rfl) rfl
theorem mw_3_41 : Cond.static yJ13_bitCount_95d88 ∈ BW := bw_3 (List.mem_of_getElem? (i := 41) rfl) rfl
theorem mw_3_42 : Cond.code yJ13_bitCount_95d88 cJ13_bitCount_95d88 2 (some .int) ∈ BW := bw_3 (List.mem_of_getElem? (i := 42) rfl) rfl
theorem mw_3_43 : Cond.constantLong RJ13 314 (6148914691236517205) ∈ BW := bw_3 (List.mem_of_getElem? (i := 43) rfl) rfl
theorem mw_3_44 : Cond.constantLong RJ13 316 (3689348814741910323) ∈ BW := bw_3 (List.mem_of_getElem? (i := 44) rfl) rfl
theorem mw_3_45 : Cond.constantLong RJ13 318 (1085102592571150095) ∈ BW := bw_3 (List.mem_of_getElem? (i := 45) rfl) rfl
theorem mw_3_46 : Cond.methodLink RL 94 yX9_doc ∈ BW := bw_3 (List.mem_of_getElem? (i := 46) rfl) rfl
theorem mw_3_47 : Cond.instanceMethod yX9_doc ∈ BW := bw_3 (List.mem_of_getElem? (i := 47) rfl) rfl
theorem mw_3_48 : Cond.selects RX9 yX9_doc yX9_doc ∈ BW := bw_3 (List.mem_of_getElem? (i := 48) rfl) rfl
theorem mw_3_49 : Cond.code yX9_doc cX9_doc 4 (some .int) ∈ BW := bw_3 (List.mem_of_getElem? (i := 49) rfl) rfl
theorem mw_3_50 : Cond.methodLink RX9 207 yX6_knows ∈ BW := bw_3 (List.mem_of_getElem? (i := 50) rfl) rfl
theorem mw_3_51 : Cond.methodLink RX9 214 yX7_hits ∈ BW := bw_3 (List.mem_of_getElem? (i := 51) rfl) rfl
theorem mw_3_52 : Cond.instanceMethod yX7_hits ∈ BW := bw_3 (List.mem_of_getElem? (i := 52) rfl) rfl
theorem mw_3_53 : Cond.selects RX7 yX7_hits yX7_hits ∈ BW := bw_3 (List.mem_of_getElem? (i := 53) rfl) rfl
theorem mw_3_54 : Cond.code yX7_hits cX7_hits 1 (some .long) ∈ BW := bw_3 (List.mem_of_getElem? (i := 54) rfl) rfl
theorem mw_3_55 : Cond.methodLink RX7 111 yX7_lifted ∈ BW := bw_3 (List.mem_of_getElem? (i := 55) rfl) rfl
theorem mw_3_56 : Cond.instanceMethod yX7_lifted ∈ BW := bw_3 (List.mem_of_getElem? (i := 56) rfl) rfl
theorem mw_3_57 : Cond.selects RX7 yX7_lifted yX7_lifted ∈ BW := bw_3 (List.mem_of_getElem? (i := 57) rfl) rfl
theorem mw_3_58 : Cond.code yX7_lifted cX7_lifted 6 (some .long) ∈ BW := bw_3 (List.mem_of_getElem? (i := 58) rfl) rfl
theorem mw_3_59 : Cond.methodLink RX9 218 yX7_passedBy ∈ BW := bw_3 (List.mem_of_getElem? (i := 59) rfl) rfl
theorem mw_3_60 : Cond.instanceMethod yX7_passedBy ∈ BW := bw_3 (List.mem_of_getElem? (i := 60) rfl) rfl
theorem mw_3_61 : Cond.selects RX7 yX7_passedBy yX7_passedBy ∈ BW := bw_3 (List.mem_of_getElem? (i := 61) rfl) rfl
theorem mw_3_62 : Cond.code yX7_passedBy cX7_passedBy 4 (some .int) ∈ BW := bw_3 (List.mem_of_getElem? (i := 62) rfl) rfl
theorem mw_3_63 : Cond.methodLink RX9 221 yX3_placeOf ∈ BW := bw_3 (List.mem_of_getElem? (i := 63) rfl) rfl
theorem mw_3_64 : Cond.methodLink RL 98 yX9_has ∈ BW := bw_3 (List.mem_of_getElem? (i := 64) rfl) rfl
theorem mw_3_65 : Cond.instanceMethod yX9_has ∈ BW := bw_3 (List.mem_of_getElem? (i := 65) rfl) rfl
theorem mw_3_66 : Cond.selects RX9 yX9_has yX9_has ∈ BW := bw_3 (List.mem_of_getElem? (i := 66) rfl) rfl
theorem mw_3_67 : Cond.code yX9_has cX9_has 3 (some .boolean) ∈ BW := bw_3 (List.mem_of_getElem? (i := 67) rfl) rfl
theorem mw_3_68 : Cond.methodLink RL 112 yX9_hit ∈ BW := bw_3 (List.mem_of_getElem? (i := 68) rfl) rfl
theorem mw_3_69 : Cond.instanceMethod yX9_hit ∈ BW := bw_3 (List.mem_of_getElem? (i := 69) rfl) rfl
theorem mw_3_70 : Cond.selects RX9 yX9_hit yX9_hit ∈ BW := bw_3 (List.mem_of_getElem? (i := 70) rfl) rfl
theorem mw_3_71 : Cond.code yX9_hit cX9_hit 7 (some .int) ∈ BW := bw_3 (List.mem_of_getElem? (i := 71) rfl) rfl
theorem mw_3_72 : Cond.methodLink RL 116 yX9_near ∈ BW := bw_3 (List.mem_of_getElem? (i := 72) rfl) rfl
theorem mw_3_73 : Cond.instanceMethod yX9_near ∈ BW := bw_3 (List.mem_of_getElem? (i := 73) rfl) rfl
theorem mw_3_74 : Cond.selects RX9 yX9_near yX9_near ∈ BW := bw_3 (List.mem_of_getElem? (i := 74) rfl) rfl
theorem mw_3_75 : Cond.code yX9_near cX9_near 2 (some .int) ∈ BW := bw_3 (List.mem_of_getElem? (i := 75) rfl) rfl
theorem mw_3_76 : Cond.methodLink RX9 238 yX7_lifted ∈ BW := bw_3 (List.mem_of_getElem? (i := 76) rfl) rfl
theorem mw_3_77 : Cond.methodLink RL 120 yX9_shown ∈ BW := bw_3 (List.mem_of_getElem? (i := 77) rfl) rfl
theorem mw_3_78 : Cond.instanceMethod yX9_shown ∈ BW := bw_3 (List.mem_of_getElem? (i := 78) rfl) rfl
theorem mw_3_79 : Cond.selects RX9 yX9_shown yX9_shown ∈ BW := bw_3 (List.mem_of_getElem? (i := 79) rfl) rfl
theorem mw_3_80 : Cond.code yX9_shown cX9_shown 2 (some .int) ∈ BW := bw_3 (List.mem_of_getElem? (i := 80) rfl) rfl
theorem mw_3_81 : Cond.methodLink RX9 242 yX7_showing ∈ BW := bw_3 (List.mem_of_getElem? (i := 81) rfl) rfl
theorem mw_3_82 : Cond.instanceMethod yX7_showing ∈ BW := bw_3 (List.mem_of_getElem? (i := 82) rfl) rfl
theorem mw_3_83 : Cond.selects RX7 yX7_showing yX7_showing ∈ BW := bw_3 (List.mem_of_getElem? (i := 83) rfl) rfl
theorem mw_3_84 : Cond.code yX7_showing cX7_showing 2 (some .int) ∈ BW := bw_3 (List.mem_of_getElem? (i := 84) rfl) rfl
theorem mw_3_85 : Cond.methodLink RX7 122 yX7_audience ∈ BW := bw_3 (List.mem_of_getElem? (i := 85) rfl) rfl
theorem mw_3_86 : Cond.instanceMethod yX7_audience ∈ BW := bw_3 (List.mem_of_getElem? (i := 86) rfl) rfl
theorem mw_3_87 : Cond.selects RX7 yX7_audience yX7_audience ∈ BW := bw_3 (List.mem_of_getElem? (i := 87) rfl) rfl
theorem mw_3_88 : Cond.code yX7_audience cX7_audience 2 (some .long) ∈ BW := bw_3 (List.mem_of_getElem? (i := 88) rfl) rfl
theorem mw_3_89 : Cond.methodLink RX7 115 yX7_hits ∈ BW := bw_3 (List.mem_of_getElem? (i := 89) rfl) rfl
theorem mw_3_90 : Cond.methodLink RX7 128 yJ13_bitCount_95d88 ∈ BW := bw_3 (List.mem_of_getElem? (i := 90) rfl) rfl
theorem mw_3_91 : Cond.methodLink RL 124 yX9_shownMissing ∈ BW := bw_3 (List.mem_of_getElem? (i := 91) rfl) rfl
theorem mw_3_92 : Cond.instanceMethod yX9_shownMissing ∈ BW := bw_3 (List.mem_of_getElem? (i := 92) rfl) rfl
theorem mw_3_93 : Cond.selects RX9 yX9_shownMissing yX9_shownMissing ∈ BW := bw_3 (List.mem_of_getElem? (i := 93) rfl) rfl
theorem mw_3_94 : Cond.code yX9_shownMissing cX9_shownMissing 2 (some .int) ∈ BW := bw_3 (List.mem_of_getElem? (i := 94) rfl) rfl
theorem mw_3_95 : Cond.methodLink RX9 245 yX7_audience ∈ BW := bw_3 (List.mem_of_getElem? (i := 95) rfl) rfl
theorem mw_3_96 : Cond.methodLink RX9 248 yX7_absentOn ∈ BW := bw_3 (List.mem_of_getElem? (i := 96) rfl) rfl
theorem mw_3_97 : Cond.methodLink RL 128 yX9_click ∈ BW := bw_3 (List.mem_of_getElem? (i := 97) rfl) rfl
theorem mw_3_98 : Cond.instanceMethod yX9_click ∈ BW := bw_3 (List.mem_of_getElem? (i := 98) rfl) rfl
theorem mw_3_99 : Cond.selects RX9 yX9_click yX9_click ∈ BW := bw_3 (List.mem_of_getElem? (i := 99) rfl) rfl
theorem mw_3_100 : Cond.code yX9_click cX9_click 4 (some .int) ∈ BW := bw_3 (List.mem_of_getElem? (i := 100) rfl) rfl
theorem mw_3_101 : Cond.methodLink RX9 251 yX5_copy ∈ BW := bw_3 (List.mem_of_getElem? (i := 101) rfl) rfl
theorem mw_3_102 : Cond.methodLink RX9 258 yX7_sift ∈ BW := bw_3 (List.mem_of_getElem? (i := 102) rfl) rfl
theorem mw_3_103 : Cond.methodLink RL 132 yX9_lift ∈ BW := bw_3 (List.mem_of_getElem? (i := 103) rfl) rfl
theorem mw_3_104 : Cond.instanceMethod yX9_lift ∈ BW := bw_3 (List.mem_of_getElem? (i := 104) rfl) rfl
theorem mw_3_105 : Cond.selects RX9 yX9_lift yX9_lift ∈ BW := bw_3 (List.mem_of_getElem? (i := 105) rfl) rfl
theorem mw_3_106 : Cond.code yX9_lift cX9_lift 3 (some .int) ∈ BW := bw_3 (List.mem_of_getElem? (i := 106) rfl) rfl
theorem mw_3_107 : Cond.methodLink RL 136 yX9_sums ∈ BW := bw_3 (List.mem_of_getElem? (i := 107) rfl) rfl
theorem mw_3_108 : Cond.instanceMethod yX9_sums ∈ BW := bw_3 (List.mem_of_getElem? (i := 108) rfl) rfl
theorem mw_3_109 : Cond.selects RX9 yX9_sums yX9_sums ∈ BW := bw_3 (List.mem_of_getElem? (i := 109) rfl) rfl
theorem mw_3_110 : Cond.code yX9_sums cX9_sums 8 (some .int) ∈ BW := bw_3 (List.mem_of_getElem? (i := 110) rfl) rfl
theorem mw_3_111 : Cond.methodLink RL 140 yX9_sets ∈ BW := bw_3 (List.mem_of_getElem? (i := 111) rfl) rfl
theorem mw_3_112 : Cond.instanceMethod yX9_sets ∈ BW := bw_3 (List.mem_of_getElem? (i := 112) rfl) rfl
theorem mw_3_113 : Cond.selects RX9 yX9_sets yX9_sets ∈ BW := bw_3 (List.mem_of_getElem? (i := 113) rfl) rfl
theorem mw_3_114 : Cond.code yX9_sets cX9_sets 10 (some .long) ∈ BW := bw_3 (List.mem_of_getElem? (i := 114) rfl) rfl
theorem mw_3_115 : Cond.methodLink RL 149 yX9_bins ∈ BW := bw_3 (List.mem_of_getElem? (i := 115) rfl) rfl
theorem mw_3_116 : Cond.instanceMethod yX9_bins ∈ BW := bw_3 (List.mem_of_getElem? (i := 116) rfl) rfl
theorem mw_3_117 : Cond.selects RX9 yX9_bins yX9_bins ∈ BW := bw_3 (List.mem_of_getElem? (i := 117) rfl) rfl
theorem mw_3_118 : Cond.code yX9_bins cX9_bins 3 (some .int) ∈ BW := bw_3 (List.mem_of_getElem? (i := 118) rfl) rfl
theorem mw_3_119 : Cond.methodLink RX9 262 yX9_canBin ∈ BW := bw_3 (List.mem_of_getElem? (i := 119) rfl) rfl
theorem mw_3_121 : Cond.instanceMethod yX9_canBin ∈ BW := bw_3 (List.mem_of_getElem? (i := 121) rfl) rfl
theorem mw_3_122 : Cond.code yX9_canBin cX9_canBin 3 (some .boolean) ∈ BW := bw_3 (List.mem_of_getElem? (i := 122) rfl) rfl
theorem mw_3_123 : Cond.methodLink RX9 267 yX9_fillRow ∈ BW := bw_3 (List.mem_of_getElem? (i := 123) rfl) rfl
theorem mw_3_125 : Cond.instanceMethod yX9_fillRow ∈ BW := bw_3 (List.mem_of_getElem? (i := 125) rfl) rfl
theorem mw_3_126 : Cond.code yX9_fillRow cX9_fillRow 7 (none : Option Jvm.ClassFile.FieldType) ∈ BW := bw_3 (List.mem_of_getElem? (i := 126) rfl) rfl
theorem mw_3_127 : Cond.methodLink RX9 339 yX4_clear ∈ BW := bw_3 (List.mem_of_getElem? (i := 127) rfl) rfl
theorem mw_3_128 : Cond.instanceMethod yX4_clear ∈ BW := bw_3 (List.mem_of_getElem? (i := 128) rfl) rfl
theorem mw_3_129 : Cond.selects RX4 yX4_clear yX4_clear ∈ BW := bw_3 (List.mem_of_getElem? (i := 129) rfl) rfl
theorem mw_3_130 : Cond.code yX4_clear cX4_clear 1 (none : Option Jvm.ClassFile.FieldType) ∈ BW := bw_3 (List.mem_of_getElem? (i := 130) rfl) rfl
theorem mw_3_131 : Cond.methodLink RX9 340 yX4_put ∈ BW := bw_3 (List.mem_of_getElem? (i := 131) rfl) rfl
theorem mw_3_132 : Cond.instanceMethod yX4_put ∈ BW := bw_3 (List.mem_of_getElem? (i := 132) rfl) rfl
theorem mw_3_133 : Cond.selects RX4 yX4_put yX4_put ∈ BW := bw_3 (List.mem_of_getElem? (i := 133) rfl) rfl
theorem mw_3_134 : Cond.code yX4_put cX4_put 3 (none : Option Jvm.ClassFile.FieldType) ∈ BW := bw_3 (List.mem_of_getElem? (i := 134) rfl) rfl
theorem mw_3_135 : Cond.methodLink RX9 281 yX4_howManyBins ∈ BW := bw_3 (List.mem_of_getElem? (i := 135) rfl) rfl
theorem mw_3_136 : Cond.instanceMethod yX4_howManyBins ∈ BW := bw_3 (List.mem_of_getElem? (i := 136) rfl) rfl
theorem mw_3_137 : Cond.selects RX4 yX4_howManyBins yX4_howManyBins ∈ BW := bw_3 (List.mem_of_getElem? (i := 137) rfl) rfl
theorem mw_3_138 : Cond.code yX4_howManyBins cX4_howManyBins 4 (some .int) ∈ BW := bw_3 (List.mem_of_getElem? (i := 138) rfl) rfl
theorem mw_3_139 : Cond.methodLink RX4 17 yX4_endOfBin ∈ BW := bw_3 (List.mem_of_getElem? (i := 139) rfl) rfl
theorem mw_3_140 : Cond.instanceMethod yX4_endOfBin ∈ BW := bw_3 (List.mem_of_getElem? (i := 140) rfl) rfl
theorem mw_3_141 : Cond.selects RX4 yX4_endOfBin yX4_endOfBin ∈ BW := bw_3 (List.mem_of_getElem? (i := 141) rfl) rfl
theorem mw_3_142 : Cond.code yX4_endOfBin cX4_endOfBin 5 (some .int) ∈ BW := bw_3 (List.mem_of_getElem? (i := 142) rfl) rfl
theorem mw_3_143 : Cond.methodLink RX4 21 yJ9_min_7cf53 ∈ BW := bw_3 (List.mem_of_getElem? (i := 143) rfl) rfl
theorem mw_3_144 : Cond.methodLink RL 153 yX9_even ∈ BW := bw_3 (List.mem_of_getElem? (i := 144) rfl) rfl
theorem mw_3_145 : Cond.instanceMethod yX9_even ∈ BW := bw_3 (List.mem_of_getElem? (i := 145) rfl) rfl
theorem mw_3_146 : Cond.selects RX9 yX9_even yX9_even ∈ BW := bw_3 (List.mem_of_getElem? (i := 146) rfl) rfl
theorem mw_3_147 : Cond.code yX9_even cX9_even 3 (some .int) ∈ BW := bw_3 (List.mem_of_getElem? (i := 147) rfl) rfl
theorem mw_3_148 : Cond.methodLink RX9 284 yX4_flattest ∈ BW := bw_3 (List.mem_of_getElem? (i := 148) rfl) rfl
theorem mw_3_149 : Cond.instanceMethod yX4_flattest ∈ BW := bw_3 (List.mem_of_getElem? (i := 149) rfl) rfl
theorem mw_3_150 : Cond.selects RX4 yX4_flattest yX4_flattest ∈ BW := bw_3 (List.mem_of_getElem? (i := 150) rfl) rfl
theorem mw_3_151 : Cond.code yX4_flattest cX4_flattest 3 (some .int) ∈ BW := bw_3 (List.mem_of_getElem? (i := 151) rfl) rfl
theorem mw_3_152 : Cond.methodLink RX4 26 yX4_fits ∈ BW := bw_3 (List.mem_of_getElem? (i := 152) rfl) rfl
theorem mw_3_154 : Cond.instanceMethod yX4_fits ∈ BW := bw_3 (List.mem_of_getElem? (i := 154) rfl) rfl
theorem mw_3_155 : Cond.code yX4_fits cX4_fits 5 (some .boolean) ∈ BW := bw_3 (List.mem_of_getElem? (i := 155) rfl) rfl
theorem mw_3_156 : Cond.methodLink RX4 30 yX4_endOfRow ∈ BW := bw_3 (List.mem_of_getElem? (i := 156) rfl) rfl
theorem mw_3_158 : Cond.instanceMethod yX4_endOfRow ∈ BW := bw_3 (List.mem_of_getElem? (i := 158) rfl) rfl
theorem mw_3_159 : Cond.code yX4_endOfRow cX4_endOfRow 4 (some .int) ∈ BW := bw_3 (List.mem_of_getElem? (i := 159) rfl) rfl
theorem mw_3_160 : Cond.methodLink RL 157 yX9_top ∈ BW := bw_3 (List.mem_of_getElem? (i := 160) rfl) rfl
theorem mw_3_161 : Cond.instanceMethod yX9_top ∈ BW := bw_3 (List.mem_of_getElem? (i := 161) rfl) rfl
theorem mw_3_162 : Cond.selects RX9 yX9_top yX9_top ∈ BW := bw_3 (List.mem_of_getElem? (i := 162) rfl) rfl
theorem mw_3_163 : Cond.code yX9_top cX9_top 8 (some .int) ∈ BW := bw_3 (List.mem_of_getElem? (i := 163) rfl) rfl
theorem mw_3_164 : Cond.methodLink RX9 291 yX3_clear ∈ BW := bw_3 (List.mem_of_getElem? (i := 164) rfl) rfl
theorem mw_3_165 : Cond.instanceMethod yX3_clear ∈ BW := bw_3 (List.mem_of_getElem? (i := 165) rfl) rfl
theorem mw_3_166 : Cond.selects RX3 yX3_clear yX3_clear ∈ BW := bw_3 (List.mem_of_getElem? (i := 166) rfl) rfl
theorem mw_3_167 : Cond.code yX3_clear cX3_clear 1 (none : Option Jvm.ClassFile.FieldType) ∈ BW := bw_3 (List.mem_of_getElem? (i := 167) rfl) rfl
theorem mw_3_168 : Cond.methodLink RX9 292 yX3_put ∈ BW := bw_3 (List.mem_of_getElem? (i := 168) rfl) rfl
theorem mw_3_169 : Cond.methodLink RL 161 yX9_read ∈ BW := bw_3 (List.mem_of_getElem? (i := 169) rfl) rfl
theorem mw_3_170 : Cond.instanceMethod yX9_read ∈ BW := bw_3 (List.mem_of_getElem? (i := 170) rfl) rfl
theorem mw_3_171 : Cond.selects RX9 yX9_read yX9_read ∈ BW := bw_3 (List.mem_of_getElem? (i := 171) rfl) rfl
theorem mw_3_172 : Cond.code yX9_read cX9_read 8 (some .int) ∈ BW := bw_3 (List.mem_of_getElem? (i := 172) rfl) rfl
theorem mw_3_173 : Cond.methodLink RX9 295 yX9_startReading ∈ BW := bw_3 (List.mem_of_getElem? (i := 173) rfl) rfl
theorem mw_3_175 : Cond.instanceMethod yX9_startReading ∈ BW := bw_3 (List.mem_of_getElem? (i := 175) rfl) rfl
theorem mw_3_176 : Cond.code yX9_startReading cX9_startReading 3 (none : Option Jvm.ClassFile.FieldType) ∈ BW := bw_3 (List.mem_of_getElem? (i := 176) rfl) rfl
theorem mw_3_177 : Cond.methodLink RX9 298 yX3_isCertain ∈ BW := bw_3 (List.mem_of_getElem? (i := 177) rfl) rfl
theorem mw_3_178 : Cond.instanceMethod yX3_isCertain ∈ BW := bw_3 (List.mem_of_getElem? (i := 178) rfl) rfl
theorem mw_3_179 : Cond.selects RX3 yX3_isCertain yX3_isCertain ∈ BW := bw_3 (List.mem_of_getElem? (i := 179) rfl) rfl
theorem mw_3_180 : Cond.code yX3_isCertain cX3_isCertain 6 (some .boolean) ∈ BW := bw_3 (List.mem_of_getElem? (i := 180) rfl) rfl
theorem mw_3_181 : Cond.methodLink RX9 301 yX9_readOne ∈ BW := bw_3 (List.mem_of_getElem? (i := 181) rfl) rfl
theorem mw_3_183 : Cond.instanceMethod yX9_readOne ∈ BW := bw_3 (List.mem_of_getElem? (i := 183) rfl) rfl
theorem mw_3_184 : Cond.code yX9_readOne cX9_readOne 4 (none : Option Jvm.ClassFile.FieldType) ∈ BW := bw_3 (List.mem_of_getElem? (i := 184) rfl) rfl
theorem mw_3_185 : Cond.methodLink RX9 342 yX3_settle ∈ BW := bw_3 (List.mem_of_getElem? (i := 185) rfl) rfl
theorem mw_3_186 : Cond.instanceMethod yX3_settle ∈ BW := bw_3 (List.mem_of_getElem? (i := 186) rfl) rfl
theorem mw_3_187 : Cond.selects RX3 yX3_settle yX3_settle ∈ BW := bw_3 (List.mem_of_getElem? (i := 187) rfl) rfl
theorem mw_3_188 : Cond.code yX3_settle cX3_settle 2 (none : Option Jvm.ClassFile.FieldType) ∈ BW := bw_3 (List.mem_of_getElem? (i := 188) rfl) rfl
theorem mw_3_189 : Cond.methodLink RL 165 yX9_path ∈ BW := bw_3 (List.mem_of_getElem? (i := 189) rfl) rfl
theorem mw_3_190 : Cond.instanceMethod yX9_path ∈ BW := bw_3 (List.mem_of_getElem? (i := 190) rfl) rfl
theorem mw_3_191 : Cond.selects RX9 yX9_path yX9_path ∈ BW := bw_3 (List.mem_of_getElem? (i := 191) rfl) rfl
theorem mw_3_192 : Cond.code yX9_path cX9_path 7 (some .int) ∈ BW := bw_3 (List.mem_of_getElem? (i := 192) rfl) rfl
theorem mw_3_193 : Cond.methodLink RX9 304 yX9_fullestBelow ∈ BW := bw_3 (List.mem_of_getElem? (i := 193) rfl) rfl
theorem mw_3_195 : Cond.instanceMethod yX9_fullestBelow ∈ BW := bw_3 (List.mem_of_getElem? (i := 195) rfl) rfl
theorem mw_3_196 : Cond.code yX9_fullestBelow cX9_fullestBelow 9 (some .int) ∈ BW := bw_3 (List.mem_of_getElem? (i := 196) rfl) rfl
theorem mw_3_197 : Cond.methodLink RL 169 yX9_split ∈ BW := bw_3 (List.mem_of_getElem? (i := 197) rfl) rfl
theorem mw_3_198 : Cond.instanceMethod yX9_split ∈ BW := bw_3 (List.mem_of_getElem? (i := 198) rfl) rfl
theorem mw_3_199 : Cond.selects RX9 yX9_split yX9_split ∈ BW := bw_3 (List.mem_of_getElem? (i := 199) rfl) rfl
theorem mw_3_200 : Cond.code yX9_split cX9_split 6 (some .int) ∈ BW := bw_3 (List.mem_of_getElem? (i := 200) rfl) rfl
theorem mw_3_201 : Cond.constant RX9 310 (2147483647) ∈ BW := bw_3 (List.mem_of_getElem? (i := 201) rfl) rfl
theorem mw_3_202 : Cond.methodLink RX9 311 yJ9_abs_0f7a4 ∈ BW := bw_3 (List.mem_of_getElem? (i := 202) rfl) rfl
theorem mw_3_203 : Cond.static yJ9_abs_0f7a4 ∈ BW := bw_3 (List.mem_of_getElem? (i := 203) rfl) rfl
theorem mw_3_204 : Cond.code yJ9_abs_0f7a4 cJ9_abs_0f7a4 1 (some .int) ∈ BW := bw_3 (List.mem_of_getElem? (i := 204) rfl) rfl
theorem mw_3_205 : Cond.methodLink RL 173 yX9_cover ∈ BW := bw_3 (List.mem_of_getElem? (i := 205) rfl) rfl
theorem mw_3_206 : Cond.instanceMethod yX9_cover ∈ BW := bw_3 (List.mem_of_getElem? (i := 206) rfl) rfl
theorem mw_3_207 : Cond.selects RX9 yX9_cover yX9_cover ∈ BW := bw_3 (List.mem_of_getElem? (i := 207) rfl) rfl
theorem mw_3_208 : Cond.code yX9_cover cX9_cover 4 (some .int) ∈ BW := bw_3 (List.mem_of_getElem? (i := 208) rfl) rfl
theorem mw_3_209 : Cond.methodLink RX9 316 yX9_fillCovering ∈ BW := bw_3 (List.mem_of_getElem? (i := 209) rfl) rfl
theorem mw_3_211 : Cond.instanceMethod yX9_fillCovering ∈ BW := bw_3 (List.mem_of_getElem? (i := 211) rfl) rfl
theorem mw_3_212 : Cond.code yX9_fillCovering cX9_fillCovering 3 (some .boolean) ∈ BW := bw_3 (List.mem_of_getElem? (i := 212) rfl) rfl
theorem mw_3_213 : Cond.methodLink RX9 345 yX1_clear ∈ BW := bw_3 (List.mem_of_getElem? (i := 213) rfl) rfl
theorem mw_3_214 : Cond.instanceMethod yX1_clear ∈ BW := bw_3 (List.mem_of_getElem? (i := 214) rfl) rfl
theorem mw_3_215 : Cond.selects RX1 yX1_clear yX1_clear ∈ BW := bw_3 (List.mem_of_getElem? (i := 215) rfl) rfl
theorem mw_3_216 : Cond.code yX1_clear cX1_clear 1 (none : Option Jvm.ClassFile.FieldType) ∈ BW := bw_3 (List.mem_of_getElem? (i := 216) rfl) rfl
theorem mw_3_217 : Cond.methodLink RX9 347 yX1_put ∈ BW := bw_3 (List.mem_of_getElem? (i := 217) rfl) rfl
theorem mw_3_218 : Cond.instanceMethod yX1_put ∈ BW := bw_3 (List.mem_of_getElem? (i := 218) rfl) rfl
theorem mw_3_219 : Cond.selects RX1 yX1_put yX1_put ∈ BW := bw_3 (List.mem_of_getElem? (i := 219) rfl) rfl
theorem mw_3_220 : Cond.code yX1_put cX1_put 4 (none : Option Jvm.ClassFile.FieldType) ∈ BW := bw_3 (List.mem_of_getElem? (i := 220) rfl) rfl
theorem mw_3_221 : Cond.methodLink RX9 319 yX1_solve ∈ BW := bw_3 (List.mem_of_getElem? (i := 221) rfl) rfl
theorem mw_3_222 : Cond.instanceMethod yX1_solve ∈ BW := bw_3 (List.mem_of_getElem? (i := 222) rfl) rfl
theorem mw_3_223 : Cond.selects RX1 yX1_solve yX1_solve ∈ BW := bw_3 (List.mem_of_getElem? (i := 223) rfl) rfl
theorem mw_3_224 : Cond.code yX1_solve cX1_solve 4 (some .int) ∈ BW := bw_3 (List.mem_of_getElem? (i := 224) rfl) rfl
theorem mw_3_225 : Cond.methodLink RX1 29 yX1_choose ∈ BW := bw_3 (List.mem_of_getElem? (i := 225) rfl) rfl
theorem mw_3_227 : Cond.instanceMethod yX1_choose ∈ BW := bw_3 (List.mem_of_getElem? (i := 227) rfl) rfl
theorem mw_3_228 : Cond.code yX1_choose cX1_choose 7 (some .boolean) ∈ BW := bw_3 (List.mem_of_getElem? (i := 228) rfl) rfl
theorem mw_3_229 : Cond.constantLong RX1 33 (-1) ∈ BW := bw_3 (List.mem_of_getElem? (i := 229) rfl) rfl
theorem mw_3_230 : Cond.methodLink RL 177 yX9_both ∈ BW := bw_3 (List.mem_of_getElem? (i := 230) rfl) rfl
theorem mw_3_231 : Cond.instanceMethod yX9_both ∈ BW := bw_3 (List.mem_of_getElem? (i := 231) rfl) rfl
theorem mw_3_232 : Cond.selects RX9 yX9_both yX9_both ∈ BW := bw_3 (List.mem_of_getElem? (i := 232) rfl) rfl
theorem mw_3_233 : Cond.code yX9_both cX9_both 3 (some .int) ∈ BW := bw_3 (List.mem_of_getElem? (i := 233) rfl) rfl
theorem mw_3_234 : Cond.methodLink RL 181 yX9_alike ∈ BW := bw_3 (List.mem_of_getElem? (i := 234) rfl) rfl
theorem mw_3_235 : Cond.instanceMethod yX9_alike ∈ BW := bw_3 (List.mem_of_getElem? (i := 235) rfl) rfl
theorem mw_3_236 : Cond.selects RX9 yX9_alike yX9_alike ∈ BW := bw_3 (List.mem_of_getElem? (i := 236) rfl) rfl
theorem mw_3_237 : Cond.code yX9_alike cX9_alike 3 (some .int) ∈ BW := bw_3 (List.mem_of_getElem? (i := 237) rfl) rfl
theorem mw_3_238 : Cond.methodLink RX9 324 yX2_howManyHeldBy ∈ BW := bw_3 (List.mem_of_getElem? (i := 238) rfl) rfl
theorem mw_3_239 : Cond.instanceMethod yX2_howManyHeldBy ∈ BW := bw_3 (List.mem_of_getElem? (i := 239) rfl) rfl
theorem mw_4_0 : Cond.selects RX2 yX2_howManyHeldBy yX2_howManyHeldBy ∈ BW := bw_4 (List.mem_of_getElem? (i := 0) rfl) rfl
theorem mw_4_1 : Cond.code yX2_howManyHeldBy cX2_howManyHeldBy 5 (some .int) ∈ BW := bw_4 (List.mem_of_getElem? (i := 1) rfl) rfl
theorem mw_4_2 : Cond.methodLink RL 185 yX9_nearest ∈ BW := bw_4 (List.mem_of_getElem? (i := 2) rfl) rfl
theorem mw_4_3 : Cond.instanceMethod yX9_nearest ∈ BW := bw_4 (List.mem_of_getElem? (i := 3) rfl) rfl
theorem mw_4_4 : Cond.selects RX9 yX9_nearest yX9_nearest ∈ BW := bw_4 (List.mem_of_getElem? (i := 4) rfl) rfl
theorem mw_4_5 : Cond.code yX9_nearest cX9_nearest 7 (some .int) ∈ BW := bw_4 (List.mem_of_getElem? (i := 5) rfl) rfl
theorem mw_4_6 : Cond.methodLink RL 189 yX9_miss ∈ BW := bw_4 (List.mem_of_getElem? (i := 6) rfl) rfl
theorem mw_4_7 : Cond.instanceMethod yX9_miss ∈ BW := bw_4 (List.mem_of_getElem? (i := 7) rfl) rfl
theorem mw_4_8 : Cond.selects RX9 yX9_miss yX9_miss ∈ BW := bw_4 (List.mem_of_getElem? (i := 8) rfl) rfl
theorem mw_4_9 : Cond.code yX9_miss cX9_miss 5 (some .int) ∈ BW := bw_4 (List.mem_of_getElem? (i := 9) rfl) rfl
theorem mw_4_10 : Cond.methodLink RX9 327 yJ6_bitCount_0f7a4 ∈ BW := bw_4 (List.mem_of_getElem? (i := 10) rfl) rfl
theorem mw_4_11 : Cond.static yJ6_bitCount_0f7a4 ∈ BW := bw_4 (List.mem_of_getElem? (i := 11) rfl) rfl
theorem mw_4_12 : Cond.code yJ6_bitCount_0f7a4 cJ6_bitCount_0f7a4 1 (some .int) ∈ BW := bw_4 (List.mem_of_getElem? (i := 12) rfl) rfl
theorem mw_4_13 : Cond.constant RJ6 265 (1431655765) ∈ BW := bw_4 (List.mem_of_getElem? (i := 13) rfl) rfl
theorem mw_4_14 : Cond.constant RJ6 266 (858993459) ∈ BW := bw_4 (List.mem_of_getElem? (i := 14) rfl) rfl
theorem mw_4_15 : Cond.constant RJ6 267 (252645135) ∈ BW := bw_4 (List.mem_of_getElem? (i := 15) rfl) rfl
theorem mw_4_16 : Cond.methodLink RL 193 yX9_most ∈ BW := bw_4 (List.mem_of_getElem? (i := 16) rfl) rfl
theorem mw_4_17 : Cond.instanceMethod yX9_most ∈ BW := bw_4 (List.mem_of_getElem? (i := 17) rfl) rfl
theorem mw_4_18 : Cond.selects RX9 yX9_most yX9_most ∈ BW := bw_4 (List.mem_of_getElem? (i := 18) rfl) rfl
theorem mw_4_19 : Cond.code yX9_most cX9_most 8 (some .int) ∈ BW := bw_4 (List.mem_of_getElem? (i := 19) rfl) rfl
theorem mw_4_20 : Cond.methodLink RL 200 yX9_count ∈ BW := bw_4 (List.mem_of_getElem? (i := 20) rfl) rfl
theorem mw_4_21 : Cond.instanceMethod yX9_count ∈ BW := bw_4 (List.mem_of_getElem? (i := 21) rfl) rfl
theorem mw_4_22 : Cond.selects RX9 yX9_count yX9_count ∈ BW := bw_4 (List.mem_of_getElem? (i := 22) rfl) rfl
theorem mw_4_23 : Cond.code yX9_count cX9_count 2 (some .int) ∈ BW := bw_4 (List.mem_of_getElem? (i := 23) rfl) rfl
theorem mw_4_24 : Cond.methodLink RX9 329 yX7_howManyCategoriesChosen ∈ BW := bw_4 (List.mem_of_getElem? (i := 24) rfl) rfl
theorem mw_4_25 : Cond.instanceMethod yX7_howManyCategoriesChosen ∈ BW := bw_4 (List.mem_of_getElem? (i := 25) rfl) rfl
theorem mw_4_26 : Cond.selects RX7 yX7_howManyCategoriesChosen yX7_howManyCategoriesChosen ∈ BW := bw_4 (List.mem_of_getElem? (i := 26) rfl) rfl
theorem mw_4_27 : Cond.code yX7_howManyCategoriesChosen cX7_howManyCategoriesChosen 3 (some .int) ∈ BW := bw_4 (List.mem_of_getElem? (i := 27) rfl) rfl
theorem mw_4_28 : Cond.methodLink RX9 333 yX7_howManyRanges ∈ BW := bw_4 (List.mem_of_getElem? (i := 28) rfl) rfl
theorem mw_4_29 : Cond.instanceMethod yX7_howManyRanges ∈ BW := bw_4 (List.mem_of_getElem? (i := 29) rfl) rfl
theorem mw_4_30 : Cond.selects RX7 yX7_howManyRanges yX7_howManyRanges ∈ BW := bw_4 (List.mem_of_getElem? (i := 30) rfl) rfl
theorem mw_4_31 : Cond.code yX7_howManyRanges cX7_howManyRanges 3 (some .int) ∈ BW := bw_4 (List.mem_of_getElem? (i := 31) rfl) rfl
theorem mw_4_32 : Cond.methodLink RX9 336 yX7_narrowed ∈ BW := bw_4 (List.mem_of_getElem? (i := 32) rfl) rfl
theorem mw_4_33 : Cond.instanceMethod yX7_narrowed ∈ BW := bw_4 (List.mem_of_getElem? (i := 33) rfl) rfl
theorem mw_4_34 : Cond.selects RX7 yX7_narrowed yX7_narrowed ∈ BW := bw_4 (List.mem_of_getElem? (i := 34) rfl) rfl
theorem mw_4_35 : Cond.code yX7_narrowed cX7_narrowed 3 (some .int) ∈ BW := bw_4 (List.mem_of_getElem? (i := 35) rfl) rfl
theorem mw_4_36 : Cond.methodLink RL 102 yL_numberOf ∈ BW := bw_4 (List.mem_of_getElem? (i := 36) rfl) rfl
theorem mw_4_37 : Cond.static yL_numberOf ∈ BW := bw_4 (List.mem_of_getElem? (i := 37) rfl) rfl
theorem mw_4_40 : Cond.methodLink RL 7 yX9_numberOf ∈ BW := bw_4 (List.mem_of_getElem? (i := 40) rfl) rfl
theorem mw_4_41 : Cond.instanceMethod yX9_numberOf ∈ BW := bw_4 (List.mem_of_getElem? (i := 41) rfl) rfl
theorem mw_4_42 : Cond.selects RX9 yX9_numberOf yX9_numberOf ∈ BW := bw_4 (List.mem_of_getElem? (i := 42) rfl) rfl
theorem mw_4_43 : Cond.code yX9_numberOf cX9_numberOf 3 (some .int) ∈ BW := bw_4 (List.mem_of_getElem? (i := 43) rfl) rfl
theorem mw_4_55 : Cond.lays "java/util/NoSuchElementException" "java/lang/Throwable" "cause" "Ljava/lang/Throwable;" ∈ BW := bw_4 (List.mem_of_getElem? (i := 55) rfl) rfl
theorem mw_4_56 : Cond.lays "java/lang/Throwable" "java/lang/Throwable" "cause" "Ljava/lang/Throwable;" ∈ BW := bw_4 (List.mem_of_getElem? (i := 56) rfl) rfl
theorem mw_4_57 : Cond.lays "java/util/NoSuchElementException" "java/lang/Throwable" "stackTrace" "[Ljava/lang/StackTraceElement;" ∈ BW := bw_4 (List.mem_of_getElem? (i := 57) rfl) rfl
theorem mw_4_58 : Cond.lays "java/lang/Throwable" "java/lang/Throwable" "stackTrace" "[Ljava/lang/StackTraceElement;" ∈ BW := bw_4 (List.mem_of_getElem? (i := 58) rfl) rfl
theorem mw_4_59 : Cond.lays "java/util/NoSuchElementException" "java/lang/Throwable" "suppressedExceptions" "Ljava/util/List;" ∈ BW := bw_4 (List.mem_of_getElem? (i := 59) rfl) rfl
theorem mw_4_60 : Cond.lays "java/lang/Throwable" "java/lang/Throwable" "suppressedExceptions" "Ljava/util/List;" ∈ BW := bw_4 (List.mem_of_getElem? (i := 60) rfl) rfl
theorem mw_4_61 : Cond.lays "java/util/NoSuchElementException" "java/lang/Throwable" "detailMessage" "Ljava/lang/String;" ∈ BW := bw_4 (List.mem_of_getElem? (i := 61) rfl) rfl
theorem mw_4_62 : Cond.lays "java/lang/Throwable" "java/lang/Throwable" "detailMessage" "Ljava/lang/String;" ∈ BW := bw_4 (List.mem_of_getElem? (i := 62) rfl) rfl
theorem mw_4_63 : Cond.lays "java/util/NoSuchElementException" "java/lang/Throwable" "backtrace" "Ljava/lang/Object;" ∈ BW := bw_4 (List.mem_of_getElem? (i := 63) rfl) rfl
theorem mw_4_64 : Cond.lays "java/lang/Throwable" "java/lang/Throwable" "backtrace" "Ljava/lang/Object;" ∈ BW := bw_4 (List.mem_of_getElem? (i := 64) rfl) rfl
theorem mw_4_105 : Cond.lays "java/util/NoSuchElementException" "java/lang/Throwable" "depth" "I" ∈ BW := bw_4 (List.mem_of_getElem? (i := 105) rfl) rfl
theorem mw_4_109 : Cond.arrayClass FieldType.byte ∈ BW := bw_4 (List.mem_of_getElem? (i := 109) rfl) rfl
theorem mw_4_110 : Cond.methodLink RL 145 yL_bin ∈ BW := bw_4 (List.mem_of_getElem? (i := 110) rfl) rfl
theorem mw_4_111 : Cond.static yL_bin ∈ BW := bw_4 (List.mem_of_getElem? (i := 111) rfl) rfl
theorem mw_4_113 : Cond.methodLink RL 15 yX9_bin ∈ BW := bw_4 (List.mem_of_getElem? (i := 113) rfl) rfl
theorem mw_4_114 : Cond.instanceMethod yX9_bin ∈ BW := bw_4 (List.mem_of_getElem? (i := 114) rfl) rfl
theorem mw_4_115 : Cond.selects RX9 yX9_bin yX9_bin ∈ BW := bw_4 (List.mem_of_getElem? (i := 115) rfl) rfl
theorem mw_4_116 : Cond.code yX9_bin cX9_bin 7 (some .int) ∈ BW := bw_4 (List.mem_of_getElem? (i := 116) rfl) rfl
theorem mw_4_118 : Cond.methodLink RX9 271 yX4_startOfBin ∈ BW := bw_4 (List.mem_of_getElem? (i := 118) rfl) rfl
theorem mw_4_119 : Cond.instanceMethod yX4_startOfBin ∈ BW := bw_4 (List.mem_of_getElem? (i := 119) rfl) rfl
theorem mw_4_120 : Cond.selects RX4 yX4_startOfBin yX4_startOfBin ∈ BW := bw_4 (List.mem_of_getElem? (i := 120) rfl) rfl
theorem mw_4_121 : Cond.code yX4_startOfBin cX4_startOfBin 5 (some .int) ∈ BW := bw_4 (List.mem_of_getElem? (i := 121) rfl) rfl
theorem mw_4_122 : Cond.methodLink RX9 275 yX4_endOfBin ∈ BW := bw_4 (List.mem_of_getElem? (i := 122) rfl) rfl
theorem mw_4_123 : Cond.methodLink RL 197 yL_middle ∈ BW := bw_4 (List.mem_of_getElem? (i := 123) rfl) rfl
theorem mw_4_124 : Cond.static yL_middle ∈ BW := bw_4 (List.mem_of_getElem? (i := 124) rfl) rfl
theorem mw_4_126 : Cond.methodLink RL 19 yX9_middle ∈ BW := bw_4 (List.mem_of_getElem? (i := 126) rfl) rfl
theorem mw_4_127 : Cond.instanceMethod yX9_middle ∈ BW := bw_4 (List.mem_of_getElem? (i := 127) rfl) rfl
theorem mw_4_128 : Cond.selects RX9 yX9_middle yX9_middle ∈ BW := bw_4 (List.mem_of_getElem? (i := 128) rfl) rfl
theorem mw_4_129 : Cond.code yX9_middle cX9_middle 3 (some .int) ∈ BW := bw_4 (List.mem_of_getElem? (i := 129) rfl) rfl
theorem mw_4_132 : Cond.classLink RL 23 RX10 ∈ BW := bw_4 (List.mem_of_getElem? (i := 132) rfl) rfl
theorem mw_4_133 : Cond.instantiable RX10 22 ∈ BW := bw_4 (List.mem_of_getElem? (i := 133) rfl) rfl
theorem mw_4_134 : Cond.methodLink RL 25 yX10_init ∈ BW := bw_4 (List.mem_of_getElem? (i := 134) rfl) rfl
theorem mw_4_135 : Cond.instanceMethod yX10_init ∈ BW := bw_4 (List.mem_of_getElem? (i := 135) rfl) rfl
theorem mw_4_136 : Cond.code yX10_init cX10_init 1 (none : Option Jvm.ClassFile.FieldType) ∈ BW := bw_4 (List.mem_of_getElem? (i := 136) rfl) rfl
theorem mw_4_137 : Cond.methodLink RX10 1 objectInit ∈ BW := bw_4 (List.mem_of_getElem? (i := 137) rfl) rfl
theorem mw_4_138 : Cond.fieldLink RX10 56 "DrillCountModel" "thrown" "I" ∈ BW := bw_4 (List.mem_of_getElem? (i := 138) rfl) rfl
theorem mw_4_139 : Cond.fieldLink RX10 60 "DrillCountModel" "axes" "I" ∈ BW := bw_4 (List.mem_of_getElem? (i := 139) rfl) rfl
theorem mw_4_140 : Cond.fieldLink RX10 67 "DrillCountModel" "categories" "I" ∈ BW := bw_4 (List.mem_of_getElem? (i := 140) rfl) rfl
theorem mw_4_141 : Cond.fieldLink RX10 70 "DrillCountModel" "documents" "I" ∈ BW := bw_4 (List.mem_of_getElem? (i := 141) rfl) rfl
theorem mw_4_142 : Cond.fieldLink RX10 7 "DrillCountModel" "kindOf" "[I" ∈ BW := bw_4 (List.mem_of_getElem? (i := 142) rfl) rfl
theorem mw_4_143 : Cond.fieldLink RX10 13 "DrillCountModel" "axisOf" "[I" ∈ BW := bw_4 (List.mem_of_getElem? (i := 143) rfl) rfl
theorem mw_4_144 : Cond.fieldLink RX10 16 "DrillCountModel" "below" "[I" ∈ BW := bw_4 (List.mem_of_getElem? (i := 144) rfl) rfl
theorem mw_4_145 : Cond.fieldLink RX10 19 "DrillCountModel" "score" "[I" ∈ BW := bw_4 (List.mem_of_getElem? (i := 145) rfl) rfl
theorem mw_4_146 : Cond.fieldLink RX10 22 "DrillCountModel" "there" "[Z" ∈ BW := bw_4 (List.mem_of_getElem? (i := 146) rfl) rfl
theorem mw_4_147 : Cond.fieldLink RX10 26 "DrillCountModel" "tagged" "[Z" ∈ BW := bw_4 (List.mem_of_getElem? (i := 147) rfl) rfl
theorem mw_4_148 : Cond.fieldLink RX10 29 "DrillCountModel" "numberAt" "[I" ∈ BW := bw_4 (List.mem_of_getElem? (i := 148) rfl) rfl
theorem mw_4_149 : Cond.fieldLink RX10 32 "DrillCountModel" "hasNumber" "[Z" ∈ BW := bw_4 (List.mem_of_getElem? (i := 149) rfl) rfl
theorem mw_4_150 : Cond.fieldLink RX10 35 "DrillCountModel" "chosen" "[I" ∈ BW := bw_4 (List.mem_of_getElem? (i := 150) rfl) rfl
theorem mw_4_151 : Cond.fieldLink RX10 106 "DrillCountModel" "backs" "I" ∈ BW := bw_4 (List.mem_of_getElem? (i := 151) rfl) rfl
theorem mw_4_152 : Cond.fieldLink RX10 38 "DrillCountModel" "having0" "[Z" ∈ BW := bw_4 (List.mem_of_getElem? (i := 152) rfl) rfl
theorem mw_4_153 : Cond.fieldLink RX10 41 "DrillCountModel" "order" "[I" ∈ BW := bw_4 (List.mem_of_getElem? (i := 153) rfl) rfl
theorem mw_4_154 : Cond.fieldLink RX10 137 "DrillCountModel" "many" "I" ∈ BW := bw_4 (List.mem_of_getElem? (i := 154) rfl) rfl
theorem mw_4_155 : Cond.fieldLink RX10 44 "DrillCountModel" "having" "[I" ∈ BW := bw_4 (List.mem_of_getElem? (i := 155) rfl) rfl
theorem mw_4_156 : Cond.fieldLink RX10 170 "DrillCountModel" "numbered" "I" ∈ BW := bw_4 (List.mem_of_getElem? (i := 156) rfl) rfl
theorem mw_4_157 : Cond.fieldLink RX10 47 "DrillCountModel" "binned" "[I" ∈ BW := bw_4 (List.mem_of_getElem? (i := 157) rfl) rfl
theorem mw_4_158 : Cond.fieldLink RX10 50 "DrillCountModel" "told" "[I" ∈ BW := bw_4 (List.mem_of_getElem? (i := 158) rfl) rfl
theorem mw_4_159 : Cond.fieldLink RX10 53 "DrillCountModel" "among" "[I" ∈ BW := bw_4 (List.mem_of_getElem? (i := 159) rfl) rfl
theorem mw_4_160 : Cond.lays "DrillCountModel" "DrillCountModel" "thrown" "I" ∈ BW := bw_4 (List.mem_of_getElem? (i := 160) rfl) rfl
theorem mw_4_162 : Cond.lays "DrillCountModel" "DrillCountModel" "axes" "I" ∈ BW := bw_4 (List.mem_of_getElem? (i := 162) rfl) rfl
theorem mw_4_164 : Cond.lays "DrillCountModel" "DrillCountModel" "categories" "I" ∈ BW := bw_4 (List.mem_of_getElem? (i := 164) rfl) rfl
theorem mw_4_166 : Cond.lays "DrillCountModel" "DrillCountModel" "documents" "I" ∈ BW := bw_4 (List.mem_of_getElem? (i := 166) rfl) rfl
theorem mw_4_168 : Cond.laysFinal "DrillCountModel" "DrillCountModel" "kindOf" "[I" ∈ BW := bw_4 (List.mem_of_getElem? (i := 168) rfl) rfl
theorem mw_4_170 : Cond.laysFinal "DrillCountModel" "DrillCountModel" "axisOf" "[I" ∈ BW := bw_4 (List.mem_of_getElem? (i := 170) rfl) rfl
theorem mw_4_172 : Cond.laysFinal "DrillCountModel" "DrillCountModel" "below" "[I" ∈ BW := bw_4 (List.mem_of_getElem? (i := 172) rfl) rfl
theorem mw_4_174 : Cond.laysFinal "DrillCountModel" "DrillCountModel" "score" "[I" ∈ BW := bw_4 (List.mem_of_getElem? (i := 174) rfl) rfl
theorem mw_4_176 : Cond.laysFinal "DrillCountModel" "DrillCountModel" "there" "[Z" ∈ BW := bw_4 (List.mem_of_getElem? (i := 176) rfl) rfl
theorem mw_4_178 : Cond.laysFinal "DrillCountModel" "DrillCountModel" "tagged" "[Z" ∈ BW := bw_4 (List.mem_of_getElem? (i := 178) rfl) rfl
theorem mw_4_180 : Cond.laysFinal "DrillCountModel" "DrillCountModel" "numberAt" "[I" ∈ BW := bw_4 (List.mem_of_getElem? (i := 180) rfl) rfl
theorem mw_4_182 : Cond.laysFinal "DrillCountModel" "DrillCountModel" "hasNumber" "[Z" ∈ BW := bw_4 (List.mem_of_getElem? (i := 182) rfl) rfl
theorem mw_4_184 : Cond.laysFinal "DrillCountModel" "DrillCountModel" "chosen" "[I" ∈ BW := bw_4 (List.mem_of_getElem? (i := 184) rfl) rfl
theorem mw_4_186 : Cond.lays "DrillCountModel" "DrillCountModel" "backs" "I" ∈ BW := bw_4 (List.mem_of_getElem? (i := 186) rfl) rfl
theorem mw_4_188 : Cond.laysFinal "DrillCountModel" "DrillCountModel" "having0" "[Z" ∈ BW := bw_4 (List.mem_of_getElem? (i := 188) rfl) rfl
theorem mw_4_190 : Cond.laysFinal "DrillCountModel" "DrillCountModel" "order" "[I" ∈ BW := bw_4 (List.mem_of_getElem? (i := 190) rfl) rfl
theorem mw_4_192 : Cond.lays "DrillCountModel" "DrillCountModel" "many" "I" ∈ BW := bw_4 (List.mem_of_getElem? (i := 192) rfl) rfl
theorem mw_4_194 : Cond.laysFinal "DrillCountModel" "DrillCountModel" "having" "[I" ∈ BW := bw_4 (List.mem_of_getElem? (i := 194) rfl) rfl
theorem mw_4_196 : Cond.lays "DrillCountModel" "DrillCountModel" "numbered" "I" ∈ BW := bw_4 (List.mem_of_getElem? (i := 196) rfl) rfl
theorem mw_4_198 : Cond.laysFinal "DrillCountModel" "DrillCountModel" "binned" "[I" ∈ BW := bw_4 (List.mem_of_getElem? (i := 198) rfl) rfl
theorem mw_4_200 : Cond.laysFinal "DrillCountModel" "DrillCountModel" "told" "[I" ∈ BW := bw_4 (List.mem_of_getElem? (i := 200) rfl) rfl
theorem mw_4_202 : Cond.laysFinal "DrillCountModel" "DrillCountModel" "among" "[I" ∈ BW := bw_4 (List.mem_of_getElem? (i := 202) rfl) rfl
theorem mw_4_205 : Cond.arrayClass FieldType.boolean ∈ BW := bw_4 (List.mem_of_getElem? (i := 205) rfl) rfl
theorem mw_4_206 : Cond.methodLink RL 108 yX10_thrown ∈ BW := bw_4 (List.mem_of_getElem? (i := 206) rfl) rfl
theorem mw_4_207 : Cond.instanceMethod yX10_thrown ∈ BW := bw_4 (List.mem_of_getElem? (i := 207) rfl) rfl
theorem mw_4_208 : Cond.selects RX10 yX10_thrown yX10_thrown ∈ BW := bw_4 (List.mem_of_getElem? (i := 208) rfl) rfl
theorem mw_4_209 : Cond.code yX10_thrown cX10_thrown 1 (some .int) ∈ BW := bw_4 (List.mem_of_getElem? (i := 209) rfl) rfl
theorem mw_4_210 : Cond.methodLink RL 30 yX10_axis ∈ BW := bw_4 (List.mem_of_getElem? (i := 210) rfl) rfl
theorem mw_4_211 : Cond.instanceMethod yX10_axis ∈ BW := bw_4 (List.mem_of_getElem? (i := 211) rfl) rfl
theorem mw_4_212 : Cond.selects RX10 yX10_axis yX10_axis ∈ BW := bw_4 (List.mem_of_getElem? (i := 212) rfl) rfl
theorem mw_4_213 : Cond.code yX10_axis cX10_axis 2 (some .int) ∈ BW := bw_4 (List.mem_of_getElem? (i := 213) rfl) rfl
theorem mw_4_214 : Cond.methodLink RX10 73 yX10_within ∈ BW := bw_4 (List.mem_of_getElem? (i := 214) rfl) rfl
theorem mw_4_215 : Cond.static yX10_within ∈ BW := bw_4 (List.mem_of_getElem? (i := 215) rfl) rfl
theorem mw_4_216 : Cond.code yX10_within cX10_within 3 (some .boolean) ∈ BW := bw_4 (List.mem_of_getElem? (i := 216) rfl) rfl
theorem mw_4_217 : Cond.methodLink RL 34 yX10_category ∈ BW := bw_4 (List.mem_of_getElem? (i := 217) rfl) rfl
theorem mw_4_218 : Cond.instanceMethod yX10_category ∈ BW := bw_4 (List.mem_of_getElem? (i := 218) rfl) rfl
theorem mw_4_219 : Cond.selects RX10 yX10_category yX10_category ∈ BW := bw_4 (List.mem_of_getElem? (i := 219) rfl) rfl
theorem mw_4_220 : Cond.code yX10_category cX10_category 3 (some .int) ∈ BW := bw_4 (List.mem_of_getElem? (i := 220) rfl) rfl
theorem mw_4_221 : Cond.methodLink RX10 80 yX10_isTree ∈ BW := bw_4 (List.mem_of_getElem? (i := 221) rfl) rfl
theorem mw_4_223 : Cond.instanceMethod yX10_isTree ∈ BW := bw_4 (List.mem_of_getElem? (i := 223) rfl) rfl
theorem mw_4_224 : Cond.code yX10_isTree cX10_isTree 2 (some .boolean) ∈ BW := bw_4 (List.mem_of_getElem? (i := 224) rfl) rfl
theorem mw_4_225 : Cond.methodLink RX10 63 yX10_isAxis ∈ BW := bw_4 (List.mem_of_getElem? (i := 225) rfl) rfl
theorem mw_4_227 : Cond.instanceMethod yX10_isAxis ∈ BW := bw_4 (List.mem_of_getElem? (i := 227) rfl) rfl
theorem mw_4_228 : Cond.code yX10_isAxis cX10_isAxis 2 (some .boolean) ∈ BW := bw_4 (List.mem_of_getElem? (i := 228) rfl) rfl
theorem mw_4_229 : Cond.methodLink RX10 83 yX10_canBe ∈ BW := bw_4 (List.mem_of_getElem? (i := 229) rfl) rfl
theorem mw_4_231 : Cond.instanceMethod yX10_canBe ∈ BW := bw_4 (List.mem_of_getElem? (i := 231) rfl) rfl
theorem mw_4_232 : Cond.code yX10_canBe cX10_canBe 3 (some .boolean) ∈ BW := bw_4 (List.mem_of_getElem? (i := 232) rfl) rfl
theorem mw_4_233 : Cond.methodLink RX10 77 yX10_isCategory ∈ BW := bw_4 (List.mem_of_getElem? (i := 233) rfl) rfl
theorem mw_4_235 : Cond.instanceMethod yX10_isCategory ∈ BW := bw_4 (List.mem_of_getElem? (i := 235) rfl) rfl
theorem mw_4_236 : Cond.code yX10_isCategory cX10_isCategory 2 (some .boolean) ∈ BW := bw_4 (List.mem_of_getElem? (i := 236) rfl) rfl
theorem mw_4_237 : Cond.methodLink RX10 87 yX10_level ∈ BW := bw_4 (List.mem_of_getElem? (i := 237) rfl) rfl
theorem mw_4_239 : Cond.instanceMethod yX10_level ∈ BW := bw_4 (List.mem_of_getElem? (i := 239) rfl) rfl
theorem mw_5_0 : Cond.code yX10_level cX10_level 4 (some .int) ∈ BW := bw_5 (List.mem_of_getElem? (i := 0) rfl) rfl
theorem mw_5_1 : Cond.methodLink RL 39 yX10_move ∈ BW := bw_5 (List.mem_of_getElem? (i := 1) rfl) rfl
theorem mw_5_2 : Cond.instanceMethod yX10_move ∈ BW := bw_5 (List.mem_of_getElem? (i := 2) rfl) rfl
theorem mw_5_3 : Cond.selects RX10 yX10_move yX10_move ∈ BW := bw_5 (List.mem_of_getElem? (i := 3) rfl) rfl
theorem mw_5_4 : Cond.code yX10_move cX10_move 6 (some .boolean) ∈ BW := bw_5 (List.mem_of_getElem? (i := 4) rfl) rfl
theorem mw_5_5 : Cond.methodLink RX10 91 yX10_isIn ∈ BW := bw_5 (List.mem_of_getElem? (i := 5) rfl) rfl
theorem mw_5_7 : Cond.instanceMethod yX10_isIn ∈ BW := bw_5 (List.mem_of_getElem? (i := 7) rfl) rfl
theorem mw_5_8 : Cond.code yX10_isIn cX10_isIn 4 (some .boolean) ∈ BW := bw_5 (List.mem_of_getElem? (i := 8) rfl) rfl
theorem mw_5_9 : Cond.methodLink RX10 94 yX10_owns ∈ BW := bw_5 (List.mem_of_getElem? (i := 9) rfl) rfl
theorem mw_5_11 : Cond.instanceMethod yX10_owns ∈ BW := bw_5 (List.mem_of_getElem? (i := 11) rfl) rfl
theorem mw_5_12 : Cond.code yX10_owns cX10_owns 4 (none : Option Jvm.ClassFile.FieldType) ∈ BW := bw_5 (List.mem_of_getElem? (i := 12) rfl) rfl
theorem mw_5_13 : Cond.methodLink RL 43 yX10_document ∈ BW := bw_5 (List.mem_of_getElem? (i := 13) rfl) rfl
theorem mw_5_14 : Cond.instanceMethod yX10_document ∈ BW := bw_5 (List.mem_of_getElem? (i := 14) rfl) rfl
theorem mw_5_15 : Cond.selects RX10 yX10_document yX10_document ∈ BW := bw_5 (List.mem_of_getElem? (i := 15) rfl) rfl
theorem mw_5_16 : Cond.code yX10_document cX10_document 2 (some .int) ∈ BW := bw_5 (List.mem_of_getElem? (i := 16) rfl) rfl
theorem mw_5_17 : Cond.methodLink RL 48 yX10_tag ∈ BW := bw_5 (List.mem_of_getElem? (i := 17) rfl) rfl
theorem mw_5_18 : Cond.instanceMethod yX10_tag ∈ BW := bw_5 (List.mem_of_getElem? (i := 18) rfl) rfl
theorem mw_5_19 : Cond.selects RX10 yX10_tag yX10_tag ∈ BW := bw_5 (List.mem_of_getElem? (i := 19) rfl) rfl
theorem mw_5_20 : Cond.code yX10_tag cX10_tag 4 (some .boolean) ∈ BW := bw_5 (List.mem_of_getElem? (i := 20) rfl) rfl
theorem mw_5_21 : Cond.methodLink RX10 97 yX10_isThere ∈ BW := bw_5 (List.mem_of_getElem? (i := 21) rfl) rfl
theorem mw_5_23 : Cond.instanceMethod yX10_isThere ∈ BW := bw_5 (List.mem_of_getElem? (i := 23) rfl) rfl
theorem mw_5_24 : Cond.code yX10_isThere cX10_isThere 2 (some .boolean) ∈ BW := bw_5 (List.mem_of_getElem? (i := 24) rfl) rfl
theorem mw_5_25 : Cond.methodLink RL 53 yX10_number ∈ BW := bw_5 (List.mem_of_getElem? (i := 25) rfl) rfl
theorem mw_5_26 : Cond.instanceMethod yX10_number ∈ BW := bw_5 (List.mem_of_getElem? (i := 26) rfl) rfl
theorem mw_5_27 : Cond.selects RX10 yX10_number yX10_number ∈ BW := bw_5 (List.mem_of_getElem? (i := 27) rfl) rfl
theorem mw_5_28 : Cond.code yX10_number cX10_number 4 (some .boolean) ∈ BW := bw_5 (List.mem_of_getElem? (i := 28) rfl) rfl
theorem mw_5_29 : Cond.methodLink RX10 100 yX10_isNumber ∈ BW := bw_5 (List.mem_of_getElem? (i := 29) rfl) rfl
theorem mw_5_31 : Cond.instanceMethod yX10_isNumber ∈ BW := bw_5 (List.mem_of_getElem? (i := 31) rfl) rfl
theorem mw_5_32 : Cond.code yX10_isNumber cX10_isNumber 2 (some .boolean) ∈ BW := bw_5 (List.mem_of_getElem? (i := 32) rfl) rfl
theorem mw_5_33 : Cond.methodLink RL 57 yX10_unnumber ∈ BW := bw_5 (List.mem_of_getElem? (i := 33) rfl) rfl
theorem mw_5_34 : Cond.instanceMethod yX10_unnumber ∈ BW := bw_5 (List.mem_of_getElem? (i := 34) rfl) rfl
theorem mw_5_35 : Cond.selects RX10 yX10_unnumber yX10_unnumber ∈ BW := bw_5 (List.mem_of_getElem? (i := 35) rfl) rfl
theorem mw_5_36 : Cond.code yX10_unnumber cX10_unnumber 3 (some .boolean) ∈ BW := bw_5 (List.mem_of_getElem? (i := 36) rfl) rfl
theorem mw_5_37 : Cond.methodLink RX10 103 yX10_isNumbered ∈ BW := bw_5 (List.mem_of_getElem? (i := 37) rfl) rfl
theorem mw_5_39 : Cond.instanceMethod yX10_isNumbered ∈ BW := bw_5 (List.mem_of_getElem? (i := 39) rfl) rfl
theorem mw_5_40 : Cond.code yX10_isNumbered cX10_isNumbered 3 (some .boolean) ∈ BW := bw_5 (List.mem_of_getElem? (i := 40) rfl) rfl
theorem mw_5_41 : Cond.methodLink RL 62 yX10_remove ∈ BW := bw_5 (List.mem_of_getElem? (i := 41) rfl) rfl
theorem mw_5_42 : Cond.instanceMethod yX10_remove ∈ BW := bw_5 (List.mem_of_getElem? (i := 42) rfl) rfl
theorem mw_5_43 : Cond.selects RX10 yX10_remove yX10_remove ∈ BW := bw_5 (List.mem_of_getElem? (i := 43) rfl) rfl
theorem mw_5_44 : Cond.code yX10_remove cX10_remove 2 (some .boolean) ∈ BW := bw_5 (List.mem_of_getElem? (i := 44) rfl) rfl
theorem mw_5_45 : Cond.methodLink RL 67 yX10_select ∈ BW := bw_5 (List.mem_of_getElem? (i := 45) rfl) rfl
theorem mw_5_46 : Cond.instanceMethod yX10_select ∈ BW := bw_5 (List.mem_of_getElem? (i := 46) rfl) rfl
theorem mw_5_47 : Cond.selects RX10 yX10_select yX10_select ∈ BW := bw_5 (List.mem_of_getElem? (i := 47) rfl) rfl
theorem mw_5_48 : Cond.code yX10_select cX10_select 3 (some .boolean) ∈ BW := bw_5 (List.mem_of_getElem? (i := 48) rfl) rfl
theorem mw_5_49 : Cond.methodLink RX10 113 yX10_keeps ∈ BW := bw_5 (List.mem_of_getElem? (i := 49) rfl) rfl
theorem mw_5_51 : Cond.instanceMethod yX10_keeps ∈ BW := bw_5 (List.mem_of_getElem? (i := 51) rfl) rfl
theorem mw_5_52 : Cond.code yX10_keeps cX10_keeps 2 (none : Option Jvm.ClassFile.FieldType) ∈ BW := bw_5 (List.mem_of_getElem? (i := 52) rfl) rfl
theorem mw_5_53 : Cond.methodLink RX10 109 yX10_copies ∈ BW := bw_5 (List.mem_of_getElem? (i := 53) rfl) rfl
theorem mw_5_55 : Cond.instanceMethod yX10_copies ∈ BW := bw_5 (List.mem_of_getElem? (i := 55) rfl) rfl
theorem mw_5_56 : Cond.code yX10_copies cX10_copies 4 (none : Option Jvm.ClassFile.FieldType) ∈ BW := bw_5 (List.mem_of_getElem? (i := 56) rfl) rfl
theorem mw_5_57 : Cond.methodLink RL 72 yX10_range ∈ BW := bw_5 (List.mem_of_getElem? (i := 57) rfl) rfl
theorem mw_5_58 : Cond.instanceMethod yX10_range ∈ BW := bw_5 (List.mem_of_getElem? (i := 58) rfl) rfl
theorem mw_5_59 : Cond.selects RX10 yX10_range yX10_range ∈ BW := bw_5 (List.mem_of_getElem? (i := 59) rfl) rfl
theorem mw_5_60 : Cond.code yX10_range cX10_range 6 (some .int) ∈ BW := bw_5 (List.mem_of_getElem? (i := 60) rfl) rfl
theorem mw_5_61 : Cond.methodLink RL 76 yX10_drop ∈ BW := bw_5 (List.mem_of_getElem? (i := 61) rfl) rfl
theorem mw_5_62 : Cond.instanceMethod yX10_drop ∈ BW := bw_5 (List.mem_of_getElem? (i := 62) rfl) rfl
theorem mw_5_63 : Cond.selects RX10 yX10_drop yX10_drop ∈ BW := bw_5 (List.mem_of_getElem? (i := 63) rfl) rfl
theorem mw_5_64 : Cond.code yX10_drop cX10_drop 5 (some .boolean) ∈ BW := bw_5 (List.mem_of_getElem? (i := 64) rfl) rfl
theorem mw_5_65 : Cond.methodLink RL 80 yX10_missing ∈ BW := bw_5 (List.mem_of_getElem? (i := 65) rfl) rfl
theorem mw_5_66 : Cond.instanceMethod yX10_missing ∈ BW := bw_5 (List.mem_of_getElem? (i := 66) rfl) rfl
theorem mw_5_67 : Cond.selects RX10 yX10_missing yX10_missing ∈ BW := bw_5 (List.mem_of_getElem? (i := 67) rfl) rfl
theorem mw_5_68 : Cond.code yX10_missing cX10_missing 3 (some .boolean) ∈ BW := bw_5 (List.mem_of_getElem? (i := 68) rfl) rfl
theorem mw_5_69 : Cond.methodLink RL 84 yX10_open ∈ BW := bw_5 (List.mem_of_getElem? (i := 69) rfl) rfl
theorem mw_5_70 : Cond.instanceMethod yX10_open ∈ BW := bw_5 (List.mem_of_getElem? (i := 70) rfl) rfl
theorem mw_5_71 : Cond.selects RX10 yX10_open yX10_open ∈ BW := bw_5 (List.mem_of_getElem? (i := 71) rfl) rfl
theorem mw_5_72 : Cond.code yX10_open cX10_open 2 (some .boolean) ∈ BW := bw_5 (List.mem_of_getElem? (i := 72) rfl) rfl
theorem mw_5_73 : Cond.methodLink RX10 116 yX10_isOpen ∈ BW := bw_5 (List.mem_of_getElem? (i := 73) rfl) rfl
theorem mw_5_75 : Cond.instanceMethod yX10_isOpen ∈ BW := bw_5 (List.mem_of_getElem? (i := 75) rfl) rfl
theorem mw_5_76 : Cond.code yX10_isOpen cX10_isOpen 5 (some .boolean) ∈ BW := bw_5 (List.mem_of_getElem? (i := 76) rfl) rfl
theorem mw_5_77 : Cond.methodLink RX10 119 yX10_opens ∈ BW := bw_5 (List.mem_of_getElem? (i := 77) rfl) rfl
theorem mw_5_79 : Cond.instanceMethod yX10_opens ∈ BW := bw_5 (List.mem_of_getElem? (i := 79) rfl) rfl
theorem mw_5_80 : Cond.code yX10_opens cX10_opens 4 (none : Option Jvm.ClassFile.FieldType) ∈ BW := bw_5 (List.mem_of_getElem? (i := 80) rfl) rfl
theorem mw_5_81 : Cond.methodLink RL 89 yX10_back ∈ BW := bw_5 (List.mem_of_getElem? (i := 81) rfl) rfl
theorem mw_5_82 : Cond.instanceMethod yX10_back ∈ BW := bw_5 (List.mem_of_getElem? (i := 82) rfl) rfl
theorem mw_5_83 : Cond.selects RX10 yX10_back yX10_back ∈ BW := bw_5 (List.mem_of_getElem? (i := 83) rfl) rfl
theorem mw_5_84 : Cond.code yX10_back cX10_back 1 (some .boolean) ∈ BW := bw_5 (List.mem_of_getElem? (i := 84) rfl) rfl
theorem mw_5_85 : Cond.methodLink RL 93 yX10_of ∈ BW := bw_5 (List.mem_of_getElem? (i := 85) rfl) rfl
theorem mw_5_86 : Cond.instanceMethod yX10_of ∈ BW := bw_5 (List.mem_of_getElem? (i := 86) rfl) rfl
theorem mw_5_87 : Cond.selects RX10 yX10_of yX10_of ∈ BW := bw_5 (List.mem_of_getElem? (i := 87) rfl) rfl
theorem mw_5_88 : Cond.code yX10_of cX10_of 5 (some .int) ∈ BW := bw_5 (List.mem_of_getElem? (i := 88) rfl) rfl
theorem mw_5_89 : Cond.methodLink RL 97 yX10_doc ∈ BW := bw_5 (List.mem_of_getElem? (i := 89) rfl) rfl
theorem mw_5_90 : Cond.instanceMethod yX10_doc ∈ BW := bw_5 (List.mem_of_getElem? (i := 90) rfl) rfl
theorem mw_5_91 : Cond.selects RX10 yX10_doc yX10_doc ∈ BW := bw_5 (List.mem_of_getElem? (i := 91) rfl) rfl
theorem mw_5_92 : Cond.code yX10_doc cX10_doc 3 (some .int) ∈ BW := bw_5 (List.mem_of_getElem? (i := 92) rfl) rfl
theorem mw_5_93 : Cond.methodLink RX10 134 yX10_isNear ∈ BW := bw_5 (List.mem_of_getElem? (i := 93) rfl) rfl
theorem mw_5_95 : Cond.instanceMethod yX10_isNear ∈ BW := bw_5 (List.mem_of_getElem? (i := 95) rfl) rfl
theorem mw_5_96 : Cond.code yX10_isNear cX10_isNear 6 (some .boolean) ∈ BW := bw_5 (List.mem_of_getElem? (i := 96) rfl) rfl
theorem mw_5_97 : Cond.methodLink RX10 131 yX10_passes ∈ BW := bw_5 (List.mem_of_getElem? (i := 97) rfl) rfl
theorem mw_5_99 : Cond.instanceMethod yX10_passes ∈ BW := bw_5 (List.mem_of_getElem? (i := 99) rfl) rfl
theorem mw_5_100 : Cond.code yX10_passes cX10_passes 9 (some .boolean) ∈ BW := bw_5 (List.mem_of_getElem? (i := 100) rfl) rfl
theorem mw_5_101 : Cond.methodLink RX10 122 yX10_hasIt ∈ BW := bw_5 (List.mem_of_getElem? (i := 101) rfl) rfl
theorem mw_5_103 : Cond.instanceMethod yX10_hasIt ∈ BW := bw_5 (List.mem_of_getElem? (i := 103) rfl) rfl
theorem mw_5_104 : Cond.code yX10_hasIt cX10_hasIt 3 (some .boolean) ∈ BW := bw_5 (List.mem_of_getElem? (i := 104) rfl) rfl
theorem mw_5_105 : Cond.methodLink RX10 125 yX10_isMissing ∈ BW := bw_5 (List.mem_of_getElem? (i := 105) rfl) rfl
theorem mw_5_107 : Cond.instanceMethod yX10_isMissing ∈ BW := bw_5 (List.mem_of_getElem? (i := 107) rfl) rfl
theorem mw_5_108 : Cond.code yX10_isMissing cX10_isMissing 5 (some .boolean) ∈ BW := bw_5 (List.mem_of_getElem? (i := 108) rfl) rfl
theorem mw_5_109 : Cond.methodLink RX10 128 yX10_isRanged ∈ BW := bw_5 (List.mem_of_getElem? (i := 109) rfl) rfl
theorem mw_5_111 : Cond.instanceMethod yX10_isRanged ∈ BW := bw_5 (List.mem_of_getElem? (i := 111) rfl) rfl
theorem mw_5_112 : Cond.code yX10_isRanged cX10_isRanged 8 (some .boolean) ∈ BW := bw_5 (List.mem_of_getElem? (i := 112) rfl) rfl
theorem mw_5_113 : Cond.methodLink RX10 146 yX10_passedBy ∈ BW := bw_5 (List.mem_of_getElem? (i := 113) rfl) rfl
theorem mw_5_115 : Cond.instanceMethod yX10_passedBy ∈ BW := bw_5 (List.mem_of_getElem? (i := 115) rfl) rfl
theorem mw_5_116 : Cond.code yX10_passedBy cX10_passedBy 4 (some .int) ∈ BW := bw_5 (List.mem_of_getElem? (i := 116) rfl) rfl
theorem mw_5_117 : Cond.methodLink RX10 149 yX10_placeOf ∈ BW := bw_5 (List.mem_of_getElem? (i := 117) rfl) rfl
theorem mw_5_119 : Cond.instanceMethod yX10_placeOf ∈ BW := bw_5 (List.mem_of_getElem? (i := 119) rfl) rfl
theorem mw_5_120 : Cond.code yX10_placeOf cX10_placeOf 4 (some .int) ∈ BW := bw_5 (List.mem_of_getElem? (i := 120) rfl) rfl
theorem mw_5_121 : Cond.methodLink RX10 143 yX10_orders ∈ BW := bw_5 (List.mem_of_getElem? (i := 121) rfl) rfl
theorem mw_5_123 : Cond.instanceMethod yX10_orders ∈ BW := bw_5 (List.mem_of_getElem? (i := 123) rfl) rfl
theorem mw_5_124 : Cond.code yX10_orders cX10_orders 4 (none : Option Jvm.ClassFile.FieldType) ∈ BW := bw_5 (List.mem_of_getElem? (i := 124) rfl) rfl
theorem mw_5_125 : Cond.methodLink RX10 140 yX10_isAhead ∈ BW := bw_5 (List.mem_of_getElem? (i := 125) rfl) rfl
theorem mw_5_127 : Cond.instanceMethod yX10_isAhead ∈ BW := bw_5 (List.mem_of_getElem? (i := 127) rfl) rfl
theorem mw_5_128 : Cond.code yX10_isAhead cX10_isAhead 3 (some .boolean) ∈ BW := bw_5 (List.mem_of_getElem? (i := 128) rfl) rfl
theorem mw_5_129 : Cond.methodLink RL 101 yX10_has ∈ BW := bw_5 (List.mem_of_getElem? (i := 129) rfl) rfl
theorem mw_5_130 : Cond.instanceMethod yX10_has ∈ BW := bw_5 (List.mem_of_getElem? (i := 130) rfl) rfl
theorem mw_5_131 : Cond.selects RX10 yX10_has yX10_has ∈ BW := bw_5 (List.mem_of_getElem? (i := 131) rfl) rfl
theorem mw_5_132 : Cond.code yX10_has cX10_has 3 (some .boolean) ∈ BW := bw_5 (List.mem_of_getElem? (i := 132) rfl) rfl
theorem mw_5_133 : Cond.methodLink RL 107 yX10_numberOf ∈ BW := bw_5 (List.mem_of_getElem? (i := 133) rfl) rfl
theorem mw_5_134 : Cond.instanceMethod yX10_numberOf ∈ BW := bw_5 (List.mem_of_getElem? (i := 134) rfl) rfl
theorem mw_5_135 : Cond.selects RX10 yX10_numberOf yX10_numberOf ∈ BW := bw_5 (List.mem_of_getElem? (i := 135) rfl) rfl
theorem mw_5_136 : Cond.code yX10_numberOf cX10_numberOf 3 (some .int) ∈ BW := bw_5 (List.mem_of_getElem? (i := 136) rfl) rfl
theorem mw_5_137 : Cond.methodLink RL 115 yX10_hit ∈ BW := bw_5 (List.mem_of_getElem? (i := 137) rfl) rfl
theorem mw_5_138 : Cond.instanceMethod yX10_hit ∈ BW := bw_5 (List.mem_of_getElem? (i := 138) rfl) rfl
theorem mw_5_139 : Cond.selects RX10 yX10_hit yX10_hit ∈ BW := bw_5 (List.mem_of_getElem? (i := 139) rfl) rfl
theorem mw_5_140 : Cond.code yX10_hit cX10_hit 5 (some .int) ∈ BW := bw_5 (List.mem_of_getElem? (i := 140) rfl) rfl
theorem mw_5_141 : Cond.methodLink RL 119 yX10_near ∈ BW := bw_5 (List.mem_of_getElem? (i := 141) rfl) rfl
theorem mw_5_142 : Cond.instanceMethod yX10_near ∈ BW := bw_5 (List.mem_of_getElem? (i := 142) rfl) rfl
theorem mw_5_143 : Cond.selects RX10 yX10_near yX10_near ∈ BW := bw_5 (List.mem_of_getElem? (i := 143) rfl) rfl
theorem mw_5_144 : Cond.code yX10_near cX10_near 4 (some .int) ∈ BW := bw_5 (List.mem_of_getElem? (i := 144) rfl) rfl
theorem mw_5_145 : Cond.methodLink RL 123 yX10_shown ∈ BW := bw_5 (List.mem_of_getElem? (i := 145) rfl) rfl
theorem mw_5_146 : Cond.instanceMethod yX10_shown ∈ BW := bw_5 (List.mem_of_getElem? (i := 146) rfl) rfl
theorem mw_5_147 : Cond.selects RX10 yX10_shown yX10_shown ∈ BW := bw_5 (List.mem_of_getElem? (i := 147) rfl) rfl
theorem mw_5_148 : Cond.code yX10_shown cX10_shown 2 (some .int) ∈ BW := bw_5 (List.mem_of_getElem? (i := 148) rfl) rfl
theorem mw_5_149 : Cond.methodLink RX10 158 yX10_shownOf ∈ BW := bw_5 (List.mem_of_getElem? (i := 149) rfl) rfl
theorem mw_5_151 : Cond.instanceMethod yX10_shownOf ∈ BW := bw_5 (List.mem_of_getElem? (i := 151) rfl) rfl
theorem mw_5_152 : Cond.code yX10_shownOf cX10_shownOf 4 (some .int) ∈ BW := bw_5 (List.mem_of_getElem? (i := 152) rfl) rfl
theorem mw_5_153 : Cond.methodLink RX10 155 yX10_counts ∈ BW := bw_5 (List.mem_of_getElem? (i := 153) rfl) rfl
theorem mw_5_155 : Cond.instanceMethod yX10_counts ∈ BW := bw_5 (List.mem_of_getElem? (i := 155) rfl) rfl
theorem mw_5_156 : Cond.code yX10_counts cX10_counts 3 (some .boolean) ∈ BW := bw_5 (List.mem_of_getElem? (i := 156) rfl) rfl
theorem mw_5_157 : Cond.methodLink RX10 152 yX10_lifted ∈ BW := bw_5 (List.mem_of_getElem? (i := 157) rfl) rfl
theorem mw_5_159 : Cond.instanceMethod yX10_lifted ∈ BW := bw_5 (List.mem_of_getElem? (i := 159) rfl) rfl
theorem mw_5_160 : Cond.code yX10_lifted cX10_lifted 2 (some .int) ∈ BW := bw_5 (List.mem_of_getElem? (i := 160) rfl) rfl
theorem mw_5_161 : Cond.methodLink RL 127 yX10_shownMissing ∈ BW := bw_5 (List.mem_of_getElem? (i := 161) rfl) rfl
theorem mw_5_162 : Cond.instanceMethod yX10_shownMissing ∈ BW := bw_5 (List.mem_of_getElem? (i := 162) rfl) rfl
theorem mw_5_163 : Cond.selects RX10 yX10_shownMissing yX10_shownMissing ∈ BW := bw_5 (List.mem_of_getElem? (i := 163) rfl) rfl
theorem mw_5_164 : Cond.code yX10_shownMissing cX10_shownMissing 4 (some .int) ∈ BW := bw_5 (List.mem_of_getElem? (i := 164) rfl) rfl
theorem mw_5_165 : Cond.methodLink RL 131 yX10_click ∈ BW := bw_5 (List.mem_of_getElem? (i := 165) rfl) rfl
theorem mw_5_166 : Cond.instanceMethod yX10_click ∈ BW := bw_5 (List.mem_of_getElem? (i := 166) rfl) rfl
theorem mw_5_167 : Cond.selects RX10 yX10_click yX10_click ∈ BW := bw_5 (List.mem_of_getElem? (i := 167) rfl) rfl
theorem mw_5_168 : Cond.code yX10_click cX10_click 3 (some .int) ∈ BW := bw_5 (List.mem_of_getElem? (i := 168) rfl) rfl
theorem mw_5_169 : Cond.methodLink RX10 161 yX10_hitsBy ∈ BW := bw_5 (List.mem_of_getElem? (i := 169) rfl) rfl
theorem mw_5_171 : Cond.instanceMethod yX10_hitsBy ∈ BW := bw_5 (List.mem_of_getElem? (i := 171) rfl) rfl
theorem mw_5_172 : Cond.code yX10_hitsBy cX10_hitsBy 4 (some .int) ∈ BW := bw_5 (List.mem_of_getElem? (i := 172) rfl) rfl
theorem mw_5_173 : Cond.methodLink RL 135 yX10_lift ∈ BW := bw_5 (List.mem_of_getElem? (i := 173) rfl) rfl
theorem mw_5_174 : Cond.instanceMethod yX10_lift ∈ BW := bw_5 (List.mem_of_getElem? (i := 174) rfl) rfl
theorem mw_5_175 : Cond.selects RX10 yX10_lift yX10_lift ∈ BW := bw_5 (List.mem_of_getElem? (i := 175) rfl) rfl
theorem mw_5_176 : Cond.code yX10_lift cX10_lift 3 (some .int) ∈ BW := bw_5 (List.mem_of_getElem? (i := 176) rfl) rfl
theorem mw_5_177 : Cond.methodLink RL 139 yX10_sums ∈ BW := bw_5 (List.mem_of_getElem? (i := 177) rfl) rfl
theorem mw_5_178 : Cond.instanceMethod yX10_sums ∈ BW := bw_5 (List.mem_of_getElem? (i := 178) rfl) rfl
theorem mw_5_179 : Cond.selects RX10 yX10_sums yX10_sums ∈ BW := bw_5 (List.mem_of_getElem? (i := 179) rfl) rfl
theorem mw_5_180 : Cond.code yX10_sums cX10_sums 5 (some .int) ∈ BW := bw_5 (List.mem_of_getElem? (i := 180) rfl) rfl
theorem mw_5_181 : Cond.methodLink RX10 164 yX10_ownOf ∈ BW := bw_5 (List.mem_of_getElem? (i := 181) rfl) rfl
theorem mw_5_183 : Cond.instanceMethod yX10_ownOf ∈ BW := bw_5 (List.mem_of_getElem? (i := 183) rfl) rfl
theorem mw_5_184 : Cond.code yX10_ownOf cX10_ownOf 4 (some .int) ∈ BW := bw_5 (List.mem_of_getElem? (i := 184) rfl) rfl
theorem mw_5_185 : Cond.methodLink RL 144 yX10_sets ∈ BW := bw_5 (List.mem_of_getElem? (i := 185) rfl) rfl
theorem mw_5_186 : Cond.instanceMethod yX10_sets ∈ BW := bw_5 (List.mem_of_getElem? (i := 186) rfl) rfl
theorem mw_5_187 : Cond.selects RX10 yX10_sets yX10_sets ∈ BW := bw_5 (List.mem_of_getElem? (i := 187) rfl) rfl
theorem mw_5_188 : Cond.code yX10_sets cX10_sets 7 (some .long) ∈ BW := bw_5 (List.mem_of_getElem? (i := 188) rfl) rfl
theorem mw_5_189 : Cond.methodLink RX10 167 yX10_isLeaf ∈ BW := bw_5 (List.mem_of_getElem? (i := 189) rfl) rfl
theorem mw_5_191 : Cond.instanceMethod yX10_isLeaf ∈ BW := bw_5 (List.mem_of_getElem? (i := 191) rfl) rfl
theorem mw_5_192 : Cond.code yX10_isLeaf cX10_isLeaf 4 (some .boolean) ∈ BW := bw_5 (List.mem_of_getElem? (i := 192) rfl) rfl
theorem mw_5_193 : Cond.methodLink RL 148 yX10_bin ∈ BW := bw_5 (List.mem_of_getElem? (i := 193) rfl) rfl
theorem mw_5_194 : Cond.instanceMethod yX10_bin ∈ BW := bw_5 (List.mem_of_getElem? (i := 194) rfl) rfl
theorem mw_5_195 : Cond.selects RX10 yX10_bin yX10_bin ∈ BW := bw_5 (List.mem_of_getElem? (i := 195) rfl) rfl
theorem mw_5_196 : Cond.code yX10_bin cX10_bin 6 (some .int) ∈ BW := bw_5 (List.mem_of_getElem? (i := 196) rfl) rfl
theorem mw_5_197 : Cond.methodLink RX10 176 yX10_isCut ∈ BW := bw_5 (List.mem_of_getElem? (i := 197) rfl) rfl
theorem mw_5_199 : Cond.instanceMethod yX10_isCut ∈ BW := bw_5 (List.mem_of_getElem? (i := 199) rfl) rfl
theorem mw_5_200 : Cond.code yX10_isCut cX10_isCut 3 (some .boolean) ∈ BW := bw_5 (List.mem_of_getElem? (i := 200) rfl) rfl
theorem mw_5_201 : Cond.methodLink RX10 179 yX10_binsOf ∈ BW := bw_5 (List.mem_of_getElem? (i := 201) rfl) rfl
theorem mw_5_203 : Cond.instanceMethod yX10_binsOf ∈ BW := bw_5 (List.mem_of_getElem? (i := 203) rfl) rfl
theorem mw_5_204 : Cond.code yX10_binsOf cX10_binsOf 9 (some .int) ∈ BW := bw_5 (List.mem_of_getElem? (i := 204) rfl) rfl
theorem mw_5_205 : Cond.methodLink RX10 173 yX10_numbersOf ∈ BW := bw_5 (List.mem_of_getElem? (i := 205) rfl) rfl
theorem mw_5_207 : Cond.instanceMethod yX10_numbersOf ∈ BW := bw_5 (List.mem_of_getElem? (i := 207) rfl) rfl
theorem mw_5_208 : Cond.code yX10_numbersOf cX10_numbersOf 4 (none : Option Jvm.ClassFile.FieldType) ∈ BW := bw_5 (List.mem_of_getElem? (i := 208) rfl) rfl
theorem mw_5_209 : Cond.methodLink RL 152 yX10_bins ∈ BW := bw_5 (List.mem_of_getElem? (i := 209) rfl) rfl
theorem mw_5_210 : Cond.instanceMethod yX10_bins ∈ BW := bw_5 (List.mem_of_getElem? (i := 210) rfl) rfl
theorem mw_5_211 : Cond.selects RX10 yX10_bins yX10_bins ∈ BW := bw_5 (List.mem_of_getElem? (i := 211) rfl) rfl
theorem mw_5_212 : Cond.code yX10_bins cX10_bins 3 (some .int) ∈ BW := bw_5 (List.mem_of_getElem? (i := 212) rfl) rfl
theorem mw_5_213 : Cond.methodLink RL 156 yX10_even ∈ BW := bw_5 (List.mem_of_getElem? (i := 213) rfl) rfl
theorem mw_5_214 : Cond.instanceMethod yX10_even ∈ BW := bw_5 (List.mem_of_getElem? (i := 214) rfl) rfl
theorem mw_5_215 : Cond.selects RX10 yX10_even yX10_even ∈ BW := bw_5 (List.mem_of_getElem? (i := 215) rfl) rfl
theorem mw_5_216 : Cond.code yX10_even cX10_even 4 (some .int) ∈ BW := bw_5 (List.mem_of_getElem? (i := 216) rfl) rfl
theorem mw_5_217 : Cond.methodLink RX10 183 yX10_rowsBy ∈ BW := bw_5 (List.mem_of_getElem? (i := 217) rfl) rfl
theorem mw_5_219 : Cond.instanceMethod yX10_rowsBy ∈ BW := bw_5 (List.mem_of_getElem? (i := 219) rfl) rfl
theorem mw_5_220 : Cond.code yX10_rowsBy cX10_rowsBy 5 (some .int) ∈ BW := bw_5 (List.mem_of_getElem? (i := 220) rfl) rfl
theorem mw_5_221 : Cond.methodLink RL 160 yX10_top ∈ BW := bw_5 (List.mem_of_getElem? (i := 221) rfl) rfl
theorem mw_5_222 : Cond.instanceMethod yX10_top ∈ BW := bw_5 (List.mem_of_getElem? (i := 222) rfl) rfl
theorem mw_5_223 : Cond.selects RX10 yX10_top yX10_top ∈ BW := bw_5 (List.mem_of_getElem? (i := 223) rfl) rfl
theorem mw_5_224 : Cond.code yX10_top cX10_top 5 (some .int) ∈ BW := bw_5 (List.mem_of_getElem? (i := 224) rfl) rfl
theorem mw_5_225 : Cond.methodLink RX10 190 yX10_tells ∈ BW := bw_5 (List.mem_of_getElem? (i := 225) rfl) rfl
theorem mw_5_227 : Cond.instanceMethod yX10_tells ∈ BW := bw_5 (List.mem_of_getElem? (i := 227) rfl) rfl
theorem mw_5_228 : Cond.code yX10_tells cX10_tells 3 (none : Option Jvm.ClassFile.FieldType) ∈ BW := bw_5 (List.mem_of_getElem? (i := 228) rfl) rfl
theorem mw_5_229 : Cond.methodLink RX10 194 yX10_aheadOf ∈ BW := bw_5 (List.mem_of_getElem? (i := 229) rfl) rfl
theorem mw_5_231 : Cond.instanceMethod yX10_aheadOf ∈ BW := bw_5 (List.mem_of_getElem? (i := 231) rfl) rfl
theorem mw_5_232 : Cond.code yX10_aheadOf cX10_aheadOf 4 (some .int) ∈ BW := bw_5 (List.mem_of_getElem? (i := 232) rfl) rfl
theorem mw_5_233 : Cond.methodLink RX10 186 yX10_isBetter ∈ BW := bw_5 (List.mem_of_getElem? (i := 233) rfl) rfl
theorem mw_5_234 : Cond.static yX10_isBetter ∈ BW := bw_5 (List.mem_of_getElem? (i := 234) rfl) rfl
theorem mw_5_235 : Cond.code yX10_isBetter cX10_isBetter 4 (some .boolean) ∈ BW := bw_5 (List.mem_of_getElem? (i := 235) rfl) rfl
theorem mw_5_236 : Cond.methodLink RL 164 yX10_read ∈ BW := bw_5 (List.mem_of_getElem? (i := 236) rfl) rfl
theorem mw_5_237 : Cond.instanceMethod yX10_read ∈ BW := bw_5 (List.mem_of_getElem? (i := 237) rfl) rfl
theorem mw_5_238 : Cond.selects RX10 yX10_read yX10_read ∈ BW := bw_5 (List.mem_of_getElem? (i := 238) rfl) rfl
theorem mw_5_239 : Cond.code yX10_read cX10_read 5 (some .int) ∈ BW := bw_5 (List.mem_of_getElem? (i := 239) rfl) rfl
theorem mw_6_0 : Cond.methodLink RX10 197 yX10_isCertain ∈ BW := bw_6 (List.mem_of_getElem? (i := 0) rfl) rfl
theorem mw_6_2 : Cond.instanceMethod yX10_isCertain ∈ BW := bw_6 (List.mem_of_getElem? (i := 2) rfl) rfl
theorem mw_6_3 : Cond.code yX10_isCertain cX10_isCertain 8 (some .boolean) ∈ BW := bw_6 (List.mem_of_getElem? (i := 3) rfl) rfl
theorem mw_6_4 : Cond.methodLink RL 168 yX10_path ∈ BW := bw_6 (List.mem_of_getElem? (i := 4) rfl) rfl
theorem mw_6_5 : Cond.instanceMethod yX10_path ∈ BW := bw_6 (List.mem_of_getElem? (i := 5) rfl) rfl
theorem mw_6_6 : Cond.selects RX10 yX10_path yX10_path ∈ BW := bw_6 (List.mem_of_getElem? (i := 6) rfl) rfl
theorem mw_6_7 : Cond.code yX10_path cX10_path 5 (some .int) ∈ BW := bw_6 (List.mem_of_getElem? (i := 7) rfl) rfl
theorem mw_6_8 : Cond.methodLink RX10 200 yX10_bestBelow ∈ BW := bw_6 (List.mem_of_getElem? (i := 8) rfl) rfl
theorem mw_6_10 : Cond.instanceMethod yX10_bestBelow ∈ BW := bw_6 (List.mem_of_getElem? (i := 10) rfl) rfl
theorem mw_6_11 : Cond.code yX10_bestBelow cX10_bestBelow 6 (some .int) ∈ BW := bw_6 (List.mem_of_getElem? (i := 11) rfl) rfl
theorem mw_6_12 : Cond.methodLink RL 172 yX10_split ∈ BW := bw_6 (List.mem_of_getElem? (i := 12) rfl) rfl
theorem mw_6_13 : Cond.instanceMethod yX10_split ∈ BW := bw_6 (List.mem_of_getElem? (i := 13) rfl) rfl
theorem mw_6_14 : Cond.selects RX10 yX10_split yX10_split ∈ BW := bw_6 (List.mem_of_getElem? (i := 14) rfl) rfl
theorem mw_6_15 : Cond.code yX10_split cX10_split 6 (some .int) ∈ BW := bw_6 (List.mem_of_getElem? (i := 15) rfl) rfl
theorem mw_6_16 : Cond.methodLink RX10 203 yX10_apart ∈ BW := bw_6 (List.mem_of_getElem? (i := 16) rfl) rfl
theorem mw_6_17 : Cond.static yX10_apart ∈ BW := bw_6 (List.mem_of_getElem? (i := 17) rfl) rfl
theorem mw_6_18 : Cond.code yX10_apart cX10_apart 2 (some .int) ∈ BW := bw_6 (List.mem_of_getElem? (i := 18) rfl) rfl
theorem mw_6_19 : Cond.methodLink RL 176 yX10_cover ∈ BW := bw_6 (List.mem_of_getElem? (i := 19) rfl) rfl
theorem mw_6_20 : Cond.instanceMethod yX10_cover ∈ BW := bw_6 (List.mem_of_getElem? (i := 20) rfl) rfl
theorem mw_6_21 : Cond.selects RX10 yX10_cover yX10_cover ∈ BW := bw_6 (List.mem_of_getElem? (i := 21) rfl) rfl
theorem mw_6_22 : Cond.code yX10_cover cX10_cover 7 (some .int) ∈ BW := bw_6 (List.mem_of_getElem? (i := 22) rfl) rfl
theorem mw_6_23 : Cond.methodLink RX10 215 yX10_coverers ∈ BW := bw_6 (List.mem_of_getElem? (i := 23) rfl) rfl
theorem mw_6_25 : Cond.instanceMethod yX10_coverers ∈ BW := bw_6 (List.mem_of_getElem? (i := 25) rfl) rfl
theorem mw_6_26 : Cond.code yX10_coverers cX10_coverers 4 (some .int) ∈ BW := bw_6 (List.mem_of_getElem? (i := 26) rfl) rfl
theorem mw_6_27 : Cond.methodLink RX10 218 yX10_bestCover ∈ BW := bw_6 (List.mem_of_getElem? (i := 27) rfl) rfl
theorem mw_6_29 : Cond.instanceMethod yX10_bestCover ∈ BW := bw_6 (List.mem_of_getElem? (i := 29) rfl) rfl
theorem mw_6_30 : Cond.code yX10_bestCover cX10_bestCover 6 (some .int) ∈ BW := bw_6 (List.mem_of_getElem? (i := 30) rfl) rfl
theorem mw_6_31 : Cond.methodLink RX10 206 yX10_manyOf ∈ BW := bw_6 (List.mem_of_getElem? (i := 31) rfl) rfl
theorem mw_6_32 : Cond.static yX10_manyOf ∈ BW := bw_6 (List.mem_of_getElem? (i := 32) rfl) rfl
theorem mw_6_33 : Cond.code yX10_manyOf cX10_manyOf 3 (some .int) ∈ BW := bw_6 (List.mem_of_getElem? (i := 33) rfl) rfl
theorem mw_6_34 : Cond.methodLink RX10 209 yX10_isFirst ∈ BW := bw_6 (List.mem_of_getElem? (i := 34) rfl) rfl
theorem mw_6_35 : Cond.static yX10_isFirst ∈ BW := bw_6 (List.mem_of_getElem? (i := 35) rfl) rfl
theorem mw_6_36 : Cond.code yX10_isFirst cX10_isFirst 3 (some .boolean) ∈ BW := bw_6 (List.mem_of_getElem? (i := 36) rfl) rfl
theorem mw_6_37 : Cond.methodLink RX10 212 yX10_isCovered ∈ BW := bw_6 (List.mem_of_getElem? (i := 37) rfl) rfl
theorem mw_6_39 : Cond.instanceMethod yX10_isCovered ∈ BW := bw_6 (List.mem_of_getElem? (i := 39) rfl) rfl
theorem mw_6_40 : Cond.code yX10_isCovered cX10_isCovered 8 (some .boolean) ∈ BW := bw_6 (List.mem_of_getElem? (i := 40) rfl) rfl
theorem mw_6_41 : Cond.methodLink RL 180 yX10_both ∈ BW := bw_6 (List.mem_of_getElem? (i := 41) rfl) rfl
theorem mw_6_42 : Cond.instanceMethod yX10_both ∈ BW := bw_6 (List.mem_of_getElem? (i := 42) rfl) rfl
theorem mw_6_43 : Cond.selects RX10 yX10_both yX10_both ∈ BW := bw_6 (List.mem_of_getElem? (i := 43) rfl) rfl
theorem mw_6_44 : Cond.code yX10_both cX10_both 5 (some .int) ∈ BW := bw_6 (List.mem_of_getElem? (i := 44) rfl) rfl
theorem mw_6_45 : Cond.methodLink RL 184 yX10_alike ∈ BW := bw_6 (List.mem_of_getElem? (i := 45) rfl) rfl
theorem mw_6_46 : Cond.instanceMethod yX10_alike ∈ BW := bw_6 (List.mem_of_getElem? (i := 46) rfl) rfl
theorem mw_6_47 : Cond.selects RX10 yX10_alike yX10_alike ∈ BW := bw_6 (List.mem_of_getElem? (i := 47) rfl) rfl
theorem mw_6_48 : Cond.code yX10_alike cX10_alike 3 (some .int) ∈ BW := bw_6 (List.mem_of_getElem? (i := 48) rfl) rfl
theorem mw_6_49 : Cond.methodLink RX10 221 yX10_alikeOf ∈ BW := bw_6 (List.mem_of_getElem? (i := 49) rfl) rfl
theorem mw_6_51 : Cond.instanceMethod yX10_alikeOf ∈ BW := bw_6 (List.mem_of_getElem? (i := 51) rfl) rfl
theorem mw_6_52 : Cond.code yX10_alikeOf cX10_alikeOf 5 (some .int) ∈ BW := bw_6 (List.mem_of_getElem? (i := 52) rfl) rfl
theorem mw_6_53 : Cond.methodLink RL 188 yX10_nearest ∈ BW := bw_6 (List.mem_of_getElem? (i := 53) rfl) rfl
theorem mw_6_54 : Cond.instanceMethod yX10_nearest ∈ BW := bw_6 (List.mem_of_getElem? (i := 54) rfl) rfl
theorem mw_6_55 : Cond.selects RX10 yX10_nearest yX10_nearest ∈ BW := bw_6 (List.mem_of_getElem? (i := 55) rfl) rfl
theorem mw_6_56 : Cond.code yX10_nearest cX10_nearest 5 (some .int) ∈ BW := bw_6 (List.mem_of_getElem? (i := 56) rfl) rfl
theorem mw_6_57 : Cond.methodLink RL 192 yX10_miss ∈ BW := bw_6 (List.mem_of_getElem? (i := 57) rfl) rfl
theorem mw_6_58 : Cond.instanceMethod yX10_miss ∈ BW := bw_6 (List.mem_of_getElem? (i := 58) rfl) rfl
theorem mw_6_59 : Cond.selects RX10 yX10_miss yX10_miss ∈ BW := bw_6 (List.mem_of_getElem? (i := 59) rfl) rfl
theorem mw_6_60 : Cond.code yX10_miss cX10_miss 6 (some .int) ∈ BW := bw_6 (List.mem_of_getElem? (i := 60) rfl) rfl
theorem mw_6_61 : Cond.methodLink RL 196 yX10_most ∈ BW := bw_6 (List.mem_of_getElem? (i := 61) rfl) rfl
theorem mw_6_62 : Cond.instanceMethod yX10_most ∈ BW := bw_6 (List.mem_of_getElem? (i := 62) rfl) rfl
theorem mw_6_63 : Cond.selects RX10 yX10_most yX10_most ∈ BW := bw_6 (List.mem_of_getElem? (i := 63) rfl) rfl
theorem mw_6_64 : Cond.code yX10_most cX10_most 4 (some .int) ∈ BW := bw_6 (List.mem_of_getElem? (i := 64) rfl) rfl
theorem mw_6_65 : Cond.methodLink RL 199 yX10_middle ∈ BW := bw_6 (List.mem_of_getElem? (i := 65) rfl) rfl
theorem mw_6_66 : Cond.instanceMethod yX10_middle ∈ BW := bw_6 (List.mem_of_getElem? (i := 66) rfl) rfl
theorem mw_6_67 : Cond.selects RX10 yX10_middle yX10_middle ∈ BW := bw_6 (List.mem_of_getElem? (i := 67) rfl) rfl
theorem mw_6_68 : Cond.code yX10_middle cX10_middle 4 (some .int) ∈ BW := bw_6 (List.mem_of_getElem? (i := 68) rfl) rfl
theorem mw_6_69 : Cond.methodLink RX10 224 yX10_numberedAt ∈ BW := bw_6 (List.mem_of_getElem? (i := 69) rfl) rfl
theorem mw_6_71 : Cond.instanceMethod yX10_numberedAt ∈ BW := bw_6 (List.mem_of_getElem? (i := 71) rfl) rfl
theorem mw_6_72 : Cond.code yX10_numberedAt cX10_numberedAt 4 (some .int) ∈ BW := bw_6 (List.mem_of_getElem? (i := 72) rfl) rfl
theorem mw_6_73 : Cond.methodLink RL 203 yX10_count ∈ BW := bw_6 (List.mem_of_getElem? (i := 73) rfl) rfl
theorem mw_6_74 : Cond.instanceMethod yX10_count ∈ BW := bw_6 (List.mem_of_getElem? (i := 74) rfl) rfl
theorem mw_6_75 : Cond.selects RX10 yX10_count yX10_count ∈ BW := bw_6 (List.mem_of_getElem? (i := 75) rfl) rfl
theorem mw_6_76 : Cond.code yX10_count cX10_count 4 (some .int) ∈ BW := bw_6 (List.mem_of_getElem? (i := 76) rfl) rfl
theorem mp_0 : Cond.selects RX7 yX7_inRanges yX7_inRanges ∈ BW := bw_p (List.mem_of_getElem? (i := 0) rfl) rfl
theorem mp_1 : Cond.selects RX9 yX9_canStandBelow yX9_canStandBelow ∈ BW := bw_p (List.mem_of_getElem? (i := 1) rfl) rfl
theorem mp_2 : Cond.selects RX2 yX2_hangUnder yX2_hangUnder ∈ BW := bw_p (List.mem_of_getElem? (i := 2) rfl) rfl
theorem mp_3 : Cond.selects RX2 yX2_gather yX2_gather ∈ BW := bw_p (List.mem_of_getElem? (i := 3) rfl) rfl
theorem mp_4 : Cond.selects RX2 yX2_taggedIn yX2_taggedIn ∈ BW := bw_p (List.mem_of_getElem? (i := 4) rfl) rfl
theorem mp_5 : Cond.selects RX3 yX3_rise yX3_rise ∈ BW := bw_p (List.mem_of_getElem? (i := 5) rfl) rfl
theorem mp_6 : Cond.selects RX3 yX3_isAhead yX3_isAhead ∈ BW := bw_p (List.mem_of_getElem? (i := 6) rfl) rfl
theorem mp_7 : Cond.selects RX9 yX9_hasNumber yX9_hasNumber ∈ BW := bw_p (List.mem_of_getElem? (i := 7) rfl) rfl
theorem mp_8 : Cond.selects RX9 yX9_canBin yX9_canBin ∈ BW := bw_p (List.mem_of_getElem? (i := 8) rfl) rfl
theorem mp_9 : Cond.selects RX9 yX9_fillRow yX9_fillRow ∈ BW := bw_p (List.mem_of_getElem? (i := 9) rfl) rfl
theorem mp_10 : Cond.selects RX4 yX4_fits yX4_fits ∈ BW := bw_p (List.mem_of_getElem? (i := 10) rfl) rfl
theorem mp_11 : Cond.selects RX4 yX4_endOfRow yX4_endOfRow ∈ BW := bw_p (List.mem_of_getElem? (i := 11) rfl) rfl
theorem mp_12 : Cond.selects RX9 yX9_startReading yX9_startReading ∈ BW := bw_p (List.mem_of_getElem? (i := 12) rfl) rfl
theorem mp_13 : Cond.selects RX9 yX9_readOne yX9_readOne ∈ BW := bw_p (List.mem_of_getElem? (i := 13) rfl) rfl
theorem mp_14 : Cond.selects RX9 yX9_fullestBelow yX9_fullestBelow ∈ BW := bw_p (List.mem_of_getElem? (i := 14) rfl) rfl
theorem mp_15 : Cond.selects RX9 yX9_fillCovering yX9_fillCovering ∈ BW := bw_p (List.mem_of_getElem? (i := 15) rfl) rfl
theorem mp_16 : Cond.selects RX1 yX1_choose yX1_choose ∈ BW := bw_p (List.mem_of_getElem? (i := 16) rfl) rfl
theorem mp_18 : Cond.selects RX10 yX10_isTree yX10_isTree ∈ BW := bw_p (List.mem_of_getElem? (i := 18) rfl) rfl
theorem mp_19 : Cond.selects RX10 yX10_isAxis yX10_isAxis ∈ BW := bw_p (List.mem_of_getElem? (i := 19) rfl) rfl
theorem mp_20 : Cond.selects RX10 yX10_canBe yX10_canBe ∈ BW := bw_p (List.mem_of_getElem? (i := 20) rfl) rfl
theorem mp_21 : Cond.selects RX10 yX10_isCategory yX10_isCategory ∈ BW := bw_p (List.mem_of_getElem? (i := 21) rfl) rfl
theorem mp_22 : Cond.selects RX10 yX10_level yX10_level ∈ BW := bw_p (List.mem_of_getElem? (i := 22) rfl) rfl
theorem mp_23 : Cond.selects RX10 yX10_isIn yX10_isIn ∈ BW := bw_p (List.mem_of_getElem? (i := 23) rfl) rfl
theorem mp_24 : Cond.selects RX10 yX10_owns yX10_owns ∈ BW := bw_p (List.mem_of_getElem? (i := 24) rfl) rfl
theorem mp_25 : Cond.selects RX10 yX10_isThere yX10_isThere ∈ BW := bw_p (List.mem_of_getElem? (i := 25) rfl) rfl
theorem mp_26 : Cond.selects RX10 yX10_isNumber yX10_isNumber ∈ BW := bw_p (List.mem_of_getElem? (i := 26) rfl) rfl
theorem mp_27 : Cond.selects RX10 yX10_isNumbered yX10_isNumbered ∈ BW := bw_p (List.mem_of_getElem? (i := 27) rfl) rfl
theorem mp_28 : Cond.selects RX10 yX10_keeps yX10_keeps ∈ BW := bw_p (List.mem_of_getElem? (i := 28) rfl) rfl
theorem mp_29 : Cond.selects RX10 yX10_copies yX10_copies ∈ BW := bw_p (List.mem_of_getElem? (i := 29) rfl) rfl
theorem mp_30 : Cond.selects RX10 yX10_isOpen yX10_isOpen ∈ BW := bw_p (List.mem_of_getElem? (i := 30) rfl) rfl
theorem mp_31 : Cond.selects RX10 yX10_opens yX10_opens ∈ BW := bw_p (List.mem_of_getElem? (i := 31) rfl) rfl
theorem mp_32 : Cond.selects RX10 yX10_isNear yX10_isNear ∈ BW := bw_p (List.mem_of_getElem? (i := 32) rfl) rfl
theorem mp_33 : Cond.selects RX10 yX10_passes yX10_passes ∈ BW := bw_p (List.mem_of_getElem? (i := 33) rfl) rfl
theorem mp_34 : Cond.selects RX10 yX10_hasIt yX10_hasIt ∈ BW := bw_p (List.mem_of_getElem? (i := 34) rfl) rfl
theorem mp_35 : Cond.selects RX10 yX10_isMissing yX10_isMissing ∈ BW := bw_p (List.mem_of_getElem? (i := 35) rfl) rfl
theorem mp_36 : Cond.selects RX10 yX10_isRanged yX10_isRanged ∈ BW := bw_p (List.mem_of_getElem? (i := 36) rfl) rfl
theorem mp_37 : Cond.selects RX10 yX10_passedBy yX10_passedBy ∈ BW := bw_p (List.mem_of_getElem? (i := 37) rfl) rfl
theorem mp_38 : Cond.selects RX10 yX10_placeOf yX10_placeOf ∈ BW := bw_p (List.mem_of_getElem? (i := 38) rfl) rfl
theorem mp_39 : Cond.selects RX10 yX10_orders yX10_orders ∈ BW := bw_p (List.mem_of_getElem? (i := 39) rfl) rfl
theorem mp_40 : Cond.selects RX10 yX10_isAhead yX10_isAhead ∈ BW := bw_p (List.mem_of_getElem? (i := 40) rfl) rfl
theorem mp_41 : Cond.selects RX10 yX10_shownOf yX10_shownOf ∈ BW := bw_p (List.mem_of_getElem? (i := 41) rfl) rfl
theorem mp_42 : Cond.selects RX10 yX10_counts yX10_counts ∈ BW := bw_p (List.mem_of_getElem? (i := 42) rfl) rfl
theorem mp_43 : Cond.selects RX10 yX10_lifted yX10_lifted ∈ BW := bw_p (List.mem_of_getElem? (i := 43) rfl) rfl
theorem mp_44 : Cond.selects RX10 yX10_hitsBy yX10_hitsBy ∈ BW := bw_p (List.mem_of_getElem? (i := 44) rfl) rfl
theorem mp_45 : Cond.selects RX10 yX10_ownOf yX10_ownOf ∈ BW := bw_p (List.mem_of_getElem? (i := 45) rfl) rfl
theorem mp_46 : Cond.selects RX10 yX10_isLeaf yX10_isLeaf ∈ BW := bw_p (List.mem_of_getElem? (i := 46) rfl) rfl
theorem mp_47 : Cond.selects RX10 yX10_isCut yX10_isCut ∈ BW := bw_p (List.mem_of_getElem? (i := 47) rfl) rfl
theorem mp_48 : Cond.selects RX10 yX10_binsOf yX10_binsOf ∈ BW := bw_p (List.mem_of_getElem? (i := 48) rfl) rfl
theorem mp_49 : Cond.selects RX10 yX10_numbersOf yX10_numbersOf ∈ BW := bw_p (List.mem_of_getElem? (i := 49) rfl) rfl
theorem mp_50 : Cond.selects RX10 yX10_rowsBy yX10_rowsBy ∈ BW := bw_p (List.mem_of_getElem? (i := 50) rfl) rfl
theorem mp_51 : Cond.selects RX10 yX10_tells yX10_tells ∈ BW := bw_p (List.mem_of_getElem? (i := 51) rfl) rfl
theorem mp_52 : Cond.selects RX10 yX10_aheadOf yX10_aheadOf ∈ BW := bw_p (List.mem_of_getElem? (i := 52) rfl) rfl
theorem mp_53 : Cond.selects RX10 yX10_isCertain yX10_isCertain ∈ BW := bw_p (List.mem_of_getElem? (i := 53) rfl) rfl
theorem mp_54 : Cond.selects RX10 yX10_bestBelow yX10_bestBelow ∈ BW := bw_p (List.mem_of_getElem? (i := 54) rfl) rfl
theorem mp_55 : Cond.selects RX10 yX10_coverers yX10_coverers ∈ BW := bw_p (List.mem_of_getElem? (i := 55) rfl) rfl
theorem mp_56 : Cond.selects RX10 yX10_bestCover yX10_bestCover ∈ BW := bw_p (List.mem_of_getElem? (i := 56) rfl) rfl
theorem mp_57 : Cond.selects RX10 yX10_isCovered yX10_isCovered ∈ BW := bw_p (List.mem_of_getElem? (i := 57) rfl) rfl
theorem mp_58 : Cond.selects RX10 yX10_alikeOf yX10_alikeOf ∈ BW := bw_p (List.mem_of_getElem? (i := 58) rfl) rfl
theorem mp_59 : Cond.selects RX10 yX10_numberedAt yX10_numberedAt ∈ BW := bw_p (List.mem_of_getElem? (i := 59) rfl) rfl
theorem inlX0 : ∀ w ∈ u_ws RX0 TX0 4, w ∈ BW := by
  intro w hw
  obtain ⟨k, hk, rfl⟩ := List.mem_map.mp hw
  exact match k, List.mem_range.mp hk with | 0, _ => mw_1_154 | 1, _ => mw_1_156 | 2, _ => mw_1_158 | 3, _ => mw_1_160 | j + 4, h => absurd h (by omega)
theorem inlX1 : ∀ w ∈ u_ws RX1 TX1 5, w ∈ BW := by
  intro w hw
  obtain ⟨k, hk, rfl⟩ := List.mem_map.mp hw
  exact match k, List.mem_range.mp hk with | 0, _ => mw_1_236 | 1, _ => mw_1_238 | 2, _ => mw_2_0 | 3, _ => mw_2_2 | 4, _ => mw_2_4 | j + 5, h => absurd h (by omega)
theorem inlX2 : ∀ w ∈ u_ws RX2 TX2 6, w ∈ BW := by
  intro w hw
  obtain ⟨k, hk, rfl⟩ := List.mem_map.mp hw
  exact match k, List.mem_range.mp hk with | 0, _ => mw_1_47 | 1, _ => mw_1_49 | 2, _ => mw_1_51 | 3, _ => mw_1_53 | 4, _ => mw_1_55 | 5, _ => mw_1_57 | j + 6, h => absurd h (by omega)
theorem inlX3 : ∀ w ∈ u_ws RX3 TX3 3, w ∈ BW := by
  intro w hw
  obtain ⟨k, hk, rfl⟩ := List.mem_map.mp hw
  exact match k, List.mem_range.mp hk with | 0, _ => mw_1_80 | 1, _ => mw_1_82 | 2, _ => mw_1_84 | j + 3, h => absurd h (by omega)
theorem inlX4 : ∀ w ∈ u_ws RX4 TX4 2, w ∈ BW := by
  intro w hw
  obtain ⟨k, hk, rfl⟩ := List.mem_map.mp hw
  exact match k, List.mem_range.mp hk with | 0, _ => mw_1_216 | 1, _ => mw_1_218 | j + 2, h => absurd h (by omega)
theorem inlX5 : ∀ w ∈ u_ws RX5 TX5 5, w ∈ BW := by
  intro w hw
  obtain ⟨k, hk, rfl⟩ := List.mem_map.mp hw
  exact match k, List.mem_range.mp hk with | 0, _ => mw_1_131 | 1, _ => mw_1_133 | 2, _ => mw_1_135 | 3, _ => mw_1_137 | 4, _ => mw_1_139 | j + 5, h => absurd h (by omega)
theorem inlX6 : ∀ w ∈ u_ws RX6 TX6 3, w ∈ BW := by
  intro w hw
  obtain ⟨k, hk, rfl⟩ := List.mem_map.mp hw
  exact match k, List.mem_range.mp hk with | 0, _ => mw_1_94 | 1, _ => mw_1_96 | 2, _ => mw_1_98 | j + 3, h => absurd h (by omega)
theorem inlX7 : ∀ w ∈ u_ws RX7 TX7 5, w ∈ BW := by
  intro w hw
  obtain ⟨k, hk, rfl⟩ := List.mem_map.mp hw
  exact match k, List.mem_range.mp hk with | 0, _ => mw_1_170 | 1, _ => mw_1_172 | 2, _ => mw_1_174 | 3, _ => mw_1_176 | 4, _ => mw_1_178 | j + 5, h => absurd h (by omega)
theorem inlX8 : ∀ w ∈ u_ws RX8 TX8 4, w ∈ BW := by
  intro w hw
  obtain ⟨k, hk, rfl⟩ := List.mem_map.mp hw
  exact match k, List.mem_range.mp hk with | 0, _ => mw_1_195 | 1, _ => mw_1_197 | 2, _ => mw_1_199 | 3, _ => mw_1_201 | j + 4, h => absurd h (by omega)
theorem inlX9 : ∀ w ∈ u_ws RX9 TX9 8, w ∈ BW := by
  intro w hw
  obtain ⟨k, hk, rfl⟩ := List.mem_map.mp hw
  exact match k, List.mem_range.mp hk with | 0, _ => mw_2_15 | 1, _ => mw_2_17 | 2, _ => mw_2_19 | 3, _ => mw_2_21 | 4, _ => mw_2_23 | 5, _ => mw_2_25 | 6, _ => mw_2_27 | 7, _ => mw_2_29 | j + 8, h => absurd h (by omega)
theorem inlX10 : ∀ w ∈ u_ws RX10 TX10 22, w ∈ BW := by
  intro w hw
  obtain ⟨k, hk, rfl⟩ := List.mem_map.mp hw
  exact match k, List.mem_range.mp hk with | 0, _ => mw_4_160 | 1, _ => mw_4_162 | 2, _ => mw_4_164 | 3, _ => mw_4_166 | 4, _ => mw_4_168 | 5, _ => mw_4_170 | 6, _ => mw_4_172 | 7, _ => mw_4_174 | 8, _ => mw_4_176 | 9, _ => mw_4_178 | 10, _ => mw_4_180 | 11, _ => mw_4_182 | 12, _ => mw_4_184 | 13, _ => mw_4_186 | 14, _ => mw_4_188 | 15, _ => mw_4_190 | 16, _ => mw_4_192 | 17, _ => mw_4_194 | 18, _ => mw_4_196 | 19, _ => mw_4_198 | 20, _ => mw_4_200 | 21, _ => mw_4_202 | j + 22, h => absurd h (by omega)
end
section
-- words: where they stand
theorem bw_good {w : Cond} (h : w ∈ BW) : (w.onTables && w.keeps) = true ∨ ∃ ty, w = .arrayClass ty := good_of_word (List.mem_filter.mp h).2
theorem bw_sub {w : Cond} (h : w ∈ BW) : w ∈ lw_tbl := (List.mem_filter.mp h).1
theorem bw_code {y : MethodName} {b : ByteArray} {n : Nat} {r : Option FieldType} (h : Cond.code y b n r ∈ BW) : GoodIn BW (.code y b n r :: BW) := fun w hw => (List.mem_cons.mp hw).elim (fun e => by rw [e]; exact ⟨h, bw_good h⟩) (fun h1 => ⟨h1, bw_good h1⟩)
theorem bw_V {own C : String} {i : Nat} {y : MethodName} {b : ByteArray} {n : Nat} {r : Option FieldType} (h1 : Cond.methodLink own i y ∈ BW) (h2 : Cond.instanceMethod y ∈ BW) (h3 : Cond.selects C y y ∈ BW) (h4 : Cond.initialized C ∈ BW) (h5 : Cond.code y b n r ∈ BW) : GoodIn BW (wsV own i C y (.code y b n r :: BW)) := by
  intro w hw
  rcases List.mem_append.mp hw with h | h
  · simp only [List.mem_cons, List.not_mem_nil, or_false] at h
    rcases h with rfl | rfl | rfl | rfl
    · exact ⟨h1, bw_good h1⟩
    · exact ⟨h2, bw_good h2⟩
    · exact ⟨h3, bw_good h3⟩
    · exact ⟨h4, bw_good h4⟩
  · exact bw_code h5 w h
theorem bw_S {own : String} {i : Nat} {y : MethodName} {b : ByteArray} {n : Nat} {r : Option FieldType} (h1 : Cond.methodLink own i y ∈ BW) (h2 : Cond.static y ∈ BW) (h4 : Cond.initialized y.cls ∈ BW) (h5 : Cond.code y b n r ∈ BW) : GoodIn BW (va_wsS own i y (.code y b n r :: BW)) := by
  intro w hw
  rcases List.mem_append.mp hw with h | h
  · simp only [List.mem_cons, List.not_mem_nil, or_false] at h
    rcases h with rfl | rfl | rfl
    · exact ⟨h1, bw_good h1⟩
    · exact ⟨h2, bw_good h2⟩
    · exact ⟨h4, bw_good h4⟩
  · exact bw_code h5 w h
-- loops and joins in a formula
def lfix {α : Type} (b : (α → Prop) → α → Prop) : Nat → α → Prop
  | 0, _ => False
  | n + 1, x => b (lfix b n) x
theorem lfix_ex {α : Type} {b : (α → Prop) → α → Prop} {x : α} (h : ∃ n, lfix b n x) : ∃ (F : Nat → α → Prop) (n : Nat), F n x ∧ (∀ x, ¬ F 0 x) ∧ ∀ n x, F (n + 1) x → b (F n) x := by
  obtain ⟨n, h⟩ := h
  exact ⟨lfix b, n, h, fun _ h => h, fun _ _ h => h⟩
theorem lfix_inv {α : Type} {b : (α → Prop) → α → Prop} (Inv : α → Prop) (μ : α → Nat) (hs : ∀ (r : α → Prop) (x : α), Inv x → (∀ y, Inv y → μ y < μ x → r y) → b r x) {x : α} (hx : Inv x) : ∃ n, lfix b n x := by
  have H : ∀ n x, Inv x → μ x < n → lfix b n x := by
    intro n
    induction n with
    | zero => intro x _ h; omega
    | succ n ih => intro x hx h; exact hs _ x hx (fun y hy hm => ih y hy (by omega))
  exact ⟨μ x + 1, H _ x hx (by omega)⟩
def jn {α : Type} (K : α → Prop) (m : (α → Prop) → Prop) : Prop := m K
theorem jn_ex {α : Type} {K : α → Prop} {m : (α → Prop) → Prop} (h : jn K m) : ∃ k : α → Prop, (∀ x, k x → K x) ∧ m k := ⟨K, fun _ h => h, h⟩
def zb (v : Int32) : Prop := v = 0 ∨ v = 1
theorem zb_n {v : Int32} (h : zb v) : narrow .boolean (.int v) = .int v := by rcases h with rfl | rfl <;> rfl
theorem zb_f {v : Int32} (h : zb v) : fits .boolean (.int v) = true := by rcases h with rfl | rfl <;> rfl
theorem zb_0 : zb 0 := Or.inl rfl
theorem zb_1 : zb 1 := Or.inr rfl
-- the array classes, the private words of nest mates
def tysA (cy : Nat → ClassId) : List (ClassId × FieldType) := [(cy 0, .int), (cy 1, .long), (cy 2, .boolean), (cy 3, .object "DrillCount$Axis"), (cy 4, .object "DrillCount$Selection")]
def nestW : List Cond := [.methodLinkNest RX2 54 yX9_inSet RX9, .methodLinkNest RX7 92 yX9_inSet RX9, .methodLinkNest RX7 103 yX9_bit RX9, .methodLinkNest RX2 32 yX9_bit RX9, .methodLinkNest RX6 36 yX9_bit RX9, .methodLinkNest RX6 32 yX9_inSet RX9]
def kC (D : va_G) (cy : Nat → ClassId) (U : State) : Prop := va_K D vwCl (tysA cy) U ∧ ∀ w ∈ nestW, va_Nw w U
theorem nest_form {w : Cond} (h : w ∈ nestW) : ∃ a i x h, w = .methodLinkNest a i x h := by
  simp only [nestW, List.mem_cons, List.not_mem_nil, or_false] at h
  rcases h with rfl | rfl | rfl | rfl | rfl | rfl <;> exact ⟨_, _, _, _, rfl⟩
theorem kC.warm {D : va_G} {cy : Nat → ClassId} {s U : State} (hW : s.WarmedH U.vm) (h : kC D cy s) : kC D cy U := ⟨va_K.moved hW.alike h.1, fun w hw => by
  obtain ⟨a, i, x, y, rfl⟩ := nest_form hw
  exact va_Nw.warmM hW (h.2 _ hw)⟩
theorem kC.calling {D : va_G} {cy : Nat → ClassId} {U : State} {g : JFrame} {mk : MethodId} {a : Array Value} (h : kC D cy U) : kC D cy (U.calling g mk a) := ⟨va_K.moved (u := U) (U := U.calling g mk a) (Vm.Alike.refl U.vm) h.1, fun w hw => by
  obtain ⟨b, i, x, y, rfl⟩ := nest_form hw
  exact va_Nw.same rfl (u := U) (U := U.calling g mk a) rfl (h.2 _ hw)⟩
-- the class's cells
abbrev CS : Type := (Nat → Int32) × (Nat → Int64) × (Nat → Nat → Int32) × (Nat → Nat → Int64)
def eC (cy : Nat → ClassId) (ad : Nat → Nat) (I : Nat → Int32) (L : Nat → Int64) (A : Nat → Nat → Int32) (B : Nat → Nat → Int64) (j : Nat) : va_E :=
  if j = 0 then .inr (9, [.ref (ad 1), .ref (ad 2), .ref (ad 3), .ref (ad 4), .ref (ad 8), .ref (ad 5), .ref (ad 19), .ref (ad 6)])
  else if j = 1 then .inr (2, [.ref (ad 36), .ref (ad 37), .ref (ad 38), .ref (ad 39), .ref (ad 40), .int (I 1)])
  else if j = 2 then .inr (6, [.ref (ad 7), .long (L 2), .int (I 2)])
  else if j = 3 then .inr (7, [.ref (ad 1), .ref (ad 2), .ref (ad 45), .ref (ad 46), .int (I 3)])
  else if j = 4 then .inr (8, [.ref (ad 47), .ref (ad 48), .int (I 0), .int (I 4)])
  else if j = 5 then .inr (4, [.ref (ad 49), .int (I 5)])
  else if j = 6 then .inr (1, [.ref (ad 50), .ref (ad 51), .ref (ad 52), .ref (ad 53), .int (I 6)])
  else if j < 9 then .inr (3, [.ref (ad (j + 34)), .ref (ad (j + 36)), .int (I j)])
  else if j < 14 then .inr (0, [.int (I j), .ref (ad (j + 5)), .ref (ad (j + 45)), .long (L j)])
  else if j < 36 then .inr (5, [.long (L j), .int (I j), .int (I (j + 22)), .ref (ad (j + 45)), .ref (ad (j + 67))])
  else if j < 38 then .inl (cy 0, 40, .inl (A j))
  else if j < 41 then .inl (cy 1, 40, .inr (.inl (B j)))
  else if j < 45 then .inl (cy 0, 40, .inl (A j))
  else if j = 45 then .inl (cy 3, 5, .inr (.inr (.inr (.inr (fun i => some (ad (9 + i)))))))
  else if j = 46 then .inl (cy 1, 5, .inr (.inl (B j)))
  else if j = 47 then .inl (cy 0, 16, .inl (A j))
  else if j = 48 then .inl (cy 4, 16, .inr (.inr (.inr (.inr (fun i => some (ad (20 + i)))))))
  else if j = 49 then .inl (cy 0, 40, .inl (A j))
  else if j = 50 then .inl (cy 0, 12, .inl (A j))
  else if j = 51 then .inl (cy 1, 12, .inr (.inl (B j)))
  else if j = 52 then .inl (cy 1, 13, .inr (.inl (B j)))
  else if j = 53 then .inl (cy 0, 12, .inl (A j))
  else if j < 59 then .inl (cy 0, 40, .inl (A j))
  else .inl (cy 0, 3, .inl (A j))
def wC (cy : Nat → ClassId) (ad : Nat → Nat) (I : Nat → Int32) (L : Nat → Int64) (A : Nat → Nat → Int32) (B : Nat → Nat → Int64) : va_W := (List.range 103).map (fun k => (ad k, eC cy ad I L A B k))
-- the reference's cells
abbrev MS : Type := (Nat → Int32) × (Nat → Nat → Int32)
def eM (cy : Nat → ClassId) (ad : Nat → Nat) (I : Nat → Int32) (A : Nat → Nat → Int32) (j : Nat) : va_E :=
  if j = 0 then .inr (10, [.int (I 0), .int (I 1), .int (I 2), .int (I 3), .ref (ad 1), .ref (ad 2), .ref (ad 3), .ref (ad 4), .ref (ad 5), .ref (ad 6), .ref (ad 7), .ref (ad 8), .ref (ad 9), .int (I 4), .ref (ad 10), .ref (ad 11), .int (I 5), .ref (ad 12), .int (I 6), .ref (ad 13), .ref (ad 14), .ref (ad 15)])
  else if j = 1 then .inl (cy 0, 5, .inl (A j))
  else if j < 5 then .inl (cy 0, 40, .inl (A j))
  else if j = 5 then .inl (cy 2, 40, .inl (A j))
  else if j = 6 then .inl (cy 2, 1600, .inl (A j))
  else if j = 7 then .inl (cy 0, 200, .inl (A j))
  else if j = 8 then .inl (cy 2, 200, .inl (A j))
  else if j = 9 then .inl (cy 0, 1440, .inl (A j))
  else if j = 10 then .inl (cy 2, 1600, .inl (A j))
  else if j = 11 then .inl (cy 0, 40, .inl (A j))
  else if j = 12 then .inl (cy 0, 1999, .inl (A j))
  else if j = 13 then .inl (cy 0, 24, .inl (A j))
  else .inl (cy 0, 40, .inl (A j))
def wM (cy : Nat → ClassId) (ad : Nat → Nat) (I : Nat → Int32) (A : Nat → Nat → Int32) : va_W := (List.range 16).map (fun k => (ad k, eM cy ad I A k))
-- both are lists of places
def adok (n : Nat) (Ad : Nat → Prop) (ad : Nat → Nat) : Prop := (∀ i j, i < n → j < n → ad i = ad j → i = j) ∧ ∀ i, i < n → Ad (ad i)
theorem wl_get {n : Nat} {ad : Nat → Nat} {f : Nat → va_E} {k : Nat} (hk : k < n) : ((List.range n).map (fun k => (ad k, f k)))[k]? = some (ad k, f k) := by
  simp [hk]
theorem wl_of {n : Nat} {ad : Nat → Nat} {f : Nat → va_E} {k : Nat} {q : Nat × va_E} (h : ((List.range n).map (fun k => (ad k, f k)))[k]? = some q) : k < n ∧ q = (ad k, f k) := by
  have hk : k < n := by
    have := (List.getElem?_eq_some_iff.mp h).1
    simpa using this
  rw [wl_get hk] at h
  exact ⟨hk, (Option.some.inj h).symm⟩
theorem wl_D {n : Nat} {Ad : Nat → Prop} {ad : Nat → Nat} {f : Nat → va_E} (h : adok n Ad ad) : va_D Ad ((List.range n).map (fun k => (ad k, f k))) := by
  refine ⟨fun i j p q hp hq e => ?_, fun k q hk => ?_⟩
  · obtain ⟨h1, rfl⟩ := wl_of hp
    obtain ⟨h2, rfl⟩ := wl_of hq
    exact h.1 i j h1 h2 e
  · obtain ⟨h1, rfl⟩ := wl_of hk
    exact h.2 k h1
theorem wl_set {n : Nat} {ad : Nat → Nat} {f g : Nat → va_E} {k : Nat} {e : va_E} (hk : k < n) (he : g k = e) (ho : ∀ j, j < n → j ≠ k → g j = f j) : ((List.range n).map (fun k => (ad k, f k))).set k (ad k, e) = (List.range n).map (fun k => (ad k, g k)) := by
  apply List.ext_getElem?
  intro i
  rw [List.getElem?_set]
  by_cases h : k = i
  · subst h
    rw [wl_get (f := g) hk, he]
    simp [hk]
  · rw [if_neg h]
    by_cases hi : i < n
    · rw [wl_get hi, wl_get hi, ho i hi (Ne.symm h)]
    · simp [hi]
theorem wC_get {cy : Nat → ClassId} {ad : Nat → Nat} {I : Nat → Int32} {L : Nat → Int64} {A : Nat → Nat → Int32} {B : Nat → Nat → Int64} {k : Nat} (hk : k < 103) : (wC cy ad I L A B)[k]? = some (ad k, eC cy ad I L A B k) := wl_get hk
theorem wM_get {cy : Nat → ClassId} {ad : Nat → Nat} {I : Nat → Int32} {A : Nat → Nat → Int32} {k : Nat} (hk : k < 16) : (wM cy ad I A)[k]? = some (ad k, eM cy ad I A k) := wl_get hk
section
variable {cy : Nat → ClassId} {ad : Nat → Nat} {I : Nat → Int32} {L : Nat → Int64} {A : Nat → Nat → Int32} {B : Nat → Nat → Int64} {k : Nat}
theorem he_X9 : (wC cy ad I L A B)[0]? = some (ad 0, .inr (9, [.ref (ad 1), .ref (ad 2), .ref (ad 3), .ref (ad 4), .ref (ad 8), .ref (ad 5), .ref (ad 19), .ref (ad 6)])) := wC_get (by decide)
theorem he_X2 : (wC cy ad I L A B)[1]? = some (ad 1, .inr (2, [.ref (ad 36), .ref (ad 37), .ref (ad 38), .ref (ad 39), .ref (ad 40), .int (I 1)])) := wC_get (by decide)
theorem he_X6 : (wC cy ad I L A B)[2]? = some (ad 2, .inr (6, [.ref (ad 7), .long (L 2), .int (I 2)])) := wC_get (by decide)
theorem he_X7 : (wC cy ad I L A B)[3]? = some (ad 3, .inr (7, [.ref (ad 1), .ref (ad 2), .ref (ad 45), .ref (ad 46), .int (I 3)])) := wC_get (by decide)
theorem he_X8 : (wC cy ad I L A B)[4]? = some (ad 4, .inr (8, [.ref (ad 47), .ref (ad 48), .int (I 0), .int (I 4)])) := wC_get (by decide)
theorem he_X4 : (wC cy ad I L A B)[5]? = some (ad 5, .inr (4, [.ref (ad 49), .int (I 5)])) := wC_get (by decide)
theorem he_X1 : (wC cy ad I L A B)[6]? = some (ad 6, .inr (1, [.ref (ad 50), .ref (ad 51), .ref (ad 52), .ref (ad 53), .int (I 6)])) := wC_get (by decide)
theorem eC_X3 (h : 7 ≤ k ∧ k < 9) : eC cy ad I L A B k = .inr (3, [.ref (ad (k + 34)), .ref (ad (k + 36)), .int (I k)]) := by
  simp only [eC, show ¬ k = 0 by omega, show ¬ k = 1 by omega, show ¬ k = 2 by omega, show ¬ k = 3 by omega, show ¬ k = 4 by omega, show ¬ k = 5 by omega, show ¬ k = 6 by omega, if_false, h.2, if_true]
theorem eC_X0 (h : 9 ≤ k ∧ k < 14) : eC cy ad I L A B k = .inr (0, [.int (I k), .ref (ad (k + 5)), .ref (ad (k + 45)), .long (L k)]) := by
  simp only [eC, show ¬ k = 0 by omega, show ¬ k = 1 by omega, show ¬ k = 2 by omega, show ¬ k = 3 by omega, show ¬ k = 4 by omega, show ¬ k = 5 by omega, show ¬ k = 6 by omega, show ¬ k < 9 by omega, if_false, h.2, if_true]
theorem eC_X5 (h : 14 ≤ k ∧ k < 36) : eC cy ad I L A B k = .inr (5, [.long (L k), .int (I k), .int (I (k + 22)), .ref (ad (k + 45)), .ref (ad (k + 67))]) := by
  simp only [eC, show ¬ k = 0 by omega, show ¬ k = 1 by omega, show ¬ k = 2 by omega, show ¬ k = 3 by omega, show ¬ k = 4 by omega, show ¬ k = 5 by omega, show ¬ k = 6 by omega, show ¬ k < 9 by omega, show ¬ k < 14 by omega, if_false, h.2, if_true]
theorem eC_R40 (h : (41 ≤ k ∧ k < 45) ∨ (54 ≤ k ∧ k < 59)) : eC cy ad I L A B k = .inl (cy 0, 40, .inl (A k)) := by
  rcases h with h | h
  · obtain rfl | rfl | rfl | rfl : k = 41 ∨ k = 42 ∨ k = 43 ∨ k = 44 := by omega
    all_goals rfl
  · obtain rfl | rfl | rfl | rfl | rfl : k = 54 ∨ k = 55 ∨ k = 56 ∨ k = 57 ∨ k = 58 := by omega
    all_goals rfl
theorem eC_R3 (h : 59 ≤ k) : eC cy ad I L A B k = .inl (cy 0, 3, .inl (A k)) := by
  simp only [eC, show ¬ k = 0 by omega, show ¬ k = 1 by omega, show ¬ k = 2 by omega, show ¬ k = 3 by omega, show ¬ k = 4 by omega, show ¬ k = 5 by omega, show ¬ k = 6 by omega, show ¬ k < 9 by omega, show ¬ k < 14 by omega, show ¬ k < 36 by omega, show ¬ k < 38 by omega, show ¬ k < 41 by omega, show ¬ k < 45 by omega, show ¬ k = 45 by omega, show ¬ k = 46 by omega, show ¬ k = 47 by omega, show ¬ k = 48 by omega, show ¬ k = 49 by omega, show ¬ k = 50 by omega, show ¬ k = 51 by omega, show ¬ k = 52 by omega, show ¬ k = 53 by omega, show ¬ k < 59 by omega, if_false]
theorem he_X3 (h : 7 ≤ k ∧ k < 9) : (wC cy ad I L A B)[k]? = some (ad k, .inr (3, [.ref (ad (k + 34)), .ref (ad (k + 36)), .int (I k)])) := by rw [wC_get (by omega), eC_X3 h]
theorem he_X0 (h : 9 ≤ k ∧ k < 14) : (wC cy ad I L A B)[k]? = some (ad k, .inr (0, [.int (I k), .ref (ad (k + 5)), .ref (ad (k + 45)), .long (L k)])) := by rw [wC_get (by omega), eC_X0 h]
theorem he_X5 (h : 14 ≤ k ∧ k < 36) : (wC cy ad I L A B)[k]? = some (ad k, .inr (5, [.long (L k), .int (I k), .int (I (k + 22)), .ref (ad (k + 45)), .ref (ad (k + 67))])) := by rw [wC_get (by omega), eC_X5 h]
theorem he_X10 : (wM cy ad I A)[0]? = some (ad 0, .inr (10, [.int (I 0), .int (I 1), .int (I 2), .int (I 3), .ref (ad 1), .ref (ad 2), .ref (ad 3), .ref (ad 4), .ref (ad 5), .ref (ad 6), .ref (ad 7), .ref (ad 8), .ref (ad 9), .int (I 4), .ref (ad 10), .ref (ad 11), .int (I 5), .ref (ad 12), .int (I 6), .ref (ad 13), .ref (ad 14), .ref (ad 15)])) := wM_get (by decide)
/-- a cell of the class speaks of its own numbers alone -/
theorem eC_cong {I' : Nat → Int32} {L' : Nat → Int64} {A' : Nat → Nat → Int32} {B' : Nat → Nat → Int64} (hI : ∀ q, ((0 < k ∧ k < 36 ∧ q = k) ∨ (k = 4 ∧ q = 0) ∨ (14 ≤ k ∧ k < 36 ∧ q = k + 22)) → I' q = I q) (hL : L' k = L k) (hA : A' k = A k) (hB : B' k = B k) : eC cy ad I' L' A' B' k = eC cy ad I L A B k := by
  by_cases c0 : k = 0
  · subst c0; rfl
  by_cases c36 : k < 36
  · have h0 : I' k = I k := hI k (Or.inl ⟨by omega, c36, rfl⟩)
    by_cases c1 : k = 1
    · subst c1; simp [eC, h0]
    by_cases c2 : k = 2
    · subst c2; simp [eC, h0, hL]
    by_cases c3 : k = 3
    · subst c3; simp [eC, h0]
    by_cases c4 : k = 4
    · subst c4; simp [eC, h0, hI 0 (Or.inr (Or.inl ⟨rfl, rfl⟩))]
    by_cases c5 : k = 5
    · subst c5; simp [eC, h0]
    by_cases c6 : k = 6
    · subst c6; simp [eC, h0]
    by_cases c9 : k < 9
    · rw [eC_X3 ⟨by omega, c9⟩, eC_X3 ⟨by omega, c9⟩, h0]
    by_cases c14 : k < 14
    · rw [eC_X0 ⟨by omega, c14⟩, eC_X0 ⟨by omega, c14⟩, h0, hL]
    rw [eC_X5 ⟨by omega, c36⟩, eC_X5 ⟨by omega, c36⟩, h0, hL, hI (k + 22) (Or.inr (Or.inr ⟨by omega, c36, rfl⟩))]
  · simp only [eC, c0, show ¬ k = 1 by omega, show ¬ k = 2 by omega, show ¬ k = 3 by omega, show ¬ k = 4 by omega, show ¬ k = 5 by omega, show ¬ k = 6 by omega, show ¬ k < 9 by omega, show ¬ k < 14 by omega, c36, if_false, hA, hB]
theorem eM_cong {I' : Nat → Int32} {A' : Nat → Nat → Int32} (hI : k = 0 → ∀ q, q < 7 → I' q = I q) (hA : A' k = A k) : eM cy ad I' A' k = eM cy ad I A k := by
  by_cases c0 : k = 0
  · subst c0
    simp only [eM, if_true, hI rfl 0 (by decide), hI rfl 1 (by decide), hI rfl 2 (by decide), hI rfl 3 (by decide), hI rfl 4 (by decide), hI rfl 5 (by decide), hI rfl 6 (by decide)]
  · simp only [eM, c0, if_false, hA]
theorem wC_setA {n : Nat} (hk : k < 103) (he : ∀ A', eC cy ad I L A' B k = .inl (cy 0, n, .inl (A' k))) (g : Nat → Int32) : (wC cy ad I L A B).set k (ad k, .inl (cy 0, n, .inl g)) = wC cy ad I L (va_up A k g) B :=
  wl_set hk (by rw [he, va_up_self]) (fun j _ hj => eC_cong (fun _ _ => rfl) rfl (va_up_ne _ _ hj) rfl)
theorem wC_setB {n : Nat} (hk : k < 103) (he : ∀ B', eC cy ad I L A B' k = .inl (cy 1, n, .inr (.inl (B' k)))) (g : Nat → Int64) : (wC cy ad I L A B).set k (ad k, .inl (cy 1, n, .inr (.inl g))) = wC cy ad I L A (va_up B k g) :=
  wl_set hk (by rw [he, va_up_self]) (fun j _ hj => eC_cong (fun _ _ => rfl) rfl rfl (va_up_ne _ _ hj))
theorem wM_setA {n t : Nat} (hk : k < 16) (he : ∀ A', eM cy ad I A' k = .inl (cy t, n, .inl (A' k))) (g : Nat → Int32) : (wM cy ad I A).set k (ad k, .inl (cy t, n, .inl g)) = wM cy ad I (va_up A k g) :=
  wl_set hk (by rw [he, va_up_self]) (fun j _ hj => eM_cong (fun _ _ _ => rfl) (va_up_ne _ _ hj))
end
end
section
section
variable {p : Program} {l : Launch} {e : Env} {R : Room} {s : State} {m : MethodId} {args : Array Value} {below : List Frame} {meth : Method} {c : Code} {H : Heap} {locs : List Loc} {cells slots : Nat} {Q : State → Prop}
variable {cc : ByteArray} {pc : Nat} {ls : Array Slot} {rest : List Value} {H0 : Heap} {own : String} {D : va_G} {cy : Nat → ClassId} {ad : Nat → Nat} {Ad : Nat → Prop} {I : Nat → Int32} {L : Nat → Int64} {A : Nat → Nat → Int32} {B : Nat → Nat → Int64} {k idx : Nat}
theorem sw_X2_size (v : Int32) : (wC cy ad I L A B).set 1 (ad 1, .inr (2, [.ref (ad 36), .ref (ad 37), .ref (ad 38), .ref (ad 39), .ref (ad 40), .int v])) = wC cy ad (va_up I 1 v) L A B := wl_set (by decide) (by simp [eC, va_up]) (fun j hj hn => eC_cong (fun q hq => va_up_ne _ _ (by omega)) rfl rfl rfl)
theorem pC_X2_size (hAd : adok 103 Ad ad) (hx : p.tables.exec = Jvm.exec) (hb : c.code = cc) (hT : ∀ w ∈ BW, w.before args s = true) (hown : s.vm.findClass own = some m.cls) (hK : va_K D vwCl (tysA cy) s) (hP : va_P D vwCl (wC cy ad I L A B) H) (hS : va_S Ad H0 H locs) {v : Int32} (hlink : (Cond.fieldLink own idx "DrillCount$Forest" "size" "I").before args s = true) (hdg : decode cc pc = .ok (.putfield idx, 3)) (kk : ∀ (H1 : Heap) (locs1 : List Loc), va_P D vwCl (wC cy ad (va_up I 1 v) L A B) H1 → va_S Ad H0 H1 locs1 → W p l e R s m args below meth c H1 locs1 cells slots Q (F0 m (pc + 3) ls rest)) : W p l e R s m args below meth c H locs cells slots Q (F0 m pc ls (.int v :: .ref (ad 1) :: rest)) :=
  va_put (T := TX2) hx hb hT inlX2 tyX2 tyX2_ok nmX2 hown hK hP (wl_D hAd) hS 1 he_X2 rfl 5 (by decide) hlink (fun _ h => h) rfl rfl rfl rfl (Nat.le_of_ble_eq_true rfl) hdg (fun H1 locs1 hP1 _ hS1 => kk H1 locs1 (Eq.mp (congrArg (fun w => va_P D vwCl w H1) (sw_X2_size  v)) hP1) hS1)
theorem sw_X6_there (v : Int64) : (wC cy ad I L A B).set 2 (ad 2, .inr (6, [.ref (ad 7), .long v, .int (I 2)])) = wC cy ad I (va_up L 2 v) A B := wl_set (by decide) (by simp [eC, va_up]) (fun j hj hn => eC_cong (fun q hq => rfl) (va_up_ne _ _ (by omega)) rfl rfl)
theorem pC_X6_there (hAd : adok 103 Ad ad) (hx : p.tables.exec = Jvm.exec) (hb : c.code = cc) (hT : ∀ w ∈ BW, w.before args s = true) (hown : s.vm.findClass own = some m.cls) (hK : va_K D vwCl (tysA cy) s) (hP : va_P D vwCl (wC cy ad I L A B) H) (hS : va_S Ad H0 H locs) {v : Int64} (hlink : (Cond.fieldLink own idx "DrillCount$Shelf" "there" "J").before args s = true) (hdg : decode cc pc = .ok (.putfield idx, 3)) (kk : ∀ (H1 : Heap) (locs1 : List Loc), va_P D vwCl (wC cy ad I (va_up L 2 v) A B) H1 → va_S Ad H0 H1 locs1 → W p l e R s m args below meth c H1 locs1 cells slots Q (F0 m (pc + 3) ls rest)) : W p l e R s m args below meth c H locs cells slots Q (F0 m pc ls (.long v :: .ref (ad 2) :: rest)) :=
  va_put (T := TX6) hx hb hT inlX6 tyX6 tyX6_ok nmX6 hown hK hP (wl_D hAd) hS 2 he_X6 rfl 1 (by decide) hlink (fun _ h => h) rfl rfl rfl rfl (Nat.le_of_ble_eq_true rfl) hdg (fun H1 locs1 hP1 _ hS1 => kk H1 locs1 (Eq.mp (congrArg (fun w => va_P D vwCl w H1) (sw_X6_there  v)) hP1) hS1)
theorem sw_X6_size (v : Int32) : (wC cy ad I L A B).set 2 (ad 2, .inr (6, [.ref (ad 7), .long (L 2), .int v])) = wC cy ad (va_up I 2 v) L A B := wl_set (by decide) (by simp [eC, va_up]) (fun j hj hn => eC_cong (fun q hq => va_up_ne _ _ (by omega)) rfl rfl rfl)
theorem pC_X6_size (hAd : adok 103 Ad ad) (hx : p.tables.exec = Jvm.exec) (hb : c.code = cc) (hT : ∀ w ∈ BW, w.before args s = true) (hown : s.vm.findClass own = some m.cls) (hK : va_K D vwCl (tysA cy) s) (hP : va_P D vwCl (wC cy ad I L A B) H) (hS : va_S Ad H0 H locs) {v : Int32} (hlink : (Cond.fieldLink own idx "DrillCount$Shelf" "size" "I").before args s = true) (hdg : decode cc pc = .ok (.putfield idx, 3)) (kk : ∀ (H1 : Heap) (locs1 : List Loc), va_P D vwCl (wC cy ad (va_up I 2 v) L A B) H1 → va_S Ad H0 H1 locs1 → W p l e R s m args below meth c H1 locs1 cells slots Q (F0 m (pc + 3) ls rest)) : W p l e R s m args below meth c H locs cells slots Q (F0 m pc ls (.int v :: .ref (ad 2) :: rest)) :=
  va_put (T := TX6) hx hb hT inlX6 tyX6 tyX6_ok nmX6 hown hK hP (wl_D hAd) hS 2 he_X6 rfl 2 (by decide) hlink (fun _ h => h) rfl rfl rfl rfl (Nat.le_of_ble_eq_true rfl) hdg (fun H1 locs1 hP1 _ hS1 => kk H1 locs1 (Eq.mp (congrArg (fun w => va_P D vwCl w H1) (sw_X6_size  v)) hP1) hS1)
theorem sw_X7_size (v : Int32) : (wC cy ad I L A B).set 3 (ad 3, .inr (7, [.ref (ad 1), .ref (ad 2), .ref (ad 45), .ref (ad 46), .int v])) = wC cy ad (va_up I 3 v) L A B := wl_set (by decide) (by simp [eC, va_up]) (fun j hj hn => eC_cong (fun q hq => va_up_ne _ _ (by omega)) rfl rfl rfl)
theorem pC_X7_size (hAd : adok 103 Ad ad) (hx : p.tables.exec = Jvm.exec) (hb : c.code = cc) (hT : ∀ w ∈ BW, w.before args s = true) (hown : s.vm.findClass own = some m.cls) (hK : va_K D vwCl (tysA cy) s) (hP : va_P D vwCl (wC cy ad I L A B) H) (hS : va_S Ad H0 H locs) {v : Int32} (hlink : (Cond.fieldLink own idx "DrillCount$Sieve" "size" "I").before args s = true) (hdg : decode cc pc = .ok (.putfield idx, 3)) (kk : ∀ (H1 : Heap) (locs1 : List Loc), va_P D vwCl (wC cy ad (va_up I 3 v) L A B) H1 → va_S Ad H0 H1 locs1 → W p l e R s m args below meth c H1 locs1 cells slots Q (F0 m (pc + 3) ls rest)) : W p l e R s m args below meth c H locs cells slots Q (F0 m pc ls (.int v :: .ref (ad 3) :: rest)) :=
  va_put (T := TX7) hx hb hT inlX7 tyX7 tyX7_ok nmX7 hown hK hP (wl_D hAd) hS 3 he_X7 rfl 4 (by decide) hlink (fun _ h => h) rfl rfl rfl rfl (Nat.le_of_ble_eq_true rfl) hdg (fun H1 locs1 hP1 _ hS1 => kk H1 locs1 (Eq.mp (congrArg (fun w => va_P D vwCl w H1) (sw_X7_size  v)) hP1) hS1)
theorem sw_X8_next (v : Int32) : (wC cy ad I L A B).set 4 (ad 4, .inr (8, [.ref (ad 47), .ref (ad 48), .int v, .int (I 4)])) = wC cy ad (va_up I 0 v) L A B := wl_set (by decide) (by simp [eC, va_up]) (fun j hj hn => eC_cong (fun q hq => va_up_ne _ _ (by omega)) rfl rfl rfl)
theorem pC_X8_next (hAd : adok 103 Ad ad) (hx : p.tables.exec = Jvm.exec) (hb : c.code = cc) (hT : ∀ w ∈ BW, w.before args s = true) (hown : s.vm.findClass own = some m.cls) (hK : va_K D vwCl (tysA cy) s) (hP : va_P D vwCl (wC cy ad I L A B) H) (hS : va_S Ad H0 H locs) {v : Int32} (hlink : (Cond.fieldLink own idx "DrillCount$Trail" "next" "I").before args s = true) (hdg : decode cc pc = .ok (.putfield idx, 3)) (kk : ∀ (H1 : Heap) (locs1 : List Loc), va_P D vwCl (wC cy ad (va_up I 0 v) L A B) H1 → va_S Ad H0 H1 locs1 → W p l e R s m args below meth c H1 locs1 cells slots Q (F0 m (pc + 3) ls rest)) : W p l e R s m args below meth c H locs cells slots Q (F0 m pc ls (.int v :: .ref (ad 4) :: rest)) :=
  va_put (T := TX8) hx hb hT inlX8 tyX8 tyX8_ok nmX8 hown hK hP (wl_D hAd) hS 4 he_X8 rfl 2 (by decide) hlink (fun _ h => h) rfl rfl rfl rfl (Nat.le_of_ble_eq_true rfl) hdg (fun H1 locs1 hP1 _ hS1 => kk H1 locs1 (Eq.mp (congrArg (fun w => va_P D vwCl w H1) (sw_X8_next  v)) hP1) hS1)
theorem sw_X8_size (v : Int32) : (wC cy ad I L A B).set 4 (ad 4, .inr (8, [.ref (ad 47), .ref (ad 48), .int (I 0), .int v])) = wC cy ad (va_up I 4 v) L A B := wl_set (by decide) (by simp [eC, va_up]) (fun j hj hn => eC_cong (fun q hq => va_up_ne _ _ (by omega)) rfl rfl rfl)
theorem pC_X8_size (hAd : adok 103 Ad ad) (hx : p.tables.exec = Jvm.exec) (hb : c.code = cc) (hT : ∀ w ∈ BW, w.before args s = true) (hown : s.vm.findClass own = some m.cls) (hK : va_K D vwCl (tysA cy) s) (hP : va_P D vwCl (wC cy ad I L A B) H) (hS : va_S Ad H0 H locs) {v : Int32} (hlink : (Cond.fieldLink own idx "DrillCount$Trail" "size" "I").before args s = true) (hdg : decode cc pc = .ok (.putfield idx, 3)) (kk : ∀ (H1 : Heap) (locs1 : List Loc), va_P D vwCl (wC cy ad (va_up I 4 v) L A B) H1 → va_S Ad H0 H1 locs1 → W p l e R s m args below meth c H1 locs1 cells slots Q (F0 m (pc + 3) ls rest)) : W p l e R s m args below meth c H locs cells slots Q (F0 m pc ls (.int v :: .ref (ad 4) :: rest)) :=
  va_put (T := TX8) hx hb hT inlX8 tyX8 tyX8_ok nmX8 hown hK hP (wl_D hAd) hS 4 he_X8 rfl 3 (by decide) hlink (fun _ h => h) rfl rfl rfl rfl (Nat.le_of_ble_eq_true rfl) hdg (fun H1 locs1 hP1 _ hS1 => kk H1 locs1 (Eq.mp (congrArg (fun w => va_P D vwCl w H1) (sw_X8_size  v)) hP1) hS1)
theorem sw_X4_size (v : Int32) : (wC cy ad I L A B).set 5 (ad 5, .inr (4, [.ref (ad 49), .int v])) = wC cy ad (va_up I 5 v) L A B := wl_set (by decide) (by simp [eC, va_up]) (fun j hj hn => eC_cong (fun q hq => va_up_ne _ _ (by omega)) rfl rfl rfl)
theorem pC_X4_size (hAd : adok 103 Ad ad) (hx : p.tables.exec = Jvm.exec) (hb : c.code = cc) (hT : ∀ w ∈ BW, w.before args s = true) (hown : s.vm.findClass own = some m.cls) (hK : va_K D vwCl (tysA cy) s) (hP : va_P D vwCl (wC cy ad I L A B) H) (hS : va_S Ad H0 H locs) {v : Int32} (hlink : (Cond.fieldLink own idx "DrillCount$Row" "size" "I").before args s = true) (hdg : decode cc pc = .ok (.putfield idx, 3)) (kk : ∀ (H1 : Heap) (locs1 : List Loc), va_P D vwCl (wC cy ad (va_up I 5 v) L A B) H1 → va_S Ad H0 H1 locs1 → W p l e R s m args below meth c H1 locs1 cells slots Q (F0 m (pc + 3) ls rest)) : W p l e R s m args below meth c H locs cells slots Q (F0 m pc ls (.int v :: .ref (ad 5) :: rest)) :=
  va_put (T := TX4) hx hb hT inlX4 tyX4 tyX4_ok nmX4 hown hK hP (wl_D hAd) hS 5 he_X4 rfl 1 (by decide) hlink (fun _ h => h) rfl rfl rfl rfl (Nat.le_of_ble_eq_true rfl) hdg (fun H1 locs1 hP1 _ hS1 => kk H1 locs1 (Eq.mp (congrArg (fun w => va_P D vwCl w H1) (sw_X4_size  v)) hP1) hS1)
theorem sw_X1_size (v : Int32) : (wC cy ad I L A B).set 6 (ad 6, .inr (1, [.ref (ad 50), .ref (ad 51), .ref (ad 52), .ref (ad 53), .int v])) = wC cy ad (va_up I 6 v) L A B := wl_set (by decide) (by simp [eC, va_up]) (fun j hj hn => eC_cong (fun q hq => va_up_ne _ _ (by omega)) rfl rfl rfl)
theorem pC_X1_size (hAd : adok 103 Ad ad) (hx : p.tables.exec = Jvm.exec) (hb : c.code = cc) (hT : ∀ w ∈ BW, w.before args s = true) (hown : s.vm.findClass own = some m.cls) (hK : va_K D vwCl (tysA cy) s) (hP : va_P D vwCl (wC cy ad I L A B) H) (hS : va_S Ad H0 H locs) {v : Int32} (hlink : (Cond.fieldLink own idx "DrillCount$Covering" "size" "I").before args s = true) (hdg : decode cc pc = .ok (.putfield idx, 3)) (kk : ∀ (H1 : Heap) (locs1 : List Loc), va_P D vwCl (wC cy ad (va_up I 6 v) L A B) H1 → va_S Ad H0 H1 locs1 → W p l e R s m args below meth c H1 locs1 cells slots Q (F0 m (pc + 3) ls rest)) : W p l e R s m args below meth c H locs cells slots Q (F0 m pc ls (.int v :: .ref (ad 6) :: rest)) :=
  va_put (T := TX1) hx hb hT inlX1 tyX1 tyX1_ok nmX1 hown hK hP (wl_D hAd) hS 6 he_X1 rfl 4 (by decide) hlink (fun _ h => h) rfl rfl rfl rfl (Nat.le_of_ble_eq_true rfl) hdg (fun H1 locs1 hP1 _ hS1 => kk H1 locs1 (Eq.mp (congrArg (fun w => va_P D vwCl w H1) (sw_X1_size  v)) hP1) hS1)
theorem sw_X3_size (hk : 7 ≤ k ∧ k < 9) (v : Int32) : (wC cy ad I L A B).set k (ad k, .inr (3, [.ref (ad (k + 34)), .ref (ad (k + 36)), .int v])) = wC cy ad (va_up I k v) L A B := wl_set (by omega) (by rw [eC_X3 hk, va_up_self]) (fun j hj hn => eC_cong (fun q hq => va_up_ne _ _ (by omega)) rfl rfl rfl)
theorem pC_X3_size (hk : 7 ≤ k ∧ k < 9) (hAd : adok 103 Ad ad) (hx : p.tables.exec = Jvm.exec) (hb : c.code = cc) (hT : ∀ w ∈ BW, w.before args s = true) (hown : s.vm.findClass own = some m.cls) (hK : va_K D vwCl (tysA cy) s) (hP : va_P D vwCl (wC cy ad I L A B) H) (hS : va_S Ad H0 H locs) {v : Int32} (hlink : (Cond.fieldLink own idx "DrillCount$Ranking" "size" "I").before args s = true) (hdg : decode cc pc = .ok (.putfield idx, 3)) (kk : ∀ (H1 : Heap) (locs1 : List Loc), va_P D vwCl (wC cy ad (va_up I k v) L A B) H1 → va_S Ad H0 H1 locs1 → W p l e R s m args below meth c H1 locs1 cells slots Q (F0 m (pc + 3) ls rest)) : W p l e R s m args below meth c H locs cells slots Q (F0 m pc ls (.int v :: .ref (ad k) :: rest)) :=
  va_put (T := TX3) hx hb hT inlX3 tyX3 tyX3_ok nmX3 hown hK hP (wl_D hAd) hS k (he_X3 hk) rfl 2 (by decide) hlink (fun _ h => h) rfl rfl rfl rfl (Nat.le_of_ble_eq_true rfl) hdg (fun H1 locs1 hP1 _ hS1 => kk H1 locs1 (Eq.mp (congrArg (fun w => va_P D vwCl w H1) (sw_X3_size hk v)) hP1) hS1)
theorem sw_X0_kind (hk : 9 ≤ k ∧ k < 14) (v : Int32) : (wC cy ad I L A B).set k (ad k, .inr (0, [.int v, .ref (ad (k + 5)), .ref (ad (k + 45)), .long (L k)])) = wC cy ad (va_up I k v) L A B := wl_set (by omega) (by rw [eC_X0 hk, va_up_self]) (fun j hj hn => eC_cong (fun q hq => va_up_ne _ _ (by omega)) rfl rfl rfl)
theorem pC_X0_kind (hk : 9 ≤ k ∧ k < 14) (hAd : adok 103 Ad ad) (hx : p.tables.exec = Jvm.exec) (hb : c.code = cc) (hT : ∀ w ∈ BW, w.before args s = true) (hown : s.vm.findClass own = some m.cls) (hK : va_K D vwCl (tysA cy) s) (hP : va_P D vwCl (wC cy ad I L A B) H) (hS : va_S Ad H0 H locs) {v : Int32} (hlink : (Cond.fieldLink own idx "DrillCount$Axis" "kind" "I").before args s = true) (hdg : decode cc pc = .ok (.putfield idx, 3)) (kk : ∀ (H1 : Heap) (locs1 : List Loc), va_P D vwCl (wC cy ad (va_up I k v) L A B) H1 → va_S Ad H0 H1 locs1 → W p l e R s m args below meth c H1 locs1 cells slots Q (F0 m (pc + 3) ls rest)) : W p l e R s m args below meth c H locs cells slots Q (F0 m pc ls (.int v :: .ref (ad k) :: rest)) :=
  va_put (T := TX0) hx hb hT inlX0 tyX0 tyX0_ok nmX0 hown hK hP (wl_D hAd) hS k (he_X0 hk) rfl 0 (by decide) hlink (fun _ h => h) rfl rfl rfl rfl (Nat.le_of_ble_eq_true rfl) hdg (fun H1 locs1 hP1 _ hS1 => kk H1 locs1 (Eq.mp (congrArg (fun w => va_P D vwCl w H1) (sw_X0_kind hk v)) hP1) hS1)
theorem sw_X0_numbered (hk : 9 ≤ k ∧ k < 14) (v : Int64) : (wC cy ad I L A B).set k (ad k, .inr (0, [.int (I k), .ref (ad (k + 5)), .ref (ad (k + 45)), .long v])) = wC cy ad I (va_up L k v) A B := wl_set (by omega) (by rw [eC_X0 hk, va_up_self]) (fun j hj hn => eC_cong (fun q hq => rfl) (va_up_ne _ _ (by omega)) rfl rfl)
theorem pC_X0_numbered (hk : 9 ≤ k ∧ k < 14) (hAd : adok 103 Ad ad) (hx : p.tables.exec = Jvm.exec) (hb : c.code = cc) (hT : ∀ w ∈ BW, w.before args s = true) (hown : s.vm.findClass own = some m.cls) (hK : va_K D vwCl (tysA cy) s) (hP : va_P D vwCl (wC cy ad I L A B) H) (hS : va_S Ad H0 H locs) {v : Int64} (hlink : (Cond.fieldLink own idx "DrillCount$Axis" "numbered" "J").before args s = true) (hdg : decode cc pc = .ok (.putfield idx, 3)) (kk : ∀ (H1 : Heap) (locs1 : List Loc), va_P D vwCl (wC cy ad I (va_up L k v) A B) H1 → va_S Ad H0 H1 locs1 → W p l e R s m args below meth c H1 locs1 cells slots Q (F0 m (pc + 3) ls rest)) : W p l e R s m args below meth c H locs cells slots Q (F0 m pc ls (.long v :: .ref (ad k) :: rest)) :=
  va_put (T := TX0) hx hb hT inlX0 tyX0 tyX0_ok nmX0 hown hK hP (wl_D hAd) hS k (he_X0 hk) rfl 3 (by decide) hlink (fun _ h => h) rfl rfl rfl rfl (Nat.le_of_ble_eq_true rfl) hdg (fun H1 locs1 hP1 _ hS1 => kk H1 locs1 (Eq.mp (congrArg (fun w => va_P D vwCl w H1) (sw_X0_numbered hk v)) hP1) hS1)
theorem sw_X5_categories (hk : 14 ≤ k ∧ k < 36) (v : Int64) : (wC cy ad I L A B).set k (ad k, .inr (5, [.long v, .int (I k), .int (I (k + 22)), .ref (ad (k + 45)), .ref (ad (k + 67))])) = wC cy ad I (va_up L k v) A B := wl_set (by omega) (by rw [eC_X5 hk, va_up_self]) (fun j hj hn => eC_cong (fun q hq => rfl) (va_up_ne _ _ (by omega)) rfl rfl)
theorem pC_X5_categories (hk : 14 ≤ k ∧ k < 36) (hAd : adok 103 Ad ad) (hx : p.tables.exec = Jvm.exec) (hb : c.code = cc) (hT : ∀ w ∈ BW, w.before args s = true) (hown : s.vm.findClass own = some m.cls) (hK : va_K D vwCl (tysA cy) s) (hP : va_P D vwCl (wC cy ad I L A B) H) (hS : va_S Ad H0 H locs) {v : Int64} (hlink : (Cond.fieldLink own idx "DrillCount$Selection" "categories" "J").before args s = true) (hdg : decode cc pc = .ok (.putfield idx, 3)) (kk : ∀ (H1 : Heap) (locs1 : List Loc), va_P D vwCl (wC cy ad I (va_up L k v) A B) H1 → va_S Ad H0 H1 locs1 → W p l e R s m args below meth c H1 locs1 cells slots Q (F0 m (pc + 3) ls rest)) : W p l e R s m args below meth c H locs cells slots Q (F0 m pc ls (.long v :: .ref (ad k) :: rest)) :=
  va_put (T := TX5) hx hb hT inlX5 tyX5 tyX5_ok nmX5 hown hK hP (wl_D hAd) hS k (he_X5 hk) rfl 0 (by decide) hlink (fun _ h => h) rfl rfl rfl rfl (Nat.le_of_ble_eq_true rfl) hdg (fun H1 locs1 hP1 _ hS1 => kk H1 locs1 (Eq.mp (congrArg (fun w => va_P D vwCl w H1) (sw_X5_categories hk v)) hP1) hS1)
theorem sw_X5_absent (hk : 14 ≤ k ∧ k < 36) (v : Int32) : (wC cy ad I L A B).set k (ad k, .inr (5, [.long (L k), .int v, .int (I (k + 22)), .ref (ad (k + 45)), .ref (ad (k + 67))])) = wC cy ad (va_up I k v) L A B := wl_set (by omega) (by rw [eC_X5 hk]; simp only [va_up_self, va_up_ne _ _ (show k + 22 ≠ k by omega), va_up_ne _ _ (show k ≠ k + 22 by omega)]) (fun j hj hn => eC_cong (fun q hq => va_up_ne _ _ (by omega)) rfl rfl rfl)
theorem pC_X5_absent (hk : 14 ≤ k ∧ k < 36) (hAd : adok 103 Ad ad) (hx : p.tables.exec = Jvm.exec) (hb : c.code = cc) (hT : ∀ w ∈ BW, w.before args s = true) (hown : s.vm.findClass own = some m.cls) (hK : va_K D vwCl (tysA cy) s) (hP : va_P D vwCl (wC cy ad I L A B) H) (hS : va_S Ad H0 H locs) {v : Int32} (hz : zb v) (hlink : (Cond.fieldLink own idx "DrillCount$Selection" "absent" "Z").before args s = true) (hdg : decode cc pc = .ok (.putfield idx, 3)) (kk : ∀ (H1 : Heap) (locs1 : List Loc), va_P D vwCl (wC cy ad (va_up I k v) L A B) H1 → va_S Ad H0 H1 locs1 → W p l e R s m args below meth c H1 locs1 cells slots Q (F0 m (pc + 3) ls rest)) : W p l e R s m args below meth c H locs cells slots Q (F0 m pc ls (.int v :: .ref (ad k) :: rest)) :=
  va_put (T := TX5) hx hb hT inlX5 tyX5 tyX5_ok nmX5 hown hK hP (wl_D hAd) hS k (he_X5 hk) rfl 1 (by decide) hlink (fun _ h => h) rfl rfl (zb_n hz) (zb_f hz) (Nat.le_of_ble_eq_true rfl) hdg (fun H1 locs1 hP1 _ hS1 => kk H1 locs1 (Eq.mp (congrArg (fun w => va_P D vwCl w H1) (sw_X5_absent hk v)) hP1) hS1)
theorem sw_X5_ranges (hk : 14 ≤ k ∧ k < 36) (v : Int32) : (wC cy ad I L A B).set k (ad k, .inr (5, [.long (L k), .int (I k), .int v, .ref (ad (k + 45)), .ref (ad (k + 67))])) = wC cy ad (va_up I (k + 22) v) L A B := wl_set (by omega) (by rw [eC_X5 hk]; simp only [va_up_self, va_up_ne _ _ (show k + 22 ≠ k by omega), va_up_ne _ _ (show k ≠ k + 22 by omega)]) (fun j hj hn => eC_cong (fun q hq => va_up_ne _ _ (by omega)) rfl rfl rfl)
theorem pC_X5_ranges (hk : 14 ≤ k ∧ k < 36) (hAd : adok 103 Ad ad) (hx : p.tables.exec = Jvm.exec) (hb : c.code = cc) (hT : ∀ w ∈ BW, w.before args s = true) (hown : s.vm.findClass own = some m.cls) (hK : va_K D vwCl (tysA cy) s) (hP : va_P D vwCl (wC cy ad I L A B) H) (hS : va_S Ad H0 H locs) {v : Int32} (hlink : (Cond.fieldLink own idx "DrillCount$Selection" "ranges" "I").before args s = true) (hdg : decode cc pc = .ok (.putfield idx, 3)) (kk : ∀ (H1 : Heap) (locs1 : List Loc), va_P D vwCl (wC cy ad (va_up I (k + 22) v) L A B) H1 → va_S Ad H0 H1 locs1 → W p l e R s m args below meth c H1 locs1 cells slots Q (F0 m (pc + 3) ls rest)) : W p l e R s m args below meth c H locs cells slots Q (F0 m pc ls (.int v :: .ref (ad k) :: rest)) :=
  va_put (T := TX5) hx hb hT inlX5 tyX5 tyX5_ok nmX5 hown hK hP (wl_D hAd) hS k (he_X5 hk) rfl 2 (by decide) hlink (fun _ h => h) rfl rfl rfl rfl (Nat.le_of_ble_eq_true rfl) hdg (fun H1 locs1 hP1 _ hS1 => kk H1 locs1 (Eq.mp (congrArg (fun w => va_P D vwCl w H1) (sw_X5_ranges hk v)) hP1) hS1)
theorem sw_X10_thrown (v : Int32) : (wM cy ad I A).set 0 (ad 0, .inr (10, [.int v, .int (I 1), .int (I 2), .int (I 3), .ref (ad 1), .ref (ad 2), .ref (ad 3), .ref (ad 4), .ref (ad 5), .ref (ad 6), .ref (ad 7), .ref (ad 8), .ref (ad 9), .int (I 4), .ref (ad 10), .ref (ad 11), .int (I 5), .ref (ad 12), .int (I 6), .ref (ad 13), .ref (ad 14), .ref (ad 15)])) = wM cy ad (va_up I 0 v) A := wl_set (by decide) (by simp [eM, va_up]) (fun j hj hn => eM_cong (fun h => absurd h hn) rfl)
theorem pM_X10_thrown (hAd : adok 16 Ad ad) (hx : p.tables.exec = Jvm.exec) (hb : c.code = cc) (hT : ∀ w ∈ BW, w.before args s = true) (hown : s.vm.findClass own = some m.cls) (hK : va_K D vwCl (tysA cy) s) (hP : va_P D vwCl (wM cy ad I A) H) (hS : va_S Ad H0 H locs) {v : Int32} (hlink : (Cond.fieldLink own idx "DrillCountModel" "thrown" "I").before args s = true) (hdg : decode cc pc = .ok (.putfield idx, 3)) (kk : ∀ (H1 : Heap) (locs1 : List Loc), va_P D vwCl (wM cy ad (va_up I 0 v) A) H1 → va_S Ad H0 H1 locs1 → W p l e R s m args below meth c H1 locs1 cells slots Q (F0 m (pc + 3) ls rest)) : W p l e R s m args below meth c H locs cells slots Q (F0 m pc ls (.int v :: .ref (ad 0) :: rest)) :=
  va_put (T := TX10) hx hb hT inlX10 tyX10 tyX10_ok nmX10 hown hK hP (wl_D hAd) hS 0 he_X10 rfl 0 (by decide) hlink (fun _ h => h) rfl rfl rfl rfl (Nat.le_of_ble_eq_true rfl) hdg (fun H1 locs1 hP1 _ hS1 => kk H1 locs1 (Eq.mp (congrArg (fun w => va_P D vwCl w H1) (sw_X10_thrown v)) hP1) hS1)
theorem sw_X10_axes (v : Int32) : (wM cy ad I A).set 0 (ad 0, .inr (10, [.int (I 0), .int v, .int (I 2), .int (I 3), .ref (ad 1), .ref (ad 2), .ref (ad 3), .ref (ad 4), .ref (ad 5), .ref (ad 6), .ref (ad 7), .ref (ad 8), .ref (ad 9), .int (I 4), .ref (ad 10), .ref (ad 11), .int (I 5), .ref (ad 12), .int (I 6), .ref (ad 13), .ref (ad 14), .ref (ad 15)])) = wM cy ad (va_up I 1 v) A := wl_set (by decide) (by simp [eM, va_up]) (fun j hj hn => eM_cong (fun h => absurd h hn) rfl)
theorem pM_X10_axes (hAd : adok 16 Ad ad) (hx : p.tables.exec = Jvm.exec) (hb : c.code = cc) (hT : ∀ w ∈ BW, w.before args s = true) (hown : s.vm.findClass own = some m.cls) (hK : va_K D vwCl (tysA cy) s) (hP : va_P D vwCl (wM cy ad I A) H) (hS : va_S Ad H0 H locs) {v : Int32} (hlink : (Cond.fieldLink own idx "DrillCountModel" "axes" "I").before args s = true) (hdg : decode cc pc = .ok (.putfield idx, 3)) (kk : ∀ (H1 : Heap) (locs1 : List Loc), va_P D vwCl (wM cy ad (va_up I 1 v) A) H1 → va_S Ad H0 H1 locs1 → W p l e R s m args below meth c H1 locs1 cells slots Q (F0 m (pc + 3) ls rest)) : W p l e R s m args below meth c H locs cells slots Q (F0 m pc ls (.int v :: .ref (ad 0) :: rest)) :=
  va_put (T := TX10) hx hb hT inlX10 tyX10 tyX10_ok nmX10 hown hK hP (wl_D hAd) hS 0 he_X10 rfl 1 (by decide) hlink (fun _ h => h) rfl rfl rfl rfl (Nat.le_of_ble_eq_true rfl) hdg (fun H1 locs1 hP1 _ hS1 => kk H1 locs1 (Eq.mp (congrArg (fun w => va_P D vwCl w H1) (sw_X10_axes v)) hP1) hS1)
theorem sw_X10_categories (v : Int32) : (wM cy ad I A).set 0 (ad 0, .inr (10, [.int (I 0), .int (I 1), .int v, .int (I 3), .ref (ad 1), .ref (ad 2), .ref (ad 3), .ref (ad 4), .ref (ad 5), .ref (ad 6), .ref (ad 7), .ref (ad 8), .ref (ad 9), .int (I 4), .ref (ad 10), .ref (ad 11), .int (I 5), .ref (ad 12), .int (I 6), .ref (ad 13), .ref (ad 14), .ref (ad 15)])) = wM cy ad (va_up I 2 v) A := wl_set (by decide) (by simp [eM, va_up]) (fun j hj hn => eM_cong (fun h => absurd h hn) rfl)
theorem pM_X10_categories (hAd : adok 16 Ad ad) (hx : p.tables.exec = Jvm.exec) (hb : c.code = cc) (hT : ∀ w ∈ BW, w.before args s = true) (hown : s.vm.findClass own = some m.cls) (hK : va_K D vwCl (tysA cy) s) (hP : va_P D vwCl (wM cy ad I A) H) (hS : va_S Ad H0 H locs) {v : Int32} (hlink : (Cond.fieldLink own idx "DrillCountModel" "categories" "I").before args s = true) (hdg : decode cc pc = .ok (.putfield idx, 3)) (kk : ∀ (H1 : Heap) (locs1 : List Loc), va_P D vwCl (wM cy ad (va_up I 2 v) A) H1 → va_S Ad H0 H1 locs1 → W p l e R s m args below meth c H1 locs1 cells slots Q (F0 m (pc + 3) ls rest)) : W p l e R s m args below meth c H locs cells slots Q (F0 m pc ls (.int v :: .ref (ad 0) :: rest)) :=
  va_put (T := TX10) hx hb hT inlX10 tyX10 tyX10_ok nmX10 hown hK hP (wl_D hAd) hS 0 he_X10 rfl 2 (by decide) hlink (fun _ h => h) rfl rfl rfl rfl (Nat.le_of_ble_eq_true rfl) hdg (fun H1 locs1 hP1 _ hS1 => kk H1 locs1 (Eq.mp (congrArg (fun w => va_P D vwCl w H1) (sw_X10_categories v)) hP1) hS1)
theorem sw_X10_documents (v : Int32) : (wM cy ad I A).set 0 (ad 0, .inr (10, [.int (I 0), .int (I 1), .int (I 2), .int v, .ref (ad 1), .ref (ad 2), .ref (ad 3), .ref (ad 4), .ref (ad 5), .ref (ad 6), .ref (ad 7), .ref (ad 8), .ref (ad 9), .int (I 4), .ref (ad 10), .ref (ad 11), .int (I 5), .ref (ad 12), .int (I 6), .ref (ad 13), .ref (ad 14), .ref (ad 15)])) = wM cy ad (va_up I 3 v) A := wl_set (by decide) (by simp [eM, va_up]) (fun j hj hn => eM_cong (fun h => absurd h hn) rfl)
theorem pM_X10_documents (hAd : adok 16 Ad ad) (hx : p.tables.exec = Jvm.exec) (hb : c.code = cc) (hT : ∀ w ∈ BW, w.before args s = true) (hown : s.vm.findClass own = some m.cls) (hK : va_K D vwCl (tysA cy) s) (hP : va_P D vwCl (wM cy ad I A) H) (hS : va_S Ad H0 H locs) {v : Int32} (hlink : (Cond.fieldLink own idx "DrillCountModel" "documents" "I").before args s = true) (hdg : decode cc pc = .ok (.putfield idx, 3)) (kk : ∀ (H1 : Heap) (locs1 : List Loc), va_P D vwCl (wM cy ad (va_up I 3 v) A) H1 → va_S Ad H0 H1 locs1 → W p l e R s m args below meth c H1 locs1 cells slots Q (F0 m (pc + 3) ls rest)) : W p l e R s m args below meth c H locs cells slots Q (F0 m pc ls (.int v :: .ref (ad 0) :: rest)) :=
  va_put (T := TX10) hx hb hT inlX10 tyX10 tyX10_ok nmX10 hown hK hP (wl_D hAd) hS 0 he_X10 rfl 3 (by decide) hlink (fun _ h => h) rfl rfl rfl rfl (Nat.le_of_ble_eq_true rfl) hdg (fun H1 locs1 hP1 _ hS1 => kk H1 locs1 (Eq.mp (congrArg (fun w => va_P D vwCl w H1) (sw_X10_documents v)) hP1) hS1)
theorem sw_X10_backs (v : Int32) : (wM cy ad I A).set 0 (ad 0, .inr (10, [.int (I 0), .int (I 1), .int (I 2), .int (I 3), .ref (ad 1), .ref (ad 2), .ref (ad 3), .ref (ad 4), .ref (ad 5), .ref (ad 6), .ref (ad 7), .ref (ad 8), .ref (ad 9), .int v, .ref (ad 10), .ref (ad 11), .int (I 5), .ref (ad 12), .int (I 6), .ref (ad 13), .ref (ad 14), .ref (ad 15)])) = wM cy ad (va_up I 4 v) A := wl_set (by decide) (by simp [eM, va_up]) (fun j hj hn => eM_cong (fun h => absurd h hn) rfl)
theorem pM_X10_backs (hAd : adok 16 Ad ad) (hx : p.tables.exec = Jvm.exec) (hb : c.code = cc) (hT : ∀ w ∈ BW, w.before args s = true) (hown : s.vm.findClass own = some m.cls) (hK : va_K D vwCl (tysA cy) s) (hP : va_P D vwCl (wM cy ad I A) H) (hS : va_S Ad H0 H locs) {v : Int32} (hlink : (Cond.fieldLink own idx "DrillCountModel" "backs" "I").before args s = true) (hdg : decode cc pc = .ok (.putfield idx, 3)) (kk : ∀ (H1 : Heap) (locs1 : List Loc), va_P D vwCl (wM cy ad (va_up I 4 v) A) H1 → va_S Ad H0 H1 locs1 → W p l e R s m args below meth c H1 locs1 cells slots Q (F0 m (pc + 3) ls rest)) : W p l e R s m args below meth c H locs cells slots Q (F0 m pc ls (.int v :: .ref (ad 0) :: rest)) :=
  va_put (T := TX10) hx hb hT inlX10 tyX10 tyX10_ok nmX10 hown hK hP (wl_D hAd) hS 0 he_X10 rfl 13 (by decide) hlink (fun _ h => h) rfl rfl rfl rfl (Nat.le_of_ble_eq_true rfl) hdg (fun H1 locs1 hP1 _ hS1 => kk H1 locs1 (Eq.mp (congrArg (fun w => va_P D vwCl w H1) (sw_X10_backs v)) hP1) hS1)
theorem sw_X10_many (v : Int32) : (wM cy ad I A).set 0 (ad 0, .inr (10, [.int (I 0), .int (I 1), .int (I 2), .int (I 3), .ref (ad 1), .ref (ad 2), .ref (ad 3), .ref (ad 4), .ref (ad 5), .ref (ad 6), .ref (ad 7), .ref (ad 8), .ref (ad 9), .int (I 4), .ref (ad 10), .ref (ad 11), .int v, .ref (ad 12), .int (I 6), .ref (ad 13), .ref (ad 14), .ref (ad 15)])) = wM cy ad (va_up I 5 v) A := wl_set (by decide) (by simp [eM, va_up]) (fun j hj hn => eM_cong (fun h => absurd h hn) rfl)
theorem pM_X10_many (hAd : adok 16 Ad ad) (hx : p.tables.exec = Jvm.exec) (hb : c.code = cc) (hT : ∀ w ∈ BW, w.before args s = true) (hown : s.vm.findClass own = some m.cls) (hK : va_K D vwCl (tysA cy) s) (hP : va_P D vwCl (wM cy ad I A) H) (hS : va_S Ad H0 H locs) {v : Int32} (hlink : (Cond.fieldLink own idx "DrillCountModel" "many" "I").before args s = true) (hdg : decode cc pc = .ok (.putfield idx, 3)) (kk : ∀ (H1 : Heap) (locs1 : List Loc), va_P D vwCl (wM cy ad (va_up I 5 v) A) H1 → va_S Ad H0 H1 locs1 → W p l e R s m args below meth c H1 locs1 cells slots Q (F0 m (pc + 3) ls rest)) : W p l e R s m args below meth c H locs cells slots Q (F0 m pc ls (.int v :: .ref (ad 0) :: rest)) :=
  va_put (T := TX10) hx hb hT inlX10 tyX10 tyX10_ok nmX10 hown hK hP (wl_D hAd) hS 0 he_X10 rfl 16 (by decide) hlink (fun _ h => h) rfl rfl rfl rfl (Nat.le_of_ble_eq_true rfl) hdg (fun H1 locs1 hP1 _ hS1 => kk H1 locs1 (Eq.mp (congrArg (fun w => va_P D vwCl w H1) (sw_X10_many v)) hP1) hS1)
theorem sw_X10_numbered (v : Int32) : (wM cy ad I A).set 0 (ad 0, .inr (10, [.int (I 0), .int (I 1), .int (I 2), .int (I 3), .ref (ad 1), .ref (ad 2), .ref (ad 3), .ref (ad 4), .ref (ad 5), .ref (ad 6), .ref (ad 7), .ref (ad 8), .ref (ad 9), .int (I 4), .ref (ad 10), .ref (ad 11), .int (I 5), .ref (ad 12), .int v, .ref (ad 13), .ref (ad 14), .ref (ad 15)])) = wM cy ad (va_up I 6 v) A := wl_set (by decide) (by simp [eM, va_up]) (fun j hj hn => eM_cong (fun h => absurd h hn) rfl)
theorem pM_X10_numbered (hAd : adok 16 Ad ad) (hx : p.tables.exec = Jvm.exec) (hb : c.code = cc) (hT : ∀ w ∈ BW, w.before args s = true) (hown : s.vm.findClass own = some m.cls) (hK : va_K D vwCl (tysA cy) s) (hP : va_P D vwCl (wM cy ad I A) H) (hS : va_S Ad H0 H locs) {v : Int32} (hlink : (Cond.fieldLink own idx "DrillCountModel" "numbered" "I").before args s = true) (hdg : decode cc pc = .ok (.putfield idx, 3)) (kk : ∀ (H1 : Heap) (locs1 : List Loc), va_P D vwCl (wM cy ad (va_up I 6 v) A) H1 → va_S Ad H0 H1 locs1 → W p l e R s m args below meth c H1 locs1 cells slots Q (F0 m (pc + 3) ls rest)) : W p l e R s m args below meth c H locs cells slots Q (F0 m pc ls (.int v :: .ref (ad 0) :: rest)) :=
  va_put (T := TX10) hx hb hT inlX10 tyX10 tyX10_ok nmX10 hown hK hP (wl_D hAd) hS 0 he_X10 rfl 18 (by decide) hlink (fun _ h => h) rfl rfl rfl rfl (Nat.le_of_ble_eq_true rfl) hdg (fun H1 locs1 hP1 _ hS1 => kk H1 locs1 (Eq.mp (congrArg (fun w => va_P D vwCl w H1) (sw_X10_numbered v)) hP1) hS1)
theorem lC_I (hx : p.tables.exec = Jvm.exec) (hb : c.code = cc) (hK : va_K D vwCl (tysA cy) s) (hP : va_P D vwCl (wC cy ad I L A B) H) {n : Nat} (hk : k < 103) (he : eC cy ad I L A B k = .inl (cy 0, n, .inl (A k))) {i : Int32} (hin : vp_in i n) (hdg : decode cc pc = .ok (.iaload, 1)) (kk : W p l e R s m args below meth c H locs cells slots Q (F0 m (pc + 1) ls (.int (A k i.toNatClampNeg) :: rest))) : W p l e R s m args below meth c H locs cells slots Q (F0 m pc ls (.int i :: .ref (ad k) :: rest)) :=
  va_iald hx hb hK hP k 0 (by rw [wC_get hk, he]) rfl hin hdg kk
theorem lC_J (hx : p.tables.exec = Jvm.exec) (hb : c.code = cc) (hK : va_K D vwCl (tysA cy) s) (hP : va_P D vwCl (wC cy ad I L A B) H) {n : Nat} (hk : k < 103) (he : eC cy ad I L A B k = .inl (cy 1, n, .inr (.inl (B k)))) {i : Int32} (hin : vp_in i n) (hdg : decode cc pc = .ok (.laload, 1)) (kk : W p l e R s m args below meth c H locs cells slots Q (F0 m (pc + 1) ls (.long (B k i.toNatClampNeg) :: rest))) : W p l e R s m args below meth c H locs cells slots Q (F0 m pc ls (.int i :: .ref (ad k) :: rest)) :=
  va_lald hx hb hK hP k 1 (by rw [wC_get hk, he]) rfl hin hdg kk
theorem lC_X (hx : p.tables.exec = Jvm.exec) (hb : c.code = cc) (hK : va_K D vwCl (tysA cy) s) (hP : va_P D vwCl (wC cy ad I L A B) H) {i : Int32} (hin : vp_in i 5) (hdg : decode cc pc = .ok (.aaload, 1)) (kk : W p l e R s m args below meth c H locs cells slots Q (F0 m (pc + 1) ls (.ref (ad (9 + i.toNatClampNeg)) :: rest))) : W p l e R s m args below meth c H locs cells slots Q (F0 m pc ls (.int i :: .ref (ad 45) :: rest)) :=
  va_aldq (f := fun i => some (ad (9 + i))) hx hb hK hP 45 3 (wC_get (by decide)) rfl hin hdg kk
theorem lC_S (hx : p.tables.exec = Jvm.exec) (hb : c.code = cc) (hK : va_K D vwCl (tysA cy) s) (hP : va_P D vwCl (wC cy ad I L A B) H) {i : Int32} (hin : vp_in i 16) (hdg : decode cc pc = .ok (.aaload, 1)) (kk : W p l e R s m args below meth c H locs cells slots Q (F0 m (pc + 1) ls (.ref (ad (20 + i.toNatClampNeg)) :: rest))) : W p l e R s m args below meth c H locs cells slots Q (F0 m pc ls (.int i :: .ref (ad 48) :: rest)) :=
  va_aldq (f := fun i => some (ad (20 + i))) hx hb hK hP 48 4 (wC_get (by decide)) rfl hin hdg kk
theorem sC_I (hAd : adok 103 Ad ad) (hx : p.tables.exec = Jvm.exec) (hb : c.code = cc) (hK : va_K D vwCl (tysA cy) s) (hP : va_P D vwCl (wC cy ad I L A B) H) (hS : va_S Ad H0 H locs) {n : Nat} (hk : k < 103) (he : ∀ A', eC cy ad I L A' B k = .inl (cy 0, n, .inl (A' k))) {i x : Int32} (hin : vp_in i n) (hdg : decode cc pc = .ok (.iastore, 1)) (kk : ∀ (H1 : Heap) (locs1 : List Loc), va_P D vwCl (wC cy ad I L (va_up A k (upd (A k) i.toNatClampNeg x)) B) H1 → va_S Ad H0 H1 locs1 → W p l e R s m args below meth c H1 locs1 cells slots Q (F0 m (pc + 1) ls rest)) : W p l e R s m args below meth c H locs cells slots Q (F0 m pc ls (.int x :: .int i :: .ref (ad k) :: rest)) :=
  va_iast hx hb hK hP (wl_D hAd) hS k 0 (by rw [wC_get hk, he]) rfl hin hdg (fun H1 locs1 hP1 _ hS1 => kk H1 locs1 (Eq.mp (congrArg (fun w => va_P D vwCl w H1) (wC_setA hk he _)) hP1) hS1)
theorem sC_J (hAd : adok 103 Ad ad) (hx : p.tables.exec = Jvm.exec) (hb : c.code = cc) (hK : va_K D vwCl (tysA cy) s) (hP : va_P D vwCl (wC cy ad I L A B) H) (hS : va_S Ad H0 H locs) {n : Nat} (hk : k < 103) (he : ∀ B', eC cy ad I L A B' k = .inl (cy 1, n, .inr (.inl (B' k)))) {i : Int32} {x : Int64} (hin : vp_in i n) (hdg : decode cc pc = .ok (.lastore, 1)) (kk : ∀ (H1 : Heap) (locs1 : List Loc), va_P D vwCl (wC cy ad I L A (va_up B k (vp_updL (B k) i.toNatClampNeg x))) H1 → va_S Ad H0 H1 locs1 → W p l e R s m args below meth c H1 locs1 cells slots Q (F0 m (pc + 1) ls rest)) : W p l e R s m args below meth c H locs cells slots Q (F0 m pc ls (.long x :: .int i :: .ref (ad k) :: rest)) :=
  va_last hx hb hK hP (wl_D hAd) hS k 1 (by rw [wC_get hk, he]) rfl hin hdg (fun H1 locs1 hP1 _ hS1 => kk H1 locs1 (Eq.mp (congrArg (fun w => va_P D vwCl w H1) (wC_setB hk he _)) hP1) hS1)
theorem lM_I (hx : p.tables.exec = Jvm.exec) (hb : c.code = cc) (hK : va_K D vwCl (tysA cy) s) (hP : va_P D vwCl (wM cy ad I A) H) {n : Nat} (hk : k < 16) (he : eM cy ad I A k = .inl (cy 0, n, .inl (A k))) {i : Int32} (hin : vp_in i n) (hdg : decode cc pc = .ok (.iaload, 1)) (kk : W p l e R s m args below meth c H locs cells slots Q (F0 m (pc + 1) ls (.int (A k i.toNatClampNeg) :: rest))) : W p l e R s m args below meth c H locs cells slots Q (F0 m pc ls (.int i :: .ref (ad k) :: rest)) :=
  va_iald hx hb hK hP k 0 (by rw [wM_get hk, he]) rfl hin hdg kk
theorem lM_Z (hx : p.tables.exec = Jvm.exec) (hb : c.code = cc) (hK : va_K D vwCl (tysA cy) s) (hP : va_P D vwCl (wM cy ad I A) H) {n : Nat} (hk : k < 16) (he : eM cy ad I A k = .inl (cy 2, n, .inl (A k))) {i : Int32} (hin : vp_in i n) (hdg : decode cc pc = .ok (.baload, 1)) (kk : W p l e R s m args below meth c H locs cells slots Q (F0 m (pc + 1) ls (.int (A k i.toNatClampNeg) :: rest))) : W p l e R s m args below meth c H locs cells slots Q (F0 m pc ls (.int i :: .ref (ad k) :: rest)) :=
  va_zald hx hb hK hP k 2 (by rw [wM_get hk, he]) rfl hin hdg kk
theorem sM_I (hAd : adok 16 Ad ad) (hx : p.tables.exec = Jvm.exec) (hb : c.code = cc) (hK : va_K D vwCl (tysA cy) s) (hP : va_P D vwCl (wM cy ad I A) H) (hS : va_S Ad H0 H locs) {n : Nat} (hk : k < 16) (he : ∀ A', eM cy ad I A' k = .inl (cy 0, n, .inl (A' k))) {i x : Int32} (hin : vp_in i n) (hdg : decode cc pc = .ok (.iastore, 1)) (kk : ∀ (H1 : Heap) (locs1 : List Loc), va_P D vwCl (wM cy ad I (va_up A k (upd (A k) i.toNatClampNeg x))) H1 → va_S Ad H0 H1 locs1 → W p l e R s m args below meth c H1 locs1 cells slots Q (F0 m (pc + 1) ls rest)) : W p l e R s m args below meth c H locs cells slots Q (F0 m pc ls (.int x :: .int i :: .ref (ad k) :: rest)) :=
  va_iast hx hb hK hP (wl_D hAd) hS k 0 (by rw [wM_get hk, he]) rfl hin hdg (fun H1 locs1 hP1 _ hS1 => kk H1 locs1 (Eq.mp (congrArg (fun w => va_P D vwCl w H1) (wM_setA hk he _)) hP1) hS1)
theorem sM_Z (hAd : adok 16 Ad ad) (hx : p.tables.exec = Jvm.exec) (hb : c.code = cc) (hK : va_K D vwCl (tysA cy) s) (hP : va_P D vwCl (wM cy ad I A) H) (hS : va_S Ad H0 H locs) {n : Nat} (hk : k < 16) (he : ∀ A', eM cy ad I A' k = .inl (cy 2, n, .inl (A' k))) {i x : Int32} (hin : vp_in i n) (hdg : decode cc pc = .ok (.bastore, 1)) (kk : ∀ (H1 : Heap) (locs1 : List Loc), va_P D vwCl (wM cy ad I (va_up A k (upd (A k) i.toNatClampNeg (vp_nar .boolean x)))) H1 → va_S Ad H0 H1 locs1 → W p l e R s m args below meth c H1 locs1 cells slots Q (F0 m (pc + 1) ls rest)) : W p l e R s m args below meth c H locs cells slots Q (F0 m pc ls (.int x :: .int i :: .ref (ad k) :: rest)) :=
  va_zast hx hb hK hP (wl_D hAd) hS k 2 (by rw [wM_get hk, he]) rfl hin hdg (fun H1 locs1 hP1 _ hS1 => kk H1 locs1 (Eq.mp (congrArg (fun w => va_P D vwCl w H1) (wM_setA hk he _)) hP1) hS1)
end
abbrev qCi (D : va_G) (cy : Nat → ClassId) (ad : Nat → Nat) (Ad : Nat → Prop) (pp : Int32 → CS → Prop) : Array Value → State → Outcome → State → Prop := va_Qi pp (fun (u : CS) (t : State) => va_P D vwCl (wC cy ad u.1 u.2.1 u.2.2.1 u.2.2.2) t.heap) Ad
theorem startCi {l : Launch} {D : va_G} {cy : Nat → ClassId} {ad : Nat → Nat} {Ad : Nat → Prop} {y : MethodName} {cc : ByteArray} {maxL : Nat} {rm : Room} {av : List Value} {lv : List (Nat × Value)} {pp : Int32 → CS → Prop} {I : Nat → Int32} {L : Nat → Int64} {A : Nat → Nat → Int32} {B : Nat → Nat → Int64} (hy : plainName y.cls = true) (hn : (lg_sl av).length ≤ maxL) (hlv : lv_args 0 av = lv) (body : ∀ (p : Program) (e : Env) (s : State) (m : MethodId) (args : Array Value) (below : List Frame) (meth : Method) (c : Code) (Q : State → Prop) (ls : Array Slot), p.tables.exec = Jvm.exec → c.code = cc → c.maxLocals = maxL → (∀ w ∈ BW, w.before args s = true) → s.vm.findClass y.cls = some m.cls → kC D cy s → (∀ {pc : Nat} {ls : Array Slot} {H : Heap} {locs : List Loc} (v : Int32) (u : CS), decode cc pc = .ok (.ireturn, 1) → pp v u → va_P D vwCl (wC cy ad u.1 u.2.1 u.2.2.1 u.2.2.2) H → va_S Ad s.heap H locs → W p l e rm s m args below meth c H locs 0 0 Q (F0 m pc ls [.int v])) → lv_has ls maxL lv → va_P D vwCl (wC cy ad I L A B) s.heap → va_S Ad s.heap s.heap [] → W p l e rm s m args below meth c s.heap [] 0 0 Q (F0 m 0 ls [])) : Met l y (Cond.code y cc maxL (some .int) :: BW) rm (va_Pc av (fun U => kC D cy U ∧ va_P D vwCl (wC cy ad I L A B) U.heap)) (qCi D cy ad Ad pp) 0 0 Ad := by
  refine Met.ofW (cc := cc) (maxL := maxL) (ret := some .int) hy rfl ?_
  intro p e s m args below meth c s₁ B9 hml hv
  obtain ⟨rfl, hK, hP⟩ := hv
  have hts := atoms_spec (ws := Cond.code y cc maxL (some .int) :: BW) B9.pre
  have hlocks := B9.notSynchronized
  have hr := B9.returns
  have hl := lv_entry av (n := maxL) hn
  rw [lg_entry_eq]
  rw [hlv] at hl
  refine body p e s m av.toArray below meth c _ _ B9.exec B9.bytes hml (fun w hw => hts w (List.mem_cons_of_mem _ hw)) (findClass_of_methodNamed B9.named) hK ?_ hl hP va_S.rf
  intro pc ls H locs v u hd hp hP1 hS1
  exact W.iret B9.exec B9.bytes hr (fun t ht hW => ⟨⟨v, u, rfl, hp, by show va_P _ _ _ t.heap; rw [ht]; exact hP1⟩, hS1.F ht⟩) hS1.2.2 hd
theorem startCz {l : Launch} {D : va_G} {cy : Nat → ClassId} {ad : Nat → Nat} {Ad : Nat → Prop} {y : MethodName} {cc : ByteArray} {maxL : Nat} {rm : Room} {av : List Value} {lv : List (Nat × Value)} {pp : Int32 → CS → Prop} {I : Nat → Int32} {L : Nat → Int64} {A : Nat → Nat → Int32} {B : Nat → Nat → Int64} (hy : plainName y.cls = true) (hn : (lg_sl av).length ≤ maxL) (hlv : lv_args 0 av = lv) (body : ∀ (p : Program) (e : Env) (s : State) (m : MethodId) (args : Array Value) (below : List Frame) (meth : Method) (c : Code) (Q : State → Prop) (ls : Array Slot), p.tables.exec = Jvm.exec → c.code = cc → c.maxLocals = maxL → (∀ w ∈ BW, w.before args s = true) → s.vm.findClass y.cls = some m.cls → kC D cy s → (∀ {pc : Nat} {ls : Array Slot} {H : Heap} {locs : List Loc} (v : Int32) (u : CS), zb v → decode cc pc = .ok (.ireturn, 1) → pp v u → va_P D vwCl (wC cy ad u.1 u.2.1 u.2.2.1 u.2.2.2) H → va_S Ad s.heap H locs → W p l e rm s m args below meth c H locs 0 0 Q (F0 m pc ls [.int v])) → lv_has ls maxL lv → va_P D vwCl (wC cy ad I L A B) s.heap → va_S Ad s.heap s.heap [] → W p l e rm s m args below meth c s.heap [] 0 0 Q (F0 m 0 ls [])) : Met l y (Cond.code y cc maxL (some .boolean) :: BW) rm (va_Pc av (fun U => kC D cy U ∧ va_P D vwCl (wC cy ad I L A B) U.heap)) (qCi D cy ad Ad pp) 0 0 Ad := by
  refine Met.ofW (cc := cc) (maxL := maxL) (ret := some .boolean) hy rfl ?_
  intro p e s m args below meth c s₁ B9 hml hv
  obtain ⟨rfl, hK, hP⟩ := hv
  have hts := atoms_spec (ws := Cond.code y cc maxL (some .boolean) :: BW) B9.pre
  have hlocks := B9.notSynchronized
  have hr := B9.returns
  have hl := lv_entry av (n := maxL) hn
  rw [lg_entry_eq]
  rw [hlv] at hl
  refine body p e s m av.toArray below meth c _ _ B9.exec B9.bytes hml (fun w hw => hts w (List.mem_cons_of_mem _ hw)) (findClass_of_methodNamed B9.named) hK ?_ hl hP va_S.rf
  intro pc ls H locs v u hz hd hp hP1 hS1
  exact W.zret B9.exec B9.bytes hr (zb_n hz) (fun t ht hW => ⟨⟨v, u, rfl, hp, by show va_P _ _ _ t.heap; rw [ht]; exact hP1⟩, hS1.F ht⟩) hS1.2.2 hd
abbrev qCl (D : va_G) (cy : Nat → ClassId) (ad : Nat → Nat) (Ad : Nat → Prop) (pp : Int64 → CS → Prop) : Array Value → State → Outcome → State → Prop := va_Ql pp (fun (u : CS) (t : State) => va_P D vwCl (wC cy ad u.1 u.2.1 u.2.2.1 u.2.2.2) t.heap) Ad
theorem startCl {l : Launch} {D : va_G} {cy : Nat → ClassId} {ad : Nat → Nat} {Ad : Nat → Prop} {y : MethodName} {cc : ByteArray} {maxL : Nat} {rm : Room} {av : List Value} {lv : List (Nat × Value)} {pp : Int64 → CS → Prop} {I : Nat → Int32} {L : Nat → Int64} {A : Nat → Nat → Int32} {B : Nat → Nat → Int64} (hy : plainName y.cls = true) (hn : (lg_sl av).length ≤ maxL) (hlv : lv_args 0 av = lv) (body : ∀ (p : Program) (e : Env) (s : State) (m : MethodId) (args : Array Value) (below : List Frame) (meth : Method) (c : Code) (Q : State → Prop) (ls : Array Slot), p.tables.exec = Jvm.exec → c.code = cc → c.maxLocals = maxL → (∀ w ∈ BW, w.before args s = true) → s.vm.findClass y.cls = some m.cls → kC D cy s → (∀ {pc : Nat} {ls : Array Slot} {H : Heap} {locs : List Loc} (v : Int64) (u : CS), decode cc pc = .ok (.lreturn, 1) → pp v u → va_P D vwCl (wC cy ad u.1 u.2.1 u.2.2.1 u.2.2.2) H → va_S Ad s.heap H locs → W p l e rm s m args below meth c H locs 0 0 Q (F0 m pc ls [.long v])) → lv_has ls maxL lv → va_P D vwCl (wC cy ad I L A B) s.heap → va_S Ad s.heap s.heap [] → W p l e rm s m args below meth c s.heap [] 0 0 Q (F0 m 0 ls [])) : Met l y (Cond.code y cc maxL (some .long) :: BW) rm (va_Pc av (fun U => kC D cy U ∧ va_P D vwCl (wC cy ad I L A B) U.heap)) (qCl D cy ad Ad pp) 0 0 Ad := by
  refine Met.ofW (cc := cc) (maxL := maxL) (ret := some .long) hy rfl ?_
  intro p e s m args below meth c s₁ B9 hml hv
  obtain ⟨rfl, hK, hP⟩ := hv
  have hts := atoms_spec (ws := Cond.code y cc maxL (some .long) :: BW) B9.pre
  have hlocks := B9.notSynchronized
  have hr := B9.returns
  have hl := lv_entry av (n := maxL) hn
  rw [lg_entry_eq]
  rw [hlv] at hl
  refine body p e s m av.toArray below meth c _ _ B9.exec B9.bytes hml (fun w hw => hts w (List.mem_cons_of_mem _ hw)) (findClass_of_methodNamed B9.named) hK ?_ hl hP va_S.rf
  intro pc ls H locs v u hd hp hP1 hS1
  exact W.lret B9.exec B9.bytes hr (fun t ht hW => ⟨⟨v, u, rfl, hp, by show va_P _ _ _ t.heap; rw [ht]; exact hP1⟩, hS1.F ht⟩) hS1.2.2 hd
abbrev qCv (D : va_G) (cy : Nat → ClassId) (ad : Nat → Nat) (Ad : Nat → Prop) (pp : CS → Prop) : Array Value → State → Outcome → State → Prop := va_Qv pp (fun (u : CS) (t : State) => va_P D vwCl (wC cy ad u.1 u.2.1 u.2.2.1 u.2.2.2) t.heap) Ad
theorem startCv {l : Launch} {D : va_G} {cy : Nat → ClassId} {ad : Nat → Nat} {Ad : Nat → Prop} {y : MethodName} {cc : ByteArray} {maxL : Nat} {rm : Room} {av : List Value} {lv : List (Nat × Value)} {pp : CS → Prop} {I : Nat → Int32} {L : Nat → Int64} {A : Nat → Nat → Int32} {B : Nat → Nat → Int64} (hy : plainName y.cls = true) (hn : (lg_sl av).length ≤ maxL) (hlv : lv_args 0 av = lv) (body : ∀ (p : Program) (e : Env) (s : State) (m : MethodId) (args : Array Value) (below : List Frame) (meth : Method) (c : Code) (Q : State → Prop) (ls : Array Slot), p.tables.exec = Jvm.exec → c.code = cc → c.maxLocals = maxL → (∀ w ∈ BW, w.before args s = true) → s.vm.findClass y.cls = some m.cls → kC D cy s → (∀ {pc : Nat} {ls : Array Slot} {H : Heap} {locs : List Loc} (u : CS), decode cc pc = .ok (.return_, 1) → pp u → va_P D vwCl (wC cy ad u.1 u.2.1 u.2.2.1 u.2.2.2) H → va_S Ad s.heap H locs → W p l e rm s m args below meth c H locs 0 0 Q (F0 m pc ls [])) → lv_has ls maxL lv → va_P D vwCl (wC cy ad I L A B) s.heap → va_S Ad s.heap s.heap [] → W p l e rm s m args below meth c s.heap [] 0 0 Q (F0 m 0 ls [])) : Met l y (Cond.code y cc maxL (none) :: BW) rm (va_Pc av (fun U => kC D cy U ∧ va_P D vwCl (wC cy ad I L A B) U.heap)) (qCv D cy ad Ad pp) 0 0 Ad := by
  refine Met.ofW (cc := cc) (maxL := maxL) (ret := none) hy rfl ?_
  intro p e s m args below meth c s₁ B9 hml hv
  obtain ⟨rfl, hK, hP⟩ := hv
  have hts := atoms_spec (ws := Cond.code y cc maxL (none) :: BW) B9.pre
  have hlocks := B9.notSynchronized
  have hr := B9.returns
  have hl := lv_entry av (n := maxL) hn
  rw [lg_entry_eq]
  rw [hlv] at hl
  refine body p e s m av.toArray below meth c _ _ B9.exec B9.bytes hml (fun w hw => hts w (List.mem_cons_of_mem _ hw)) (findClass_of_methodNamed B9.named) hK ?_ hl hP va_S.rf
  intro pc ls H locs u hd hp hP1 hS1
  exact W.vret B9.exec B9.bytes hr (fun t ht hW => ⟨⟨u, rfl, hp, by show va_P _ _ _ t.heap; rw [ht]; exact hP1⟩, hS1.F ht⟩) hS1.2.2 hd
abbrev qMi (D : va_G) (cy : Nat → ClassId) (ad : Nat → Nat) (Ad : Nat → Prop) (pp : Int32 → MS → Prop) : Array Value → State → Outcome → State → Prop := va_Qi pp (fun (u : MS) (t : State) => va_P D vwCl (wM cy ad u.1 u.2) t.heap) Ad
theorem startMi {l : Launch} {D : va_G} {cy : Nat → ClassId} {ad : Nat → Nat} {Ad : Nat → Prop} {y : MethodName} {cc : ByteArray} {maxL : Nat} {rm : Room} {av : List Value} {lv : List (Nat × Value)} {pp : Int32 → MS → Prop} {I : Nat → Int32} {A : Nat → Nat → Int32} (hy : plainName y.cls = true) (hn : (lg_sl av).length ≤ maxL) (hlv : lv_args 0 av = lv) (body : ∀ (p : Program) (e : Env) (s : State) (m : MethodId) (args : Array Value) (below : List Frame) (meth : Method) (c : Code) (Q : State → Prop) (ls : Array Slot), p.tables.exec = Jvm.exec → c.code = cc → c.maxLocals = maxL → (∀ w ∈ BW, w.before args s = true) → s.vm.findClass y.cls = some m.cls → kC D cy s → (∀ {pc : Nat} {ls : Array Slot} {H : Heap} {locs : List Loc} (v : Int32) (u : MS), decode cc pc = .ok (.ireturn, 1) → pp v u → va_P D vwCl (wM cy ad u.1 u.2) H → va_S Ad s.heap H locs → W p l e rm s m args below meth c H locs 0 0 Q (F0 m pc ls [.int v])) → lv_has ls maxL lv → va_P D vwCl (wM cy ad I A) s.heap → va_S Ad s.heap s.heap [] → W p l e rm s m args below meth c s.heap [] 0 0 Q (F0 m 0 ls [])) : Met l y (Cond.code y cc maxL (some .int) :: BW) rm (va_Pc av (fun U => kC D cy U ∧ va_P D vwCl (wM cy ad I A) U.heap)) (qMi D cy ad Ad pp) 0 0 Ad := by
  refine Met.ofW (cc := cc) (maxL := maxL) (ret := some .int) hy rfl ?_
  intro p e s m args below meth c s₁ B9 hml hv
  obtain ⟨rfl, hK, hP⟩ := hv
  have hts := atoms_spec (ws := Cond.code y cc maxL (some .int) :: BW) B9.pre
  have hlocks := B9.notSynchronized
  have hr := B9.returns
  have hl := lv_entry av (n := maxL) hn
  rw [lg_entry_eq]
  rw [hlv] at hl
  refine body p e s m av.toArray below meth c _ _ B9.exec B9.bytes hml (fun w hw => hts w (List.mem_cons_of_mem _ hw)) (findClass_of_methodNamed B9.named) hK ?_ hl hP va_S.rf
  intro pc ls H locs v u hd hp hP1 hS1
  exact W.iret B9.exec B9.bytes hr (fun t ht hW => ⟨⟨v, u, rfl, hp, by show va_P _ _ _ t.heap; rw [ht]; exact hP1⟩, hS1.F ht⟩) hS1.2.2 hd
theorem startMz {l : Launch} {D : va_G} {cy : Nat → ClassId} {ad : Nat → Nat} {Ad : Nat → Prop} {y : MethodName} {cc : ByteArray} {maxL : Nat} {rm : Room} {av : List Value} {lv : List (Nat × Value)} {pp : Int32 → MS → Prop} {I : Nat → Int32} {A : Nat → Nat → Int32} (hy : plainName y.cls = true) (hn : (lg_sl av).length ≤ maxL) (hlv : lv_args 0 av = lv) (body : ∀ (p : Program) (e : Env) (s : State) (m : MethodId) (args : Array Value) (below : List Frame) (meth : Method) (c : Code) (Q : State → Prop) (ls : Array Slot), p.tables.exec = Jvm.exec → c.code = cc → c.maxLocals = maxL → (∀ w ∈ BW, w.before args s = true) → s.vm.findClass y.cls = some m.cls → kC D cy s → (∀ {pc : Nat} {ls : Array Slot} {H : Heap} {locs : List Loc} (v : Int32) (u : MS), zb v → decode cc pc = .ok (.ireturn, 1) → pp v u → va_P D vwCl (wM cy ad u.1 u.2) H → va_S Ad s.heap H locs → W p l e rm s m args below meth c H locs 0 0 Q (F0 m pc ls [.int v])) → lv_has ls maxL lv → va_P D vwCl (wM cy ad I A) s.heap → va_S Ad s.heap s.heap [] → W p l e rm s m args below meth c s.heap [] 0 0 Q (F0 m 0 ls [])) : Met l y (Cond.code y cc maxL (some .boolean) :: BW) rm (va_Pc av (fun U => kC D cy U ∧ va_P D vwCl (wM cy ad I A) U.heap)) (qMi D cy ad Ad pp) 0 0 Ad := by
  refine Met.ofW (cc := cc) (maxL := maxL) (ret := some .boolean) hy rfl ?_
  intro p e s m args below meth c s₁ B9 hml hv
  obtain ⟨rfl, hK, hP⟩ := hv
  have hts := atoms_spec (ws := Cond.code y cc maxL (some .boolean) :: BW) B9.pre
  have hlocks := B9.notSynchronized
  have hr := B9.returns
  have hl := lv_entry av (n := maxL) hn
  rw [lg_entry_eq]
  rw [hlv] at hl
  refine body p e s m av.toArray below meth c _ _ B9.exec B9.bytes hml (fun w hw => hts w (List.mem_cons_of_mem _ hw)) (findClass_of_methodNamed B9.named) hK ?_ hl hP va_S.rf
  intro pc ls H locs v u hz hd hp hP1 hS1
  exact W.zret B9.exec B9.bytes hr (zb_n hz) (fun t ht hW => ⟨⟨v, u, rfl, hp, by show va_P _ _ _ t.heap; rw [ht]; exact hP1⟩, hS1.F ht⟩) hS1.2.2 hd
abbrev qMl (D : va_G) (cy : Nat → ClassId) (ad : Nat → Nat) (Ad : Nat → Prop) (pp : Int64 → MS → Prop) : Array Value → State → Outcome → State → Prop := va_Ql pp (fun (u : MS) (t : State) => va_P D vwCl (wM cy ad u.1 u.2) t.heap) Ad
theorem startMl {l : Launch} {D : va_G} {cy : Nat → ClassId} {ad : Nat → Nat} {Ad : Nat → Prop} {y : MethodName} {cc : ByteArray} {maxL : Nat} {rm : Room} {av : List Value} {lv : List (Nat × Value)} {pp : Int64 → MS → Prop} {I : Nat → Int32} {A : Nat → Nat → Int32} (hy : plainName y.cls = true) (hn : (lg_sl av).length ≤ maxL) (hlv : lv_args 0 av = lv) (body : ∀ (p : Program) (e : Env) (s : State) (m : MethodId) (args : Array Value) (below : List Frame) (meth : Method) (c : Code) (Q : State → Prop) (ls : Array Slot), p.tables.exec = Jvm.exec → c.code = cc → c.maxLocals = maxL → (∀ w ∈ BW, w.before args s = true) → s.vm.findClass y.cls = some m.cls → kC D cy s → (∀ {pc : Nat} {ls : Array Slot} {H : Heap} {locs : List Loc} (v : Int64) (u : MS), decode cc pc = .ok (.lreturn, 1) → pp v u → va_P D vwCl (wM cy ad u.1 u.2) H → va_S Ad s.heap H locs → W p l e rm s m args below meth c H locs 0 0 Q (F0 m pc ls [.long v])) → lv_has ls maxL lv → va_P D vwCl (wM cy ad I A) s.heap → va_S Ad s.heap s.heap [] → W p l e rm s m args below meth c s.heap [] 0 0 Q (F0 m 0 ls [])) : Met l y (Cond.code y cc maxL (some .long) :: BW) rm (va_Pc av (fun U => kC D cy U ∧ va_P D vwCl (wM cy ad I A) U.heap)) (qMl D cy ad Ad pp) 0 0 Ad := by
  refine Met.ofW (cc := cc) (maxL := maxL) (ret := some .long) hy rfl ?_
  intro p e s m args below meth c s₁ B9 hml hv
  obtain ⟨rfl, hK, hP⟩ := hv
  have hts := atoms_spec (ws := Cond.code y cc maxL (some .long) :: BW) B9.pre
  have hlocks := B9.notSynchronized
  have hr := B9.returns
  have hl := lv_entry av (n := maxL) hn
  rw [lg_entry_eq]
  rw [hlv] at hl
  refine body p e s m av.toArray below meth c _ _ B9.exec B9.bytes hml (fun w hw => hts w (List.mem_cons_of_mem _ hw)) (findClass_of_methodNamed B9.named) hK ?_ hl hP va_S.rf
  intro pc ls H locs v u hd hp hP1 hS1
  exact W.lret B9.exec B9.bytes hr (fun t ht hW => ⟨⟨v, u, rfl, hp, by show va_P _ _ _ t.heap; rw [ht]; exact hP1⟩, hS1.F ht⟩) hS1.2.2 hd
abbrev qMv (D : va_G) (cy : Nat → ClassId) (ad : Nat → Nat) (Ad : Nat → Prop) (pp : MS → Prop) : Array Value → State → Outcome → State → Prop := va_Qv pp (fun (u : MS) (t : State) => va_P D vwCl (wM cy ad u.1 u.2) t.heap) Ad
theorem startMv {l : Launch} {D : va_G} {cy : Nat → ClassId} {ad : Nat → Nat} {Ad : Nat → Prop} {y : MethodName} {cc : ByteArray} {maxL : Nat} {rm : Room} {av : List Value} {lv : List (Nat × Value)} {pp : MS → Prop} {I : Nat → Int32} {A : Nat → Nat → Int32} (hy : plainName y.cls = true) (hn : (lg_sl av).length ≤ maxL) (hlv : lv_args 0 av = lv) (body : ∀ (p : Program) (e : Env) (s : State) (m : MethodId) (args : Array Value) (below : List Frame) (meth : Method) (c : Code) (Q : State → Prop) (ls : Array Slot), p.tables.exec = Jvm.exec → c.code = cc → c.maxLocals = maxL → (∀ w ∈ BW, w.before args s = true) → s.vm.findClass y.cls = some m.cls → kC D cy s → (∀ {pc : Nat} {ls : Array Slot} {H : Heap} {locs : List Loc} (u : MS), decode cc pc = .ok (.return_, 1) → pp u → va_P D vwCl (wM cy ad u.1 u.2) H → va_S Ad s.heap H locs → W p l e rm s m args below meth c H locs 0 0 Q (F0 m pc ls [])) → lv_has ls maxL lv → va_P D vwCl (wM cy ad I A) s.heap → va_S Ad s.heap s.heap [] → W p l e rm s m args below meth c s.heap [] 0 0 Q (F0 m 0 ls [])) : Met l y (Cond.code y cc maxL (none) :: BW) rm (va_Pc av (fun U => kC D cy U ∧ va_P D vwCl (wM cy ad I A) U.heap)) (qMv D cy ad Ad pp) 0 0 Ad := by
  refine Met.ofW (cc := cc) (maxL := maxL) (ret := none) hy rfl ?_
  intro p e s m args below meth c s₁ B9 hml hv
  obtain ⟨rfl, hK, hP⟩ := hv
  have hts := atoms_spec (ws := Cond.code y cc maxL (none) :: BW) B9.pre
  have hlocks := B9.notSynchronized
  have hr := B9.returns
  have hl := lv_entry av (n := maxL) hn
  rw [lg_entry_eq]
  rw [hlv] at hl
  refine body p e s m av.toArray below meth c _ _ B9.exec B9.bytes hml (fun w hw => hts w (List.mem_cons_of_mem _ hw)) (findClass_of_methodNamed B9.named) hK ?_ hl hP va_S.rf
  intro pc ls H locs u hd hp hP1 hS1
  exact W.vret B9.exec B9.bytes hr (fun t ht hW => ⟨⟨u, rfl, hp, by show va_P _ _ _ t.heap; rw [ht]; exact hP1⟩, hS1.F ht⟩) hS1.2.2 hd
abbrev qSi (pp : Int32 → Prop) : Array Value → State → Outcome → State → Prop := va_Qi (fun r (_ : Unit) => pp r) (fun _ _ => True) (fun _ => False)
theorem startSi {l : Launch} {y : MethodName} {cc : ByteArray} {maxL : Nat} {rm : Room} {av : List Value} {lv : List (Nat × Value)} {pp : Int32 → Prop} (hy : plainName y.cls = true) (hn : (lg_sl av).length ≤ maxL) (hlv : lv_args 0 av = lv) (body : ∀ (p : Program) (e : Env) (s : State) (m : MethodId) (args : Array Value) (below : List Frame) (meth : Method) (c : Code) (Q : State → Prop) (ls : Array Slot), p.tables.exec = Jvm.exec → c.code = cc → c.maxLocals = maxL → (∀ w ∈ BW, w.before args s = true) → s.vm.findClass y.cls = some m.cls → (∀ {pc : Nat} {ls : Array Slot} {H : Heap} {locs : List Loc} (v : Int32), decode cc pc = .ok (.ireturn, 1) → pp v → va_S (fun _ => False) s.heap H locs → W p l e rm s m args below meth c H locs 0 0 Q (F0 m pc ls [.int v])) → lv_has ls maxL lv → va_S (fun _ => False) s.heap s.heap [] → W p l e rm s m args below meth c s.heap [] 0 0 Q (F0 m 0 ls [])) : Met l y (Cond.code y cc maxL (some .int) :: BW) rm (va_Pc av (fun _ => True)) (qSi pp) 0 0 (fun _ => False) := by
  refine Met.ofW (cc := cc) (maxL := maxL) (ret := some .int) hy rfl ?_
  intro p e s m args below meth c s₁ B9 hml hv
  obtain ⟨rfl, -⟩ := hv
  have hts := atoms_spec (ws := Cond.code y cc maxL (some .int) :: BW) B9.pre
  have hlocks := B9.notSynchronized
  have hr := B9.returns
  have hl := lv_entry av (n := maxL) hn
  rw [lg_entry_eq]
  rw [hlv] at hl
  refine body p e s m av.toArray below meth c _ _ B9.exec B9.bytes hml (fun w hw => hts w (List.mem_cons_of_mem _ hw)) (findClass_of_methodNamed B9.named) ?_ hl va_S.rf
  intro pc ls H locs v hd hp hS1
  exact W.iret B9.exec B9.bytes hr (fun t ht hW => ⟨⟨v, (), rfl, hp, trivial⟩, hS1.F ht⟩) hS1.2.2 hd
theorem startSz {l : Launch} {y : MethodName} {cc : ByteArray} {maxL : Nat} {rm : Room} {av : List Value} {lv : List (Nat × Value)} {pp : Int32 → Prop} (hy : plainName y.cls = true) (hn : (lg_sl av).length ≤ maxL) (hlv : lv_args 0 av = lv) (body : ∀ (p : Program) (e : Env) (s : State) (m : MethodId) (args : Array Value) (below : List Frame) (meth : Method) (c : Code) (Q : State → Prop) (ls : Array Slot), p.tables.exec = Jvm.exec → c.code = cc → c.maxLocals = maxL → (∀ w ∈ BW, w.before args s = true) → s.vm.findClass y.cls = some m.cls → (∀ {pc : Nat} {ls : Array Slot} {H : Heap} {locs : List Loc} (v : Int32), zb v → decode cc pc = .ok (.ireturn, 1) → pp v → va_S (fun _ => False) s.heap H locs → W p l e rm s m args below meth c H locs 0 0 Q (F0 m pc ls [.int v])) → lv_has ls maxL lv → va_S (fun _ => False) s.heap s.heap [] → W p l e rm s m args below meth c s.heap [] 0 0 Q (F0 m 0 ls [])) : Met l y (Cond.code y cc maxL (some .boolean) :: BW) rm (va_Pc av (fun _ => True)) (qSi pp) 0 0 (fun _ => False) := by
  refine Met.ofW (cc := cc) (maxL := maxL) (ret := some .boolean) hy rfl ?_
  intro p e s m args below meth c s₁ B9 hml hv
  obtain ⟨rfl, -⟩ := hv
  have hts := atoms_spec (ws := Cond.code y cc maxL (some .boolean) :: BW) B9.pre
  have hlocks := B9.notSynchronized
  have hr := B9.returns
  have hl := lv_entry av (n := maxL) hn
  rw [lg_entry_eq]
  rw [hlv] at hl
  refine body p e s m av.toArray below meth c _ _ B9.exec B9.bytes hml (fun w hw => hts w (List.mem_cons_of_mem _ hw)) (findClass_of_methodNamed B9.named) ?_ hl va_S.rf
  intro pc ls H locs v hz hd hp hS1
  exact W.zret B9.exec B9.bytes hr (zb_n hz) (fun t ht hW => ⟨⟨v, (), rfl, hp, trivial⟩, hS1.F ht⟩) hS1.2.2 hd
abbrev qSl (pp : Int64 → Prop) : Array Value → State → Outcome → State → Prop := va_Ql (fun r (_ : Unit) => pp r) (fun _ _ => True) (fun _ => False)
theorem startSl {l : Launch} {y : MethodName} {cc : ByteArray} {maxL : Nat} {rm : Room} {av : List Value} {lv : List (Nat × Value)} {pp : Int64 → Prop} (hy : plainName y.cls = true) (hn : (lg_sl av).length ≤ maxL) (hlv : lv_args 0 av = lv) (body : ∀ (p : Program) (e : Env) (s : State) (m : MethodId) (args : Array Value) (below : List Frame) (meth : Method) (c : Code) (Q : State → Prop) (ls : Array Slot), p.tables.exec = Jvm.exec → c.code = cc → c.maxLocals = maxL → (∀ w ∈ BW, w.before args s = true) → s.vm.findClass y.cls = some m.cls → (∀ {pc : Nat} {ls : Array Slot} {H : Heap} {locs : List Loc} (v : Int64), decode cc pc = .ok (.lreturn, 1) → pp v → va_S (fun _ => False) s.heap H locs → W p l e rm s m args below meth c H locs 0 0 Q (F0 m pc ls [.long v])) → lv_has ls maxL lv → va_S (fun _ => False) s.heap s.heap [] → W p l e rm s m args below meth c s.heap [] 0 0 Q (F0 m 0 ls [])) : Met l y (Cond.code y cc maxL (some .long) :: BW) rm (va_Pc av (fun _ => True)) (qSl pp) 0 0 (fun _ => False) := by
  refine Met.ofW (cc := cc) (maxL := maxL) (ret := some .long) hy rfl ?_
  intro p e s m args below meth c s₁ B9 hml hv
  obtain ⟨rfl, -⟩ := hv
  have hts := atoms_spec (ws := Cond.code y cc maxL (some .long) :: BW) B9.pre
  have hlocks := B9.notSynchronized
  have hr := B9.returns
  have hl := lv_entry av (n := maxL) hn
  rw [lg_entry_eq]
  rw [hlv] at hl
  refine body p e s m av.toArray below meth c _ _ B9.exec B9.bytes hml (fun w hw => hts w (List.mem_cons_of_mem _ hw)) (findClass_of_methodNamed B9.named) ?_ hl va_S.rf
  intro pc ls H locs v hd hp hS1
  exact W.lret B9.exec B9.bytes hr (fun t ht hW => ⟨⟨v, (), rfl, hp, trivial⟩, hS1.F ht⟩) hS1.2.2 hd
section
variable {p : Program} {l : Launch} {e : Env} {R : Room} {s : State} {m : MethodId} {args : Array Value} {below : List Frame} {meth : Method} {c : Code} {H : Heap} {locs : List Loc} {cells slots : Nat} {Q : State → Prop}
variable {cc bytes : ByteArray} {pc maxL nL : Nat} {ls : Array Slot} {rest As st0 : List Value} {H0 : Heap} {own C : String} {D : va_G} {cy : Nat → ClassId} {ad : Nat → Nat} {Ad : Nat → Prop} {I : Nat → Int32} {L : Nat → Int64} {A : Nat → Nat → Int32} {B : Nat → Nat → Int64} {k idx n ci : Nat} {y : MethodName} {ret : Option FieldType} {rm : Room} {qc : vw_C} {fs : List Value}
theorem callCi {pp : Int32 → CS → Prop} (hM : Met l y (.code y bytes maxL ret :: BW) rm (va_Pc (.ref (ad k) :: As) (fun U => kC D cy U ∧ va_P D vwCl (wC cy ad I L A B) U.heap)) (qCi D cy ad Ad pp) 0 0 Ad) (hx : p.tables.exec = Jvm.exec) (hb : c.code = cc) (hT : ∀ w ∈ BW, w.before args s = true) (hown : s.vm.findClass own = some m.cls) (hK : kC D cy s) (hP : va_P D vwCl (wC cy ad I L A B) H) (hS : va_S Ad H0 H locs) (hw1 : Cond.methodLink own idx y ∈ BW) (hw : Cond.instanceMethod y ∈ BW ∧ Cond.selects y.cls y y ∈ BW ∧ Cond.initialized y.cls ∈ BW ∧ Cond.code y bytes maxL ret ∈ BW) (hd : y.cls ≠ "java/lang/invoke/MethodHandle" ∧ y.cls ≠ "java/lang/invoke/VarHandle" ∧ (parseMethodDescriptor y.desc).map (fun d => d.parameters.length) = some n) (hrc : rm.cells = 0 ∧ rm.slots = 0) (hR : rm.frames + 1 ≤ R.frames ∧ 8 + (maxL + 11) + rm.locals ≤ R.locals) (hcl : vwCl[ci]? = some qc) (hqc : qc.1 = y.cls) (he : (wC cy ad I L A B)[k]? = some (ad k, .inr (ci, fs))) (hn : As.length = n) (hsz : ls.size = nL) (hml : c.maxLocals = nL) (hst : st0 = As.reverse ++ .ref (ad k) :: rest) (hrm : (rest.map fun v => v.category).sum ≤ 8) (hdg : decode cc pc = .ok (.invokevirtual idx, 3)) (hcs : cells ≤ R.cells ∧ slots ≤ R.slots) (kk : ∀ (r : Int32) (u : CS) (H1 : Heap) (locs1 : List Loc), pp r u → va_P D vwCl (wC cy ad u.1 u.2.1 u.2.2.1 u.2.2.2) H1 → va_S Ad H0 H1 locs1 → W p l e R s m args below meth c H1 locs1 cells slots Q (F0 m (pc + 3) ls (.int r :: rest))) : W p l e R s m args below meth c H locs cells slots Q (F0 m pc ls st0) := by
  refine va_calli (va_runV (As := As) (rest := rest) (b := ad k) (C := y.cls) ⟨hx, hb, hml, hown, hT⟩ hM (cwV n hT (bw_V hw1 hw.1 hw.2.1 hw.2.2.1 hw.2.2.2) rfl hrc.1 hrc.2 ⟨rfl, hd⟩ hR) ⟨fun a U g mk q => ⟨q.1, q.2.1.calling, q.2.2⟩, by rw [← hqc]; exact va_recv hK.1 hP hcl he, fun U hU hW => ⟨rfl, hK.warm hW, by rw [hU]; exact hP⟩⟩ rfl hn hsz hst (lv_room hrm) hdg hcs) hS (fun _ _ h => h) (fun _ h => h) (fun r u t H1 locs1 ht hvm hw hB hz1 hk1 hS1 => ?_)
  subst ht
  exact kk r u _ locs1 hw hB hS1
theorem callCl {pp : Int64 → CS → Prop} (hM : Met l y (.code y bytes maxL ret :: BW) rm (va_Pc (.ref (ad k) :: As) (fun U => kC D cy U ∧ va_P D vwCl (wC cy ad I L A B) U.heap)) (qCl D cy ad Ad pp) 0 0 Ad) (hx : p.tables.exec = Jvm.exec) (hb : c.code = cc) (hT : ∀ w ∈ BW, w.before args s = true) (hown : s.vm.findClass own = some m.cls) (hK : kC D cy s) (hP : va_P D vwCl (wC cy ad I L A B) H) (hS : va_S Ad H0 H locs) (hw1 : Cond.methodLink own idx y ∈ BW) (hw : Cond.instanceMethod y ∈ BW ∧ Cond.selects y.cls y y ∈ BW ∧ Cond.initialized y.cls ∈ BW ∧ Cond.code y bytes maxL ret ∈ BW) (hd : y.cls ≠ "java/lang/invoke/MethodHandle" ∧ y.cls ≠ "java/lang/invoke/VarHandle" ∧ (parseMethodDescriptor y.desc).map (fun d => d.parameters.length) = some n) (hrc : rm.cells = 0 ∧ rm.slots = 0) (hR : rm.frames + 1 ≤ R.frames ∧ 8 + (maxL + 11) + rm.locals ≤ R.locals) (hcl : vwCl[ci]? = some qc) (hqc : qc.1 = y.cls) (he : (wC cy ad I L A B)[k]? = some (ad k, .inr (ci, fs))) (hn : As.length = n) (hsz : ls.size = nL) (hml : c.maxLocals = nL) (hst : st0 = As.reverse ++ .ref (ad k) :: rest) (hrm : (rest.map fun v => v.category).sum ≤ 8) (hdg : decode cc pc = .ok (.invokevirtual idx, 3)) (hcs : cells ≤ R.cells ∧ slots ≤ R.slots) (kk : ∀ (r : Int64) (u : CS) (H1 : Heap) (locs1 : List Loc), pp r u → va_P D vwCl (wC cy ad u.1 u.2.1 u.2.2.1 u.2.2.2) H1 → va_S Ad H0 H1 locs1 → W p l e R s m args below meth c H1 locs1 cells slots Q (F0 m (pc + 3) ls (.long r :: rest))) : W p l e R s m args below meth c H locs cells slots Q (F0 m pc ls st0) := by
  refine va_calll (va_runV (As := As) (rest := rest) (b := ad k) (C := y.cls) ⟨hx, hb, hml, hown, hT⟩ hM (cwV n hT (bw_V hw1 hw.1 hw.2.1 hw.2.2.1 hw.2.2.2) rfl hrc.1 hrc.2 ⟨rfl, hd⟩ hR) ⟨fun a U g mk q => ⟨q.1, q.2.1.calling, q.2.2⟩, by rw [← hqc]; exact va_recv hK.1 hP hcl he, fun U hU hW => ⟨rfl, hK.warm hW, by rw [hU]; exact hP⟩⟩ rfl hn hsz hst (lv_room hrm) hdg hcs) hS (fun _ _ h => h) (fun _ h => h) (fun r u t H1 locs1 ht hvm hw hB hz1 hk1 hS1 => ?_)
  subst ht
  exact kk r u _ locs1 hw hB hS1
theorem callCv {pp : CS → Prop} (hM : Met l y (.code y bytes maxL ret :: BW) rm (va_Pc (.ref (ad k) :: As) (fun U => kC D cy U ∧ va_P D vwCl (wC cy ad I L A B) U.heap)) (qCv D cy ad Ad pp) 0 0 Ad) (hx : p.tables.exec = Jvm.exec) (hb : c.code = cc) (hT : ∀ w ∈ BW, w.before args s = true) (hown : s.vm.findClass own = some m.cls) (hK : kC D cy s) (hP : va_P D vwCl (wC cy ad I L A B) H) (hS : va_S Ad H0 H locs) (hw1 : Cond.methodLink own idx y ∈ BW) (hw : Cond.instanceMethod y ∈ BW ∧ Cond.selects y.cls y y ∈ BW ∧ Cond.initialized y.cls ∈ BW ∧ Cond.code y bytes maxL ret ∈ BW) (hd : y.cls ≠ "java/lang/invoke/MethodHandle" ∧ y.cls ≠ "java/lang/invoke/VarHandle" ∧ (parseMethodDescriptor y.desc).map (fun d => d.parameters.length) = some n) (hrc : rm.cells = 0 ∧ rm.slots = 0) (hR : rm.frames + 1 ≤ R.frames ∧ 8 + (maxL + 11) + rm.locals ≤ R.locals) (hcl : vwCl[ci]? = some qc) (hqc : qc.1 = y.cls) (he : (wC cy ad I L A B)[k]? = some (ad k, .inr (ci, fs))) (hn : As.length = n) (hsz : ls.size = nL) (hml : c.maxLocals = nL) (hst : st0 = As.reverse ++ .ref (ad k) :: rest) (hrm : (rest.map fun v => v.category).sum ≤ 8) (hdg : decode cc pc = .ok (.invokevirtual idx, 3)) (hcs : cells ≤ R.cells ∧ slots ≤ R.slots) (kk : ∀ (u : CS) (H1 : Heap) (locs1 : List Loc), pp u → va_P D vwCl (wC cy ad u.1 u.2.1 u.2.2.1 u.2.2.2) H1 → va_S Ad H0 H1 locs1 → W p l e R s m args below meth c H1 locs1 cells slots Q (F0 m (pc + 3) ls (rest))) : W p l e R s m args below meth c H locs cells slots Q (F0 m pc ls st0) := by
  refine va_callv (va_runV (As := As) (rest := rest) (b := ad k) (C := y.cls) ⟨hx, hb, hml, hown, hT⟩ hM (cwV n hT (bw_V hw1 hw.1 hw.2.1 hw.2.2.1 hw.2.2.2) rfl hrc.1 hrc.2 ⟨rfl, hd⟩ hR) ⟨fun a U g mk q => ⟨q.1, q.2.1.calling, q.2.2⟩, by rw [← hqc]; exact va_recv hK.1 hP hcl he, fun U hU hW => ⟨rfl, hK.warm hW, by rw [hU]; exact hP⟩⟩ rfl hn hsz hst (lv_room hrm) hdg hcs) hS (fun _ _ h => h) (fun _ h => h) (fun u t H1 locs1 ht hvm hw hB hz1 hk1 hS1 => ?_)
  subst ht
  exact kk u _ locs1 hw hB hS1
theorem callMi {pp : Int32 → MS → Prop} (hM : Met l y (.code y bytes maxL ret :: BW) rm (va_Pc (.ref (ad k) :: As) (fun U => kC D cy U ∧ va_P D vwCl (wM cy ad I A) U.heap)) (qMi D cy ad Ad pp) 0 0 Ad) (hx : p.tables.exec = Jvm.exec) (hb : c.code = cc) (hT : ∀ w ∈ BW, w.before args s = true) (hown : s.vm.findClass own = some m.cls) (hK : kC D cy s) (hP : va_P D vwCl (wM cy ad I A) H) (hS : va_S Ad H0 H locs) (hw1 : Cond.methodLink own idx y ∈ BW) (hw : Cond.instanceMethod y ∈ BW ∧ Cond.selects y.cls y y ∈ BW ∧ Cond.initialized y.cls ∈ BW ∧ Cond.code y bytes maxL ret ∈ BW) (hd : y.cls ≠ "java/lang/invoke/MethodHandle" ∧ y.cls ≠ "java/lang/invoke/VarHandle" ∧ (parseMethodDescriptor y.desc).map (fun d => d.parameters.length) = some n) (hrc : rm.cells = 0 ∧ rm.slots = 0) (hR : rm.frames + 1 ≤ R.frames ∧ 8 + (maxL + 11) + rm.locals ≤ R.locals) (hcl : vwCl[ci]? = some qc) (hqc : qc.1 = y.cls) (he : (wM cy ad I A)[k]? = some (ad k, .inr (ci, fs))) (hn : As.length = n) (hsz : ls.size = nL) (hml : c.maxLocals = nL) (hst : st0 = As.reverse ++ .ref (ad k) :: rest) (hrm : (rest.map fun v => v.category).sum ≤ 8) (hdg : decode cc pc = .ok (.invokevirtual idx, 3)) (hcs : cells ≤ R.cells ∧ slots ≤ R.slots) (kk : ∀ (r : Int32) (u : MS) (H1 : Heap) (locs1 : List Loc), pp r u → va_P D vwCl (wM cy ad u.1 u.2) H1 → va_S Ad H0 H1 locs1 → W p l e R s m args below meth c H1 locs1 cells slots Q (F0 m (pc + 3) ls (.int r :: rest))) : W p l e R s m args below meth c H locs cells slots Q (F0 m pc ls st0) := by
  refine va_calli (va_runV (As := As) (rest := rest) (b := ad k) (C := y.cls) ⟨hx, hb, hml, hown, hT⟩ hM (cwV n hT (bw_V hw1 hw.1 hw.2.1 hw.2.2.1 hw.2.2.2) rfl hrc.1 hrc.2 ⟨rfl, hd⟩ hR) ⟨fun a U g mk q => ⟨q.1, q.2.1.calling, q.2.2⟩, by rw [← hqc]; exact va_recv hK.1 hP hcl he, fun U hU hW => ⟨rfl, hK.warm hW, by rw [hU]; exact hP⟩⟩ rfl hn hsz hst (lv_room hrm) hdg hcs) hS (fun _ _ h => h) (fun _ h => h) (fun r u t H1 locs1 ht hvm hw hB hz1 hk1 hS1 => ?_)
  subst ht
  exact kk r u _ locs1 hw hB hS1
theorem callMl {pp : Int64 → MS → Prop} (hM : Met l y (.code y bytes maxL ret :: BW) rm (va_Pc (.ref (ad k) :: As) (fun U => kC D cy U ∧ va_P D vwCl (wM cy ad I A) U.heap)) (qMl D cy ad Ad pp) 0 0 Ad) (hx : p.tables.exec = Jvm.exec) (hb : c.code = cc) (hT : ∀ w ∈ BW, w.before args s = true) (hown : s.vm.findClass own = some m.cls) (hK : kC D cy s) (hP : va_P D vwCl (wM cy ad I A) H) (hS : va_S Ad H0 H locs) (hw1 : Cond.methodLink own idx y ∈ BW) (hw : Cond.instanceMethod y ∈ BW ∧ Cond.selects y.cls y y ∈ BW ∧ Cond.initialized y.cls ∈ BW ∧ Cond.code y bytes maxL ret ∈ BW) (hd : y.cls ≠ "java/lang/invoke/MethodHandle" ∧ y.cls ≠ "java/lang/invoke/VarHandle" ∧ (parseMethodDescriptor y.desc).map (fun d => d.parameters.length) = some n) (hrc : rm.cells = 0 ∧ rm.slots = 0) (hR : rm.frames + 1 ≤ R.frames ∧ 8 + (maxL + 11) + rm.locals ≤ R.locals) (hcl : vwCl[ci]? = some qc) (hqc : qc.1 = y.cls) (he : (wM cy ad I A)[k]? = some (ad k, .inr (ci, fs))) (hn : As.length = n) (hsz : ls.size = nL) (hml : c.maxLocals = nL) (hst : st0 = As.reverse ++ .ref (ad k) :: rest) (hrm : (rest.map fun v => v.category).sum ≤ 8) (hdg : decode cc pc = .ok (.invokevirtual idx, 3)) (hcs : cells ≤ R.cells ∧ slots ≤ R.slots) (kk : ∀ (r : Int64) (u : MS) (H1 : Heap) (locs1 : List Loc), pp r u → va_P D vwCl (wM cy ad u.1 u.2) H1 → va_S Ad H0 H1 locs1 → W p l e R s m args below meth c H1 locs1 cells slots Q (F0 m (pc + 3) ls (.long r :: rest))) : W p l e R s m args below meth c H locs cells slots Q (F0 m pc ls st0) := by
  refine va_calll (va_runV (As := As) (rest := rest) (b := ad k) (C := y.cls) ⟨hx, hb, hml, hown, hT⟩ hM (cwV n hT (bw_V hw1 hw.1 hw.2.1 hw.2.2.1 hw.2.2.2) rfl hrc.1 hrc.2 ⟨rfl, hd⟩ hR) ⟨fun a U g mk q => ⟨q.1, q.2.1.calling, q.2.2⟩, by rw [← hqc]; exact va_recv hK.1 hP hcl he, fun U hU hW => ⟨rfl, hK.warm hW, by rw [hU]; exact hP⟩⟩ rfl hn hsz hst (lv_room hrm) hdg hcs) hS (fun _ _ h => h) (fun _ h => h) (fun r u t H1 locs1 ht hvm hw hB hz1 hk1 hS1 => ?_)
  subst ht
  exact kk r u _ locs1 hw hB hS1
theorem callMv {pp : MS → Prop} (hM : Met l y (.code y bytes maxL ret :: BW) rm (va_Pc (.ref (ad k) :: As) (fun U => kC D cy U ∧ va_P D vwCl (wM cy ad I A) U.heap)) (qMv D cy ad Ad pp) 0 0 Ad) (hx : p.tables.exec = Jvm.exec) (hb : c.code = cc) (hT : ∀ w ∈ BW, w.before args s = true) (hown : s.vm.findClass own = some m.cls) (hK : kC D cy s) (hP : va_P D vwCl (wM cy ad I A) H) (hS : va_S Ad H0 H locs) (hw1 : Cond.methodLink own idx y ∈ BW) (hw : Cond.instanceMethod y ∈ BW ∧ Cond.selects y.cls y y ∈ BW ∧ Cond.initialized y.cls ∈ BW ∧ Cond.code y bytes maxL ret ∈ BW) (hd : y.cls ≠ "java/lang/invoke/MethodHandle" ∧ y.cls ≠ "java/lang/invoke/VarHandle" ∧ (parseMethodDescriptor y.desc).map (fun d => d.parameters.length) = some n) (hrc : rm.cells = 0 ∧ rm.slots = 0) (hR : rm.frames + 1 ≤ R.frames ∧ 8 + (maxL + 11) + rm.locals ≤ R.locals) (hcl : vwCl[ci]? = some qc) (hqc : qc.1 = y.cls) (he : (wM cy ad I A)[k]? = some (ad k, .inr (ci, fs))) (hn : As.length = n) (hsz : ls.size = nL) (hml : c.maxLocals = nL) (hst : st0 = As.reverse ++ .ref (ad k) :: rest) (hrm : (rest.map fun v => v.category).sum ≤ 8) (hdg : decode cc pc = .ok (.invokevirtual idx, 3)) (hcs : cells ≤ R.cells ∧ slots ≤ R.slots) (kk : ∀ (u : MS) (H1 : Heap) (locs1 : List Loc), pp u → va_P D vwCl (wM cy ad u.1 u.2) H1 → va_S Ad H0 H1 locs1 → W p l e R s m args below meth c H1 locs1 cells slots Q (F0 m (pc + 3) ls (rest))) : W p l e R s m args below meth c H locs cells slots Q (F0 m pc ls st0) := by
  refine va_callv (va_runV (As := As) (rest := rest) (b := ad k) (C := y.cls) ⟨hx, hb, hml, hown, hT⟩ hM (cwV n hT (bw_V hw1 hw.1 hw.2.1 hw.2.2.1 hw.2.2.2) rfl hrc.1 hrc.2 ⟨rfl, hd⟩ hR) ⟨fun a U g mk q => ⟨q.1, q.2.1.calling, q.2.2⟩, by rw [← hqc]; exact va_recv hK.1 hP hcl he, fun U hU hW => ⟨rfl, hK.warm hW, by rw [hU]; exact hP⟩⟩ rfl hn hsz hst (lv_room hrm) hdg hcs) hS (fun _ _ h => h) (fun _ h => h) (fun u t H1 locs1 ht hvm hw hB hz1 hk1 hS1 => ?_)
  subst ht
  exact kk u _ locs1 hw hB hS1
theorem callSCi {pp : Int32 → Prop} (hM : Met l y (.code y bytes maxL ret :: BW) rm (va_Pc As (fun _ => True)) (qSi pp) 0 0 (fun _ => False)) (hx : p.tables.exec = Jvm.exec) (hb : c.code = cc) (hT : ∀ w ∈ BW, w.before args s = true) (hown : s.vm.findClass own = some m.cls) (hP : va_P D vwCl (wC cy ad I L A B) H) (hS : va_S Ad H0 H locs) (hw1 : Cond.methodLink own idx y ∈ BW) (hw : Cond.static y ∈ BW ∧ Cond.initialized y.cls ∈ BW ∧ Cond.code y bytes maxL ret ∈ BW) (hd : y.cls ≠ "java/lang/invoke/MethodHandle" ∧ y.cls ≠ "java/lang/invoke/VarHandle" ∧ (parseMethodDescriptor y.desc).map (fun d => d.parameters.length) = some n) (hrc : rm.cells = 0 ∧ rm.slots = 0) (hR : rm.frames + 1 ≤ R.frames ∧ 8 + (maxL + 11) + rm.locals ≤ R.locals) (hn : As.length = n) (hsz : ls.size = nL) (hml : c.maxLocals = nL) (hst : st0 = As.reverse ++ rest) (hrm : (rest.map fun v => v.category).sum ≤ 8) (hdg : decode cc pc = .ok (.invokestatic idx, 3)) (hcs : cells ≤ R.cells ∧ slots ≤ R.slots) (kk : ∀ (r : Int32) (H1 : Heap) (locs1 : List Loc), pp r → va_P D vwCl (wC cy ad I L A B) H1 → va_S Ad H0 H1 locs1 → W p l e R s m args below meth c H1 locs1 cells slots Q (F0 m (pc + 3) ls (.int r :: rest))) : W p l e R s m args below meth c H locs cells slots Q (F0 m pc ls st0) := by
  refine va_calli (va_runS (As := As) (rest := rest) ⟨hx, hb, hml, hown, hT⟩ hM (va_cwS n hT (bw_S hw1 hw.1 hw.2.1 hw.2.2) rfl hrc.1 hrc.2 hd hR) ⟨fun a U g mk q => q, fun U hU hW => ⟨rfl, trivial⟩⟩ rfl hn hsz hst (lv_room hrm) hdg hcs) hS (fun _ _ h => h.elim) (fun _ h => h.elim) (fun r u t H1 locs1 ht hvm hw hB hz1 hk1 hS1 => ?_)
  exact kk r _ locs1 hw (hP.kept (fun k q hk => hk1 q.1 ((hP k q hk).lt) (fun h => h))) hS1
theorem callSCl {pp : Int64 → Prop} (hM : Met l y (.code y bytes maxL ret :: BW) rm (va_Pc As (fun _ => True)) (qSl pp) 0 0 (fun _ => False)) (hx : p.tables.exec = Jvm.exec) (hb : c.code = cc) (hT : ∀ w ∈ BW, w.before args s = true) (hown : s.vm.findClass own = some m.cls) (hP : va_P D vwCl (wC cy ad I L A B) H) (hS : va_S Ad H0 H locs) (hw1 : Cond.methodLink own idx y ∈ BW) (hw : Cond.static y ∈ BW ∧ Cond.initialized y.cls ∈ BW ∧ Cond.code y bytes maxL ret ∈ BW) (hd : y.cls ≠ "java/lang/invoke/MethodHandle" ∧ y.cls ≠ "java/lang/invoke/VarHandle" ∧ (parseMethodDescriptor y.desc).map (fun d => d.parameters.length) = some n) (hrc : rm.cells = 0 ∧ rm.slots = 0) (hR : rm.frames + 1 ≤ R.frames ∧ 8 + (maxL + 11) + rm.locals ≤ R.locals) (hn : As.length = n) (hsz : ls.size = nL) (hml : c.maxLocals = nL) (hst : st0 = As.reverse ++ rest) (hrm : (rest.map fun v => v.category).sum ≤ 8) (hdg : decode cc pc = .ok (.invokestatic idx, 3)) (hcs : cells ≤ R.cells ∧ slots ≤ R.slots) (kk : ∀ (r : Int64) (H1 : Heap) (locs1 : List Loc), pp r → va_P D vwCl (wC cy ad I L A B) H1 → va_S Ad H0 H1 locs1 → W p l e R s m args below meth c H1 locs1 cells slots Q (F0 m (pc + 3) ls (.long r :: rest))) : W p l e R s m args below meth c H locs cells slots Q (F0 m pc ls st0) := by
  refine va_calll (va_runS (As := As) (rest := rest) ⟨hx, hb, hml, hown, hT⟩ hM (va_cwS n hT (bw_S hw1 hw.1 hw.2.1 hw.2.2) rfl hrc.1 hrc.2 hd hR) ⟨fun a U g mk q => q, fun U hU hW => ⟨rfl, trivial⟩⟩ rfl hn hsz hst (lv_room hrm) hdg hcs) hS (fun _ _ h => h.elim) (fun _ h => h.elim) (fun r u t H1 locs1 ht hvm hw hB hz1 hk1 hS1 => ?_)
  exact kk r _ locs1 hw (hP.kept (fun k q hk => hk1 q.1 ((hP k q hk).lt) (fun h => h))) hS1
theorem callSMi {pp : Int32 → Prop} (hM : Met l y (.code y bytes maxL ret :: BW) rm (va_Pc As (fun _ => True)) (qSi pp) 0 0 (fun _ => False)) (hx : p.tables.exec = Jvm.exec) (hb : c.code = cc) (hT : ∀ w ∈ BW, w.before args s = true) (hown : s.vm.findClass own = some m.cls) (hP : va_P D vwCl (wM cy ad I A) H) (hS : va_S Ad H0 H locs) (hw1 : Cond.methodLink own idx y ∈ BW) (hw : Cond.static y ∈ BW ∧ Cond.initialized y.cls ∈ BW ∧ Cond.code y bytes maxL ret ∈ BW) (hd : y.cls ≠ "java/lang/invoke/MethodHandle" ∧ y.cls ≠ "java/lang/invoke/VarHandle" ∧ (parseMethodDescriptor y.desc).map (fun d => d.parameters.length) = some n) (hrc : rm.cells = 0 ∧ rm.slots = 0) (hR : rm.frames + 1 ≤ R.frames ∧ 8 + (maxL + 11) + rm.locals ≤ R.locals) (hn : As.length = n) (hsz : ls.size = nL) (hml : c.maxLocals = nL) (hst : st0 = As.reverse ++ rest) (hrm : (rest.map fun v => v.category).sum ≤ 8) (hdg : decode cc pc = .ok (.invokestatic idx, 3)) (hcs : cells ≤ R.cells ∧ slots ≤ R.slots) (kk : ∀ (r : Int32) (H1 : Heap) (locs1 : List Loc), pp r → va_P D vwCl (wM cy ad I A) H1 → va_S Ad H0 H1 locs1 → W p l e R s m args below meth c H1 locs1 cells slots Q (F0 m (pc + 3) ls (.int r :: rest))) : W p l e R s m args below meth c H locs cells slots Q (F0 m pc ls st0) := by
  refine va_calli (va_runS (As := As) (rest := rest) ⟨hx, hb, hml, hown, hT⟩ hM (va_cwS n hT (bw_S hw1 hw.1 hw.2.1 hw.2.2) rfl hrc.1 hrc.2 hd hR) ⟨fun a U g mk q => q, fun U hU hW => ⟨rfl, trivial⟩⟩ rfl hn hsz hst (lv_room hrm) hdg hcs) hS (fun _ _ h => h.elim) (fun _ h => h.elim) (fun r u t H1 locs1 ht hvm hw hB hz1 hk1 hS1 => ?_)
  exact kk r _ locs1 hw (hP.kept (fun k q hk => hk1 q.1 ((hP k q hk).lt) (fun h => h))) hS1
theorem callNi {pp : Int32 → Prop} (hM : Met l y (.code y bytes maxL ret :: BW) rm (va_Pc As (fun _ => True)) (qSi pp) 0 0 (fun _ => False)) (hx : p.tables.exec = Jvm.exec) (hb : c.code = cc) (hT : ∀ w ∈ BW, w.before args s = true) (hown : s.vm.findClass own = some m.cls) (hP : va_P D vwCl (wC cy ad I L A B) H) (hS : va_S Ad H0 H locs) (hw1 : va_Nw (.methodLinkNest own idx y RX9) s) (hw : Cond.static y ∈ BW ∧ Cond.initialized y.cls ∈ BW ∧ Cond.code y bytes maxL ret ∈ BW) (hd : y.cls ≠ "java/lang/invoke/MethodHandle" ∧ y.cls ≠ "java/lang/invoke/VarHandle" ∧ (parseMethodDescriptor y.desc).map (fun d => d.parameters.length) = some n) (hrc : rm.cells = 0 ∧ rm.slots = 0) (hR : rm.frames + 1 ≤ R.frames ∧ 8 + (maxL + 11) + rm.locals ≤ R.locals) (hn : As.length = n) (hsz : ls.size = nL) (hml : c.maxLocals = nL) (hst : st0 = As.reverse ++ rest) (hrm : (rest.map fun v => v.category).sum ≤ 8) (hdg : decode cc pc = .ok (.invokestatic idx, 3)) (hcs : cells ≤ R.cells ∧ slots ≤ R.slots) (kk : ∀ (r : Int32) (H1 : Heap) (locs1 : List Loc), pp r → va_P D vwCl (wC cy ad I L A B) H1 → va_S Ad H0 H1 locs1 → W p l e R s m args below meth c H1 locs1 cells slots Q (F0 m (pc + 3) ls (.int r :: rest))) : W p l e R s m args below meth c H locs cells slots Q (F0 m pc ls st0) := by
  refine va_calli (va_runSN (As := As) (rest := rest) ⟨hx, hb, hml, hown, hT⟩ hM ⟨va_cnB n hT (bw_code hw.2.2) rfl hrc.1 hrc.2 hw1 (hT _ hw.2.1) hd hR, hT _ hw.1, trivial⟩ ⟨fun a U g mk q => q, fun U hU hW => ⟨rfl, trivial⟩⟩ rfl hn hsz hst (lv_room hrm) hdg hcs) hS (fun _ _ h => h.elim) (fun _ h => h.elim) (fun r u t H1 locs1 ht hvm hw hB hz1 hk1 hS1 => ?_)
  exact kk r _ locs1 hw (hP.kept (fun k q hk => hk1 q.1 ((hP k q hk).lt) (fun h => h))) hS1
theorem callNl {pp : Int64 → Prop} (hM : Met l y (.code y bytes maxL ret :: BW) rm (va_Pc As (fun _ => True)) (qSl pp) 0 0 (fun _ => False)) (hx : p.tables.exec = Jvm.exec) (hb : c.code = cc) (hT : ∀ w ∈ BW, w.before args s = true) (hown : s.vm.findClass own = some m.cls) (hP : va_P D vwCl (wC cy ad I L A B) H) (hS : va_S Ad H0 H locs) (hw1 : va_Nw (.methodLinkNest own idx y RX9) s) (hw : Cond.static y ∈ BW ∧ Cond.initialized y.cls ∈ BW ∧ Cond.code y bytes maxL ret ∈ BW) (hd : y.cls ≠ "java/lang/invoke/MethodHandle" ∧ y.cls ≠ "java/lang/invoke/VarHandle" ∧ (parseMethodDescriptor y.desc).map (fun d => d.parameters.length) = some n) (hrc : rm.cells = 0 ∧ rm.slots = 0) (hR : rm.frames + 1 ≤ R.frames ∧ 8 + (maxL + 11) + rm.locals ≤ R.locals) (hn : As.length = n) (hsz : ls.size = nL) (hml : c.maxLocals = nL) (hst : st0 = As.reverse ++ rest) (hrm : (rest.map fun v => v.category).sum ≤ 8) (hdg : decode cc pc = .ok (.invokestatic idx, 3)) (hcs : cells ≤ R.cells ∧ slots ≤ R.slots) (kk : ∀ (r : Int64) (H1 : Heap) (locs1 : List Loc), pp r → va_P D vwCl (wC cy ad I L A B) H1 → va_S Ad H0 H1 locs1 → W p l e R s m args below meth c H1 locs1 cells slots Q (F0 m (pc + 3) ls (.long r :: rest))) : W p l e R s m args below meth c H locs cells slots Q (F0 m pc ls st0) := by
  refine va_calll (va_runSN (As := As) (rest := rest) ⟨hx, hb, hml, hown, hT⟩ hM ⟨va_cnB n hT (bw_code hw.2.2) rfl hrc.1 hrc.2 hw1 (hT _ hw.2.1) hd hR, hT _ hw.1, trivial⟩ ⟨fun a U g mk q => q, fun U hU hW => ⟨rfl, trivial⟩⟩ rfl hn hsz hst (lv_room hrm) hdg hcs) hS (fun _ _ h => h.elim) (fun _ h => h.elim) (fun r u t H1 locs1 ht hvm hw hB hz1 hk1 hS1 => ?_)
  exact kk r _ locs1 hw (hP.kept (fun k q hk => hk1 q.1 ((hP k q hk).lt) (fun h => h))) hS1
end
end
