section
-- ===== PART A: goes FIRST, ahead of the names: the tables' words, and 'selects' of the private methods out of them =====
/-- a private method of a class that the tables say can be made, by its rows of tables_1 -/
def lw_okq (q : MethodName × Nat) : Prop := (q.1.cls ≠ "java/lang/invoke/MethodHandle" ∧ q.1.cls ≠ "java/lang/invoke/VarHandle") ∧ Cond.instantiable q.1.cls q.2 ∈ tables_1 ∧ Cond.privateMethod q.1 ∈ tables_1 ∧ Cond.instanceMethod q.1 ∈ tables_1
theorem lw_p0 : lw_okq (⟨"PaperHouse", "layNumber", "(I)V"⟩, 19) := ⟨⟨by decide +kernel, by decide +kernel⟩, List.mem_of_getElem? (i := 23) (by decide +kernel), List.mem_of_getElem? (i := 704) (by decide +kernel), List.mem_of_getElem? (i := 705) (by decide +kernel)⟩
theorem lw_p1 : lw_okq (⟨"PaperHouse$Loader", "passes", "(Ljava/lang/String;I)Z"⟩, 10) := ⟨⟨by decide +kernel, by decide +kernel⟩, List.mem_of_getElem? (i := 416) (by decide +kernel), List.mem_of_getElem? (i := 756) (by decide +kernel), List.mem_of_getElem? (i := 757) (by decide +kernel)⟩
theorem lw_p2 : lw_okq (⟨"PaperHouse$Loader", "lastStart", "()I"⟩, 10) := ⟨⟨by decide +kernel, by decide +kernel⟩, List.mem_of_getElem? (i := 416) (by decide +kernel), List.mem_of_getElem? (i := 770) (by decide +kernel), List.mem_of_getElem? (i := 771) (by decide +kernel)⟩
theorem lw_p3 : lw_okq (⟨"PaperHouse$Loader", "readStart", "()I"⟩, 10) := ⟨⟨by decide +kernel, by decide +kernel⟩, List.mem_of_getElem? (i := 416) (by decide +kernel), List.mem_of_getElem? (i := 775) (by decide +kernel), List.mem_of_getElem? (i := 776) (by decide +kernel)⟩
theorem lw_p4 : lw_okq (⟨"PaperHouse$Loader", "passesBlanks", "()Z"⟩, 10) := ⟨⟨by decide +kernel, by decide +kernel⟩, List.mem_of_getElem? (i := 416) (by decide +kernel), List.mem_of_getElem? (i := 779) (by decide +kernel), List.mem_of_getElem? (i := 780) (by decide +kernel)⟩
theorem lw_p5 : lw_okq (⟨"PaperHouse$Parser", "lookAtRow", "()V"⟩, 18) := ⟨⟨by decide +kernel, by decide +kernel⟩, List.mem_of_getElem? (i := 206) (by decide +kernel), List.mem_of_getElem? (i := 821) (by decide +kernel), List.mem_of_getElem? (i := 822) (by decide +kernel)⟩
theorem lw_p6 : lw_okq (⟨"PaperHouse$Parser", "rowIs", "(Ljava/lang/String;)Z"⟩, 18) := ⟨⟨by decide +kernel, by decide +kernel⟩, List.mem_of_getElem? (i := 206) (by decide +kernel), List.mem_of_getElem? (i := 836) (by decide +kernel), List.mem_of_getElem? (i := 837) (by decide +kernel)⟩
theorem lw_p7 : lw_okq (⟨"PaperHouse$Sections", "headsRows", "(I)Z"⟩, 13) := ⟨⟨by decide +kernel, by decide +kernel⟩, List.mem_of_getElem? (i := 365) (by decide +kernel), List.mem_of_getElem? (i := 842) (by decide +kernel), List.mem_of_getElem? (i := 843) (by decide +kernel)⟩
theorem lw_p8 : lw_okq (⟨"PaperHouse$Sections", "readTable", "(I)Z"⟩, 13) := ⟨⟨by decide +kernel, by decide +kernel⟩, List.mem_of_getElem? (i := 365) (by decide +kernel), List.mem_of_getElem? (i := 859) (by decide +kernel), List.mem_of_getElem? (i := 860) (by decide +kernel)⟩
theorem lw_p9 : lw_okq (⟨"PaperHouse$Sections", "readEntries", "(II)Z"⟩, 13) := ⟨⟨by decide +kernel, by decide +kernel⟩, List.mem_of_getElem? (i := 365) (by decide +kernel), List.mem_of_getElem? (i := 876) (by decide +kernel), List.mem_of_getElem? (i := 877) (by decide +kernel)⟩
theorem lw_p10 : lw_okq (⟨"PaperHouse$Sections", "isEntry", "(I)Z"⟩, 13) := ⟨⟨by decide +kernel, by decide +kernel⟩, List.mem_of_getElem? (i := 365) (by decide +kernel), List.mem_of_getElem? (i := 880) (by decide +kernel), List.mem_of_getElem? (i := 881) (by decide +kernel)⟩
theorem lw_p11 : lw_okq (⟨"PaperHouse$Parser", "object", "(I)I"⟩, 18) := ⟨⟨by decide +kernel, by decide +kernel⟩, List.mem_of_getElem? (i := 206) (by decide +kernel), List.mem_of_getElem? (i := 893) (by decide +kernel), List.mem_of_getElem? (i := 894) (by decide +kernel)⟩
theorem lw_p12 : lw_okq (⟨"PaperHouse$Parser", "name", "()I"⟩, 18) := ⟨⟨by decide +kernel, by decide +kernel⟩, List.mem_of_getElem? (i := 206) (by decide +kernel), List.mem_of_getElem? (i := 897) (by decide +kernel), List.mem_of_getElem? (i := 898) (by decide +kernel)⟩
theorem lw_p13 : lw_okq (⟨"PaperHouse$Parser", "failAt", "(II)I"⟩, 18) := ⟨⟨by decide +kernel, by decide +kernel⟩, List.mem_of_getElem? (i := 206) (by decide +kernel), List.mem_of_getElem? (i := 904) (by decide +kernel), List.mem_of_getElem? (i := 905) (by decide +kernel)⟩
theorem lw_p14 : lw_okq (⟨"PaperHouse$Parser", "put", "(I)V"⟩, 18) := ⟨⟨by decide +kernel, by decide +kernel⟩, List.mem_of_getElem? (i := 206) (by decide +kernel), List.mem_of_getElem? (i := 908) (by decide +kernel), List.mem_of_getElem? (i := 909) (by decide +kernel)⟩
theorem lw_p15 : lw_okq (⟨"PaperHouse$Parser", "make", "(IIII)I"⟩, 18) := ⟨⟨by decide +kernel, by decide +kernel⟩, List.mem_of_getElem? (i := 206) (by decide +kernel), List.mem_of_getElem? (i := 912) (by decide +kernel), List.mem_of_getElem? (i := 913) (by decide +kernel)⟩
def lw_privs_1 : List (MethodName × Nat) := [(⟨"PaperHouse", "layNumber", "(I)V"⟩, 19), (⟨"PaperHouse$Loader", "passes", "(Ljava/lang/String;I)Z"⟩, 10), (⟨"PaperHouse$Loader", "lastStart", "()I"⟩, 10), (⟨"PaperHouse$Loader", "readStart", "()I"⟩, 10), (⟨"PaperHouse$Loader", "passesBlanks", "()Z"⟩, 10), (⟨"PaperHouse$Parser", "lookAtRow", "()V"⟩, 18), (⟨"PaperHouse$Parser", "rowIs", "(Ljava/lang/String;)Z"⟩, 18), (⟨"PaperHouse$Sections", "headsRows", "(I)Z"⟩, 13), (⟨"PaperHouse$Sections", "readTable", "(I)Z"⟩, 13), (⟨"PaperHouse$Sections", "readEntries", "(II)Z"⟩, 13), (⟨"PaperHouse$Sections", "isEntry", "(I)Z"⟩, 13), (⟨"PaperHouse$Parser", "object", "(I)I"⟩, 18), (⟨"PaperHouse$Parser", "name", "()I"⟩, 18), (⟨"PaperHouse$Parser", "failAt", "(II)I"⟩, 18), (⟨"PaperHouse$Parser", "put", "(I)V"⟩, 18), (⟨"PaperHouse$Parser", "make", "(IIII)I"⟩, 18)]
theorem lw_r1 : ∀ q ∈ lw_privs_1, lw_okq q := List.forall_mem_cons.mpr ⟨lw_p0, List.forall_mem_cons.mpr ⟨lw_p1, List.forall_mem_cons.mpr ⟨lw_p2, List.forall_mem_cons.mpr ⟨lw_p3, List.forall_mem_cons.mpr ⟨lw_p4, List.forall_mem_cons.mpr ⟨lw_p5, List.forall_mem_cons.mpr ⟨lw_p6, List.forall_mem_cons.mpr ⟨lw_p7, List.forall_mem_cons.mpr ⟨lw_p8, List.forall_mem_cons.mpr ⟨lw_p9, List.forall_mem_cons.mpr ⟨lw_p10, List.forall_mem_cons.mpr ⟨lw_p11, List.forall_mem_cons.mpr ⟨lw_p12, List.forall_mem_cons.mpr ⟨lw_p13, List.forall_mem_cons.mpr ⟨lw_p14, List.forall_mem_cons.mpr ⟨lw_p15, fun _ h => absurd h List.not_mem_nil⟩⟩⟩⟩⟩⟩⟩⟩⟩⟩⟩⟩⟩⟩⟩⟩
theorem lw_p16 : lw_okq (⟨"PaperHouse$Parser", "string", "()I"⟩, 18) := ⟨⟨by decide +kernel, by decide +kernel⟩, List.mem_of_getElem? (i := 206) (by decide +kernel), List.mem_of_getElem? (i := 918) (by decide +kernel), List.mem_of_getElem? (i := 919) (by decide +kernel)⟩
theorem lw_p17 : lw_okq (⟨"PaperHouse$Parser", "scanRound", "()Z"⟩, 18) := ⟨⟨by decide +kernel, by decide +kernel⟩, List.mem_of_getElem? (i := 206) (by decide +kernel), List.mem_of_getElem? (i := 922) (by decide +kernel), List.mem_of_getElem? (i := 923) (by decide +kernel)⟩
theorem lw_p18 : lw_okq (⟨"PaperHouse$Parser", "scanEscape", "()V"⟩, 18) := ⟨⟨by decide +kernel, by decide +kernel⟩, List.mem_of_getElem? (i := 206) (by decide +kernel), List.mem_of_getElem? (i := 926) (by decide +kernel), List.mem_of_getElem? (i := 927) (by decide +kernel)⟩
theorem lw_p19 : lw_okq (⟨"PaperHouse$Parser", "scanHex", "()Z"⟩, 18) := ⟨⟨by decide +kernel, by decide +kernel⟩, List.mem_of_getElem? (i := 206) (by decide +kernel), List.mem_of_getElem? (i := 933) (by decide +kernel), List.mem_of_getElem? (i := 934) (by decide +kernel)⟩
theorem lw_p20 : lw_okq (⟨"PaperHouse$Parser", "compound", "(IZ)I"⟩, 18) := ⟨⟨by decide +kernel, by decide +kernel⟩, List.mem_of_getElem? (i := 206) (by decide +kernel), List.mem_of_getElem? (i := 937) (by decide +kernel), List.mem_of_getElem? (i := 938) (by decide +kernel)⟩
theorem lw_p21 : lw_okq (⟨"PaperHouse$Parser", "noKey", "(I)I"⟩, 18) := ⟨⟨by decide +kernel, by decide +kernel⟩, List.mem_of_getElem? (i := 206) (by decide +kernel), List.mem_of_getElem? (i := 941) (by decide +kernel), List.mem_of_getElem? (i := 942) (by decide +kernel)⟩
theorem lw_p22 : lw_okq (⟨"PaperHouse$Parser", "isTwice", "(II)Z"⟩, 18) := ⟨⟨by decide +kernel, by decide +kernel⟩, List.mem_of_getElem? (i := 206) (by decide +kernel), List.mem_of_getElem? (i := 945) (by decide +kernel), List.mem_of_getElem? (i := 946) (by decide +kernel)⟩
theorem lw_p23 : lw_okq (⟨"PaperHouse$Parser", "plain", "(I)I"⟩, 18) := ⟨⟨by decide +kernel, by decide +kernel⟩, List.mem_of_getElem? (i := 206) (by decide +kernel), List.mem_of_getElem? (i := 1003) (by decide +kernel), List.mem_of_getElem? (i := 1004) (by decide +kernel)⟩
theorem lw_p24 : lw_okq (⟨"PaperHouse$Parser", "literal", "(I)I"⟩, 18) := ⟨⟨by decide +kernel, by decide +kernel⟩, List.mem_of_getElem? (i := 206) (by decide +kernel), List.mem_of_getElem? (i := 1007) (by decide +kernel), List.mem_of_getElem? (i := 1008) (by decide +kernel)⟩
theorem lw_p25 : lw_okq (⟨"PaperHouse$Sections", "readRows", "(II[B)Z"⟩, 13) := ⟨⟨by decide +kernel, by decide +kernel⟩, List.mem_of_getElem? (i := 365) (by decide +kernel), List.mem_of_getElem? (i := 1018) (by decide +kernel), List.mem_of_getElem? (i := 1019) (by decide +kernel)⟩
theorem lw_p26 : lw_okq (⟨"PaperHouse$Filters", "readNames", "(I)Z"⟩, 9) := ⟨⟨by decide +kernel, by decide +kernel⟩, List.mem_of_getElem? (i := 275) (by decide +kernel), List.mem_of_getElem? (i := 1060) (by decide +kernel), List.mem_of_getElem? (i := 1061) (by decide +kernel)⟩
theorem lw_p27 : lw_okq (⟨"PaperHouse$Filters", "readName", "(I)Z"⟩, 9) := ⟨⟨by decide +kernel, by decide +kernel⟩, List.mem_of_getElem? (i := 275) (by decide +kernel), List.mem_of_getElem? (i := 1066) (by decide +kernel), List.mem_of_getElem? (i := 1067) (by decide +kernel)⟩
theorem lw_p28 : lw_okq (⟨"PaperHouse$Filters", "readParms", "(I)Z"⟩, 9) := ⟨⟨by decide +kernel, by decide +kernel⟩, List.mem_of_getElem? (i := 275) (by decide +kernel), List.mem_of_getElem? (i := 1077) (by decide +kernel), List.mem_of_getElem? (i := 1078) (by decide +kernel)⟩
theorem lw_p29 : lw_okq (⟨"PaperHouse$Filters", "areRight", "(IZ)Z"⟩, 9) := ⟨⟨by decide +kernel, by decide +kernel⟩, List.mem_of_getElem? (i := 275) (by decide +kernel), List.mem_of_getElem? (i := 1081) (by decide +kernel), List.mem_of_getElem? (i := 1082) (by decide +kernel)⟩
theorem lw_p30 : lw_okq (⟨"PaperHouse$Filters", "wholeOr", "(III)I"⟩, 9) := ⟨⟨by decide +kernel, by decide +kernel⟩, List.mem_of_getElem? (i := 275) (by decide +kernel), List.mem_of_getElem? (i := 1085) (by decide +kernel), List.mem_of_getElem? (i := 1086) (by decide +kernel)⟩
theorem lw_p31 : lw_okq (⟨"PaperHouse$Inflate", "bits", "(I)I"⟩, 15) := ⟨⟨by decide +kernel, by decide +kernel⟩, List.mem_of_getElem? (i := 281) (by decide +kernel), List.mem_of_getElem? (i := 1097) (by decide +kernel), List.mem_of_getElem? (i := 1098) (by decide +kernel)⟩
def lw_privs_2 : List (MethodName × Nat) := [(⟨"PaperHouse$Parser", "string", "()I"⟩, 18), (⟨"PaperHouse$Parser", "scanRound", "()Z"⟩, 18), (⟨"PaperHouse$Parser", "scanEscape", "()V"⟩, 18), (⟨"PaperHouse$Parser", "scanHex", "()Z"⟩, 18), (⟨"PaperHouse$Parser", "compound", "(IZ)I"⟩, 18), (⟨"PaperHouse$Parser", "noKey", "(I)I"⟩, 18), (⟨"PaperHouse$Parser", "isTwice", "(II)Z"⟩, 18), (⟨"PaperHouse$Parser", "plain", "(I)I"⟩, 18), (⟨"PaperHouse$Parser", "literal", "(I)I"⟩, 18), (⟨"PaperHouse$Sections", "readRows", "(II[B)Z"⟩, 13), (⟨"PaperHouse$Filters", "readNames", "(I)Z"⟩, 9), (⟨"PaperHouse$Filters", "readName", "(I)Z"⟩, 9), (⟨"PaperHouse$Filters", "readParms", "(I)Z"⟩, 9), (⟨"PaperHouse$Filters", "areRight", "(IZ)Z"⟩, 9), (⟨"PaperHouse$Filters", "wholeOr", "(III)I"⟩, 9), (⟨"PaperHouse$Inflate", "bits", "(I)I"⟩, 15)]
theorem lw_r2 : ∀ q ∈ lw_privs_2, lw_okq q := List.forall_mem_cons.mpr ⟨lw_p16, List.forall_mem_cons.mpr ⟨lw_p17, List.forall_mem_cons.mpr ⟨lw_p18, List.forall_mem_cons.mpr ⟨lw_p19, List.forall_mem_cons.mpr ⟨lw_p20, List.forall_mem_cons.mpr ⟨lw_p21, List.forall_mem_cons.mpr ⟨lw_p22, List.forall_mem_cons.mpr ⟨lw_p23, List.forall_mem_cons.mpr ⟨lw_p24, List.forall_mem_cons.mpr ⟨lw_p25, List.forall_mem_cons.mpr ⟨lw_p26, List.forall_mem_cons.mpr ⟨lw_p27, List.forall_mem_cons.mpr ⟨lw_p28, List.forall_mem_cons.mpr ⟨lw_p29, List.forall_mem_cons.mpr ⟨lw_p30, List.forall_mem_cons.mpr ⟨lw_p31, fun _ h => absurd h List.not_mem_nil⟩⟩⟩⟩⟩⟩⟩⟩⟩⟩⟩⟩⟩⟩⟩⟩
theorem lw_p32 : lw_okq (⟨"PaperHouse$Inflate", "stored", "()Z"⟩, 15) := ⟨⟨by decide +kernel, by decide +kernel⟩, List.mem_of_getElem? (i := 281) (by decide +kernel), List.mem_of_getElem? (i := 1101) (by decide +kernel), List.mem_of_getElem? (i := 1102) (by decide +kernel)⟩
theorem lw_p33 : lw_okq (⟨"PaperHouse$Inflate", "toWholeByte", "()V"⟩, 15) := ⟨⟨by decide +kernel, by decide +kernel⟩, List.mem_of_getElem? (i := 281) (by decide +kernel), List.mem_of_getElem? (i := 1105) (by decide +kernel), List.mem_of_getElem? (i := 1106) (by decide +kernel)⟩
theorem lw_p34 : lw_okq (⟨"PaperHouse$Inflate", "write", "(I)Z"⟩, 15) := ⟨⟨by decide +kernel, by decide +kernel⟩, List.mem_of_getElem? (i := 281) (by decide +kernel), List.mem_of_getElem? (i := 1110) (by decide +kernel), List.mem_of_getElem? (i := 1111) (by decide +kernel)⟩
theorem lw_p35 : lw_okq (⟨"PaperHouse$Inflate", "fixedCodes", "()V"⟩, 15) := ⟨⟨by decide +kernel, by decide +kernel⟩, List.mem_of_getElem? (i := 281) (by decide +kernel), List.mem_of_getElem? (i := 1114) (by decide +kernel), List.mem_of_getElem? (i := 1115) (by decide +kernel)⟩
theorem lw_p36 : lw_okq (⟨"PaperHouse$Inflate", "build", "([I[III)I"⟩, 15) := ⟨⟨by decide +kernel, by decide +kernel⟩, List.mem_of_getElem? (i := 281) (by decide +kernel), List.mem_of_getElem? (i := 1118) (by decide +kernel), List.mem_of_getElem? (i := 1119) (by decide +kernel)⟩
theorem lw_p37 : lw_okq (⟨"PaperHouse$Inflate", "decode", "()Z"⟩, 15) := ⟨⟨by decide +kernel, by decide +kernel⟩, List.mem_of_getElem? (i := 281) (by decide +kernel), List.mem_of_getElem? (i := 1123) (by decide +kernel), List.mem_of_getElem? (i := 1124) (by decide +kernel)⟩
theorem lw_p38 : lw_okq (⟨"PaperHouse$Inflate", "symbol", "([I[I)I"⟩, 15) := ⟨⟨by decide +kernel, by decide +kernel⟩, List.mem_of_getElem? (i := 281) (by decide +kernel), List.mem_of_getElem? (i := 1127) (by decide +kernel), List.mem_of_getElem? (i := 1128) (by decide +kernel)⟩
theorem lw_p39 : lw_okq (⟨"PaperHouse$Inflate", "row", "(I)Z"⟩, 15) := ⟨⟨by decide +kernel, by decide +kernel⟩, List.mem_of_getElem? (i := 281) (by decide +kernel), List.mem_of_getElem? (i := 1131) (by decide +kernel), List.mem_of_getElem? (i := 1132) (by decide +kernel)⟩
theorem lw_p40 : lw_okq (⟨"PaperHouse$Inflate", "readCodes", "()Z"⟩, 15) := ⟨⟨by decide +kernel, by decide +kernel⟩, List.mem_of_getElem? (i := 281) (by decide +kernel), List.mem_of_getElem? (i := 1143) (by decide +kernel), List.mem_of_getElem? (i := 1144) (by decide +kernel)⟩
theorem lw_p41 : lw_okq (⟨"PaperHouse$Inflate", "readSizes", "()Z"⟩, 15) := ⟨⟨by decide +kernel, by decide +kernel⟩, List.mem_of_getElem? (i := 281) (by decide +kernel), List.mem_of_getElem? (i := 1149) (by decide +kernel), List.mem_of_getElem? (i := 1150) (by decide +kernel)⟩
theorem lw_p42 : lw_okq (⟨"PaperHouse$Inflate", "dynamicCodes", "()Z"⟩, 15) := ⟨⟨by decide +kernel, by decide +kernel⟩, List.mem_of_getElem? (i := 281) (by decide +kernel), List.mem_of_getElem? (i := 1153) (by decide +kernel), List.mem_of_getElem? (i := 1154) (by decide +kernel)⟩
theorem lw_p43 : lw_okq (⟨"PaperHouse$Inflate", "endsWell", "()Z"⟩, 15) := ⟨⟨by decide +kernel, by decide +kernel⟩, List.mem_of_getElem? (i := 281) (by decide +kernel), List.mem_of_getElem? (i := 1157) (by decide +kernel), List.mem_of_getElem? (i := 1158) (by decide +kernel)⟩
theorem lw_p44 : lw_okq (⟨"PaperHouse$Filters", "columns", "(I)I"⟩, 9) := ⟨⟨by decide +kernel, by decide +kernel⟩, List.mem_of_getElem? (i := 275) (by decide +kernel), List.mem_of_getElem? (i := 1171) (by decide +kernel), List.mem_of_getElem? (i := 1172) (by decide +kernel)⟩
theorem lw_p45 : lw_okq (⟨"PaperHouse$Sections", "readWidths", "(I)Z"⟩, 13) := ⟨⟨by decide +kernel, by decide +kernel⟩, List.mem_of_getElem? (i := 365) (by decide +kernel), List.mem_of_getElem? (i := 1185) (by decide +kernel), List.mem_of_getElem? (i := 1186) (by decide +kernel)⟩
theorem lw_p46 : lw_okq (⟨"PaperHouse$Sections", "readPairs", "(II)Z"⟩, 13) := ⟨⟨by decide +kernel, by decide +kernel⟩, List.mem_of_getElem? (i := 365) (by decide +kernel), List.mem_of_getElem? (i := 1192) (by decide +kernel), List.mem_of_getElem? (i := 1193) (by decide +kernel)⟩
theorem lw_p47 : lw_okq (⟨"PaperHouse$Sections", "readPair", "(III)Z"⟩, 13) := ⟨⟨by decide +kernel, by decide +kernel⟩, List.mem_of_getElem? (i := 365) (by decide +kernel), List.mem_of_getElem? (i := 1196) (by decide +kernel), List.mem_of_getElem? (i := 1197) (by decide +kernel)⟩
def lw_privs_3 : List (MethodName × Nat) := [(⟨"PaperHouse$Inflate", "stored", "()Z"⟩, 15), (⟨"PaperHouse$Inflate", "toWholeByte", "()V"⟩, 15), (⟨"PaperHouse$Inflate", "write", "(I)Z"⟩, 15), (⟨"PaperHouse$Inflate", "fixedCodes", "()V"⟩, 15), (⟨"PaperHouse$Inflate", "build", "([I[III)I"⟩, 15), (⟨"PaperHouse$Inflate", "decode", "()Z"⟩, 15), (⟨"PaperHouse$Inflate", "symbol", "([I[I)I"⟩, 15), (⟨"PaperHouse$Inflate", "row", "(I)Z"⟩, 15), (⟨"PaperHouse$Inflate", "readCodes", "()Z"⟩, 15), (⟨"PaperHouse$Inflate", "readSizes", "()Z"⟩, 15), (⟨"PaperHouse$Inflate", "dynamicCodes", "()Z"⟩, 15), (⟨"PaperHouse$Inflate", "endsWell", "()Z"⟩, 15), (⟨"PaperHouse$Filters", "columns", "(I)I"⟩, 9), (⟨"PaperHouse$Sections", "readWidths", "(I)Z"⟩, 13), (⟨"PaperHouse$Sections", "readPairs", "(II)Z"⟩, 13), (⟨"PaperHouse$Sections", "readPair", "(III)Z"⟩, 13)]
theorem lw_r3 : ∀ q ∈ lw_privs_3, lw_okq q := List.forall_mem_cons.mpr ⟨lw_p32, List.forall_mem_cons.mpr ⟨lw_p33, List.forall_mem_cons.mpr ⟨lw_p34, List.forall_mem_cons.mpr ⟨lw_p35, List.forall_mem_cons.mpr ⟨lw_p36, List.forall_mem_cons.mpr ⟨lw_p37, List.forall_mem_cons.mpr ⟨lw_p38, List.forall_mem_cons.mpr ⟨lw_p39, List.forall_mem_cons.mpr ⟨lw_p40, List.forall_mem_cons.mpr ⟨lw_p41, List.forall_mem_cons.mpr ⟨lw_p42, List.forall_mem_cons.mpr ⟨lw_p43, List.forall_mem_cons.mpr ⟨lw_p44, List.forall_mem_cons.mpr ⟨lw_p45, List.forall_mem_cons.mpr ⟨lw_p46, List.forall_mem_cons.mpr ⟨lw_p47, fun _ h => absurd h List.not_mem_nil⟩⟩⟩⟩⟩⟩⟩⟩⟩⟩⟩⟩⟩⟩⟩⟩
theorem lw_p48 : lw_okq (⟨"PaperHouse$Sections", "number", "(I)J"⟩, 13) := ⟨⟨by decide +kernel, by decide +kernel⟩, List.mem_of_getElem? (i := 365) (by decide +kernel), List.mem_of_getElem? (i := 1200) (by decide +kernel), List.mem_of_getElem? (i := 1201) (by decide +kernel)⟩
theorem lw_p49 : lw_okq (⟨"PaperHouse$Sections", "readTrailer", "(II)I"⟩, 13) := ⟨⟨by decide +kernel, by decide +kernel⟩, List.mem_of_getElem? (i := 365) (by decide +kernel), List.mem_of_getElem? (i := 1208) (by decide +kernel), List.mem_of_getElem? (i := 1209) (by decide +kernel)⟩
theorem lw_p50 : lw_okq (⟨"PaperHouse$Loader", "waits", "(I)Z"⟩, 10) := ⟨⟨by decide +kernel, by decide +kernel⟩, List.mem_of_getElem? (i := 416) (by decide +kernel), List.mem_of_getElem? (i := 1242) (by decide +kernel), List.mem_of_getElem? (i := 1243) (by decide +kernel)⟩
theorem lw_p51 : lw_okq (⟨"PaperHouse$Loader", "failObject", "(I)I"⟩, 10) := ⟨⟨by decide +kernel, by decide +kernel⟩, List.mem_of_getElem? (i := 416) (by decide +kernel), List.mem_of_getElem? (i := 1246) (by decide +kernel), List.mem_of_getElem? (i := 1247) (by decide +kernel)⟩
theorem lw_p52 : lw_okq (⟨"PaperHouse$Loader", "clip", "(I)I"⟩, 10) := ⟨⟨by decide +kernel, by decide +kernel⟩, List.mem_of_getElem? (i := 416) (by decide +kernel), List.mem_of_getElem? (i := 1254) (by decide +kernel), List.mem_of_getElem? (i := 1255) (by decide +kernel)⟩
theorem lw_p53 : lw_okq (⟨"PaperHouse$Loader", "findInside", "(I)Z"⟩, 10) := ⟨⟨by decide +kernel, by decide +kernel⟩, List.mem_of_getElem? (i := 416) (by decide +kernel), List.mem_of_getElem? (i := 1282) (by decide +kernel), List.mem_of_getElem? (i := 1283) (by decide +kernel)⟩
theorem lw_p54 : lw_okq (⟨"PaperHouse$Loader", "findPlaced", "(I)Z"⟩, 10) := ⟨⟨by decide +kernel, by decide +kernel⟩, List.mem_of_getElem? (i := 416) (by decide +kernel), List.mem_of_getElem? (i := 1304) (by decide +kernel), List.mem_of_getElem? (i := 1305) (by decide +kernel)⟩
theorem lw_p55 : lw_okq (⟨"PaperHouse$Loader", "readBehind", "(II)V"⟩, 10) := ⟨⟨by decide +kernel, by decide +kernel⟩, List.mem_of_getElem? (i := 416) (by decide +kernel), List.mem_of_getElem? (i := 1315) (by decide +kernel), List.mem_of_getElem? (i := 1316) (by decide +kernel)⟩
theorem lw_p56 : lw_okq (⟨"PaperHouse$Tree", "visit", "(III)I"⟩, 9) := ⟨⟨by decide +kernel, by decide +kernel⟩, List.mem_of_getElem? (i := 455) (by decide +kernel), List.mem_of_getElem? (i := 1356) (by decide +kernel), List.mem_of_getElem? (i := 1357) (by decide +kernel)⟩
theorem lw_p57 : lw_okq (⟨"PaperHouse$Tree", "looksRight", "(IIZ)Z"⟩, 9) := ⟨⟨by decide +kernel, by decide +kernel⟩, List.mem_of_getElem? (i := 455) (by decide +kernel), List.mem_of_getElem? (i := 1361) (by decide +kernel), List.mem_of_getElem? (i := 1362) (by decide +kernel)⟩
theorem lw_p58 : lw_okq (⟨"PaperHouse$Tree", "isBox", "(I)Z"⟩, 9) := ⟨⟨by decide +kernel, by decide +kernel⟩, List.mem_of_getElem? (i := 455) (by decide +kernel), List.mem_of_getElem? (i := 1366) (by decide +kernel), List.mem_of_getElem? (i := 1367) (by decide +kernel)⟩
theorem lw_p59 : lw_okq (⟨"PaperHouse$Tree", "takesPage", "(I)Z"⟩, 9) := ⟨⟨by decide +kernel, by decide +kernel⟩, List.mem_of_getElem? (i := 455) (by decide +kernel), List.mem_of_getElem? (i := 1378) (by decide +kernel), List.mem_of_getElem? (i := 1379) (by decide +kernel)⟩
theorem lw_p60 : lw_okq (⟨"PaperHouse", "kindHere", "()I"⟩, 19) := ⟨⟨by decide +kernel, by decide +kernel⟩, List.mem_of_getElem? (i := 23) (by decide +kernel), List.mem_of_getElem? (i := 1415) (by decide +kernel), List.mem_of_getElem? (i := 1416) (by decide +kernel)⟩
theorem lw_p61 : lw_okq (⟨"PaperHouse", "nodeHere", "()I"⟩, 19) := ⟨⟨by decide +kernel, by decide +kernel⟩, List.mem_of_getElem? (i := 23) (by decide +kernel), List.mem_of_getElem? (i := 1420) (by decide +kernel), List.mem_of_getElem? (i := 1421) (by decide +kernel)⟩
theorem lw_p62 : lw_okq (⟨"PaperHouse", "isNowhere", "()Z"⟩, 19) := ⟨⟨by decide +kernel, by decide +kernel⟩, List.mem_of_getElem? (i := 23) (by decide +kernel), List.mem_of_getElem? (i := 1424) (by decide +kernel), List.mem_of_getElem? (i := 1425) (by decide +kernel)⟩
theorem lw_p63 : lw_okq (⟨"PaperHouse", "keyHere", "()I"⟩, 19) := ⟨⟨by decide +kernel, by decide +kernel⟩, List.mem_of_getElem? (i := 23) (by decide +kernel), List.mem_of_getElem? (i := 1444) (by decide +kernel), List.mem_of_getElem? (i := 1445) (by decide +kernel)⟩
def lw_privs_4 : List (MethodName × Nat) := [(⟨"PaperHouse$Sections", "number", "(I)J"⟩, 13), (⟨"PaperHouse$Sections", "readTrailer", "(II)I"⟩, 13), (⟨"PaperHouse$Loader", "waits", "(I)Z"⟩, 10), (⟨"PaperHouse$Loader", "failObject", "(I)I"⟩, 10), (⟨"PaperHouse$Loader", "clip", "(I)I"⟩, 10), (⟨"PaperHouse$Loader", "findInside", "(I)Z"⟩, 10), (⟨"PaperHouse$Loader", "findPlaced", "(I)Z"⟩, 10), (⟨"PaperHouse$Loader", "readBehind", "(II)V"⟩, 10), (⟨"PaperHouse$Tree", "visit", "(III)I"⟩, 9), (⟨"PaperHouse$Tree", "looksRight", "(IIZ)Z"⟩, 9), (⟨"PaperHouse$Tree", "isBox", "(I)Z"⟩, 9), (⟨"PaperHouse$Tree", "takesPage", "(I)Z"⟩, 9), (⟨"PaperHouse", "kindHere", "()I"⟩, 19), (⟨"PaperHouse", "nodeHere", "()I"⟩, 19), (⟨"PaperHouse", "isNowhere", "()Z"⟩, 19), (⟨"PaperHouse", "keyHere", "()I"⟩, 19)]
theorem lw_r4 : ∀ q ∈ lw_privs_4, lw_okq q := List.forall_mem_cons.mpr ⟨lw_p48, List.forall_mem_cons.mpr ⟨lw_p49, List.forall_mem_cons.mpr ⟨lw_p50, List.forall_mem_cons.mpr ⟨lw_p51, List.forall_mem_cons.mpr ⟨lw_p52, List.forall_mem_cons.mpr ⟨lw_p53, List.forall_mem_cons.mpr ⟨lw_p54, List.forall_mem_cons.mpr ⟨lw_p55, List.forall_mem_cons.mpr ⟨lw_p56, List.forall_mem_cons.mpr ⟨lw_p57, List.forall_mem_cons.mpr ⟨lw_p58, List.forall_mem_cons.mpr ⟨lw_p59, List.forall_mem_cons.mpr ⟨lw_p60, List.forall_mem_cons.mpr ⟨lw_p61, List.forall_mem_cons.mpr ⟨lw_p62, List.forall_mem_cons.mpr ⟨lw_p63, fun _ h => absurd h List.not_mem_nil⟩⟩⟩⟩⟩⟩⟩⟩⟩⟩⟩⟩⟩⟩⟩⟩
theorem lw_p64 : lw_okq (⟨"PaperHouse$Painter", "operate", "(II)V"⟩, 19) := ⟨⟨by decide +kernel, by decide +kernel⟩, List.mem_of_getElem? (i := 492) (by decide +kernel), List.mem_of_getElem? (i := 1532) (by decide +kernel), List.mem_of_getElem? (i := 1533) (by decide +kernel)⟩
theorem lw_p65 : lw_okq (⟨"PaperHouse$Painter", "fits", "(I)Z"⟩, 19) := ⟨⟨by decide +kernel, by decide +kernel⟩, List.mem_of_getElem? (i := 492) (by decide +kernel), List.mem_of_getElem? (i := 1539) (by decide +kernel), List.mem_of_getElem? (i := 1540) (by decide +kernel)⟩
theorem lw_p66 : lw_okq (⟨"PaperHouse$Painter", "operand", "(I)I"⟩, 19) := ⟨⟨by decide +kernel, by decide +kernel⟩, List.mem_of_getElem? (i := 492) (by decide +kernel), List.mem_of_getElem? (i := 1543) (by decide +kernel), List.mem_of_getElem? (i := 1544) (by decide +kernel)⟩
theorem lw_p67 : lw_okq (⟨"PaperHouse$Painter", "arePieces", "(I)Z"⟩, 19) := ⟨⟨by decide +kernel, by decide +kernel⟩, List.mem_of_getElem? (i := 492) (by decide +kernel), List.mem_of_getElem? (i := 1548) (by decide +kernel), List.mem_of_getElem? (i := 1549) (by decide +kernel)⟩
theorem lw_p68 : lw_okq (⟨"PaperHouse$Painter", "areNumbers", "(I)Z"⟩, 19) := ⟨⟨by decide +kernel, by decide +kernel⟩, List.mem_of_getElem? (i := 492) (by decide +kernel), List.mem_of_getElem? (i := 1556) (by decide +kernel), List.mem_of_getElem? (i := 1557) (by decide +kernel)⟩
theorem lw_p69 : lw_okq (⟨"PaperHouse$Painter", "isInOrder", "(I)Z"⟩, 19) := ⟨⟨by decide +kernel, by decide +kernel⟩, List.mem_of_getElem? (i := 492) (by decide +kernel), List.mem_of_getElem? (i := 1560) (by decide +kernel), List.mem_of_getElem? (i := 1561) (by decide +kernel)⟩
theorem lw_p70 : lw_okq (⟨"PaperHouse$Painter", "findsFont", "(I)Z"⟩, 19) := ⟨⟨by decide +kernel, by decide +kernel⟩, List.mem_of_getElem? (i := 492) (by decide +kernel), List.mem_of_getElem? (i := 1564) (by decide +kernel), List.mem_of_getElem? (i := 1565) (by decide +kernel)⟩
theorem lw_p71 : lw_okq (⟨"PaperHouse$Painter", "resources", "()I"⟩, 19) := ⟨⟨by decide +kernel, by decide +kernel⟩, List.mem_of_getElem? (i := 492) (by decide +kernel), List.mem_of_getElem? (i := 1568) (by decide +kernel), List.mem_of_getElem? (i := 1569) (by decide +kernel)⟩
theorem lw_p72 : lw_okq (⟨"PaperHouse$Painter", "readFont", "(I)Z"⟩, 19) := ⟨⟨by decide +kernel, by decide +kernel⟩, List.mem_of_getElem? (i := 492) (by decide +kernel), List.mem_of_getElem? (i := 1575) (by decide +kernel), List.mem_of_getElem? (i := 1576) (by decide +kernel)⟩
theorem lw_p73 : lw_okq (⟨"PaperHouse$Painter", "hasString", "(I)Z"⟩, 19) := ⟨⟨by decide +kernel, by decide +kernel⟩, List.mem_of_getElem? (i := 492) (by decide +kernel), List.mem_of_getElem? (i := 1585) (by decide +kernel), List.mem_of_getElem? (i := 1586) (by decide +kernel)⟩
theorem lw_p74 : lw_okq (⟨"PaperHouse$Painter", "showText", "(II)I"⟩, 19) := ⟨⟨by decide +kernel, by decide +kernel⟩, List.mem_of_getElem? (i := 492) (by decide +kernel), List.mem_of_getElem? (i := 1589) (by decide +kernel), List.mem_of_getElem? (i := 1590) (by decide +kernel)⟩
theorem lw_p75 : lw_okq (⟨"PaperHouse$Painter", "workInText", "(I)I"⟩, 19) := ⟨⟨by decide +kernel, by decide +kernel⟩, List.mem_of_getElem? (i := 492) (by decide +kernel), List.mem_of_getElem? (i := 1593) (by decide +kernel), List.mem_of_getElem? (i := 1594) (by decide +kernel)⟩
theorem lw_p76 : lw_okq (⟨"PaperHouse$Painter", "nextLine", "(II)Z"⟩, 19) := ⟨⟨by decide +kernel, by decide +kernel⟩, List.mem_of_getElem? (i := 492) (by decide +kernel), List.mem_of_getElem? (i := 1597) (by decide +kernel), List.mem_of_getElem? (i := 1598) (by decide +kernel)⟩
theorem lw_p77 : lw_okq (⟨"PaperHouse$Painter", "give", "(IIIIII)V"⟩, 19) := ⟨⟨by decide +kernel, by decide +kernel⟩, List.mem_of_getElem? (i := 492) (by decide +kernel), List.mem_of_getElem? (i := 1601) (by decide +kernel), List.mem_of_getElem? (i := 1602) (by decide +kernel)⟩
theorem lw_p78 : lw_okq (⟨"PaperHouse$Painter", "giveOperands", "()V"⟩, 19) := ⟨⟨by decide +kernel, by decide +kernel⟩, List.mem_of_getElem? (i := 492) (by decide +kernel), List.mem_of_getElem? (i := 1614) (by decide +kernel), List.mem_of_getElem? (i := 1615) (by decide +kernel)⟩
theorem lw_p79 : lw_okq (⟨"PaperHouse$Painter", "showString", "(I)I"⟩, 19) := ⟨⟨by decide +kernel, by decide +kernel⟩, List.mem_of_getElem? (i := 492) (by decide +kernel), List.mem_of_getElem? (i := 1618) (by decide +kernel), List.mem_of_getElem? (i := 1619) (by decide +kernel)⟩
def lw_privs_5 : List (MethodName × Nat) := [(⟨"PaperHouse$Painter", "operate", "(II)V"⟩, 19), (⟨"PaperHouse$Painter", "fits", "(I)Z"⟩, 19), (⟨"PaperHouse$Painter", "operand", "(I)I"⟩, 19), (⟨"PaperHouse$Painter", "arePieces", "(I)Z"⟩, 19), (⟨"PaperHouse$Painter", "areNumbers", "(I)Z"⟩, 19), (⟨"PaperHouse$Painter", "isInOrder", "(I)Z"⟩, 19), (⟨"PaperHouse$Painter", "findsFont", "(I)Z"⟩, 19), (⟨"PaperHouse$Painter", "resources", "()I"⟩, 19), (⟨"PaperHouse$Painter", "readFont", "(I)Z"⟩, 19), (⟨"PaperHouse$Painter", "hasString", "(I)Z"⟩, 19), (⟨"PaperHouse$Painter", "showText", "(II)I"⟩, 19), (⟨"PaperHouse$Painter", "workInText", "(I)I"⟩, 19), (⟨"PaperHouse$Painter", "nextLine", "(II)Z"⟩, 19), (⟨"PaperHouse$Painter", "give", "(IIIIII)V"⟩, 19), (⟨"PaperHouse$Painter", "giveOperands", "()V"⟩, 19), (⟨"PaperHouse$Painter", "showString", "(I)I"⟩, 19)]
theorem lw_r5 : ∀ q ∈ lw_privs_5, lw_okq q := List.forall_mem_cons.mpr ⟨lw_p64, List.forall_mem_cons.mpr ⟨lw_p65, List.forall_mem_cons.mpr ⟨lw_p66, List.forall_mem_cons.mpr ⟨lw_p67, List.forall_mem_cons.mpr ⟨lw_p68, List.forall_mem_cons.mpr ⟨lw_p69, List.forall_mem_cons.mpr ⟨lw_p70, List.forall_mem_cons.mpr ⟨lw_p71, List.forall_mem_cons.mpr ⟨lw_p72, List.forall_mem_cons.mpr ⟨lw_p73, List.forall_mem_cons.mpr ⟨lw_p74, List.forall_mem_cons.mpr ⟨lw_p75, List.forall_mem_cons.mpr ⟨lw_p76, List.forall_mem_cons.mpr ⟨lw_p77, List.forall_mem_cons.mpr ⟨lw_p78, List.forall_mem_cons.mpr ⟨lw_p79, fun _ h => absurd h List.not_mem_nil⟩⟩⟩⟩⟩⟩⟩⟩⟩⟩⟩⟩⟩⟩⟩⟩
theorem lw_p80 : lw_okq (⟨"PaperHouse$Painter", "keepGlyph", "(I)V"⟩, 19) := ⟨⟨by decide +kernel, by decide +kernel⟩, List.mem_of_getElem? (i := 492) (by decide +kernel), List.mem_of_getElem? (i := 1624) (by decide +kernel), List.mem_of_getElem? (i := 1625) (by decide +kernel)⟩
theorem lw_p81 : lw_okq (⟨"PaperHouse$Painter", "scaled", "(J)J"⟩, 19) := ⟨⟨by decide +kernel, by decide +kernel⟩, List.mem_of_getElem? (i := 492) (by decide +kernel), List.mem_of_getElem? (i := 1628) (by decide +kernel), List.mem_of_getElem? (i := 1629) (by decide +kernel)⟩
theorem lw_p82 : lw_okq (⟨"PaperHouse$Painter", "advance", "(J)Z"⟩, 19) := ⟨⟨by decide +kernel, by decide +kernel⟩, List.mem_of_getElem? (i := 492) (by decide +kernel), List.mem_of_getElem? (i := 1637) (by decide +kernel), List.mem_of_getElem? (i := 1638) (by decide +kernel)⟩
theorem lw_p83 : lw_okq (⟨"PaperHouse$Painter", "work", "(I)I"⟩, 19) := ⟨⟨by decide +kernel, by decide +kernel⟩, List.mem_of_getElem? (i := 492) (by decide +kernel), List.mem_of_getElem? (i := 1641) (by decide +kernel), List.mem_of_getElem? (i := 1642) (by decide +kernel)⟩
theorem lw_p84 : lw_okq (⟨"PaperHouse$Changes", "set", "(IIIII)V"⟩, 3) := ⟨⟨by decide +kernel, by decide +kernel⟩, List.mem_of_getElem? (i := 560) (by decide +kernel), List.mem_of_getElem? (i := 1687) (by decide +kernel), List.mem_of_getElem? (i := 1688) (by decide +kernel)⟩
theorem lw_p85 : lw_okq (⟨"PaperHouse$Changes", "putIn", "(II)V"⟩, 3) := ⟨⟨by decide +kernel, by decide +kernel⟩, List.mem_of_getElem? (i := 560) (by decide +kernel), List.mem_of_getElem? (i := 1708) (by decide +kernel), List.mem_of_getElem? (i := 1709) (by decide +kernel)⟩
theorem lw_p86 : lw_okq (⟨"PaperHouse$Changes", "ownKids", "(I)I"⟩, 3) := ⟨⟨by decide +kernel, by decide +kernel⟩, List.mem_of_getElem? (i := 560) (by decide +kernel), List.mem_of_getElem? (i := 1717) (by decide +kernel), List.mem_of_getElem? (i := 1718) (by decide +kernel)⟩
theorem lw_p87 : lw_okq (⟨"PaperHouse$Changes", "placeOf", "(II)I"⟩, 3) := ⟨⟨by decide +kernel, by decide +kernel⟩, List.mem_of_getElem? (i := 560) (by decide +kernel), List.mem_of_getElem? (i := 1727) (by decide +kernel), List.mem_of_getElem? (i := 1728) (by decide +kernel)⟩
theorem lw_p88 : lw_okq (⟨"PaperHouse$Changes", "countUp", "(II)V"⟩, 3) := ⟨⟨by decide +kernel, by decide +kernel⟩, List.mem_of_getElem? (i := 560) (by decide +kernel), List.mem_of_getElem? (i := 1744) (by decide +kernel), List.mem_of_getElem? (i := 1745) (by decide +kernel)⟩
theorem lw_p89 : lw_okq (⟨"PaperHouse", "changed", "(I)I"⟩, 19) := ⟨⟨by decide +kernel, by decide +kernel⟩, List.mem_of_getElem? (i := 23) (by decide +kernel), List.mem_of_getElem? (i := 1749) (by decide +kernel), List.mem_of_getElem? (i := 1750) (by decide +kernel)⟩
theorem lw_p90 : lw_okq (⟨"PaperHouse$Changes", "takeOut", "(I)V"⟩, 3) := ⟨⟨by decide +kernel, by decide +kernel⟩, List.mem_of_getElem? (i := 560) (by decide +kernel), List.mem_of_getElem? (i := 1762) (by decide +kernel), List.mem_of_getElem? (i := 1763) (by decide +kernel)⟩
theorem lw_p91 : lw_okq (⟨"PaperHouse$Changes", "takeOver", "(II)V"⟩, 3) := ⟨⟨by decide +kernel, by decide +kernel⟩, List.mem_of_getElem? (i := 560) (by decide +kernel), List.mem_of_getElem? (i := 1778) (by decide +kernel), List.mem_of_getElem? (i := 1779) (by decide +kernel)⟩
theorem lw_p92 : lw_okq (⟨"PaperHouse$Writer", "putText", "(Ljava/lang/String;)V"⟩, 18) := ⟨⟨by decide +kernel, by decide +kernel⟩, List.mem_of_getElem? (i := 576) (by decide +kernel), List.mem_of_getElem? (i := 1830) (by decide +kernel), List.mem_of_getElem? (i := 1831) (by decide +kernel)⟩
theorem lw_p93 : lw_okq (⟨"PaperHouse$Writer", "put", "(I)V"⟩, 18) := ⟨⟨by decide +kernel, by decide +kernel⟩, List.mem_of_getElem? (i := 576) (by decide +kernel), List.mem_of_getElem? (i := 1836) (by decide +kernel), List.mem_of_getElem? (i := 1837) (by decide +kernel)⟩
theorem lw_p94 : lw_okq (⟨"PaperHouse$Writer", "meet", "(I)I"⟩, 18) := ⟨⟨by decide +kernel, by decide +kernel⟩, List.mem_of_getElem? (i := 576) (by decide +kernel), List.mem_of_getElem? (i := 1840) (by decide +kernel), List.mem_of_getElem? (i := 1841) (by decide +kernel)⟩
theorem lw_p95 : lw_okq (⟨"PaperHouse$Writer", "putObject", "(III)V"⟩, 18) := ⟨⟨by decide +kernel, by decide +kernel⟩, List.mem_of_getElem? (i := 576) (by decide +kernel), List.mem_of_getElem? (i := 1844) (by decide +kernel), List.mem_of_getElem? (i := 1845) (by decide +kernel)⟩
def lw_privs_6 : List (MethodName × Nat) := [(⟨"PaperHouse$Painter", "keepGlyph", "(I)V"⟩, 19), (⟨"PaperHouse$Painter", "scaled", "(J)J"⟩, 19), (⟨"PaperHouse$Painter", "advance", "(J)Z"⟩, 19), (⟨"PaperHouse$Painter", "work", "(I)I"⟩, 19), (⟨"PaperHouse$Changes", "set", "(IIIII)V"⟩, 3), (⟨"PaperHouse$Changes", "putIn", "(II)V"⟩, 3), (⟨"PaperHouse$Changes", "ownKids", "(I)I"⟩, 3), (⟨"PaperHouse$Changes", "placeOf", "(II)I"⟩, 3), (⟨"PaperHouse$Changes", "countUp", "(II)V"⟩, 3), (⟨"PaperHouse", "changed", "(I)I"⟩, 19), (⟨"PaperHouse$Changes", "takeOut", "(I)V"⟩, 3), (⟨"PaperHouse$Changes", "takeOver", "(II)V"⟩, 3), (⟨"PaperHouse$Writer", "putText", "(Ljava/lang/String;)V"⟩, 18), (⟨"PaperHouse$Writer", "put", "(I)V"⟩, 18), (⟨"PaperHouse$Writer", "meet", "(I)I"⟩, 18), (⟨"PaperHouse$Writer", "putObject", "(III)V"⟩, 18)]
theorem lw_r6 : ∀ q ∈ lw_privs_6, lw_okq q := List.forall_mem_cons.mpr ⟨lw_p80, List.forall_mem_cons.mpr ⟨lw_p81, List.forall_mem_cons.mpr ⟨lw_p82, List.forall_mem_cons.mpr ⟨lw_p83, List.forall_mem_cons.mpr ⟨lw_p84, List.forall_mem_cons.mpr ⟨lw_p85, List.forall_mem_cons.mpr ⟨lw_p86, List.forall_mem_cons.mpr ⟨lw_p87, List.forall_mem_cons.mpr ⟨lw_p88, List.forall_mem_cons.mpr ⟨lw_p89, List.forall_mem_cons.mpr ⟨lw_p90, List.forall_mem_cons.mpr ⟨lw_p91, List.forall_mem_cons.mpr ⟨lw_p92, List.forall_mem_cons.mpr ⟨lw_p93, List.forall_mem_cons.mpr ⟨lw_p94, List.forall_mem_cons.mpr ⟨lw_p95, fun _ h => absurd h List.not_mem_nil⟩⟩⟩⟩⟩⟩⟩⟩⟩⟩⟩⟩⟩⟩⟩⟩
theorem lw_p96 : lw_okq (⟨"PaperHouse$Writer", "putNumber", "(J)V"⟩, 18) := ⟨⟨by decide +kernel, by decide +kernel⟩, List.mem_of_getElem? (i := 576) (by decide +kernel), List.mem_of_getElem? (i := 1848) (by decide +kernel), List.mem_of_getElem? (i := 1849) (by decide +kernel)⟩
theorem lw_p97 : lw_okq (⟨"PaperHouse$Writer", "squeeze", "([BII)V"⟩, 18) := ⟨⟨by decide +kernel, by decide +kernel⟩, List.mem_of_getElem? (i := 576) (by decide +kernel), List.mem_of_getElem? (i := 1859) (by decide +kernel), List.mem_of_getElem? (i := 1860) (by decide +kernel)⟩
theorem lw_p98 : lw_okq (⟨"PaperHouse$Writer", "push", "(II)V"⟩, 18) := ⟨⟨by decide +kernel, by decide +kernel⟩, List.mem_of_getElem? (i := 576) (by decide +kernel), List.mem_of_getElem? (i := 1864) (by decide +kernel), List.mem_of_getElem? (i := 1865) (by decide +kernel)⟩
theorem lw_p99 : lw_okq (⟨"PaperHouse$Writer", "longest", "([BIII)I"⟩, 18) := ⟨⟨by decide +kernel, by decide +kernel⟩, List.mem_of_getElem? (i := 576) (by decide +kernel), List.mem_of_getElem? (i := 1868) (by decide +kernel), List.mem_of_getElem? (i := 1869) (by decide +kernel)⟩
theorem lw_p100 : lw_okq (⟨"PaperHouse$Writer", "pushSymbol", "(I)V"⟩, 18) := ⟨⟨by decide +kernel, by decide +kernel⟩, List.mem_of_getElem? (i := 576) (by decide +kernel), List.mem_of_getElem? (i := 1875) (by decide +kernel), List.mem_of_getElem? (i := 1876) (by decide +kernel)⟩
theorem lw_p101 : lw_okq (⟨"PaperHouse$Writer", "pushCode", "(II)V"⟩, 18) := ⟨⟨by decide +kernel, by decide +kernel⟩, List.mem_of_getElem? (i := 576) (by decide +kernel), List.mem_of_getElem? (i := 1879) (by decide +kernel), List.mem_of_getElem? (i := 1880) (by decide +kernel)⟩
theorem lw_p102 : lw_okq (⟨"PaperHouse$Writer", "pushRow", "(I)V"⟩, 18) := ⟨⟨by decide +kernel, by decide +kernel⟩, List.mem_of_getElem? (i := 576) (by decide +kernel), List.mem_of_getElem? (i := 1883) (by decide +kernel), List.mem_of_getElem? (i := 1884) (by decide +kernel)⟩
theorem lw_p103 : lw_okq (⟨"PaperHouse$Writer", "remember", "([BIII)V"⟩, 18) := ⟨⟨by decide +kernel, by decide +kernel⟩, List.mem_of_getElem? (i := 576) (by decide +kernel), List.mem_of_getElem? (i := 1891) (by decide +kernel), List.mem_of_getElem? (i := 1892) (by decide +kernel)⟩
theorem lw_p104 : lw_okq (⟨"PaperHouse$Writer", "forget", "([BII)V"⟩, 18) := ⟨⟨by decide +kernel, by decide +kernel⟩, List.mem_of_getElem? (i := 576) (by decide +kernel), List.mem_of_getElem? (i := 1896) (by decide +kernel), List.mem_of_getElem? (i := 1897) (by decide +kernel)⟩
theorem lw_p105 : lw_okq (⟨"PaperHouse$Writer", "putEntries", "(IIZ)V"⟩, 18) := ⟨⟨by decide +kernel, by decide +kernel⟩, List.mem_of_getElem? (i := 576) (by decide +kernel), List.mem_of_getElem? (i := 1902) (by decide +kernel), List.mem_of_getElem? (i := 1903) (by decide +kernel)⟩
theorem lw_p106 : lw_okq (⟨"PaperHouse$Writer", "putName", "(I)V"⟩, 18) := ⟨⟨by decide +kernel, by decide +kernel⟩, List.mem_of_getElem? (i := 576) (by decide +kernel), List.mem_of_getElem? (i := 1910) (by decide +kernel), List.mem_of_getElem? (i := 1911) (by decide +kernel)⟩
theorem lw_p107 : lw_okq (⟨"PaperHouse$Writer", "putHex", "(I)V"⟩, 18) := ⟨⟨by decide +kernel, by decide +kernel⟩, List.mem_of_getElem? (i := 576) (by decide +kernel), List.mem_of_getElem? (i := 1917) (by decide +kernel), List.mem_of_getElem? (i := 1918) (by decide +kernel)⟩
theorem lw_p108 : lw_okq (⟨"PaperHouse$Writer", "putValue", "(II)V"⟩, 18) := ⟨⟨by decide +kernel, by decide +kernel⟩, List.mem_of_getElem? (i := 576) (by decide +kernel), List.mem_of_getElem? (i := 1921) (by decide +kernel), List.mem_of_getElem? (i := 1922) (by decide +kernel)⟩
theorem lw_p109 : lw_okq (⟨"PaperHouse$Writer", "putReal", "(I)V"⟩, 18) := ⟨⟨by decide +kernel, by decide +kernel⟩, List.mem_of_getElem? (i := 576) (by decide +kernel), List.mem_of_getElem? (i := 1929) (by decide +kernel), List.mem_of_getElem? (i := 1930) (by decide +kernel)⟩
theorem lw_p110 : lw_okq (⟨"PaperHouse$Writer", "putString", "(I)V"⟩, 18) := ⟨⟨by decide +kernel, by decide +kernel⟩, List.mem_of_getElem? (i := 576) (by decide +kernel), List.mem_of_getElem? (i := 1936) (by decide +kernel), List.mem_of_getElem? (i := 1937) (by decide +kernel)⟩
theorem lw_p111 : lw_okq (⟨"PaperHouse$Writer", "putReference", "(I)V"⟩, 18) := ⟨⟨by decide +kernel, by decide +kernel⟩, List.mem_of_getElem? (i := 576) (by decide +kernel), List.mem_of_getElem? (i := 1943) (by decide +kernel), List.mem_of_getElem? (i := 1944) (by decide +kernel)⟩
def lw_privs_7 : List (MethodName × Nat) := [(⟨"PaperHouse$Writer", "putNumber", "(J)V"⟩, 18), (⟨"PaperHouse$Writer", "squeeze", "([BII)V"⟩, 18), (⟨"PaperHouse$Writer", "push", "(II)V"⟩, 18), (⟨"PaperHouse$Writer", "longest", "([BIII)I"⟩, 18), (⟨"PaperHouse$Writer", "pushSymbol", "(I)V"⟩, 18), (⟨"PaperHouse$Writer", "pushCode", "(II)V"⟩, 18), (⟨"PaperHouse$Writer", "pushRow", "(I)V"⟩, 18), (⟨"PaperHouse$Writer", "remember", "([BIII)V"⟩, 18), (⟨"PaperHouse$Writer", "forget", "([BII)V"⟩, 18), (⟨"PaperHouse$Writer", "putEntries", "(IIZ)V"⟩, 18), (⟨"PaperHouse$Writer", "putName", "(I)V"⟩, 18), (⟨"PaperHouse$Writer", "putHex", "(I)V"⟩, 18), (⟨"PaperHouse$Writer", "putValue", "(II)V"⟩, 18), (⟨"PaperHouse$Writer", "putReal", "(I)V"⟩, 18), (⟨"PaperHouse$Writer", "putString", "(I)V"⟩, 18), (⟨"PaperHouse$Writer", "putReference", "(I)V"⟩, 18)]
theorem lw_r7 : ∀ q ∈ lw_privs_7, lw_okq q := List.forall_mem_cons.mpr ⟨lw_p96, List.forall_mem_cons.mpr ⟨lw_p97, List.forall_mem_cons.mpr ⟨lw_p98, List.forall_mem_cons.mpr ⟨lw_p99, List.forall_mem_cons.mpr ⟨lw_p100, List.forall_mem_cons.mpr ⟨lw_p101, List.forall_mem_cons.mpr ⟨lw_p102, List.forall_mem_cons.mpr ⟨lw_p103, List.forall_mem_cons.mpr ⟨lw_p104, List.forall_mem_cons.mpr ⟨lw_p105, List.forall_mem_cons.mpr ⟨lw_p106, List.forall_mem_cons.mpr ⟨lw_p107, List.forall_mem_cons.mpr ⟨lw_p108, List.forall_mem_cons.mpr ⟨lw_p109, List.forall_mem_cons.mpr ⟨lw_p110, List.forall_mem_cons.mpr ⟨lw_p111, fun _ h => absurd h List.not_mem_nil⟩⟩⟩⟩⟩⟩⟩⟩⟩⟩⟩⟩⟩⟩⟩⟩
theorem lw_p112 : lw_okq (⟨"PaperHouse$Writer", "putCode", "()V"⟩, 18) := ⟨⟨by decide +kernel, by decide +kernel⟩, List.mem_of_getElem? (i := 576) (by decide +kernel), List.mem_of_getElem? (i := 1952) (by decide +kernel), List.mem_of_getElem? (i := 1953) (by decide +kernel)⟩
theorem lw_p113 : lw_okq (⟨"PaperHouse$Writer", "putEntry", "(II)V"⟩, 18) := ⟨⟨by decide +kernel, by decide +kernel⟩, List.mem_of_getElem? (i := 576) (by decide +kernel), List.mem_of_getElem? (i := 1962) (by decide +kernel), List.mem_of_getElem? (i := 1963) (by decide +kernel)⟩
theorem lw_p114 : lw_okq (⟨"PaperHouse$Writer", "putDigits", "(JJ)V"⟩, 18) := ⟨⟨by decide +kernel, by decide +kernel⟩, List.mem_of_getElem? (i := 576) (by decide +kernel), List.mem_of_getElem? (i := 1967) (by decide +kernel), List.mem_of_getElem? (i := 1968) (by decide +kernel)⟩
theorem lw_p115 : lw_okq (⟨"PaperHouse$Writer", "putRoots", "()V"⟩, 18) := ⟨⟨by decide +kernel, by decide +kernel⟩, List.mem_of_getElem? (i := 576) (by decide +kernel), List.mem_of_getElem? (i := 1973) (by decide +kernel), List.mem_of_getElem? (i := 1974) (by decide +kernel)⟩
theorem lw_p116 : lw_okq (⟨"PaperHouse$Writer", "putRoot", "(Ljava/lang/String;I)V"⟩, 18) := ⟨⟨by decide +kernel, by decide +kernel⟩, List.mem_of_getElem? (i := 576) (by decide +kernel), List.mem_of_getElem? (i := 1978) (by decide +kernel), List.mem_of_getElem? (i := 1979) (by decide +kernel)⟩
theorem lw_p117 : lw_okq (⟨"PaperHouse$Writer", "putEnd", "(I)V"⟩, 18) := ⟨⟨by decide +kernel, by decide +kernel⟩, List.mem_of_getElem? (i := 576) (by decide +kernel), List.mem_of_getElem? (i := 1985) (by decide +kernel), List.mem_of_getElem? (i := 1986) (by decide +kernel)⟩
theorem lw_p118 : lw_okq (⟨"PaperHouse$Writer", "finish", "()I"⟩, 18) := ⟨⟨by decide +kernel, by decide +kernel⟩, List.mem_of_getElem? (i := 576) (by decide +kernel), List.mem_of_getElem? (i := 1991) (by decide +kernel), List.mem_of_getElem? (i := 1992) (by decide +kernel)⟩
theorem lw_p119 : lw_okq (⟨"PaperHouse$Writer", "putRows", "(II)V"⟩, 18) := ⟨⟨by decide +kernel, by decide +kernel⟩, List.mem_of_getElem? (i := 576) (by decide +kernel), List.mem_of_getElem? (i := 2010) (by decide +kernel), List.mem_of_getElem? (i := 2011) (by decide +kernel)⟩
theorem lw_p120 : lw_okq (⟨"PaperHouse$Writer", "endOfRow", "(III)I"⟩, 18) := ⟨⟨by decide +kernel, by decide +kernel⟩, List.mem_of_getElem? (i := 576) (by decide +kernel), List.mem_of_getElem? (i := 2016) (by decide +kernel), List.mem_of_getElem? (i := 2017) (by decide +kernel)⟩
theorem lw_p121 : lw_okq (⟨"PaperHouse$Writer", "isListed", "(II)Z"⟩, 18) := ⟨⟨by decide +kernel, by decide +kernel⟩, List.mem_of_getElem? (i := 576) (by decide +kernel), List.mem_of_getElem? (i := 2020) (by decide +kernel), List.mem_of_getElem? (i := 2021) (by decide +kernel)⟩
theorem lw_p122 : lw_okq (⟨"PaperHouse$Writer", "layRow", "(III)I"⟩, 18) := ⟨⟨by decide +kernel, by decide +kernel⟩, List.mem_of_getElem? (i := 576) (by decide +kernel), List.mem_of_getElem? (i := 2025) (by decide +kernel), List.mem_of_getElem? (i := 2026) (by decide +kernel)⟩
theorem lw_p123 : lw_okq (⟨"PaperHouse$Writer", "putTable", "(I)V"⟩, 18) := ⟨⟨by decide +kernel, by decide +kernel⟩, List.mem_of_getElem? (i := 576) (by decide +kernel), List.mem_of_getElem? (i := 2032) (by decide +kernel), List.mem_of_getElem? (i := 2033) (by decide +kernel)⟩
theorem lw_p124 : lw_okq (⟨"PaperHouseModel", "lay", "(I)V"⟩, 121) := ⟨⟨by decide +kernel, by decide +kernel⟩, List.mem_of_getElem? (i := 2057) (by decide +kernel), List.mem_of_getElem? (i := 2486) (by decide +kernel), List.mem_of_getElem? (i := 2487) (by decide +kernel)⟩
theorem lw_p125 : lw_okq (⟨"PaperHouseModel", "readFile", "()V"⟩, 121) := ⟨⟨by decide +kernel, by decide +kernel⟩, List.mem_of_getElem? (i := 2057) (by decide +kernel), List.mem_of_getElem? (i := 2498) (by decide +kernel), List.mem_of_getElem? (i := 2499) (by decide +kernel)⟩
theorem lw_p126 : lw_okq (⟨"PaperHouseModel", "byteHere", "(I)I"⟩, 121) := ⟨⟨by decide +kernel, by decide +kernel⟩, List.mem_of_getElem? (i := 2057) (by decide +kernel), List.mem_of_getElem? (i := 2503) (by decide +kernel), List.mem_of_getElem? (i := 2504) (by decide +kernel)⟩
theorem lw_p127 : lw_okq (⟨"PaperHouseModel", "fail", "(II)V"⟩, 121) := ⟨⟨by decide +kernel, by decide +kernel⟩, List.mem_of_getElem? (i := 2057) (by decide +kernel), List.mem_of_getElem? (i := 2508) (by decide +kernel), List.mem_of_getElem? (i := 2509) (by decide +kernel)⟩
def lw_privs_8 : List (MethodName × Nat) := [(⟨"PaperHouse$Writer", "putCode", "()V"⟩, 18), (⟨"PaperHouse$Writer", "putEntry", "(II)V"⟩, 18), (⟨"PaperHouse$Writer", "putDigits", "(JJ)V"⟩, 18), (⟨"PaperHouse$Writer", "putRoots", "()V"⟩, 18), (⟨"PaperHouse$Writer", "putRoot", "(Ljava/lang/String;I)V"⟩, 18), (⟨"PaperHouse$Writer", "putEnd", "(I)V"⟩, 18), (⟨"PaperHouse$Writer", "finish", "()I"⟩, 18), (⟨"PaperHouse$Writer", "putRows", "(II)V"⟩, 18), (⟨"PaperHouse$Writer", "endOfRow", "(III)I"⟩, 18), (⟨"PaperHouse$Writer", "isListed", "(II)Z"⟩, 18), (⟨"PaperHouse$Writer", "layRow", "(III)I"⟩, 18), (⟨"PaperHouse$Writer", "putTable", "(I)V"⟩, 18), (⟨"PaperHouseModel", "lay", "(I)V"⟩, 121), (⟨"PaperHouseModel", "readFile", "()V"⟩, 121), (⟨"PaperHouseModel", "byteHere", "(I)I"⟩, 121), (⟨"PaperHouseModel", "fail", "(II)V"⟩, 121)]
theorem lw_r8 : ∀ q ∈ lw_privs_8, lw_okq q := List.forall_mem_cons.mpr ⟨lw_p112, List.forall_mem_cons.mpr ⟨lw_p113, List.forall_mem_cons.mpr ⟨lw_p114, List.forall_mem_cons.mpr ⟨lw_p115, List.forall_mem_cons.mpr ⟨lw_p116, List.forall_mem_cons.mpr ⟨lw_p117, List.forall_mem_cons.mpr ⟨lw_p118, List.forall_mem_cons.mpr ⟨lw_p119, List.forall_mem_cons.mpr ⟨lw_p120, List.forall_mem_cons.mpr ⟨lw_p121, List.forall_mem_cons.mpr ⟨lw_p122, List.forall_mem_cons.mpr ⟨lw_p123, List.forall_mem_cons.mpr ⟨lw_p124, List.forall_mem_cons.mpr ⟨lw_p125, List.forall_mem_cons.mpr ⟨lw_p126, List.forall_mem_cons.mpr ⟨lw_p127, fun _ h => absurd h List.not_mem_nil⟩⟩⟩⟩⟩⟩⟩⟩⟩⟩⟩⟩⟩⟩⟩⟩
theorem lw_p128 : lw_okq (⟨"PaperHouseModel", "stand", "(Ljava/lang/String;I)Z"⟩, 121) := ⟨⟨by decide +kernel, by decide +kernel⟩, List.mem_of_getElem? (i := 2057) (by decide +kernel), List.mem_of_getElem? (i := 2513) (by decide +kernel), List.mem_of_getElem? (i := 2514) (by decide +kernel)⟩
theorem lw_p129 : lw_okq (⟨"PaperHouseModel", "ending", "(I)J"⟩, 121) := ⟨⟨by decide +kernel, by decide +kernel⟩, List.mem_of_getElem? (i := 2057) (by decide +kernel), List.mem_of_getElem? (i := 2518) (by decide +kernel), List.mem_of_getElem? (i := 2519) (by decide +kernel)⟩
theorem lw_p130 : lw_okq (⟨"PaperHouseModel", "good", "()Z"⟩, 121) := ⟨⟨by decide +kernel, by decide +kernel⟩, List.mem_of_getElem? (i := 2057) (by decide +kernel), List.mem_of_getElem? (i := 2534) (by decide +kernel), List.mem_of_getElem? (i := 2535) (by decide +kernel)⟩
theorem lw_p131 : lw_okq (⟨"PaperHouseModel", "section", "(J)J"⟩, 121) := ⟨⟨by decide +kernel, by decide +kernel⟩, List.mem_of_getElem? (i := 2057) (by decide +kernel), List.mem_of_getElem? (i := 2538) (by decide +kernel), List.mem_of_getElem? (i := 2539) (by decide +kernel)⟩
theorem lw_p132 : lw_okq (⟨"PaperHouseModel", "from", "([BII)V"⟩, 121) := ⟨⟨by decide +kernel, by decide +kernel⟩, List.mem_of_getElem? (i := 2057) (by decide +kernel), List.mem_of_getElem? (i := 2542) (by decide +kernel), List.mem_of_getElem? (i := 2543) (by decide +kernel)⟩
theorem lw_p133 : lw_okq (⟨"PaperHouseModel", "table", "(I)I"⟩, 121) := ⟨⟨by decide +kernel, by decide +kernel⟩, List.mem_of_getElem? (i := 2057) (by decide +kernel), List.mem_of_getElem? (i := 2553) (by decide +kernel), List.mem_of_getElem? (i := 2554) (by decide +kernel)⟩
theorem lw_p134 : lw_okq (⟨"PaperHouseModel", "blanks", "()V"⟩, 121) := ⟨⟨by decide +kernel, by decide +kernel⟩, List.mem_of_getElem? (i := 2057) (by decide +kernel), List.mem_of_getElem? (i := 2557) (by decide +kernel), List.mem_of_getElem? (i := 2558) (by decide +kernel)⟩
theorem lw_p135 : lw_okq (⟨"PaperHouseModel", "peek", "(I)I"⟩, 121) := ⟨⟨by decide +kernel, by decide +kernel⟩, List.mem_of_getElem? (i := 2057) (by decide +kernel), List.mem_of_getElem? (i := 2561) (by decide +kernel), List.mem_of_getElem? (i := 2562) (by decide +kernel)⟩
theorem lw_p136 : lw_okq (⟨"PaperHouseModel", "plainRow", "()J"⟩, 121) := ⟨⟨by decide +kernel, by decide +kernel⟩, List.mem_of_getElem? (i := 2057) (by decide +kernel), List.mem_of_getElem? (i := 2565) (by decide +kernel), List.mem_of_getElem? (i := 2566) (by decide +kernel)⟩
theorem lw_p137 : lw_okq (⟨"PaperHouseModel", "isEntry", "()Z"⟩, 121) := ⟨⟨by decide +kernel, by decide +kernel⟩, List.mem_of_getElem? (i := 2057) (by decide +kernel), List.mem_of_getElem? (i := 2571) (by decide +kernel), List.mem_of_getElem? (i := 2572) (by decide +kernel)⟩
theorem lw_p138 : lw_okq (⟨"PaperHouseModel", "digits", "(II)J"⟩, 121) := ⟨⟨by decide +kernel, by decide +kernel⟩, List.mem_of_getElem? (i := 2057) (by decide +kernel), List.mem_of_getElem? (i := 2575) (by decide +kernel), List.mem_of_getElem? (i := 2576) (by decide +kernel)⟩
theorem lw_p139 : lw_okq (⟨"PaperHouseModel", "tell", "(IIJJ)V"⟩, 121) := ⟨⟨by decide +kernel, by decide +kernel⟩, List.mem_of_getElem? (i := 2057) (by decide +kernel), List.mem_of_getElem? (i := 2579) (by decide +kernel), List.mem_of_getElem? (i := 2580) (by decide +kernel)⟩
theorem lw_p140 : lw_okq (⟨"PaperHouseModel", "token", "()V"⟩, 121) := ⟨⟨by decide +kernel, by decide +kernel⟩, List.mem_of_getElem? (i := 2057) (by decide +kernel), List.mem_of_getElem? (i := 2583) (by decide +kernel), List.mem_of_getElem? (i := 2584) (by decide +kernel)⟩
theorem lw_p141 : lw_okq (⟨"PaperHouseModel", "white", "()V"⟩, 121) := ⟨⟨by decide +kernel, by decide +kernel⟩, List.mem_of_getElem? (i := 2057) (by decide +kernel), List.mem_of_getElem? (i := 2587) (by decide +kernel), List.mem_of_getElem? (i := 2588) (by decide +kernel)⟩
theorem lw_p142 : lw_okq (⟨"PaperHouseModel", "row", "()V"⟩, 121) := ⟨⟨by decide +kernel, by decide +kernel⟩, List.mem_of_getElem? (i := 2057) (by decide +kernel), List.mem_of_getElem? (i := 2591) (by decide +kernel), List.mem_of_getElem? (i := 2592) (by decide +kernel)⟩
theorem lw_p143 : lw_okq (⟨"PaperHouseModel", "realOf", "(ZJJII)V"⟩, 121) := ⟨⟨by decide +kernel, by decide +kernel⟩, List.mem_of_getElem? (i := 2057) (by decide +kernel), List.mem_of_getElem? (i := 2597) (by decide +kernel), List.mem_of_getElem? (i := 2598) (by decide +kernel)⟩
def lw_privs_9 : List (MethodName × Nat) := [(⟨"PaperHouseModel", "stand", "(Ljava/lang/String;I)Z"⟩, 121), (⟨"PaperHouseModel", "ending", "(I)J"⟩, 121), (⟨"PaperHouseModel", "good", "()Z"⟩, 121), (⟨"PaperHouseModel", "section", "(J)J"⟩, 121), (⟨"PaperHouseModel", "from", "([BII)V"⟩, 121), (⟨"PaperHouseModel", "table", "(I)I"⟩, 121), (⟨"PaperHouseModel", "blanks", "()V"⟩, 121), (⟨"PaperHouseModel", "peek", "(I)I"⟩, 121), (⟨"PaperHouseModel", "plainRow", "()J"⟩, 121), (⟨"PaperHouseModel", "isEntry", "()Z"⟩, 121), (⟨"PaperHouseModel", "digits", "(II)J"⟩, 121), (⟨"PaperHouseModel", "tell", "(IIJJ)V"⟩, 121), (⟨"PaperHouseModel", "token", "()V"⟩, 121), (⟨"PaperHouseModel", "white", "()V"⟩, 121), (⟨"PaperHouseModel", "row", "()V"⟩, 121), (⟨"PaperHouseModel", "realOf", "(ZJJII)V"⟩, 121)]
theorem lw_r9 : ∀ q ∈ lw_privs_9, lw_okq q := List.forall_mem_cons.mpr ⟨lw_p128, List.forall_mem_cons.mpr ⟨lw_p129, List.forall_mem_cons.mpr ⟨lw_p130, List.forall_mem_cons.mpr ⟨lw_p131, List.forall_mem_cons.mpr ⟨lw_p132, List.forall_mem_cons.mpr ⟨lw_p133, List.forall_mem_cons.mpr ⟨lw_p134, List.forall_mem_cons.mpr ⟨lw_p135, List.forall_mem_cons.mpr ⟨lw_p136, List.forall_mem_cons.mpr ⟨lw_p137, List.forall_mem_cons.mpr ⟨lw_p138, List.forall_mem_cons.mpr ⟨lw_p139, List.forall_mem_cons.mpr ⟨lw_p140, List.forall_mem_cons.mpr ⟨lw_p141, List.forall_mem_cons.mpr ⟨lw_p142, List.forall_mem_cons.mpr ⟨lw_p143, fun _ h => absurd h List.not_mem_nil⟩⟩⟩⟩⟩⟩⟩⟩⟩⟩⟩⟩⟩⟩⟩⟩
theorem lw_p144 : lw_okq (⟨"PaperHouseModel", "readName", "()V"⟩, 121) := ⟨⟨by decide +kernel, by decide +kernel⟩, List.mem_of_getElem? (i := 2057) (by decide +kernel), List.mem_of_getElem? (i := 2603) (by decide +kernel), List.mem_of_getElem? (i := 2604) (by decide +kernel)⟩
theorem lw_p145 : lw_okq (⟨"PaperHouseModel", "put", "(I)V"⟩, 121) := ⟨⟨by decide +kernel, by decide +kernel⟩, List.mem_of_getElem? (i := 2057) (by decide +kernel), List.mem_of_getElem? (i := 2610) (by decide +kernel), List.mem_of_getElem? (i := 2611) (by decide +kernel)⟩
theorem lw_p146 : lw_okq (⟨"PaperHouseModel", "readString", "()V"⟩, 121) := ⟨⟨by decide +kernel, by decide +kernel⟩, List.mem_of_getElem? (i := 2057) (by decide +kernel), List.mem_of_getElem? (i := 2614) (by decide +kernel), List.mem_of_getElem? (i := 2615) (by decide +kernel)⟩
theorem lw_p147 : lw_okq (⟨"PaperHouseModel", "escape", "()V"⟩, 121) := ⟨⟨by decide +kernel, by decide +kernel⟩, List.mem_of_getElem? (i := 2057) (by decide +kernel), List.mem_of_getElem? (i := 2618) (by decide +kernel), List.mem_of_getElem? (i := 2619) (by decide +kernel)⟩
theorem lw_p148 : lw_okq (⟨"PaperHouseModel", "readHex", "()V"⟩, 121) := ⟨⟨by decide +kernel, by decide +kernel⟩, List.mem_of_getElem? (i := 2057) (by decide +kernel), List.mem_of_getElem? (i := 2622) (by decide +kernel), List.mem_of_getElem? (i := 2623) (by decide +kernel)⟩
theorem lw_p149 : lw_okq (⟨"PaperHouseModel", "isWord", "(Ljava/lang/String;)Z"⟩, 121) := ⟨⟨by decide +kernel, by decide +kernel⟩, List.mem_of_getElem? (i := 2057) (by decide +kernel), List.mem_of_getElem? (i := 2627) (by decide +kernel), List.mem_of_getElem? (i := 2628) (by decide +kernel)⟩
theorem lw_p150 : lw_okq (⟨"PaperHouseModel", "object", "(IZ)I"⟩, 121) := ⟨⟨by decide +kernel, by decide +kernel⟩, List.mem_of_getElem? (i := 2057) (by decide +kernel), List.mem_of_getElem? (i := 2631) (by decide +kernel), List.mem_of_getElem? (i := 2632) (by decide +kernel)⟩
theorem lw_p151 : lw_okq (⟨"PaperHouseModel", "counted", "()V"⟩, 121) := ⟨⟨by decide +kernel, by decide +kernel⟩, List.mem_of_getElem? (i := 2057) (by decide +kernel), List.mem_of_getElem? (i := 2638) (by decide +kernel), List.mem_of_getElem? (i := 2639) (by decide +kernel)⟩
theorem lw_p152 : lw_okq (⟨"PaperHouseModel", "newNode", "(II)I"⟩, 121) := ⟨⟨by decide +kernel, by decide +kernel⟩, List.mem_of_getElem? (i := 2057) (by decide +kernel), List.mem_of_getElem? (i := 2643) (by decide +kernel), List.mem_of_getElem? (i := 2644) (by decide +kernel)⟩
theorem lw_p153 : lw_okq (⟨"PaperHouseModel", "wholeOrReference", "()I"⟩, 121) := ⟨⟨by decide +kernel, by decide +kernel⟩, List.mem_of_getElem? (i := 2057) (by decide +kernel), List.mem_of_getElem? (i := 2647) (by decide +kernel), List.mem_of_getElem? (i := 2648) (by decide +kernel)⟩
theorem lw_p154 : lw_okq (⟨"PaperHouseModel", "array", "(IZ)I"⟩, 121) := ⟨⟨by decide +kernel, by decide +kernel⟩, List.mem_of_getElem? (i := 2057) (by decide +kernel), List.mem_of_getElem? (i := 2653) (by decide +kernel), List.mem_of_getElem? (i := 2654) (by decide +kernel)⟩
theorem lw_p155 : lw_okq (⟨"PaperHouseModel", "dict", "(IZ)I"⟩, 121) := ⟨⟨by decide +kernel, by decide +kernel⟩, List.mem_of_getElem? (i := 2057) (by decide +kernel), List.mem_of_getElem? (i := 2657) (by decide +kernel), List.mem_of_getElem? (i := 2658) (by decide +kernel)⟩
theorem lw_p156 : lw_okq (⟨"PaperHouseModel", "rowStream", "(I)I"⟩, 121) := ⟨⟨by decide +kernel, by decide +kernel⟩, List.mem_of_getElem? (i := 2057) (by decide +kernel), List.mem_of_getElem? (i := 2661) (by decide +kernel), List.mem_of_getElem? (i := 2662) (by decide +kernel)⟩
theorem lw_p157 : lw_okq (⟨"PaperHouseModel", "header", "()Z"⟩, 121) := ⟨⟨by decide +kernel, by decide +kernel⟩, List.mem_of_getElem? (i := 2057) (by decide +kernel), List.mem_of_getElem? (i := 2665) (by decide +kernel), List.mem_of_getElem? (i := 2666) (by decide +kernel)⟩
theorem lw_p158 : lw_okq (⟨"PaperHouseModel", "rawEntry", "(ILjava/lang/String;)I"⟩, 121) := ⟨⟨by decide +kernel, by decide +kernel⟩, List.mem_of_getElem? (i := 2057) (by decide +kernel), List.mem_of_getElem? (i := 2671) (by decide +kernel), List.mem_of_getElem? (i := 2672) (by decide +kernel)⟩
theorem lw_p159 : lw_okq (⟨"PaperHouseModel", "isText", "(IILjava/lang/String;)Z"⟩, 121) := ⟨⟨by decide +kernel, by decide +kernel⟩, List.mem_of_getElem? (i := 2057) (by decide +kernel), List.mem_of_getElem? (i := 2675) (by decide +kernel), List.mem_of_getElem? (i := 2676) (by decide +kernel)⟩
def lw_privs_10 : List (MethodName × Nat) := [(⟨"PaperHouseModel", "readName", "()V"⟩, 121), (⟨"PaperHouseModel", "put", "(I)V"⟩, 121), (⟨"PaperHouseModel", "readString", "()V"⟩, 121), (⟨"PaperHouseModel", "escape", "()V"⟩, 121), (⟨"PaperHouseModel", "readHex", "()V"⟩, 121), (⟨"PaperHouseModel", "isWord", "(Ljava/lang/String;)Z"⟩, 121), (⟨"PaperHouseModel", "object", "(IZ)I"⟩, 121), (⟨"PaperHouseModel", "counted", "()V"⟩, 121), (⟨"PaperHouseModel", "newNode", "(II)I"⟩, 121), (⟨"PaperHouseModel", "wholeOrReference", "()I"⟩, 121), (⟨"PaperHouseModel", "array", "(IZ)I"⟩, 121), (⟨"PaperHouseModel", "dict", "(IZ)I"⟩, 121), (⟨"PaperHouseModel", "rowStream", "(I)I"⟩, 121), (⟨"PaperHouseModel", "header", "()Z"⟩, 121), (⟨"PaperHouseModel", "rawEntry", "(ILjava/lang/String;)I"⟩, 121), (⟨"PaperHouseModel", "isText", "(IILjava/lang/String;)Z"⟩, 121)]
theorem lw_r10 : ∀ q ∈ lw_privs_10, lw_okq q := List.forall_mem_cons.mpr ⟨lw_p144, List.forall_mem_cons.mpr ⟨lw_p145, List.forall_mem_cons.mpr ⟨lw_p146, List.forall_mem_cons.mpr ⟨lw_p147, List.forall_mem_cons.mpr ⟨lw_p148, List.forall_mem_cons.mpr ⟨lw_p149, List.forall_mem_cons.mpr ⟨lw_p150, List.forall_mem_cons.mpr ⟨lw_p151, List.forall_mem_cons.mpr ⟨lw_p152, List.forall_mem_cons.mpr ⟨lw_p153, List.forall_mem_cons.mpr ⟨lw_p154, List.forall_mem_cons.mpr ⟨lw_p155, List.forall_mem_cons.mpr ⟨lw_p156, List.forall_mem_cons.mpr ⟨lw_p157, List.forall_mem_cons.mpr ⟨lw_p158, List.forall_mem_cons.mpr ⟨lw_p159, fun _ h => absurd h List.not_mem_nil⟩⟩⟩⟩⟩⟩⟩⟩⟩⟩⟩⟩⟩⟩⟩⟩
theorem lw_p160 : lw_okq (⟨"PaperHouseModel", "isName", "(ILjava/lang/String;)Z"⟩, 121) := ⟨⟨by decide +kernel, by decide +kernel⟩, List.mem_of_getElem? (i := 2057) (by decide +kernel), List.mem_of_getElem? (i := 2680) (by decide +kernel), List.mem_of_getElem? (i := 2681) (by decide +kernel)⟩
theorem lw_p161 : lw_okq (⟨"PaperHouseModel", "wholeAt", "(ILjava/lang/String;I)I"⟩, 121) := ⟨⟨by decide +kernel, by decide +kernel⟩, List.mem_of_getElem? (i := 2057) (by decide +kernel), List.mem_of_getElem? (i := 2685) (by decide +kernel), List.mem_of_getElem? (i := 2686) (by decide +kernel)⟩
theorem lw_p162 : lw_okq (⟨"PaperHouseModel", "direct", "(ILjava/lang/String;)I"⟩, 121) := ⟨⟨by decide +kernel, by decide +kernel⟩, List.mem_of_getElem? (i := 2057) (by decide +kernel), List.mem_of_getElem? (i := 2689) (by decide +kernel), List.mem_of_getElem? (i := 2690) (by decide +kernel)⟩
theorem lw_p163 : lw_okq (⟨"PaperHouseModel", "streamStart", "()I"⟩, 121) := ⟨⟨by decide +kernel, by decide +kernel⟩, List.mem_of_getElem? (i := 2057) (by decide +kernel), List.mem_of_getElem? (i := 2693) (by decide +kernel), List.mem_of_getElem? (i := 2694) (by decide +kernel)⟩
theorem lw_p164 : lw_okq (⟨"PaperHouseModel", "streamEnd", "(II)Z"⟩, 121) := ⟨⟨by decide +kernel, by decide +kernel⟩, List.mem_of_getElem? (i := 2057) (by decide +kernel), List.mem_of_getElem? (i := 2698) (by decide +kernel), List.mem_of_getElem? (i := 2699) (by decide +kernel)⟩
theorem lw_p165 : lw_okq (⟨"PaperHouseModel", "decode", "(IIII)I"⟩, 121) := ⟨⟨by decide +kernel, by decide +kernel⟩, List.mem_of_getElem? (i := 2057) (by decide +kernel), List.mem_of_getElem? (i := 2704) (by decide +kernel), List.mem_of_getElem? (i := 2705) (by decide +kernel)⟩
theorem lw_p166 : lw_okq (⟨"PaperHouseModel", "filters", "(III)V"⟩, 121) := ⟨⟨by decide +kernel, by decide +kernel⟩, List.mem_of_getElem? (i := 2057) (by decide +kernel), List.mem_of_getElem? (i := 2709) (by decide +kernel), List.mem_of_getElem? (i := 2710) (by decide +kernel)⟩
theorem lw_p167 : lw_okq (⟨"PaperHouseModel", "isPredictor", "(I)Z"⟩, 121) := ⟨⟨by decide +kernel, by decide +kernel⟩, List.mem_of_getElem? (i := 2057) (by decide +kernel), List.mem_of_getElem? (i := 2716) (by decide +kernel), List.mem_of_getElem? (i := 2717) (by decide +kernel)⟩
theorem lw_p168 : lw_okq (⟨"PaperHouseModel", "inflate", "()Z"⟩, 121) := ⟨⟨by decide +kernel, by decide +kernel⟩, List.mem_of_getElem? (i := 2057) (by decide +kernel), List.mem_of_getElem? (i := 2724) (by decide +kernel), List.mem_of_getElem? (i := 2725) (by decide +kernel)⟩
theorem lw_p169 : lw_okq (⟨"PaperHouseModel", "bits", "(I)I"⟩, 121) := ⟨⟨by decide +kernel, by decide +kernel⟩, List.mem_of_getElem? (i := 2057) (by decide +kernel), List.mem_of_getElem? (i := 2728) (by decide +kernel), List.mem_of_getElem? (i := 2729) (by decide +kernel)⟩
theorem lw_p170 : lw_okq (⟨"PaperHouseModel", "stored", "()V"⟩, 121) := ⟨⟨by decide +kernel, by decide +kernel⟩, List.mem_of_getElem? (i := 2057) (by decide +kernel), List.mem_of_getElem? (i := 2732) (by decide +kernel), List.mem_of_getElem? (i := 2733) (by decide +kernel)⟩
theorem lw_p171 : lw_okq (⟨"PaperHouseModel", "emit", "(I)V"⟩, 121) := ⟨⟨by decide +kernel, by decide +kernel⟩, List.mem_of_getElem? (i := 2057) (by decide +kernel), List.mem_of_getElem? (i := 2736) (by decide +kernel), List.mem_of_getElem? (i := 2737) (by decide +kernel)⟩
theorem lw_p172 : lw_okq (⟨"PaperHouseModel", "fixed", "()V"⟩, 121) := ⟨⟨by decide +kernel, by decide +kernel⟩, List.mem_of_getElem? (i := 2057) (by decide +kernel), List.mem_of_getElem? (i := 2740) (by decide +kernel), List.mem_of_getElem? (i := 2741) (by decide +kernel)⟩
theorem lw_p173 : lw_okq (⟨"PaperHouseModel", "build", "(II[I[I)I"⟩, 121) := ⟨⟨by decide +kernel, by decide +kernel⟩, List.mem_of_getElem? (i := 2057) (by decide +kernel), List.mem_of_getElem? (i := 2744) (by decide +kernel), List.mem_of_getElem? (i := 2745) (by decide +kernel)⟩
theorem lw_p174 : lw_okq (⟨"PaperHouseModel", "codes", "()V"⟩, 121) := ⟨⟨by decide +kernel, by decide +kernel⟩, List.mem_of_getElem? (i := 2057) (by decide +kernel), List.mem_of_getElem? (i := 2748) (by decide +kernel), List.mem_of_getElem? (i := 2749) (by decide +kernel)⟩
theorem lw_p175 : lw_okq (⟨"PaperHouseModel", "symbol", "([I[I)I"⟩, 121) := ⟨⟨by decide +kernel, by decide +kernel⟩, List.mem_of_getElem? (i := 2057) (by decide +kernel), List.mem_of_getElem? (i := 2752) (by decide +kernel), List.mem_of_getElem? (i := 2753) (by decide +kernel)⟩
def lw_privs_11 : List (MethodName × Nat) := [(⟨"PaperHouseModel", "isName", "(ILjava/lang/String;)Z"⟩, 121), (⟨"PaperHouseModel", "wholeAt", "(ILjava/lang/String;I)I"⟩, 121), (⟨"PaperHouseModel", "direct", "(ILjava/lang/String;)I"⟩, 121), (⟨"PaperHouseModel", "streamStart", "()I"⟩, 121), (⟨"PaperHouseModel", "streamEnd", "(II)Z"⟩, 121), (⟨"PaperHouseModel", "decode", "(IIII)I"⟩, 121), (⟨"PaperHouseModel", "filters", "(III)V"⟩, 121), (⟨"PaperHouseModel", "isPredictor", "(I)Z"⟩, 121), (⟨"PaperHouseModel", "inflate", "()Z"⟩, 121), (⟨"PaperHouseModel", "bits", "(I)I"⟩, 121), (⟨"PaperHouseModel", "stored", "()V"⟩, 121), (⟨"PaperHouseModel", "emit", "(I)V"⟩, 121), (⟨"PaperHouseModel", "fixed", "()V"⟩, 121), (⟨"PaperHouseModel", "build", "(II[I[I)I"⟩, 121), (⟨"PaperHouseModel", "codes", "()V"⟩, 121), (⟨"PaperHouseModel", "symbol", "([I[I)I"⟩, 121)]
theorem lw_r11 : ∀ q ∈ lw_privs_11, lw_okq q := List.forall_mem_cons.mpr ⟨lw_p160, List.forall_mem_cons.mpr ⟨lw_p161, List.forall_mem_cons.mpr ⟨lw_p162, List.forall_mem_cons.mpr ⟨lw_p163, List.forall_mem_cons.mpr ⟨lw_p164, List.forall_mem_cons.mpr ⟨lw_p165, List.forall_mem_cons.mpr ⟨lw_p166, List.forall_mem_cons.mpr ⟨lw_p167, List.forall_mem_cons.mpr ⟨lw_p168, List.forall_mem_cons.mpr ⟨lw_p169, List.forall_mem_cons.mpr ⟨lw_p170, List.forall_mem_cons.mpr ⟨lw_p171, List.forall_mem_cons.mpr ⟨lw_p172, List.forall_mem_cons.mpr ⟨lw_p173, List.forall_mem_cons.mpr ⟨lw_p174, List.forall_mem_cons.mpr ⟨lw_p175, fun _ h => absurd h List.not_mem_nil⟩⟩⟩⟩⟩⟩⟩⟩⟩⟩⟩⟩⟩⟩⟩⟩
theorem lw_p176 : lw_okq (⟨"PaperHouseModel", "dynamic", "()V"⟩, 121) := ⟨⟨by decide +kernel, by decide +kernel⟩, List.mem_of_getElem? (i := 2057) (by decide +kernel), List.mem_of_getElem? (i := 2768) (by decide +kernel), List.mem_of_getElem? (i := 2769) (by decide +kernel)⟩
theorem lw_p177 : lw_okq (⟨"PaperHouseModel", "unhex", "()Z"⟩, 121) := ⟨⟨by decide +kernel, by decide +kernel⟩, List.mem_of_getElem? (i := 2057) (by decide +kernel), List.mem_of_getElem? (i := 2780) (by decide +kernel), List.mem_of_getElem? (i := 2781) (by decide +kernel)⟩
theorem lw_p178 : lw_okq (⟨"PaperHouseModel", "take", "(I)V"⟩, 121) := ⟨⟨by decide +kernel, by decide +kernel⟩, List.mem_of_getElem? (i := 2057) (by decide +kernel), List.mem_of_getElem? (i := 2784) (by decide +kernel), List.mem_of_getElem? (i := 2785) (by decide +kernel)⟩
theorem lw_p179 : lw_okq (⟨"PaperHouseModel", "unpredict", "(I)Z"⟩, 121) := ⟨⟨by decide +kernel, by decide +kernel⟩, List.mem_of_getElem? (i := 2057) (by decide +kernel), List.mem_of_getElem? (i := 2788) (by decide +kernel), List.mem_of_getElem? (i := 2789) (by decide +kernel)⟩
theorem lw_p180 : lw_okq (⟨"PaperHouseModel", "entries", "(III)V"⟩, 121) := ⟨⟨by decide +kernel, by decide +kernel⟩, List.mem_of_getElem? (i := 2057) (by decide +kernel), List.mem_of_getElem? (i := 2798) (by decide +kernel), List.mem_of_getElem? (i := 2799) (by decide +kernel)⟩
theorem lw_p181 : lw_okq (⟨"PaperHouseModel", "unsigned", "(II)J"⟩, 121) := ⟨⟨by decide +kernel, by decide +kernel⟩, List.mem_of_getElem? (i := 2057) (by decide +kernel), List.mem_of_getElem? (i := 2804) (by decide +kernel), List.mem_of_getElem? (i := 2805) (by decide +kernel)⟩
theorem lw_p182 : lw_okq (⟨"PaperHouseModel", "readObject", "(I)V"⟩, 121) := ⟨⟨by decide +kernel, by decide +kernel⟩, List.mem_of_getElem? (i := 2057) (by decide +kernel), List.mem_of_getElem? (i := 2811) (by decide +kernel), List.mem_of_getElem? (i := 2812) (by decide +kernel)⟩
theorem lw_p183 : lw_okq (⟨"PaperHouseModel", "readAt", "(I)V"⟩, 121) := ⟨⟨by decide +kernel, by decide +kernel⟩, List.mem_of_getElem? (i := 2057) (by decide +kernel), List.mem_of_getElem? (i := 2815) (by decide +kernel), List.mem_of_getElem? (i := 2816) (by decide +kernel)⟩
theorem lw_p184 : lw_okq (⟨"PaperHouseModel", "rawStream", "(II)I"⟩, 121) := ⟨⟨by decide +kernel, by decide +kernel⟩, List.mem_of_getElem? (i := 2057) (by decide +kernel), List.mem_of_getElem? (i := 2819) (by decide +kernel), List.mem_of_getElem? (i := 2820) (by decide +kernel)⟩
theorem lw_p185 : lw_okq (⟨"PaperHouseModel", "keepStream", "(IIIII)V"⟩, 121) := ⟨⟨by decide +kernel, by decide +kernel⟩, List.mem_of_getElem? (i := 2057) (by decide +kernel), List.mem_of_getElem? (i := 2823) (by decide +kernel), List.mem_of_getElem? (i := 2824) (by decide +kernel)⟩
theorem lw_p186 : lw_okq (⟨"PaperHouseModel", "readIn", "(I)V"⟩, 121) := ⟨⟨by decide +kernel, by decide +kernel⟩, List.mem_of_getElem? (i := 2057) (by decide +kernel), List.mem_of_getElem? (i := 2827) (by decide +kernel), List.mem_of_getElem? (i := 2828) (by decide +kernel)⟩
theorem lw_p187 : lw_okq (⟨"PaperHouseModel", "tree", "()V"⟩, 121) := ⟨⟨by decide +kernel, by decide +kernel⟩, List.mem_of_getElem? (i := 2057) (by decide +kernel), List.mem_of_getElem? (i := 2834) (by decide +kernel), List.mem_of_getElem? (i := 2835) (by decide +kernel)⟩
theorem lw_p188 : lw_okq (⟨"PaperHouseModel", "dictNumber", "(I)I"⟩, 121) := ⟨⟨by decide +kernel, by decide +kernel⟩, List.mem_of_getElem? (i := 2057) (by decide +kernel), List.mem_of_getElem? (i := 2840) (by decide +kernel), List.mem_of_getElem? (i := 2841) (by decide +kernel)⟩
theorem lw_p189 : lw_okq (⟨"PaperHouseModel", "resolve", "(I)I"⟩, 121) := ⟨⟨by decide +kernel, by decide +kernel⟩, List.mem_of_getElem? (i := 2057) (by decide +kernel), List.mem_of_getElem? (i := 2844) (by decide +kernel), List.mem_of_getElem? (i := 2845) (by decide +kernel)⟩
theorem lw_p190 : lw_okq (⟨"PaperHouseModel", "target", "(I)I"⟩, 121) := ⟨⟨by decide +kernel, by decide +kernel⟩, List.mem_of_getElem? (i := 2057) (by decide +kernel), List.mem_of_getElem? (i := 2848) (by decide +kernel), List.mem_of_getElem? (i := 2849) (by decide +kernel)⟩
theorem lw_p191 : lw_okq (⟨"PaperHouseModel", "generationOf", "(I)J"⟩, 121) := ⟨⟨by decide +kernel, by decide +kernel⟩, List.mem_of_getElem? (i := 2057) (by decide +kernel), List.mem_of_getElem? (i := 2852) (by decide +kernel), List.mem_of_getElem? (i := 2853) (by decide +kernel)⟩
def lw_privs_12 : List (MethodName × Nat) := [(⟨"PaperHouseModel", "dynamic", "()V"⟩, 121), (⟨"PaperHouseModel", "unhex", "()Z"⟩, 121), (⟨"PaperHouseModel", "take", "(I)V"⟩, 121), (⟨"PaperHouseModel", "unpredict", "(I)Z"⟩, 121), (⟨"PaperHouseModel", "entries", "(III)V"⟩, 121), (⟨"PaperHouseModel", "unsigned", "(II)J"⟩, 121), (⟨"PaperHouseModel", "readObject", "(I)V"⟩, 121), (⟨"PaperHouseModel", "readAt", "(I)V"⟩, 121), (⟨"PaperHouseModel", "rawStream", "(II)I"⟩, 121), (⟨"PaperHouseModel", "keepStream", "(IIIII)V"⟩, 121), (⟨"PaperHouseModel", "readIn", "(I)V"⟩, 121), (⟨"PaperHouseModel", "tree", "()V"⟩, 121), (⟨"PaperHouseModel", "dictNumber", "(I)I"⟩, 121), (⟨"PaperHouseModel", "resolve", "(I)I"⟩, 121), (⟨"PaperHouseModel", "target", "(I)I"⟩, 121), (⟨"PaperHouseModel", "generationOf", "(I)J"⟩, 121)]
theorem lw_r12 : ∀ q ∈ lw_privs_12, lw_okq q := List.forall_mem_cons.mpr ⟨lw_p176, List.forall_mem_cons.mpr ⟨lw_p177, List.forall_mem_cons.mpr ⟨lw_p178, List.forall_mem_cons.mpr ⟨lw_p179, List.forall_mem_cons.mpr ⟨lw_p180, List.forall_mem_cons.mpr ⟨lw_p181, List.forall_mem_cons.mpr ⟨lw_p182, List.forall_mem_cons.mpr ⟨lw_p183, List.forall_mem_cons.mpr ⟨lw_p184, List.forall_mem_cons.mpr ⟨lw_p185, List.forall_mem_cons.mpr ⟨lw_p186, List.forall_mem_cons.mpr ⟨lw_p187, List.forall_mem_cons.mpr ⟨lw_p188, List.forall_mem_cons.mpr ⟨lw_p189, List.forall_mem_cons.mpr ⟨lw_p190, List.forall_mem_cons.mpr ⟨lw_p191, fun _ h => absurd h List.not_mem_nil⟩⟩⟩⟩⟩⟩⟩⟩⟩⟩⟩⟩⟩⟩⟩⟩
theorem lw_p192 : lw_okq (⟨"PaperHouseModel", "isDict", "(I)Z"⟩, 121) := ⟨⟨by decide +kernel, by decide +kernel⟩, List.mem_of_getElem? (i := 2057) (by decide +kernel), List.mem_of_getElem? (i := 2856) (by decide +kernel), List.mem_of_getElem? (i := 2857) (by decide +kernel)⟩
theorem lw_p193 : lw_okq (⟨"PaperHouseModel", "entry", "(ILjava/lang/String;)I"⟩, 121) := ⟨⟨by decide +kernel, by decide +kernel⟩, List.mem_of_getElem? (i := 2057) (by decide +kernel), List.mem_of_getElem? (i := 2860) (by decide +kernel), List.mem_of_getElem? (i := 2861) (by decide +kernel)⟩
theorem lw_p194 : lw_okq (⟨"PaperHouseModel", "meet", "(III)V"⟩, 121) := ⟨⟨by decide +kernel, by decide +kernel⟩, List.mem_of_getElem? (i := 2057) (by decide +kernel), List.mem_of_getElem? (i := 2866) (by decide +kernel), List.mem_of_getElem? (i := 2867) (by decide +kernel)⟩
theorem lw_p195 : lw_okq (⟨"PaperHouseModel", "ownsRight", "(I)Z"⟩, 121) := ⟨⟨by decide +kernel, by decide +kernel⟩, List.mem_of_getElem? (i := 2057) (by decide +kernel), List.mem_of_getElem? (i := 2872) (by decide +kernel), List.mem_of_getElem? (i := 2873) (by decide +kernel)⟩
theorem lw_p196 : lw_okq (⟨"PaperHouseModel", "isBox", "(I)Z"⟩, 121) := ⟨⟨by decide +kernel, by decide +kernel⟩, List.mem_of_getElem? (i := 2057) (by decide +kernel), List.mem_of_getElem? (i := 2879) (by decide +kernel), List.mem_of_getElem? (i := 2880) (by decide +kernel)⟩
theorem lw_p197 : lw_okq (⟨"PaperHouseModel", "isNumber", "(I)Z"⟩, 121) := ⟨⟨by decide +kernel, by decide +kernel⟩, List.mem_of_getElem? (i := 2057) (by decide +kernel), List.mem_of_getElem? (i := 2883) (by decide +kernel), List.mem_of_getElem? (i := 2884) (by decide +kernel)⟩
theorem lw_p198 : lw_okq (⟨"PaperHouseModel", "dictAt", "(I)I"⟩, 121) := ⟨⟨by decide +kernel, by decide +kernel⟩, List.mem_of_getElem? (i := 2057) (by decide +kernel), List.mem_of_getElem? (i := 2887) (by decide +kernel), List.mem_of_getElem? (i := 2888) (by decide +kernel)⟩
theorem lw_p199 : lw_okq (⟨"PaperHouseModel", "meetNode", "(III)V"⟩, 121) := ⟨⟨by decide +kernel, by decide +kernel⟩, List.mem_of_getElem? (i := 2057) (by decide +kernel), List.mem_of_getElem? (i := 2891) (by decide +kernel), List.mem_of_getElem? (i := 2892) (by decide +kernel)⟩
theorem lw_p200 : lw_okq (⟨"PaperHouseModel", "meetPage", "(II)V"⟩, 121) := ⟨⟨by decide +kernel, by decide +kernel⟩, List.mem_of_getElem? (i := 2057) (by decide +kernel), List.mem_of_getElem? (i := 2897) (by decide +kernel), List.mem_of_getElem? (i := 2898) (by decide +kernel)⟩
theorem lw_p201 : lw_okq (⟨"PaperHouseModel", "inherited", "(ILjava/lang/String;)I"⟩, 121) := ⟨⟨by decide +kernel, by decide +kernel⟩, List.mem_of_getElem? (i := 2057) (by decide +kernel), List.mem_of_getElem? (i := 2901) (by decide +kernel), List.mem_of_getElem? (i := 2902) (by decide +kernel)⟩
theorem lw_p202 : lw_okq (⟨"PaperHouseModel", "holder", "(ILjava/lang/String;)I"⟩, 121) := ⟨⟨by decide +kernel, by decide +kernel⟩, List.mem_of_getElem? (i := 2057) (by decide +kernel), List.mem_of_getElem? (i := 2905) (by decide +kernel), List.mem_of_getElem? (i := 2906) (by decide +kernel)⟩
theorem lw_p203 : lw_okq (⟨"PaperHouseModel", "isNothing", "(I)Z"⟩, 121) := ⟨⟨by decide +kernel, by decide +kernel⟩, List.mem_of_getElem? (i := 2057) (by decide +kernel), List.mem_of_getElem? (i := 2909) (by decide +kernel), List.mem_of_getElem? (i := 2910) (by decide +kernel)⟩
theorem lw_p204 : lw_okq (⟨"PaperHouseModel", "contentsOf", "(I)I"⟩, 121) := ⟨⟨by decide +kernel, by decide +kernel⟩, List.mem_of_getElem? (i := 2057) (by decide +kernel), List.mem_of_getElem? (i := 2913) (by decide +kernel), List.mem_of_getElem? (i := 2914) (by decide +kernel)⟩
theorem lw_p205 : lw_okq (⟨"PaperHouseModel", "streamNumber", "(I)I"⟩, 121) := ⟨⟨by decide +kernel, by decide +kernel⟩, List.mem_of_getElem? (i := 2057) (by decide +kernel), List.mem_of_getElem? (i := 2918) (by decide +kernel), List.mem_of_getElem? (i := 2919) (by decide +kernel)⟩
theorem lw_p206 : lw_okq (⟨"PaperHouseModel", "nameAll", "(I)V"⟩, 121) := ⟨⟨by decide +kernel, by decide +kernel⟩, List.mem_of_getElem? (i := 2057) (by decide +kernel), List.mem_of_getElem? (i := 2922) (by decide +kernel), List.mem_of_getElem? (i := 2923) (by decide +kernel)⟩
theorem lw_p207 : lw_okq (⟨"PaperHouseModel", "isObject", "(I)Z"⟩, 121) := ⟨⟨by decide +kernel, by decide +kernel⟩, List.mem_of_getElem? (i := 2057) (by decide +kernel), List.mem_of_getElem? (i := 2938) (by decide +kernel), List.mem_of_getElem? (i := 2939) (by decide +kernel)⟩
def lw_privs_13 : List (MethodName × Nat) := [(⟨"PaperHouseModel", "isDict", "(I)Z"⟩, 121), (⟨"PaperHouseModel", "entry", "(ILjava/lang/String;)I"⟩, 121), (⟨"PaperHouseModel", "meet", "(III)V"⟩, 121), (⟨"PaperHouseModel", "ownsRight", "(I)Z"⟩, 121), (⟨"PaperHouseModel", "isBox", "(I)Z"⟩, 121), (⟨"PaperHouseModel", "isNumber", "(I)Z"⟩, 121), (⟨"PaperHouseModel", "dictAt", "(I)I"⟩, 121), (⟨"PaperHouseModel", "meetNode", "(III)V"⟩, 121), (⟨"PaperHouseModel", "meetPage", "(II)V"⟩, 121), (⟨"PaperHouseModel", "inherited", "(ILjava/lang/String;)I"⟩, 121), (⟨"PaperHouseModel", "holder", "(ILjava/lang/String;)I"⟩, 121), (⟨"PaperHouseModel", "isNothing", "(I)Z"⟩, 121), (⟨"PaperHouseModel", "contentsOf", "(I)I"⟩, 121), (⟨"PaperHouseModel", "streamNumber", "(I)I"⟩, 121), (⟨"PaperHouseModel", "nameAll", "(I)V"⟩, 121), (⟨"PaperHouseModel", "isObject", "(I)Z"⟩, 121)]
theorem lw_r13 : ∀ q ∈ lw_privs_13, lw_okq q := List.forall_mem_cons.mpr ⟨lw_p192, List.forall_mem_cons.mpr ⟨lw_p193, List.forall_mem_cons.mpr ⟨lw_p194, List.forall_mem_cons.mpr ⟨lw_p195, List.forall_mem_cons.mpr ⟨lw_p196, List.forall_mem_cons.mpr ⟨lw_p197, List.forall_mem_cons.mpr ⟨lw_p198, List.forall_mem_cons.mpr ⟨lw_p199, List.forall_mem_cons.mpr ⟨lw_p200, List.forall_mem_cons.mpr ⟨lw_p201, List.forall_mem_cons.mpr ⟨lw_p202, List.forall_mem_cons.mpr ⟨lw_p203, List.forall_mem_cons.mpr ⟨lw_p204, List.forall_mem_cons.mpr ⟨lw_p205, List.forall_mem_cons.mpr ⟨lw_p206, List.forall_mem_cons.mpr ⟨lw_p207, fun _ h => absurd h List.not_mem_nil⟩⟩⟩⟩⟩⟩⟩⟩⟩⟩⟩⟩⟩⟩⟩⟩
theorem lw_p208 : lw_okq (⟨"PaperHouseModel", "kindHere", "()I"⟩, 121) := ⟨⟨by decide +kernel, by decide +kernel⟩, List.mem_of_getElem? (i := 2057) (by decide +kernel), List.mem_of_getElem? (i := 2942) (by decide +kernel), List.mem_of_getElem? (i := 2943) (by decide +kernel)⟩
theorem lw_p209 : lw_okq (⟨"PaperHouseModel", "isPage", "(I)Z"⟩, 121) := ⟨⟨by decide +kernel, by decide +kernel⟩, List.mem_of_getElem? (i := 2057) (by decide +kernel), List.mem_of_getElem? (i := 2982) (by decide +kernel), List.mem_of_getElem? (i := 2983) (by decide +kernel)⟩
theorem lw_p210 : lw_okq (⟨"PaperHouseModel", "unitsOf", "(I)I"⟩, 121) := ⟨⟨by decide +kernel, by decide +kernel⟩, List.mem_of_getElem? (i := 2057) (by decide +kernel), List.mem_of_getElem? (i := 2986) (by decide +kernel), List.mem_of_getElem? (i := 2987) (by decide +kernel)⟩
theorem lw_p211 : lw_okq (⟨"PaperHouseModel", "gather", "(I)V"⟩, 121) := ⟨⟨by decide +kernel, by decide +kernel⟩, List.mem_of_getElem? (i := 2057) (by decide +kernel), List.mem_of_getElem? (i := 2995) (by decide +kernel), List.mem_of_getElem? (i := 2996) (by decide +kernel)⟩
theorem lw_p212 : lw_okq (⟨"PaperHouseModel", "collect", "(I)V"⟩, 121) := ⟨⟨by decide +kernel, by decide +kernel⟩, List.mem_of_getElem? (i := 2057) (by decide +kernel), List.mem_of_getElem? (i := 2999) (by decide +kernel), List.mem_of_getElem? (i := 3000) (by decide +kernel)⟩
theorem lw_p213 : lw_okq (⟨"PaperHouseModel", "operator", "()V"⟩, 121) := ⟨⟨by decide +kernel, by decide +kernel⟩, List.mem_of_getElem? (i := 2057) (by decide +kernel), List.mem_of_getElem? (i := 3006) (by decide +kernel), List.mem_of_getElem? (i := 3007) (by decide +kernel)⟩
theorem lw_p214 : lw_okq (⟨"PaperHouseModel", "which", "()I"⟩, 121) := ⟨⟨by decide +kernel, by decide +kernel⟩, List.mem_of_getElem? (i := 2057) (by decide +kernel), List.mem_of_getElem? (i := 3010) (by decide +kernel), List.mem_of_getElem? (i := 3011) (by decide +kernel)⟩
theorem lw_p215 : lw_okq (⟨"PaperHouseModel", "word", "()Ljava/lang/String;"⟩, 121) := ⟨⟨by decide +kernel, by decide +kernel⟩, List.mem_of_getElem? (i := 2057) (by decide +kernel), List.mem_of_getElem? (i := 3014) (by decide +kernel), List.mem_of_getElem? (i := 3015) (by decide +kernel)⟩
theorem lw_p216 : lw_okq (⟨"PaperHouseModel", "areNumbers", "(I)Z"⟩, 121) := ⟨⟨by decide +kernel, by decide +kernel⟩, List.mem_of_getElem? (i := 2057) (by decide +kernel), List.mem_of_getElem? (i := 3076) (by decide +kernel), List.mem_of_getElem? (i := 3077) (by decide +kernel)⟩
theorem lw_p217 : lw_okq (⟨"PaperHouseModel", "isOf", "(II)Z"⟩, 121) := ⟨⟨by decide +kernel, by decide +kernel⟩, List.mem_of_getElem? (i := 2057) (by decide +kernel), List.mem_of_getElem? (i := 3080) (by decide +kernel), List.mem_of_getElem? (i := 3081) (by decide +kernel)⟩
theorem lw_p218 : lw_okq (⟨"PaperHouseModel", "areShown", "(I)Z"⟩, 121) := ⟨⟨by decide +kernel, by decide +kernel⟩, List.mem_of_getElem? (i := 2057) (by decide +kernel), List.mem_of_getElem? (i := 3084) (by decide +kernel), List.mem_of_getElem? (i := 3085) (by decide +kernel)⟩
theorem lw_p219 : lw_okq (⟨"PaperHouseModel", "idle", "(Ljava/lang/String;)Z"⟩, 121) := ⟨⟨by decide +kernel, by decide +kernel⟩, List.mem_of_getElem? (i := 2057) (by decide +kernel), List.mem_of_getElem? (i := 3088) (by decide +kernel), List.mem_of_getElem? (i := 3089) (by decide +kernel)⟩
theorem lw_p220 : lw_okq (⟨"PaperHouseModel", "operandsTo", "([I)V"⟩, 121) := ⟨⟨by decide +kernel, by decide +kernel⟩, List.mem_of_getElem? (i := 2057) (by decide +kernel), List.mem_of_getElem? (i := 3092) (by decide +kernel), List.mem_of_getElem? (i := 3093) (by decide +kernel)⟩
theorem lw_p221 : lw_okq (⟨"PaperHouseModel", "product", "([I[I[I)V"⟩, 121) := ⟨⟨by decide +kernel, by decide +kernel⟩, List.mem_of_getElem? (i := 2057) (by decide +kernel), List.mem_of_getElem? (i := 3096) (by decide +kernel), List.mem_of_getElem? (i := 3097) (by decide +kernel)⟩
theorem lw_p222 : lw_okq (⟨"PaperHouseModel", "near", "(J)V"⟩, 121) := ⟨⟨by decide +kernel, by decide +kernel⟩, List.mem_of_getElem? (i := 2057) (by decide +kernel), List.mem_of_getElem? (i := 3104) (by decide +kernel), List.mem_of_getElem? (i := 3105) (by decide +kernel)⟩
theorem lw_p223 : lw_okq (⟨"PaperHouseModel", "font", "()V"⟩, 121) := ⟨⟨by decide +kernel, by decide +kernel⟩, List.mem_of_getElem? (i := 2057) (by decide +kernel), List.mem_of_getElem? (i := 3108) (by decide +kernel), List.mem_of_getElem? (i := 3109) (by decide +kernel)⟩
def lw_privs_14 : List (MethodName × Nat) := [(⟨"PaperHouseModel", "kindHere", "()I"⟩, 121), (⟨"PaperHouseModel", "isPage", "(I)Z"⟩, 121), (⟨"PaperHouseModel", "unitsOf", "(I)I"⟩, 121), (⟨"PaperHouseModel", "gather", "(I)V"⟩, 121), (⟨"PaperHouseModel", "collect", "(I)V"⟩, 121), (⟨"PaperHouseModel", "operator", "()V"⟩, 121), (⟨"PaperHouseModel", "which", "()I"⟩, 121), (⟨"PaperHouseModel", "word", "()Ljava/lang/String;"⟩, 121), (⟨"PaperHouseModel", "areNumbers", "(I)Z"⟩, 121), (⟨"PaperHouseModel", "isOf", "(II)Z"⟩, 121), (⟨"PaperHouseModel", "areShown", "(I)Z"⟩, 121), (⟨"PaperHouseModel", "idle", "(Ljava/lang/String;)Z"⟩, 121), (⟨"PaperHouseModel", "operandsTo", "([I)V"⟩, 121), (⟨"PaperHouseModel", "product", "([I[I[I)V"⟩, 121), (⟨"PaperHouseModel", "near", "(J)V"⟩, 121), (⟨"PaperHouseModel", "font", "()V"⟩, 121)]
theorem lw_r14 : ∀ q ∈ lw_privs_14, lw_okq q := List.forall_mem_cons.mpr ⟨lw_p208, List.forall_mem_cons.mpr ⟨lw_p209, List.forall_mem_cons.mpr ⟨lw_p210, List.forall_mem_cons.mpr ⟨lw_p211, List.forall_mem_cons.mpr ⟨lw_p212, List.forall_mem_cons.mpr ⟨lw_p213, List.forall_mem_cons.mpr ⟨lw_p214, List.forall_mem_cons.mpr ⟨lw_p215, List.forall_mem_cons.mpr ⟨lw_p216, List.forall_mem_cons.mpr ⟨lw_p217, List.forall_mem_cons.mpr ⟨lw_p218, List.forall_mem_cons.mpr ⟨lw_p219, List.forall_mem_cons.mpr ⟨lw_p220, List.forall_mem_cons.mpr ⟨lw_p221, List.forall_mem_cons.mpr ⟨lw_p222, List.forall_mem_cons.mpr ⟨lw_p223, fun _ h => absurd h List.not_mem_nil⟩⟩⟩⟩⟩⟩⟩⟩⟩⟩⟩⟩⟩⟩⟩⟩
theorem lw_p224 : lw_okq (⟨"PaperHouseModel", "goes", "(II)V"⟩, 121) := ⟨⟨by decide +kernel, by decide +kernel⟩, List.mem_of_getElem? (i := 2057) (by decide +kernel), List.mem_of_getElem? (i := 3116) (by decide +kernel), List.mem_of_getElem? (i := 3117) (by decide +kernel)⟩
theorem lw_p225 : lw_okq (⟨"PaperHouseModel", "newLine", "()V"⟩, 121) := ⟨⟨by decide +kernel, by decide +kernel⟩, List.mem_of_getElem? (i := 2057) (by decide +kernel), List.mem_of_getElem? (i := 3120) (by decide +kernel), List.mem_of_getElem? (i := 3121) (by decide +kernel)⟩
theorem lw_p226 : lw_okq (⟨"PaperHouseModel", "shows", "(I)V"⟩, 121) := ⟨⟨by decide +kernel, by decide +kernel⟩, List.mem_of_getElem? (i := 2057) (by decide +kernel), List.mem_of_getElem? (i := 3124) (by decide +kernel), List.mem_of_getElem? (i := 3125) (by decide +kernel)⟩
theorem lw_p227 : lw_okq (⟨"PaperHouseModel", "widthOf", "(I)I"⟩, 121) := ⟨⟨by decide +kernel, by decide +kernel⟩, List.mem_of_getElem? (i := 2057) (by decide +kernel), List.mem_of_getElem? (i := 3128) (by decide +kernel), List.mem_of_getElem? (i := 3129) (by decide +kernel)⟩
theorem lw_p228 : lw_okq (⟨"PaperHouseModel", "moves", "(J)V"⟩, 121) := ⟨⟨by decide +kernel, by decide +kernel⟩, List.mem_of_getElem? (i := 2057) (by decide +kernel), List.mem_of_getElem? (i := 3138) (by decide +kernel), List.mem_of_getElem? (i := 3139) (by decide +kernel)⟩
theorem lw_p229 : lw_okq (⟨"PaperHouseModel", "row", "(I)V"⟩, 121) := ⟨⟨by decide +kernel, by decide +kernel⟩, List.mem_of_getElem? (i := 2057) (by decide +kernel), List.mem_of_getElem? (i := 3142) (by decide +kernel), List.mem_of_getElem? (i := 3143) (by decide +kernel)⟩
theorem lw_p230 : lw_okq (⟨"PaperHouseModel", "nextNumber", "()I"⟩, 121) := ⟨⟨by decide +kernel, by decide +kernel⟩, List.mem_of_getElem? (i := 2057) (by decide +kernel), List.mem_of_getElem? (i := 3154) (by decide +kernel), List.mem_of_getElem? (i := 3155) (by decide +kernel)⟩
theorem lw_p231 : lw_okq (⟨"PaperHouseModel", "nameNode", "(Ljava/lang/String;)I"⟩, 121) := ⟨⟨by decide +kernel, by decide +kernel⟩, List.mem_of_getElem? (i := 2057) (by decide +kernel), List.mem_of_getElem? (i := 3158) (by decide +kernel), List.mem_of_getElem? (i := 3159) (by decide +kernel)⟩
theorem lw_p232 : lw_okq (⟨"PaperHouseModel", "keep", "(Ljava/lang/String;)I"⟩, 121) := ⟨⟨by decide +kernel, by decide +kernel⟩, List.mem_of_getElem? (i := 2057) (by decide +kernel), List.mem_of_getElem? (i := 3162) (by decide +kernel), List.mem_of_getElem? (i := 3163) (by decide +kernel)⟩
theorem lw_p233 : lw_okq (⟨"PaperHouseModel", "name", "(ILjava/lang/String;)V"⟩, 121) := ⟨⟨by decide +kernel, by decide +kernel⟩, List.mem_of_getElem? (i := 2057) (by decide +kernel), List.mem_of_getElem? (i := 3166) (by decide +kernel), List.mem_of_getElem? (i := 3167) (by decide +kernel)⟩
theorem lw_p234 : lw_okq (⟨"PaperHouseModel", "append", "(II)V"⟩, 121) := ⟨⟨by decide +kernel, by decide +kernel⟩, List.mem_of_getElem? (i := 2057) (by decide +kernel), List.mem_of_getElem? (i := 3170) (by decide +kernel), List.mem_of_getElem? (i := 3171) (by decide +kernel)⟩
theorem lw_p235 : lw_okq (⟨"PaperHouseModel", "entryTo", "(ILjava/lang/String;III)I"⟩, 121) := ⟨⟨by decide +kernel, by decide +kernel⟩, List.mem_of_getElem? (i := 2057) (by decide +kernel), List.mem_of_getElem? (i := 3174) (by decide +kernel), List.mem_of_getElem? (i := 3175) (by decide +kernel)⟩
theorem lw_p236 : lw_okq (⟨"PaperHouseModel", "newObject", "(I)I"⟩, 121) := ⟨⟨by decide +kernel, by decide +kernel⟩, List.mem_of_getElem? (i := 2057) (by decide +kernel), List.mem_of_getElem? (i := 3178) (by decide +kernel), List.mem_of_getElem? (i := 3179) (by decide +kernel)⟩
theorem lw_p237 : lw_okq (⟨"PaperHouseModel", "put", "(III)V"⟩, 121) := ⟨⟨by decide +kernel, by decide +kernel⟩, List.mem_of_getElem? (i := 2057) (by decide +kernel), List.mem_of_getElem? (i := 3182) (by decide +kernel), List.mem_of_getElem? (i := 3183) (by decide +kernel)⟩
theorem lw_p238 : lw_okq (⟨"PaperHouseModel", "kidsOf", "(I)I"⟩, 121) := ⟨⟨by decide +kernel, by decide +kernel⟩, List.mem_of_getElem? (i := 2057) (by decide +kernel), List.mem_of_getElem? (i := 3186) (by decide +kernel), List.mem_of_getElem? (i := 3187) (by decide +kernel)⟩
theorem lw_p239 : lw_okq (⟨"PaperHouseModel", "element", "(II)I"⟩, 121) := ⟨⟨by decide +kernel, by decide +kernel⟩, List.mem_of_getElem? (i := 2057) (by decide +kernel), List.mem_of_getElem? (i := 3190) (by decide +kernel), List.mem_of_getElem? (i := 3191) (by decide +kernel)⟩
def lw_privs_15 : List (MethodName × Nat) := [(⟨"PaperHouseModel", "goes", "(II)V"⟩, 121), (⟨"PaperHouseModel", "newLine", "()V"⟩, 121), (⟨"PaperHouseModel", "shows", "(I)V"⟩, 121), (⟨"PaperHouseModel", "widthOf", "(I)I"⟩, 121), (⟨"PaperHouseModel", "moves", "(J)V"⟩, 121), (⟨"PaperHouseModel", "row", "(I)V"⟩, 121), (⟨"PaperHouseModel", "nextNumber", "()I"⟩, 121), (⟨"PaperHouseModel", "nameNode", "(Ljava/lang/String;)I"⟩, 121), (⟨"PaperHouseModel", "keep", "(Ljava/lang/String;)I"⟩, 121), (⟨"PaperHouseModel", "name", "(ILjava/lang/String;)V"⟩, 121), (⟨"PaperHouseModel", "append", "(II)V"⟩, 121), (⟨"PaperHouseModel", "entryTo", "(ILjava/lang/String;III)I"⟩, 121), (⟨"PaperHouseModel", "newObject", "(I)I"⟩, 121), (⟨"PaperHouseModel", "put", "(III)V"⟩, 121), (⟨"PaperHouseModel", "kidsOf", "(I)I"⟩, 121), (⟨"PaperHouseModel", "element", "(II)I"⟩, 121)]
theorem lw_r15 : ∀ q ∈ lw_privs_15, lw_okq q := List.forall_mem_cons.mpr ⟨lw_p224, List.forall_mem_cons.mpr ⟨lw_p225, List.forall_mem_cons.mpr ⟨lw_p226, List.forall_mem_cons.mpr ⟨lw_p227, List.forall_mem_cons.mpr ⟨lw_p228, List.forall_mem_cons.mpr ⟨lw_p229, List.forall_mem_cons.mpr ⟨lw_p230, List.forall_mem_cons.mpr ⟨lw_p231, List.forall_mem_cons.mpr ⟨lw_p232, List.forall_mem_cons.mpr ⟨lw_p233, List.forall_mem_cons.mpr ⟨lw_p234, List.forall_mem_cons.mpr ⟨lw_p235, List.forall_mem_cons.mpr ⟨lw_p236, List.forall_mem_cons.mpr ⟨lw_p237, List.forall_mem_cons.mpr ⟨lw_p238, List.forall_mem_cons.mpr ⟨lw_p239, fun _ h => absurd h List.not_mem_nil⟩⟩⟩⟩⟩⟩⟩⟩⟩⟩⟩⟩⟩⟩⟩⟩
theorem lw_p240 : lw_okq (⟨"PaperHouseModel", "changed", "(I)V"⟩, 121) := ⟨⟨by decide +kernel, by decide +kernel⟩, List.mem_of_getElem? (i := 2057) (by decide +kernel), List.mem_of_getElem? (i := 3194) (by decide +kernel), List.mem_of_getElem? (i := 3195) (by decide +kernel)⟩
theorem lw_p241 : lw_okq (⟨"PaperHouseModel", "countTo", "(II)V"⟩, 121) := ⟨⟨by decide +kernel, by decide +kernel⟩, List.mem_of_getElem? (i := 2057) (by decide +kernel), List.mem_of_getElem? (i := 3198) (by decide +kernel), List.mem_of_getElem? (i := 3199) (by decide +kernel)⟩
theorem lw_p242 : lw_okq (⟨"PaperHouseModel", "takeOut", "(I)I"⟩, 121) := ⟨⟨by decide +kernel, by decide +kernel⟩, List.mem_of_getElem? (i := 2057) (by decide +kernel), List.mem_of_getElem? (i := 3206) (by decide +kernel), List.mem_of_getElem? (i := 3207) (by decide +kernel)⟩
theorem lw_p243 : lw_okq (⟨"PaperHouseModel", "takeOver", "(ILjava/lang/String;)V"⟩, 121) := ⟨⟨by decide +kernel, by decide +kernel⟩, List.mem_of_getElem? (i := 2057) (by decide +kernel), List.mem_of_getElem? (i := 3214) (by decide +kernel), List.mem_of_getElem? (i := 3215) (by decide +kernel)⟩
theorem lw_p244 : lw_okq (⟨"PaperHouseModel", "sayText", "(Ljava/lang/String;)V"⟩, 121) := ⟨⟨by decide +kernel, by decide +kernel⟩, List.mem_of_getElem? (i := 2057) (by decide +kernel), List.mem_of_getElem? (i := 3240) (by decide +kernel), List.mem_of_getElem? (i := 3241) (by decide +kernel)⟩
theorem lw_p245 : lw_okq (⟨"PaperHouseModel", "say", "(I)V"⟩, 121) := ⟨⟨by decide +kernel, by decide +kernel⟩, List.mem_of_getElem? (i := 2057) (by decide +kernel), List.mem_of_getElem? (i := 3244) (by decide +kernel), List.mem_of_getElem? (i := 3245) (by decide +kernel)⟩
theorem lw_p246 : lw_okq (⟨"PaperHouseModel", "numberOf", "(I)I"⟩, 121) := ⟨⟨by decide +kernel, by decide +kernel⟩, List.mem_of_getElem? (i := 2057) (by decide +kernel), List.mem_of_getElem? (i := 3248) (by decide +kernel), List.mem_of_getElem? (i := 3249) (by decide +kernel)⟩
theorem lw_p247 : lw_okq (⟨"PaperHouseModel", "numbered", "(IIJ)V"⟩, 121) := ⟨⟨by decide +kernel, by decide +kernel⟩, List.mem_of_getElem? (i := 2057) (by decide +kernel), List.mem_of_getElem? (i := 3252) (by decide +kernel), List.mem_of_getElem? (i := 3253) (by decide +kernel)⟩
theorem lw_p248 : lw_okq (⟨"PaperHouseModel", "sayNumber", "(J)V"⟩, 121) := ⟨⟨by decide +kernel, by decide +kernel⟩, List.mem_of_getElem? (i := 2057) (by decide +kernel), List.mem_of_getElem? (i := 3256) (by decide +kernel), List.mem_of_getElem? (i := 3257) (by decide +kernel)⟩
theorem lw_p249 : lw_okq (⟨"PaperHouseModel", "sayDigits", "(JI)V"⟩, 121) := ⟨⟨by decide +kernel, by decide +kernel⟩, List.mem_of_getElem? (i := 2057) (by decide +kernel), List.mem_of_getElem? (i := 3260) (by decide +kernel), List.mem_of_getElem? (i := 3261) (by decide +kernel)⟩
theorem lw_p250 : lw_okq (⟨"PaperHouseModel", "entries", "(IZ)V"⟩, 121) := ⟨⟨by decide +kernel, by decide +kernel⟩, List.mem_of_getElem? (i := 2057) (by decide +kernel), List.mem_of_getElem? (i := 3266) (by decide +kernel), List.mem_of_getElem? (i := 3267) (by decide +kernel)⟩
theorem lw_p251 : lw_okq (⟨"PaperHouseModel", "sayName", "(II)V"⟩, 121) := ⟨⟨by decide +kernel, by decide +kernel⟩, List.mem_of_getElem? (i := 2057) (by decide +kernel), List.mem_of_getElem? (i := 3270) (by decide +kernel), List.mem_of_getElem? (i := 3271) (by decide +kernel)⟩
theorem lw_p252 : lw_okq (⟨"PaperHouseModel", "write", "(I)V"⟩, 121) := ⟨⟨by decide +kernel, by decide +kernel⟩, List.mem_of_getElem? (i := 2057) (by decide +kernel), List.mem_of_getElem? (i := 3277) (by decide +kernel), List.mem_of_getElem? (i := 3278) (by decide +kernel)⟩
theorem lw_p253 : lw_okq (⟨"PaperHouseModel", "sayReal", "(I)V"⟩, 121) := ⟨⟨by decide +kernel, by decide +kernel⟩, List.mem_of_getElem? (i := 2057) (by decide +kernel), List.mem_of_getElem? (i := 3281) (by decide +kernel), List.mem_of_getElem? (i := 3282) (by decide +kernel)⟩
theorem lw_p254 : lw_okq (⟨"PaperHouseModel", "sayString", "(I)V"⟩, 121) := ⟨⟨by decide +kernel, by decide +kernel⟩, List.mem_of_getElem? (i := 2057) (by decide +kernel), List.mem_of_getElem? (i := 3287) (by decide +kernel), List.mem_of_getElem? (i := 3288) (by decide +kernel)⟩
theorem lw_p255 : lw_okq (⟨"PaperHouseModel", "reference", "(I)V"⟩, 121) := ⟨⟨by decide +kernel, by decide +kernel⟩, List.mem_of_getElem? (i := 2057) (by decide +kernel), List.mem_of_getElem? (i := 3293) (by decide +kernel), List.mem_of_getElem? (i := 3294) (by decide +kernel)⟩
def lw_privs_16 : List (MethodName × Nat) := [(⟨"PaperHouseModel", "changed", "(I)V"⟩, 121), (⟨"PaperHouseModel", "countTo", "(II)V"⟩, 121), (⟨"PaperHouseModel", "takeOut", "(I)I"⟩, 121), (⟨"PaperHouseModel", "takeOver", "(ILjava/lang/String;)V"⟩, 121), (⟨"PaperHouseModel", "sayText", "(Ljava/lang/String;)V"⟩, 121), (⟨"PaperHouseModel", "say", "(I)V"⟩, 121), (⟨"PaperHouseModel", "numberOf", "(I)I"⟩, 121), (⟨"PaperHouseModel", "numbered", "(IIJ)V"⟩, 121), (⟨"PaperHouseModel", "sayNumber", "(J)V"⟩, 121), (⟨"PaperHouseModel", "sayDigits", "(JI)V"⟩, 121), (⟨"PaperHouseModel", "entries", "(IZ)V"⟩, 121), (⟨"PaperHouseModel", "sayName", "(II)V"⟩, 121), (⟨"PaperHouseModel", "write", "(I)V"⟩, 121), (⟨"PaperHouseModel", "sayReal", "(I)V"⟩, 121), (⟨"PaperHouseModel", "sayString", "(I)V"⟩, 121), (⟨"PaperHouseModel", "reference", "(I)V"⟩, 121)]
theorem lw_r16 : ∀ q ∈ lw_privs_16, lw_okq q := List.forall_mem_cons.mpr ⟨lw_p240, List.forall_mem_cons.mpr ⟨lw_p241, List.forall_mem_cons.mpr ⟨lw_p242, List.forall_mem_cons.mpr ⟨lw_p243, List.forall_mem_cons.mpr ⟨lw_p244, List.forall_mem_cons.mpr ⟨lw_p245, List.forall_mem_cons.mpr ⟨lw_p246, List.forall_mem_cons.mpr ⟨lw_p247, List.forall_mem_cons.mpr ⟨lw_p248, List.forall_mem_cons.mpr ⟨lw_p249, List.forall_mem_cons.mpr ⟨lw_p250, List.forall_mem_cons.mpr ⟨lw_p251, List.forall_mem_cons.mpr ⟨lw_p252, List.forall_mem_cons.mpr ⟨lw_p253, List.forall_mem_cons.mpr ⟨lw_p254, List.forall_mem_cons.mpr ⟨lw_p255, fun _ h => absurd h List.not_mem_nil⟩⟩⟩⟩⟩⟩⟩⟩⟩⟩⟩⟩⟩⟩⟩⟩
theorem lw_p256 : lw_okq (⟨"PaperHouseModel", "sayReference", "(IJ)V"⟩, 121) := ⟨⟨by decide +kernel, by decide +kernel⟩, List.mem_of_getElem? (i := 2057) (by decide +kernel), List.mem_of_getElem? (i := 3297) (by decide +kernel), List.mem_of_getElem? (i := 3298) (by decide +kernel)⟩
theorem lw_p257 : lw_okq (⟨"PaperHouseModel", "codeOf", "([BII)V"⟩, 121) := ⟨⟨by decide +kernel, by decide +kernel⟩, List.mem_of_getElem? (i := 2057) (by decide +kernel), List.mem_of_getElem? (i := 3302) (by decide +kernel), List.mem_of_getElem? (i := 3303) (by decide +kernel)⟩
theorem lw_p258 : lw_okq (⟨"PaperHouseModel", "bit", "(II)V"⟩, 121) := ⟨⟨by decide +kernel, by decide +kernel⟩, List.mem_of_getElem? (i := 2057) (by decide +kernel), List.mem_of_getElem? (i := 3306) (by decide +kernel), List.mem_of_getElem? (i := 3307) (by decide +kernel)⟩
theorem lw_p259 : lw_okq (⟨"PaperHouseModel", "pair", "(II)V"⟩, 121) := ⟨⟨by decide +kernel, by decide +kernel⟩, List.mem_of_getElem? (i := 2057) (by decide +kernel), List.mem_of_getElem? (i := 3313) (by decide +kernel), List.mem_of_getElem? (i := 3314) (by decide +kernel)⟩
theorem lw_p260 : lw_okq (⟨"PaperHouseModel", "literal", "(I)V"⟩, 121) := ⟨⟨by decide +kernel, by decide +kernel⟩, List.mem_of_getElem? (i := 2057) (by decide +kernel), List.mem_of_getElem? (i := 3317) (by decide +kernel), List.mem_of_getElem? (i := 3318) (by decide +kernel)⟩
theorem lw_p261 : lw_okq (⟨"PaperHouseModel", "huffman", "(II)V"⟩, 121) := ⟨⟨by decide +kernel, by decide +kernel⟩, List.mem_of_getElem? (i := 2057) (by decide +kernel), List.mem_of_getElem? (i := 3321) (by decide +kernel), List.mem_of_getElem? (i := 3322) (by decide +kernel)⟩
theorem lw_p262 : lw_okq (⟨"PaperHouseModel", "streamTail", "()V"⟩, 121) := ⟨⟨by decide +kernel, by decide +kernel⟩, List.mem_of_getElem? (i := 2057) (by decide +kernel), List.mem_of_getElem? (i := 3325) (by decide +kernel), List.mem_of_getElem? (i := 3326) (by decide +kernel)⟩
theorem lw_p263 : lw_okq (⟨"PaperHouseModel", "sayEntry", "(JJ)V"⟩, 121) := ⟨⟨by decide +kernel, by decide +kernel⟩, List.mem_of_getElem? (i := 2057) (by decide +kernel), List.mem_of_getElem? (i := 3335) (by decide +kernel), List.mem_of_getElem? (i := 3336) (by decide +kernel)⟩
theorem lw_p264 : lw_okq (⟨"PaperHouseModel", "finish", "(I)I"⟩, 121) := ⟨⟨by decide +kernel, by decide +kernel⟩, List.mem_of_getElem? (i := 2057) (by decide +kernel), List.mem_of_getElem? (i := 3344) (by decide +kernel), List.mem_of_getElem? (i := 3345) (by decide +kernel)⟩
theorem lw_p265 : lw_okq (⟨"PaperHouseModel", "rowSection", "(I)V"⟩, 121) := ⟨⟨by decide +kernel, by decide +kernel⟩, List.mem_of_getElem? (i := 2057) (by decide +kernel), List.mem_of_getElem? (i := 3354) (by decide +kernel), List.mem_of_getElem? (i := 3355) (by decide +kernel)⟩
theorem lw_p266 : lw_okq (⟨"PaperHouseModel", "runFrom", "(II)I"⟩, 121) := ⟨⟨by decide +kernel, by decide +kernel⟩, List.mem_of_getElem? (i := 2057) (by decide +kernel), List.mem_of_getElem? (i := 3360) (by decide +kernel), List.mem_of_getElem? (i := 3361) (by decide +kernel)⟩
theorem lw_p267 : lw_okq (⟨"PaperHouseModel", "rowEntry", "(IJJ)V"⟩, 121) := ⟨⟨by decide +kernel, by decide +kernel⟩, List.mem_of_getElem? (i := 2057) (by decide +kernel), List.mem_of_getElem? (i := 3364) (by decide +kernel), List.mem_of_getElem? (i := 3365) (by decide +kernel)⟩
theorem lw_p268 : lw_okq (⟨"PaperHouseModel", "known", "()V"⟩, 121) := ⟨⟨by decide +kernel, by decide +kernel⟩, List.mem_of_getElem? (i := 2057) (by decide +kernel), List.mem_of_getElem? (i := 3371) (by decide +kernel), List.mem_of_getElem? (i := 3372) (by decide +kernel)⟩
theorem lw_p269 : lw_okq (⟨"PaperHouseModel", "tableSection", "()V"⟩, 121) := ⟨⟨by decide +kernel, by decide +kernel⟩, List.mem_of_getElem? (i := 2057) (by decide +kernel), List.mem_of_getElem? (i := 3377) (by decide +kernel), List.mem_of_getElem? (i := 3378) (by decide +kernel)⟩
def lw_privs_17 : List (MethodName × Nat) := [(⟨"PaperHouseModel", "sayReference", "(IJ)V"⟩, 121), (⟨"PaperHouseModel", "codeOf", "([BII)V"⟩, 121), (⟨"PaperHouseModel", "bit", "(II)V"⟩, 121), (⟨"PaperHouseModel", "pair", "(II)V"⟩, 121), (⟨"PaperHouseModel", "literal", "(I)V"⟩, 121), (⟨"PaperHouseModel", "huffman", "(II)V"⟩, 121), (⟨"PaperHouseModel", "streamTail", "()V"⟩, 121), (⟨"PaperHouseModel", "sayEntry", "(JJ)V"⟩, 121), (⟨"PaperHouseModel", "finish", "(I)I"⟩, 121), (⟨"PaperHouseModel", "rowSection", "(I)V"⟩, 121), (⟨"PaperHouseModel", "runFrom", "(II)I"⟩, 121), (⟨"PaperHouseModel", "rowEntry", "(IJJ)V"⟩, 121), (⟨"PaperHouseModel", "known", "()V"⟩, 121), (⟨"PaperHouseModel", "tableSection", "()V"⟩, 121)]
theorem lw_r17 : ∀ q ∈ lw_privs_17, lw_okq q := List.forall_mem_cons.mpr ⟨lw_p256, List.forall_mem_cons.mpr ⟨lw_p257, List.forall_mem_cons.mpr ⟨lw_p258, List.forall_mem_cons.mpr ⟨lw_p259, List.forall_mem_cons.mpr ⟨lw_p260, List.forall_mem_cons.mpr ⟨lw_p261, List.forall_mem_cons.mpr ⟨lw_p262, List.forall_mem_cons.mpr ⟨lw_p263, List.forall_mem_cons.mpr ⟨lw_p264, List.forall_mem_cons.mpr ⟨lw_p265, List.forall_mem_cons.mpr ⟨lw_p266, List.forall_mem_cons.mpr ⟨lw_p267, List.forall_mem_cons.mpr ⟨lw_p268, List.forall_mem_cons.mpr ⟨lw_p269, fun _ h => absurd h List.not_mem_nil⟩⟩⟩⟩⟩⟩⟩⟩⟩⟩⟩⟩⟩⟩
def lw_privs : List (MethodName × Nat) := lw_privs_1 ++ (lw_privs_2 ++ (lw_privs_3 ++ (lw_privs_4 ++ (lw_privs_5 ++ (lw_privs_6 ++ (lw_privs_7 ++ (lw_privs_8 ++ (lw_privs_9 ++ (lw_privs_10 ++ (lw_privs_11 ++ (lw_privs_12 ++ (lw_privs_13 ++ (lw_privs_14 ++ (lw_privs_15 ++ (lw_privs_16 ++ (lw_privs_17))))))))))))))))
def lw_tbl : List Cond := k2_sels lw_privs ++ tables_1
theorem lw_privs_ok : ∀ q ∈ lw_privs, lw_okq q := by
  show ∀ q ∈ lw_privs_1 ++ (lw_privs_2 ++ (lw_privs_3 ++ (lw_privs_4 ++ (lw_privs_5 ++ (lw_privs_6 ++ (lw_privs_7 ++ (lw_privs_8 ++ (lw_privs_9 ++ (lw_privs_10 ++ (lw_privs_11 ++ (lw_privs_12 ++ (lw_privs_13 ++ (lw_privs_14 ++ (lw_privs_15 ++ (lw_privs_16 ++ (lw_privs_17)))))))))))))))), lw_okq q
  exact List.forall_mem_append.mpr ⟨lw_r1, List.forall_mem_append.mpr ⟨lw_r2, List.forall_mem_append.mpr ⟨lw_r3, List.forall_mem_append.mpr ⟨lw_r4, List.forall_mem_append.mpr ⟨lw_r5, List.forall_mem_append.mpr ⟨lw_r6, List.forall_mem_append.mpr ⟨lw_r7, List.forall_mem_append.mpr ⟨lw_r8, List.forall_mem_append.mpr ⟨lw_r9, List.forall_mem_append.mpr ⟨lw_r10, List.forall_mem_append.mpr ⟨lw_r11, List.forall_mem_append.mpr ⟨lw_r12, List.forall_mem_append.mpr ⟨lw_r13, List.forall_mem_append.mpr ⟨lw_r14, List.forall_mem_append.mpr ⟨lw_r15, List.forall_mem_append.mpr ⟨lw_r16, lw_r17⟩⟩⟩⟩⟩⟩⟩⟩⟩⟩⟩⟩⟩⟩⟩⟩
-- ===== end of PART A; then your names; then what follows =====
/-! ===== the classes: names, fields, types (printed by program) ===== -/
def RX0 : String := "PaperHouse$Changes"
def TX0 : u_T := fun k => match k with
  | 0 => ("PaperHouse$Changes", "table", "LPaperHouse$Table;", true)
  | 1 => ("PaperHouse$Changes", "store", "LPaperHouse$Store;", true)
  | _ => ("PaperHouse$Changes", "tree", "LPaperHouse$Tree;", true)
def tyX0 : Nat → FieldType := fun k => match k with
  | 0 => .object "PaperHouse$Table"
  | 1 => .object "PaperHouse$Store"
  | _ => .object "PaperHouse$Tree"
theorem nmX0 : ∀ a, a < 3 → ∀ b, b < 3 → a ≠ b → (TX0 a).2.1 ≠ (TX0 b).2.1 := by decide +kernel
theorem tyX0_ok : ∀ k, k < 3 → parseFieldDescriptor (TX0 k).2.2.1 = some (tyX0 k) := by decide +kernel
def RX1 : String := "PaperHouse$Filters"
def TX1 : u_T := fun k => match k with
  | 0 => ("PaperHouse$Filters", "store", "LPaperHouse$Store;", true)
  | 1 => ("PaperHouse$Filters", "inflate", "LPaperHouse$Inflate;", true)
  | 2 => ("PaperHouse$Filters", "even", "[B", true)
  | 3 => ("PaperHouse$Filters", "odd", "[B", true)
  | 4 => ("PaperHouse$Filters", "flate", "[Z", true)
  | 5 => ("PaperHouse$Filters", "parms", "[I", true)
  | 6 => ("PaperHouse$Filters", "filters", "I", false)
  | 7 => ("PaperHouse$Filters", "result", "[B", false)
  | _ => ("PaperHouse$Filters", "length", "I", false)
def tyX1 : Nat → FieldType := fun k => match k with
  | 0 => .object "PaperHouse$Store"
  | 1 => .object "PaperHouse$Inflate"
  | 2 => .array .byte
  | 3 => .array .byte
  | 4 => .array .boolean
  | 5 => .array .int
  | 6 => .int
  | 7 => .array .byte
  | _ => .int
theorem nmX1 : ∀ a, a < 9 → ∀ b, b < 9 → a ≠ b → (TX1 a).2.1 ≠ (TX1 b).2.1 := by decide +kernel
theorem tyX1_ok : ∀ k, k < 9 → parseFieldDescriptor (TX1 k).2.2.1 = some (tyX1 k) := by decide +kernel
def RX2 : String := "PaperHouse$Inflate"
def TX2 : u_T := fun k => match k with
  | 0 => ("PaperHouse$Inflate", "sizes", "[I", true)
  | 1 => ("PaperHouse$Inflate", "many", "[I", true)
  | 2 => ("PaperHouse$Inflate", "codes", "[I", true)
  | 3 => ("PaperHouse$Inflate", "farMany", "[I", true)
  | 4 => ("PaperHouse$Inflate", "farCodes", "[I", true)
  | 5 => ("PaperHouse$Inflate", "places", "[I", true)
  | 6 => ("PaperHouse$Inflate", "in", "[B", false)
  | 7 => ("PaperHouse$Inflate", "pos", "I", false)
  | 8 => ("PaperHouse$Inflate", "end", "I", false)
  | 9 => ("PaperHouse$Inflate", "out", "[B", false)
  | 10 => ("PaperHouse$Inflate", "written", "I", false)
  | 11 => ("PaperHouse$Inflate", "literals", "I", false)
  | 12 => ("PaperHouse$Inflate", "distances", "I", false)
  | 13 => ("PaperHouse$Inflate", "held", "I", false)
  | _ => ("PaperHouse$Inflate", "heldBits", "I", false)
def tyX2 : Nat → FieldType := fun k => match k with
  | 0 => .array .int
  | 1 => .array .int
  | 2 => .array .int
  | 3 => .array .int
  | 4 => .array .int
  | 5 => .array .int
  | 6 => .array .byte
  | 7 => .int
  | 8 => .int
  | 9 => .array .byte
  | 10 => .int
  | 11 => .int
  | 12 => .int
  | 13 => .int
  | _ => .int
theorem nmX2 : ∀ a, a < 15 → ∀ b, b < 15 → a ≠ b → (TX2 a).2.1 ≠ (TX2 b).2.1 := by decide +kernel
theorem tyX2_ok : ∀ k, k < 15 → parseFieldDescriptor (TX2 k).2.2.1 = some (tyX2 k) := by decide +kernel
def RX3 : String := "PaperHouse$Loader"
def TX3 : u_T := fun k => match k with
  | 0 => ("PaperHouse$Loader", "file", "[B", true)
  | 1 => ("PaperHouse$Loader", "length", "I", false)
  | 2 => ("PaperHouse$Loader", "parser", "LPaperHouse$Parser;", true)
  | 3 => ("PaperHouse$Loader", "store", "LPaperHouse$Store;", true)
  | 4 => ("PaperHouse$Loader", "table", "LPaperHouse$Table;", true)
  | 5 => ("PaperHouse$Loader", "filters", "LPaperHouse$Filters;", true)
  | 6 => ("PaperHouse$Loader", "waiting", "[I", true)
  | 7 => ("PaperHouse$Loader", "bodies", "[I", true)
  | 8 => ("PaperHouse$Loader", "dicts", "[I", true)
  | _ => ("PaperHouse$Loader", "waiters", "I", false)
def tyX3 : Nat → FieldType := fun k => match k with
  | 0 => .array .byte
  | 1 => .int
  | 2 => .object "PaperHouse$Parser"
  | 3 => .object "PaperHouse$Store"
  | 4 => .object "PaperHouse$Table"
  | 5 => .object "PaperHouse$Filters"
  | 6 => .array .int
  | 7 => .array .int
  | 8 => .array .int
  | _ => .int
theorem nmX3 : ∀ a, a < 10 → ∀ b, b < 10 → a ≠ b → (TX3 a).2.1 ≠ (TX3 b).2.1 := by decide +kernel
theorem tyX3_ok : ∀ k, k < 10 → parseFieldDescriptor (TX3 k).2.2.1 = some (tyX3 k) := by decide +kernel
def RX4 : String := "PaperHouse$Painter"
def TX4 : u_T := fun k => match k with
  | 0 => ("PaperHouse$Painter", "table", "LPaperHouse$Table;", true)
  | 1 => ("PaperHouse$Painter", "store", "LPaperHouse$Store;", true)
  | 2 => ("PaperHouse$Painter", "tree", "LPaperHouse$Tree;", true)
  | 3 => ("PaperHouse$Painter", "parser", "LPaperHouse$Parser;", true)
  | 4 => ("PaperHouse$Painter", "bytes", "[B", true)
  | 5 => ("PaperHouse$Painter", "state", "[I", true)
  | 6 => ("PaperHouse$Painter", "kept", "[I", true)
  | 7 => ("PaperHouse$Painter", "text", "[I", true)
  | 8 => ("PaperHouse$Painter", "line", "[I", true)
  | 9 => ("PaperHouse$Painter", "given", "[I", true)
  | 10 => ("PaperHouse$Painter", "shown", "[I", true)
  | 11 => ("PaperHouse$Painter", "widths", "[I", true)
  | 12 => ("PaperHouse$Painter", "operands", "[I", true)
  | 13 => ("PaperHouse$Painter", "glyph", "[I", true)
  | 14 => ("PaperHouse$Painter", "waiting", "I", false)
  | 15 => ("PaperHouse$Painter", "keeps", "I", false)
  | 16 => ("PaperHouse$Painter", "inText", "Z", false)
  | 17 => ("PaperHouse$Painter", "page", "I", false)
  | _ => ("PaperHouse$Painter", "glyphs", "I", false)
def tyX4 : Nat → FieldType := fun k => match k with
  | 0 => .object "PaperHouse$Table"
  | 1 => .object "PaperHouse$Store"
  | 2 => .object "PaperHouse$Tree"
  | 3 => .object "PaperHouse$Parser"
  | 4 => .array .byte
  | 5 => .array .int
  | 6 => .array .int
  | 7 => .array .int
  | 8 => .array .int
  | 9 => .array .int
  | 10 => .array .int
  | 11 => .array .int
  | 12 => .array .int
  | 13 => .array .int
  | 14 => .int
  | 15 => .int
  | 16 => .boolean
  | 17 => .int
  | _ => .int
theorem nmX4 : ∀ a, a < 19 → ∀ b, b < 19 → a ≠ b → (TX4 a).2.1 ≠ (TX4 b).2.1 := by decide +kernel
theorem tyX4_ok : ∀ k, k < 19 → parseFieldDescriptor (TX4 k).2.2.1 = some (tyX4 k) := by decide +kernel
def RX5 : String := "PaperHouse$Parser"
def TX5 : u_T := fun k => match k with
  | 0 => ("PaperHouse$Parser", "store", "LPaperHouse$Store;", true)
  | 1 => ("PaperHouse$Parser", "text", "[B", true)
  | 2 => ("PaperHouse$Parser", "bytes", "[B", false)
  | 3 => ("PaperHouse$Parser", "from", "I", false)
  | 4 => ("PaperHouse$Parser", "pos", "I", false)
  | 5 => ("PaperHouse$Parser", "end", "I", false)
  | 6 => ("PaperHouse$Parser", "fault", "I", false)
  | 7 => ("PaperHouse$Parser", "place", "I", false)
  | 8 => ("PaperHouse$Parser", "firstNode", "I", false)
  | 9 => ("PaperHouse$Parser", "firstText", "I", false)
  | 10 => ("PaperHouse$Parser", "references", "Z", false)
  | 11 => ("PaperHouse$Parser", "rowAt", "I", false)
  | 12 => ("PaperHouse$Parser", "rowEnd", "I", false)
  | 13 => ("PaperHouse$Parser", "rowKind", "I", false)
  | 14 => ("PaperHouse$Parser", "rowValue", "I", false)
  | 15 => ("PaperHouse$Parser", "rowBeyond", "Z", false)
  | 16 => ("PaperHouse$Parser", "rowSigned", "Z", false)
  | _ => ("PaperHouse$Parser", "scanned", "I", false)
def tyX5 : Nat → FieldType := fun k => match k with
  | 0 => .object "PaperHouse$Store"
  | 1 => .array .byte
  | 2 => .array .byte
  | 3 => .int
  | 4 => .int
  | 5 => .int
  | 6 => .int
  | 7 => .int
  | 8 => .int
  | 9 => .int
  | 10 => .boolean
  | 11 => .int
  | 12 => .int
  | 13 => .int
  | 14 => .int
  | 15 => .boolean
  | 16 => .boolean
  | _ => .int
theorem nmX5 : ∀ a, a < 18 → ∀ b, b < 18 → a ≠ b → (TX5 a).2.1 ≠ (TX5 b).2.1 := by decide +kernel
theorem tyX5_ok : ∀ k, k < 18 → parseFieldDescriptor (TX5 k).2.2.1 = some (tyX5 k) := by decide +kernel
def RX6 : String := "PaperHouse$Sections"
def TX6 : u_T := fun k => match k with
  | 0 => ("PaperHouse$Sections", "parser", "LPaperHouse$Parser;", true)
  | 1 => ("PaperHouse$Sections", "store", "LPaperHouse$Store;", true)
  | 2 => ("PaperHouse$Sections", "table", "LPaperHouse$Table;", true)
  | 3 => ("PaperHouse$Sections", "filters", "LPaperHouse$Filters;", true)
  | 4 => ("PaperHouse$Sections", "begins", "[I", true)
  | 5 => ("PaperHouse$Sections", "wide", "[I", true)
  | 6 => ("PaperHouse$Sections", "begun", "I", false)
  | 7 => ("PaperHouse$Sections", "trailer", "I", false)
  | 8 => ("PaperHouse$Sections", "trailerFrom", "I", false)
  | 9 => ("PaperHouse$Sections", "trailerTo", "I", false)
  | 10 => ("PaperHouse$Sections", "inRows", "Z", false)
  | 11 => ("PaperHouse$Sections", "highest", "I", false)
  | _ => ("PaperHouse$Sections", "at", "I", false)
def tyX6 : Nat → FieldType := fun k => match k with
  | 0 => .object "PaperHouse$Parser"
  | 1 => .object "PaperHouse$Store"
  | 2 => .object "PaperHouse$Table"
  | 3 => .object "PaperHouse$Filters"
  | 4 => .array .int
  | 5 => .array .int
  | 6 => .int
  | 7 => .int
  | 8 => .int
  | 9 => .int
  | 10 => .boolean
  | 11 => .int
  | _ => .int
theorem nmX6 : ∀ a, a < 13 → ∀ b, b < 13 → a ≠ b → (TX6 a).2.1 ≠ (TX6 b).2.1 := by decide +kernel
theorem tyX6_ok : ∀ k, k < 13 → parseFieldDescriptor (TX6 k).2.2.1 = some (tyX6 k) := by decide +kernel
def RX7 : String := "PaperHouse$Store"
def TX7 : u_T := fun k => match k with
  | 0 => ("PaperHouse$Store", "kind", "[I", true)
  | 1 => ("PaperHouse$Store", "one", "[I", true)
  | 2 => ("PaperHouse$Store", "two", "[I", true)
  | 3 => ("PaperHouse$Store", "next", "[I", true)
  | 4 => ("PaperHouse$Store", "key", "[I", true)
  | 5 => ("PaperHouse$Store", "text", "[B", true)
  | 6 => ("PaperHouse$Store", "nodes", "I", false)
  | 7 => ("PaperHouse$Store", "texts", "I", false)
  | _ => ("PaperHouse$Store", "known", "I", false)
def tyX7 : Nat → FieldType := fun k => match k with
  | 0 => .array .int
  | 1 => .array .int
  | 2 => .array .int
  | 3 => .array .int
  | 4 => .array .int
  | 5 => .array .byte
  | 6 => .int
  | 7 => .int
  | _ => .int
theorem nmX7 : ∀ a, a < 9 → ∀ b, b < 9 → a ≠ b → (TX7 a).2.1 ≠ (TX7 b).2.1 := by decide +kernel
theorem tyX7_ok : ∀ k, k < 9 → parseFieldDescriptor (TX7 k).2.2.1 = some (tyX7 k) := by decide +kernel
def RX8 : String := "PaperHouse$Table"
def TX8 : u_T := fun k => match k with
  | 0 => ("PaperHouse$Table", "store", "LPaperHouse$Store;", true)
  | 1 => ("PaperHouse$Table", "how", "[I", true)
  | 2 => ("PaperHouse$Table", "place", "[I", true)
  | 3 => ("PaperHouse$Table", "generation", "[I", true)
  | 4 => ("PaperHouse$Table", "root", "[I", true)
  | 5 => ("PaperHouse$Table", "begin", "[I", true)
  | 6 => ("PaperHouse$Table", "length", "[I", true)
  | 7 => ("PaperHouse$Table", "changed", "[Z", true)
  | 8 => ("PaperHouse$Table", "named", "[Z", true)
  | 9 => ("PaperHouse$Table", "bytes", "[B", true)
  | 10 => ("PaperHouse$Table", "used", "I", false)
  | 11 => ("PaperHouse$Table", "limit", "I", false)
  | 12 => ("PaperHouse$Table", "readLimit", "I", false)
  | 13 => ("PaperHouse$Table", "catalog", "I", false)
  | _ => ("PaperHouse$Table", "info", "I", false)
def tyX8 : Nat → FieldType := fun k => match k with
  | 0 => .object "PaperHouse$Store"
  | 1 => .array .int
  | 2 => .array .int
  | 3 => .array .int
  | 4 => .array .int
  | 5 => .array .int
  | 6 => .array .int
  | 7 => .array .boolean
  | 8 => .array .boolean
  | 9 => .array .byte
  | 10 => .int
  | 11 => .int
  | 12 => .int
  | 13 => .int
  | _ => .int
theorem nmX8 : ∀ a, a < 15 → ∀ b, b < 15 → a ≠ b → (TX8 a).2.1 ≠ (TX8 b).2.1 := by decide +kernel
theorem tyX8_ok : ∀ k, k < 15 → parseFieldDescriptor (TX8 k).2.2.1 = some (tyX8 k) := by decide +kernel
def RX9 : String := "PaperHouse$Tree"
def TX9 : u_T := fun k => match k with
  | 0 => ("PaperHouse$Tree", "parser", "LPaperHouse$Parser;", true)
  | 1 => ("PaperHouse$Tree", "table", "LPaperHouse$Table;", true)
  | 2 => ("PaperHouse$Tree", "store", "LPaperHouse$Store;", true)
  | 3 => ("PaperHouse$Tree", "leaf", "[I", true)
  | 4 => ("PaperHouse$Tree", "above", "[I", true)
  | 5 => ("PaperHouse$Tree", "met", "[Z", true)
  | 6 => ("PaperHouse$Tree", "nowhere", "[B", true)
  | 7 => ("PaperHouse$Tree", "leaves", "I", false)
  | _ => ("PaperHouse$Tree", "first", "I", false)
def tyX9 : Nat → FieldType := fun k => match k with
  | 0 => .object "PaperHouse$Parser"
  | 1 => .object "PaperHouse$Table"
  | 2 => .object "PaperHouse$Store"
  | 3 => .array .int
  | 4 => .array .int
  | 5 => .array .boolean
  | 6 => .array .byte
  | 7 => .int
  | _ => .int
theorem nmX9 : ∀ a, a < 9 → ∀ b, b < 9 → a ≠ b → (TX9 a).2.1 ≠ (TX9 b).2.1 := by decide +kernel
theorem tyX9_ok : ∀ k, k < 9 → parseFieldDescriptor (TX9 k).2.2.1 = some (tyX9 k) := by decide +kernel
def RX10 : String := "PaperHouse$Writer"
def TX10 : u_T := fun k => match k with
  | 0 => ("PaperHouse$Writer", "table", "LPaperHouse$Table;", true)
  | 1 => ("PaperHouse$Writer", "store", "LPaperHouse$Store;", true)
  | 2 => ("PaperHouse$Writer", "out", "[B", true)
  | 3 => ("PaperHouse$Writer", "written", "I", false)
  | 4 => ("PaperHouse$Writer", "over", "Z", false)
  | 5 => ("PaperHouse$Writer", "renumbers", "Z", false)
  | 6 => ("PaperHouse$Writer", "number", "[I", true)
  | 7 => ("PaperHouse$Writer", "queue", "[I", true)
  | 8 => ("PaperHouse$Writer", "place", "[I", true)
  | 9 => ("PaperHouse$Writer", "met", "I", false)
  | 10 => ("PaperHouse$Writer", "rows", "[B", true)
  | 11 => ("PaperHouse$Writer", "code", "[B", true)
  | 12 => ("PaperHouse$Writer", "coded", "I", false)
  | 13 => ("PaperHouse$Writer", "held", "I", false)
  | 14 => ("PaperHouse$Writer", "heldBits", "I", false)
  | 15 => ("PaperHouse$Writer", "newest", "[I", true)
  | 16 => ("PaperHouse$Writer", "older", "[I", true)
  | _ => ("PaperHouse$Writer", "distance", "I", false)
def tyX10 : Nat → FieldType := fun k => match k with
  | 0 => .object "PaperHouse$Table"
  | 1 => .object "PaperHouse$Store"
  | 2 => .array .byte
  | 3 => .int
  | 4 => .boolean
  | 5 => .boolean
  | 6 => .array .int
  | 7 => .array .int
  | 8 => .array .int
  | 9 => .int
  | 10 => .array .byte
  | 11 => .array .byte
  | 12 => .int
  | 13 => .int
  | 14 => .int
  | 15 => .array .int
  | 16 => .array .int
  | _ => .int
theorem nmX10 : ∀ a, a < 18 → ∀ b, b < 18 → a ≠ b → (TX10 a).2.1 ≠ (TX10 b).2.1 := by decide +kernel
theorem tyX10_ok : ∀ k, k < 18 → parseFieldDescriptor (TX10 k).2.2.1 = some (tyX10 k) := by decide +kernel
def RX11 : String := "PaperHouse"
def TX11 : u_T := fun k => match k with
  | 0 => ("PaperHouse", "tape", "[B", true)
  | 1 => ("PaperHouse", "taped", "I", false)
  | 2 => ("PaperHouse", "store", "LPaperHouse$Store;", true)
  | 3 => ("PaperHouse", "table", "LPaperHouse$Table;", true)
  | 4 => ("PaperHouse", "parser", "LPaperHouse$Parser;", true)
  | 5 => ("PaperHouse", "sections", "LPaperHouse$Sections;", true)
  | 6 => ("PaperHouse", "loader", "LPaperHouse$Loader;", true)
  | 7 => ("PaperHouse", "tree", "LPaperHouse$Tree;", true)
  | 8 => ("PaperHouse", "painter", "LPaperHouse$Painter;", true)
  | 9 => ("PaperHouse", "changes", "LPaperHouse$Changes;", true)
  | 10 => ("PaperHouse", "writer", "LPaperHouse$Writer;", true)
  | 11 => ("PaperHouse", "path", "[I", true)
  | 12 => ("PaperHouse", "steps", "I", false)
  | 13 => ("PaperHouse", "standing", "I", false)
  | 14 => ("PaperHouse", "open", "Z", false)
  | 15 => ("PaperHouse", "loadFault", "I", false)
  | 16 => ("PaperHouse", "loadPlace", "I", false)
  | 17 => ("PaperHouse", "showFault", "I", false)
  | _ => ("PaperHouse", "showPlace", "I", false)
def tyX11 : Nat → FieldType := fun k => match k with
  | 0 => .array .byte
  | 1 => .int
  | 2 => .object "PaperHouse$Store"
  | 3 => .object "PaperHouse$Table"
  | 4 => .object "PaperHouse$Parser"
  | 5 => .object "PaperHouse$Sections"
  | 6 => .object "PaperHouse$Loader"
  | 7 => .object "PaperHouse$Tree"
  | 8 => .object "PaperHouse$Painter"
  | 9 => .object "PaperHouse$Changes"
  | 10 => .object "PaperHouse$Writer"
  | 11 => .array .int
  | 12 => .int
  | 13 => .int
  | 14 => .boolean
  | 15 => .int
  | 16 => .int
  | 17 => .int
  | _ => .int
theorem nmX11 : ∀ a, a < 19 → ∀ b, b < 19 → a ≠ b → (TX11 a).2.1 ≠ (TX11 b).2.1 := by decide +kernel
theorem tyX11_ok : ∀ k, k < 19 → parseFieldDescriptor (TX11 k).2.2.1 = some (tyX11 k) := by decide +kernel
def RX12 : String := "PaperHouseModel"
def TX12 : u_T := fun k => match k with
  | 0 => ("PaperHouseModel", "tape", "[B", true)
  | 1 => ("PaperHouseModel", "tapeSize", "I", false)
  | 2 => ("PaperHouseModel", "file", "[B", true)
  | 3 => ("PaperHouseModel", "fileSize", "I", false)
  | 4 => ("PaperHouseModel", "out", "[B", true)
  | 5 => ("PaperHouseModel", "outSize", "I", false)
  | 6 => ("PaperHouseModel", "isThere", "Z", false)
  | 7 => ("PaperHouseModel", "kind", "[B", true)
  | 8 => ("PaperHouseModel", "val", "[I", true)
  | 9 => ("PaperHouseModel", "gen", "[I", true)
  | 10 => ("PaperHouseModel", "size", "[I", true)
  | 11 => ("PaperHouseModel", "first", "[I", true)
  | 12 => ("PaperHouseModel", "next", "[I", true)
  | 13 => ("PaperHouseModel", "keyFrom", "[I", true)
  | 14 => ("PaperHouseModel", "keySize", "[I", true)
  | 15 => ("PaperHouseModel", "nodes", "I", false)
  | 16 => ("PaperHouseModel", "pool", "[B", true)
  | 17 => ("PaperHouseModel", "pooled", "I", false)
  | 18 => ("PaperHouseModel", "bytes", "[B", false)
  | 19 => ("PaperHouseModel", "base", "I", false)
  | 20 => ("PaperHouseModel", "limit", "I", false)
  | 21 => ("PaperHouseModel", "at", "I", false)
  | 22 => ("PaperHouseModel", "tok", "I", false)
  | 23 => ("PaperHouseModel", "begin", "I", false)
  | 24 => ("PaperHouseModel", "tokValue", "I", false)
  | 25 => ("PaperHouseModel", "isSigned", "Z", false)
  | 26 => ("PaperHouseModel", "textSize", "I", false)
  | 27 => ("PaperHouseModel", "code", "I", false)
  | 28 => ("PaperHouseModel", "place", "I", false)
  | 29 => ("PaperHouseModel", "objects", "I", false)
  | 30 => ("PaperHouseModel", "mostObjects", "I", false)
  | 31 => ("PaperHouseModel", "texts", "I", false)
  | 32 => ("PaperHouseModel", "loads", "Z", false)
  | 33 => ("PaperHouseModel", "data", "[B", true)
  | 34 => ("PaperHouseModel", "dataTop", "I", false)
  | 35 => ("PaperHouseModel", "before", "[B", true)
  | 36 => ("PaperHouseModel", "behind", "[B", true)
  | 37 => ("PaperHouseModel", "coded", "I", false)
  | 38 => ("PaperHouseModel", "made", "I", false)
  | 39 => ("PaperHouseModel", "bitAt", "I", false)
  | 40 => ("PaperHouseModel", "isBroken", "Z", false)
  | 41 => ("PaperHouseModel", "lengths", "[I", true)
  | 42 => ("PaperHouseModel", "litCounts", "[I", true)
  | 43 => ("PaperHouseModel", "litSymbols", "[I", true)
  | 44 => ("PaperHouseModel", "distCounts", "[I", true)
  | 45 => ("PaperHouseModel", "distSymbols", "[I", true)
  | 46 => ("PaperHouseModel", "countsAt", "[I", true)
  | 47 => ("PaperHouseModel", "read", "[I", true)
  | 48 => ("PaperHouseModel", "stands", "[B", true)
  | 49 => ("PaperHouseModel", "placeOf", "[J", true)
  | 50 => ("PaperHouseModel", "third", "[J", true)
  | 51 => ("PaperHouseModel", "isTold", "[Z", true)
  | 52 => ("PaperHouseModel", "root", "[I", true)
  | 53 => ("PaperHouseModel", "state", "[B", true)
  | 54 => ("PaperHouseModel", "isStream", "[Z", true)
  | 55 => ("PaperHouseModel", "dataFrom", "[I", true)
  | 56 => ("PaperHouseModel", "dataSize", "[I", true)
  | 57 => ("PaperHouseModel", "isNew", "[Z", true)
  | 58 => ("PaperHouseModel", "isNamed", "[Z", true)
  | 59 => ("PaperHouseModel", "isPassed", "[Z", true)
  | 60 => ("PaperHouseModel", "all", "I", false)
  | 61 => ("PaperHouseModel", "sections", "I", false)
  | 62 => ("PaperHouseModel", "sectionAt", "[J", true)
  | 63 => ("PaperHouseModel", "isRow", "Z", false)
  | 64 => ("PaperHouseModel", "trailer", "I", false)
  | 65 => ("PaperHouseModel", "rootRef", "I", false)
  | 66 => ("PaperHouseModel", "infoRef", "I", false)
  | 67 => ("PaperHouseModel", "streamBytes", "I", false)
  | 68 => ("PaperHouseModel", "loadFault", "I", false)
  | 69 => ("PaperHouseModel", "loadPlace", "I", false)
  | 70 => ("PaperHouseModel", "showFault", "I", false)
  | 71 => ("PaperHouseModel", "showPlace", "I", false)
  | 72 => ("PaperHouseModel", "tells", "[B", true)
  | 73 => ("PaperHouseModel", "tellsPlace", "[J", true)
  | 74 => ("PaperHouseModel", "tellsThird", "[J", true)
  | 75 => ("PaperHouseModel", "greatest", "I", false)
  | 76 => ("PaperHouseModel", "widths", "[I", true)
  | 77 => ("PaperHouseModel", "headNumber", "I", false)
  | 78 => ("PaperHouseModel", "headGeneration", "J", false)
  | 79 => ("PaperHouseModel", "rawLength", "I", false)
  | 80 => ("PaperHouseModel", "lastNumber", "I", false)
  | 81 => ("PaperHouseModel", "rootNumber", "I", false)
  | 82 => ("PaperHouseModel", "infoNumber", "I", false)
  | 83 => ("PaperHouseModel", "firstNode", "I", false)
  | 84 => ("PaperHouseModel", "pageCount", "I", false)
  | 85 => ("PaperHouseModel", "pageOf", "[I", true)
  | 86 => ("PaperHouseModel", "above", "[I", true)
  | 87 => ("PaperHouseModel", "isMet", "[Z", true)
  | 88 => ("PaperHouseModel", "depth", "I", false)
  | 89 => ("PaperHouseModel", "cursorNumber", "I", false)
  | 90 => ("PaperHouseModel", "path", "[I", true)
  | 91 => ("PaperHouseModel", "contents", "[B", true)
  | 92 => ("PaperHouseModel", "contentsSize", "I", false)
  | 93 => ("PaperHouseModel", "operands", "[I", true)
  | 94 => ("PaperHouseModel", "waits", "I", false)
  | 95 => ("PaperHouseModel", "ctm", "[I", true)
  | 96 => ("PaperHouseModel", "tm", "[I", true)
  | 97 => ("PaperHouseModel", "line", "[I", true)
  | 98 => ("PaperHouseModel", "by", "[I", true)
  | 99 => ("PaperHouseModel", "sums", "[J", true)
  | 100 => ("PaperHouseModel", "ways", "[I", true)
  | 101 => ("PaperHouseModel", "keptWays", "[I", true)
  | 102 => ("PaperHouseModel", "keptMany", "I", false)
  | 103 => ("PaperHouseModel", "isText", "Z", false)
  | 104 => ("PaperHouseModel", "glyphs", "I", false)
  | 105 => ("PaperHouseModel", "glyphRows", "[I", true)
  | 106 => ("PaperHouseModel", "operatorAt", "I", false)
  | 107 => ("PaperHouseModel", "resources", "I", false)
  | 108 => ("PaperHouseModel", "operators", "[Ljava/lang/String;", true)
  | 109 => ("PaperHouseModel", "isAnew", "Z", false)
  | 110 => ("PaperHouseModel", "anew", "[I", true)
  | 111 => ("PaperHouseModel", "order", "[I", true)
  | 112 => ("PaperHouseModel", "ordered", "I", false)
  | 113 => ("PaperHouseModel", "written", "[I", true)
  | 114 => ("PaperHouseModel", "coder", "[B", true)
  | 115 => ("PaperHouseModel", "coderSize", "I", false)
  | 116 => ("PaperHouseModel", "coderBits", "I", false)
  | 117 => ("PaperHouseModel", "latest", "[I", true)
  | 118 => ("PaperHouseModel", "elder", "[I", true)
  | 119 => ("PaperHouseModel", "rows", "[B", true)
  | _ => ("PaperHouseModel", "rowsSize", "I", false)
def tyX12 : Nat → FieldType := fun k => match k with
  | 0 => .array .byte
  | 1 => .int
  | 2 => .array .byte
  | 3 => .int
  | 4 => .array .byte
  | 5 => .int
  | 6 => .boolean
  | 7 => .array .byte
  | 8 => .array .int
  | 9 => .array .int
  | 10 => .array .int
  | 11 => .array .int
  | 12 => .array .int
  | 13 => .array .int
  | 14 => .array .int
  | 15 => .int
  | 16 => .array .byte
  | 17 => .int
  | 18 => .array .byte
  | 19 => .int
  | 20 => .int
  | 21 => .int
  | 22 => .int
  | 23 => .int
  | 24 => .int
  | 25 => .boolean
  | 26 => .int
  | 27 => .int
  | 28 => .int
  | 29 => .int
  | 30 => .int
  | 31 => .int
  | 32 => .boolean
  | 33 => .array .byte
  | 34 => .int
  | 35 => .array .byte
  | 36 => .array .byte
  | 37 => .int
  | 38 => .int
  | 39 => .int
  | 40 => .boolean
  | 41 => .array .int
  | 42 => .array .int
  | 43 => .array .int
  | 44 => .array .int
  | 45 => .array .int
  | 46 => .array .int
  | 47 => .array .int
  | 48 => .array .byte
  | 49 => .array .long
  | 50 => .array .long
  | 51 => .array .boolean
  | 52 => .array .int
  | 53 => .array .byte
  | 54 => .array .boolean
  | 55 => .array .int
  | 56 => .array .int
  | 57 => .array .boolean
  | 58 => .array .boolean
  | 59 => .array .boolean
  | 60 => .int
  | 61 => .int
  | 62 => .array .long
  | 63 => .boolean
  | 64 => .int
  | 65 => .int
  | 66 => .int
  | 67 => .int
  | 68 => .int
  | 69 => .int
  | 70 => .int
  | 71 => .int
  | 72 => .array .byte
  | 73 => .array .long
  | 74 => .array .long
  | 75 => .int
  | 76 => .array .int
  | 77 => .int
  | 78 => .long
  | 79 => .int
  | 80 => .int
  | 81 => .int
  | 82 => .int
  | 83 => .int
  | 84 => .int
  | 85 => .array .int
  | 86 => .array .int
  | 87 => .array .boolean
  | 88 => .int
  | 89 => .int
  | 90 => .array .int
  | 91 => .array .byte
  | 92 => .int
  | 93 => .array .int
  | 94 => .int
  | 95 => .array .int
  | 96 => .array .int
  | 97 => .array .int
  | 98 => .array .int
  | 99 => .array .long
  | 100 => .array .int
  | 101 => .array .int
  | 102 => .int
  | 103 => .boolean
  | 104 => .int
  | 105 => .array .int
  | 106 => .int
  | 107 => .int
  | 108 => .array (.object "java/lang/String")
  | 109 => .boolean
  | 110 => .array .int
  | 111 => .array .int
  | 112 => .int
  | 113 => .array .int
  | 114 => .array .byte
  | 115 => .int
  | 116 => .int
  | 117 => .array .int
  | 118 => .array .int
  | 119 => .array .byte
  | _ => .int
theorem nmX12 : ∀ a, a < 121 → ∀ b, b < 121 → a ≠ b → (TX12 a).2.1 ≠ (TX12 b).2.1 := by decide +kernel
theorem tyX12_ok : ∀ k, k < 121 → parseFieldDescriptor (TX12 k).2.2.1 = some (tyX12 k) := by decide +kernel
/-- the classes, in this order everywhere; 13 is String -/
def ex_cl : List vw_C := [(RX0, TX0, 3), (RX1, TX1, 9), (RX2, TX2, 15), (RX3, TX3, 10), (RX4, TX4, 19), (RX5, TX5, 18), (RX6, TX6, 13), (RX7, TX7, 9), (RX8, TX8, 15), (RX9, TX9, 9), (RX10, TX10, 18), (RX11, TX11, 19), (RX12, TX12, 121)]
def ex_ftL : List (List FieldType) := [[.object "PaperHouse$Table", .object "PaperHouse$Store", .object "PaperHouse$Tree"],
  [.object "PaperHouse$Store", .object "PaperHouse$Inflate", .array .byte, .array .byte, .array .boolean, .array .int, .int, .array .byte, .int],
  [.array .int, .array .int, .array .int, .array .int, .array .int, .array .int, .array .byte, .int, .int, .array .byte, .int, .int, .int, .int, .int],
  [.array .byte, .int, .object "PaperHouse$Parser", .object "PaperHouse$Store", .object "PaperHouse$Table", .object "PaperHouse$Filters", .array .int, .array .int, .array .int, .int],
  [.object "PaperHouse$Table", .object "PaperHouse$Store", .object "PaperHouse$Tree", .object "PaperHouse$Parser", .array .byte, .array .int, .array .int, .array .int, .array .int, .array .int, .array .int, .array .int, .array .int, .array .int, .int, .int, .boolean, .int, .int],
  [.object "PaperHouse$Store", .array .byte, .array .byte, .int, .int, .int, .int, .int, .int, .int, .boolean, .int, .int, .int, .int, .boolean, .boolean, .int],
  [.object "PaperHouse$Parser", .object "PaperHouse$Store", .object "PaperHouse$Table", .object "PaperHouse$Filters", .array .int, .array .int, .int, .int, .int, .int, .boolean, .int, .int],
  [.array .int, .array .int, .array .int, .array .int, .array .int, .array .byte, .int, .int, .int],
  [.object "PaperHouse$Store", .array .int, .array .int, .array .int, .array .int, .array .int, .array .int, .array .boolean, .array .boolean, .array .byte, .int, .int, .int, .int, .int],
  [.object "PaperHouse$Parser", .object "PaperHouse$Table", .object "PaperHouse$Store", .array .int, .array .int, .array .boolean, .array .byte, .int, .int],
  [.object "PaperHouse$Table", .object "PaperHouse$Store", .array .byte, .int, .boolean, .boolean, .array .int, .array .int, .array .int, .int, .array .byte, .array .byte, .int, .int, .int, .array .int, .array .int, .int],
  [.array .byte, .int, .object "PaperHouse$Store", .object "PaperHouse$Table", .object "PaperHouse$Parser", .object "PaperHouse$Sections", .object "PaperHouse$Loader", .object "PaperHouse$Tree", .object "PaperHouse$Painter", .object "PaperHouse$Changes", .object "PaperHouse$Writer", .array .int, .int, .int, .boolean, .int, .int, .int, .int],
  [.array .byte, .int, .array .byte, .int, .array .byte, .int, .boolean, .array .byte, .array .int, .array .int, .array .int, .array .int, .array .int, .array .int, .array .int, .int, .array .byte, .int, .array .byte, .int, .int, .int, .int, .int, .int, .boolean, .int, .int, .int, .int, .int, .int, .boolean, .array .byte, .int, .array .byte, .array .byte, .int, .int, .int, .boolean, .array .int, .array .int, .array .int, .array .int, .array .int, .array .int, .array .int, .array .byte, .array .long, .array .long, .array .boolean, .array .int, .array .byte, .array .boolean, .array .int, .array .int, .array .boolean, .array .boolean, .array .boolean, .int, .int, .array .long, .boolean, .int, .int, .int, .int, .int, .int, .int, .int, .array .byte, .array .long, .array .long, .int, .array .int, .int, .long, .int, .int, .int, .int, .int, .int, .array .int, .array .int, .array .boolean, .int, .int, .array .int, .array .byte, .int, .array .int, .int, .array .int, .array .int, .array .int, .array .int, .array .long, .array .int, .array .int, .int, .boolean, .int, .array .int, .int, .int, .array (.object "java/lang/String"), .boolean, .array .int, .array .int, .int, .array .int, .array .byte, .int, .int, .array .int, .array .int, .array .byte, .int]]
def ex_ft (c : Nat) : List FieldType := ex_ftL.getD c []
end
section
/-! ===== AN INTERPRETER over clean data: references are places of a list of cells; nothing of the machine is in it ===== -/
/-- a cell: an object (its class's place, its fields) or an array (its type's place, length and contents) -/
abbrev ex_C : Type := (Nat × List Value) ⊕ (Nat × vp_A)
/-- the cells that were made, and how many slots they take -/
abbrev ex_H : Type := List ex_C × Nat
/-- an instruction, what it names (three numbers), the place behind it -/
abbrev ex_I : Type := Instr × Nat × Nat × Nat × Nat
abbrev ex_V : Type := List (Nat × Value)
/-- a frame: place, locals, stack; and the heap -/
abbrev ex_F : Type := Nat × ex_V × List Value × ex_H
/-- behind an instruction: it goes on; it returns; it calls (method, arguments, the frame behind) -/
abbrev ex_O : Type := ex_F ⊕ ((Option Value × ex_H) ⊕ (Nat × List Value × ex_F))
/-- what stood there before: how many cells, what they hold; the String constants (class, entry, place, text); the statics -/
abbrev ex_G : Type := Nat × (Nat → Option ex_C) × List (String × Nat × Nat × String) × List (String × String × String × Value)
/-- a method: name, bytes, locals, what it returns, its instructions by sixteens -/
abbrev ex_M : Type := MethodName × ByteArray × Nat × Option FieldType × List (List (Option ex_I))
def ex_get (g : ex_G) (h : ex_H) (i : Nat) : Option ex_C := bif Nat.blt i g.1 then g.2.1 i else h.1[i - g.1]?
def ex_set (g : ex_G) (h : ex_H) (i : Nat) (c : ex_C) : ex_H := (h.1.set (i - g.1) c, h.2)
def ex_own (g : ex_G) (h : ex_H) (i : Nat) : Option ex_C := bif Nat.blt i g.1 then none else h.1[i - g.1]?
def ex_go (pc : Nat) (lv : ex_V) (st : List Value) (h : ex_H) : Option ex_O := some (.inl (pc, lv, st, h))
def ex_at : ex_V → Nat → Option Value
  | [], _ => none
  | q :: t, i => bif Nat.beq q.1 i then some q.2 else ex_at t i
def ex_s1 (lv : ex_V) (i : Nat) (v : Value) : ex_V := (i, v) :: lv.filter (fun q => !(q.1 == i) && !(q.1 + 1 == i && q.2.category == 2))
def ex_s2 (lv : ex_V) (i : Nat) (v : Value) : ex_V := (i, v) :: lv.filter (fun q => !(q.1 == i) && (!(q.1 == i + 1) && !(q.1 + 1 == i && q.2.category == 2)))
def ex_w (st : List Value) : Nat := (st.map fun v => v.category).sum
def ex_in (i : Int32) (n : Nat) : Bool := !(decide (i < 0)) && Nat.blt i.toNatClampNeg n
def ex_cd (cd : List (List (Option ex_I))) (pc : Nat) : Option ex_I := match cd[pc / 16]? with
  | some r => (match r[pc % 16]? with | some q => q | none => none)
  | none => none
-- families of instructions
def ex_ii (f : Int32 → Int32 → Int32) (nx : Nat) (lv : ex_V) (st : List Value) (h : ex_H) : Option ex_O := match st with
  | .int y :: .int x :: r => ex_go nx lv (.int (f x y) :: r) h
  | _ => none
def ex_iid (f : Int32 → Int32 → Int32) (nx : Nat) (lv : ex_V) (st : List Value) (h : ex_H) : Option ex_O := match st with
  | .int y :: .int x :: r => bif decide (y = 0) then none else ex_go nx lv (.int (f x y) :: r) h
  | _ => none
def ex_ll (f : Int64 → Int64 → Int64) (nx : Nat) (lv : ex_V) (st : List Value) (h : ex_H) : Option ex_O := match st with
  | .long y :: .long x :: r => ex_go nx lv (.long (f x y) :: r) h
  | _ => none
def ex_lld (f : Int64 → Int64 → Int64) (nx : Nat) (lv : ex_V) (st : List Value) (h : ex_H) : Option ex_O := match st with
  | .long y :: .long x :: r => bif decide (y = 0) then none else ex_go nx lv (.long (f x y) :: r) h
  | _ => none
def ex_li (f : Int64 → Int32 → Int64) (nx : Nat) (lv : ex_V) (st : List Value) (h : ex_H) : Option ex_O := match st with
  | .int y :: .long x :: r => ex_go nx lv (.long (f x y) :: r) h
  | _ => none
def ex_i (f : Int32 → Value) (nx : Nat) (lv : ex_V) (st : List Value) (h : ex_H) : Option ex_O := match st with
  | .int x :: r => ex_go nx lv (f x :: r) h
  | _ => none
def ex_l (f : Int64 → Value) (nx : Nat) (lv : ex_V) (st : List Value) (h : ex_H) : Option ex_O := match st with
  | .long x :: r => ex_go nx lv (f x :: r) h
  | _ => none
def ex_lc (nx : Nat) (lv : ex_V) (st : List Value) (h : ex_H) : Option ex_O := match st with
  | .long y :: .long x :: r => ex_go nx lv (.int (lg_cmp x y) :: r) h
  | _ => none
def ex_if (c : Int32 → Bool) (t nx : Nat) (lv : ex_V) (st : List Value) (h : ex_H) : Option ex_O := match st with
  | .int x :: r => bif c x then ex_go t lv r h else ex_go nx lv r h
  | _ => none
def ex_ic (c : Int32 → Int32 → Bool) (t nx : Nat) (lv : ex_V) (st : List Value) (h : ex_H) : Option ex_O := match st with
  | .int y :: .int x :: r => bif c x y then ex_go t lv r h else ex_go nx lv r h
  | _ => none
def ex_to (pc : Nat) (off : Int) (lv : ex_V) (st : List Value) (h : ex_H) : Option ex_O := bif decide (0 ≤ (pc : Int) + off) then ex_go ((pc : Int) + off).toNat lv st h else none
def ex_tsw (d lo hi : Int) (offs : Array Int) (pc : Nat) (lv : ex_V) (st : List Value) (h : ex_H) : Option ex_O := match st with
  | .int x :: r => bif decide (x.toInt < lo ∨ hi < x.toInt) then ex_to pc d lv r h else (match offs[(x.toInt - lo).toNat]? with | some off => ex_to pc off lv r h | none => none)
  | _ => none
def ex_lsw (d : Int) (ps : Array (Int × Int)) (pc : Nat) (lv : ex_V) (st : List Value) (h : ex_H) : Option ex_O := match st with
  | .int x :: r => ex_to pc (Op.lookupswitch.offset ps.toList d x.toInt) lv r h
  | _ => none
def ex_ild (i nx : Nat) (lv : ex_V) (st : List Value) (h : ex_H) : Option ex_O := match ex_at lv i with
  | some (.int x) => ex_go nx lv (.int x :: st) h
  | _ => none
def ex_lld1 (i nx : Nat) (lv : ex_V) (st : List Value) (h : ex_H) : Option ex_O := match ex_at lv i with
  | some (.long x) => ex_go nx lv (.long x :: st) h
  | _ => none
def ex_ald (i nx : Nat) (lv : ex_V) (st : List Value) (h : ex_H) : Option ex_O := match ex_at lv i with
  | some (.ref x) => ex_go nx lv (.ref x :: st) h
  | _ => none
def ex_ist (nL i nx : Nat) (lv : ex_V) (st : List Value) (h : ex_H) : Option ex_O := match st with
  | .int x :: r => bif Nat.blt i nL then ex_go nx (ex_s1 lv i (.int x)) r h else none
  | _ => none
def ex_lst (nL i nx : Nat) (lv : ex_V) (st : List Value) (h : ex_H) : Option ex_O := match st with
  | .long x :: r => bif Nat.blt (i + 1) nL then ex_go nx (ex_s2 lv i (.long x)) r h else none
  | _ => none
def ex_ast (nL i nx : Nat) (lv : ex_V) (st : List Value) (h : ex_H) : Option ex_O := match st with
  | .ref x :: r => bif Nat.blt i nL then ex_go nx (ex_s1 lv i (.ref x)) r h else none
  | _ => none
def ex_inc (nL i : Nat) (n : Int) (nx : Nat) (lv : ex_V) (st : List Value) (h : ex_H) : Option ex_O := match ex_at lv i with
  | some (.int x) => bif Nat.blt i nL then ex_go nx (ex_s1 lv i (.int (x + Int32.ofInt n))) st h else none
  | _ => none
def ex_ldc (x y nx : Nat) (lv : ex_V) (st : List Value) (h : ex_H) : Option ex_O := bif Nat.beq y 0 then ex_go nx lv (.int (Int32.ofNat x) :: st) h else ex_go nx lv (.ref x :: st) h
def ex_dup (nx : Nat) (lv : ex_V) (st : List Value) (h : ex_H) : Option ex_O := match st with
  | v :: r => bif Nat.beq v.category 1 then ex_go nx lv (v :: v :: r) h else none
  | _ => none
def ex_pop (nx : Nat) (lv : ex_V) (st : List Value) (h : ex_H) : Option ex_O := match st with
  | v :: r => bif Nat.beq v.category 1 then ex_go nx lv r h else none
  | _ => none
def ex_dup2 (nx : Nat) (lv : ex_V) (st : List Value) (h : ex_H) : Option ex_O := match st with
  | v :: u :: r => bif Nat.beq v.category 2 then ex_go nx lv (v :: v :: u :: r) h else bif Nat.beq v.category 1 && Nat.beq u.category 1 then ex_go nx lv (v :: u :: v :: u :: r) h else none
  | _ => none
def ex_dupx1 (nx : Nat) (lv : ex_V) (st : List Value) (h : ex_H) : Option ex_O := match st with
  | v :: u :: r => bif Nat.beq v.category 1 && Nat.beq u.category 1 then ex_go nx lv (v :: u :: v :: r) h else none
  | _ => none
def ex_gf (g : ex_G) (ci k nx : Nat) (lv : ex_V) (st : List Value) (h : ex_H) : Option ex_O := match st with
  | .ref i :: r => (match ex_get g h i with
    | some (.inl (cj, fs)) => bif Nat.beq ci cj then (match fs[k]? with | some v => ex_go nx lv (v :: r) h | none => none) else none
    | _ => none)
  | _ => none
/-- what a field of a type may be given -/
def ex_fit : FieldType → Value → Bool
  | .boolean, .int v => v == 0 || v == 1
  | .int, .int _ => true
  | .long, .long _ => true
  | .object _, .ref _ => true
  | .array _, .ref _ => true
  | _, _ => false
def ex_pf (g : ex_G) (tys : List FieldType) (ci k nx : Nat) (lv : ex_V) (st : List Value) (h : ex_H) : Option ex_O := match st with
  | v :: .ref i :: r => (match ex_own g h i with
    | some (.inl (cj, fs)) => bif Nat.beq ci cj && Nat.blt k fs.length then (match tys[k]? with
      | some ty => bif ex_fit ty v then ex_go nx lv r (ex_set g h i (.inl (cj, fs.set k v))) else none
      | none => none) else none
    | _ => none)
  | _ => none
def ex_len (g : ex_G) (nx : Nat) (lv : ex_V) (st : List Value) (h : ex_H) : Option ex_O := match st with
  | .ref i :: r => (match ex_get g h i with
    | some (.inr (t, n, _)) => bif Nat.blt t 5 then ex_go nx lv (.int (Int32.ofNat n) :: r) h else none
    | _ => none)
  | _ => none
/-- arrays of ints, bytes, booleans: read (types t and u) -/
def ex_xld (g : ex_G) (t u nx : Nat) (lv : ex_V) (st : List Value) (h : ex_H) : Option ex_O := match st with
  | .int j :: .ref i :: r => (match ex_get g h i with
    | some (.inr (q, n, .inl f)) => bif (Nat.beq q t || Nat.beq q u) && ex_in j n then ex_go nx lv (.int (f j.toNatClampNeg) :: r) h else none
    | _ => none)
  | _ => none
def ex_xlld (g : ex_G) (nx : Nat) (lv : ex_V) (st : List Value) (h : ex_H) : Option ex_O := match st with
  | .int j :: .ref i :: r => (match ex_own g h i with
    | some (.inr (q, n, .inr (.inl f))) => bif Nat.beq q 3 && ex_in j n then ex_go nx lv (.long (f j.toNatClampNeg) :: r) h else none
    | _ => none)
  | _ => none
def ex_xst (g : ex_G) (nx : Nat) (lv : ex_V) (st : List Value) (h : ex_H) : Option ex_O := match st with
  | .int x :: .int j :: .ref i :: r => (match ex_own g h i with
    | some (.inr (q, n, .inl f)) => bif Nat.beq q 0 && ex_in j n then ex_go nx lv r (ex_set g h i (.inr (q, n, .inl (upd f j.toNatClampNeg x)))) else none
    | _ => none)
  | _ => none
def ex_xbst (g : ex_G) (nx : Nat) (lv : ex_V) (st : List Value) (h : ex_H) : Option ex_O := match st with
  | .int x :: .int j :: .ref i :: r => (match ex_own g h i with
    | some (.inr (q, n, .inl f)) => bif Nat.beq q 1 && ex_in j n then ex_go nx lv r (ex_set g h i (.inr (q, n, .inl (upd f j.toNatClampNeg x.toInt8.toInt32))))
        else bif Nat.beq q 2 && ex_in j n then ex_go nx lv r (ex_set g h i (.inr (q, n, .inl (upd f j.toNatClampNeg (x &&& 1))))) else none
    | _ => none)
  | _ => none
def ex_xlst (g : ex_G) (nx : Nat) (lv : ex_V) (st : List Value) (h : ex_H) : Option ex_O := match st with
  | .long x :: .int j :: .ref i :: r => (match ex_own g h i with
    | some (.inr (q, n, .inr (.inl f))) => bif Nat.beq q 3 && ex_in j n then ex_go nx lv r (ex_set g h i (.inr (q, n, .inr (.inl (vp_updL f j.toNatClampNeg x))))) else none
    | _ => none)
  | _ => none
/-- arrays of Strings: a constant is put in, a place is read -/
def ex_xast (g : ex_G) (nx : Nat) (lv : ex_V) (st : List Value) (h : ex_H) : Option ex_O := match st with
  | .ref v :: .int j :: .ref i :: r => (match ex_own g h i with
    | some (.inr (q, n, .inr (.inr (.inr (.inr f))))) => bif Nat.beq q 4 && ex_in j n && Nat.blt v g.1 then (match g.2.1 v with
      | some (.inl (13, _)) => ex_go nx lv r (ex_set g h i (.inr (q, n, .inr (.inr (.inr (.inr (va_up f j.toNatClampNeg (some v))))))))
      | _ => none) else none
    | _ => none)
  | _ => none
def ex_xald (g : ex_G) (nx : Nat) (lv : ex_V) (st : List Value) (h : ex_H) : Option ex_O := match st with
  | .int j :: .ref i :: r => (match ex_own g h i with
    | some (.inr (q, n, .inr (.inr (.inr (.inr f))))) => bif Nat.beq q 4 && ex_in j n then (match f j.toNatClampNeg with
      | some v => ex_go nx lv (.ref v :: r) h
      | none => none) else none
    | _ => none)
  | _ => none
def ex_new (g : ex_G) (tys : List FieldType) (ci nx : Nat) (lv : ex_V) (st : List Value) (h : ex_H) : Option ex_O :=
  ex_go nx lv (.ref (g.1 + h.1.length) :: st) (h.1 ++ [.inl (ci, tys.map defaultValue)], h.2 + tys.length)
def ex_nar (t : ArrayType) : Option (Nat × ((Nat → Int32) ⊕ (Nat → Int64) ⊕ (Nat → UInt32) ⊕ (Nat → UInt64) ⊕ (Nat → Option Nat))) := match t with
  | .int => some (0, .inl (fun _ => 0))
  | .byte => some (1, .inl (fun _ => 0))
  | .boolean => some (2, .inl (fun _ => 0))
  | .long => some (3, .inr (.inl (fun _ => 0)))
  | _ => none
def ex_newa (g : ex_G) (t : ArrayType) (nx : Nat) (lv : ex_V) (st : List Value) (h : ex_H) : Option ex_O := match st with
  | .int n :: r => bif !(decide (n < 0)) && Nat.ble n.toNatClampNeg 1000000 then (match ex_nar t with
    | some (q, z) => ex_go nx lv (.ref (g.1 + h.1.length) :: r) (h.1 ++ [.inr (q, n.toNatClampNeg, z)], h.2 + n.toNatClampNeg)
    | none => none) else none
  | _ => none
def ex_newq (g : ex_G) (nx : Nat) (lv : ex_V) (st : List Value) (h : ex_H) : Option ex_O := match st with
  | .int n :: r => bif !(decide (n < 0)) && Nat.ble n.toNatClampNeg 1000000 then
      ex_go nx lv (.ref (g.1 + h.1.length) :: r) (h.1 ++ [.inr (4, n.toNatClampNeg, .inr (.inr (.inr (.inr (fun _ => none)))))], h.2 + n.toNatClampNeg) else none
  | _ => none
def ex_ret (rt : Option FieldType) (st : List Value) (h : ex_H) : Option ex_O := match rt, st with
  | some .int, [.int v] => some (.inr (.inl (some (.int v), h)))
  | some .boolean, [.int v] => bif v == 0 || v == 1 then some (.inr (.inl (some (.int v), h))) else none
  | some .char, [.int v] => bif decide (narrow .char (.int v) = .int v) then some (.inr (.inl (some (.int v), h))) else none
  | some .byte, [.int v] => bif decide (narrow .byte (.int v) = .int v) then some (.inr (.inl (some (.int v), h))) else none
  | _, _ => none
def ex_lret (rt : Option FieldType) (st : List Value) (h : ex_H) : Option ex_O := match rt, st with
  | some .long, [.long v] => some (.inr (.inl (some (.long v), h)))
  | _, _ => none
def ex_aret (rt : Option FieldType) (st : List Value) (h : ex_H) : Option ex_O := match rt, st with
  | some (.object _), [.ref v] => some (.inr (.inl (some (.ref v), h)))
  | _, _ => none
def ex_vret (rt : Option FieldType) (st : List Value) (h : ex_H) : Option ex_O := match rt, st with
  | none, [] => some (.inr (.inl (none, h)))
  | _, _ => none
def ex_callV (g : ex_G) (k n ci nx : Nat) (lv : ex_V) (st : List Value) (h : ex_H) : Option ex_O := match st.drop n with
  | .ref b :: r => (match ex_get g h b with
    | some (.inl (cj, _)) => bif Nat.beq ci cj && Nat.ble (ex_w r) 8 && Nat.beq (st.take n).length n then some (.inr (.inr (k, .ref b :: (st.take n).reverse, (nx, lv, r, h)))) else none
    | _ => none)
  | _ => none
def ex_callI (k n nx : Nat) (lv : ex_V) (st : List Value) (h : ex_H) : Option ex_O := bif Nat.beq k 1000000 then
    (match st with | .ref _ :: r => bif Nat.ble (ex_w r) 8 then ex_go nx lv r h else none | _ => none) else match st.drop n with
  | .ref b :: r => bif Nat.ble (ex_w r) 8 && Nat.beq (st.take n).length n then some (.inr (.inr (k, .ref b :: (st.take n).reverse, (nx, lv, r, h)))) else none
  | _ => none
def ex_cpy (g : ex_G) (nx : Nat) (lv : ex_V) (st : List Value) (h : ex_H) : Option ex_O := match st with
  | .int n :: .int dp :: .ref b :: .int sp :: .ref a :: r => (match ex_own g h a, ex_own g h b with
    | some (.inr (q, n0, .inl f)), some (.inr (u, n1, .inl k)) => bif Nat.beq q u && Nat.beq q 1 && Nat.beq n.toNatClampNeg 0 && !(decide (sp < 0)) && !(decide (dp < 0)) && !(decide (n < 0)) && Nat.ble sp.toNatClampNeg n0 && Nat.ble dp.toNatClampNeg n1 && Nat.ble (ex_w r) 8 then ex_go nx lv r h else none
    | _, _ => none)
  | _ => none
def ex_callS (g : ex_G) (k n nx : Nat) (lv : ex_V) (st : List Value) (h : ex_H) : Option ex_O := bif Nat.beq k 1000000 then ex_cpy g nx lv st h
  else bif Nat.ble (ex_w (st.drop n)) 8 && Nat.beq (st.take n).length n then some (.inr (.inr (k, (st.take n).reverse, (nx, lv, st.drop n, h)))) else none
/-- one instruction (the frame's number of locals, what the method returns, the instruction, its place) -/
def ex_step (g : ex_G) (nL : Nat) (rt : Option FieldType) (e : ex_I) (pc : Nat) (lv : ex_V) (st : List Value) (h : ex_H) : Option ex_O := match e with
  | (ins, x, y, z, nx) => match ins with
    | .iconst n => ex_go nx lv (.int (Int32.ofInt n) :: st) h
    | .bipush n => ex_go nx lv (.int (Int8.ofInt n).toInt32 :: st) h
    | .sipush n => ex_go nx lv (.int (Int16.ofInt n).toInt32 :: st) h
    | .lconst n => ex_go nx lv (.long (Int64.ofNat (n : Nat)) :: st) h
    | .ldc _ => ex_ldc x y nx lv st h
    | .ldc_w _ => ex_ldc x y nx lv st h
    | .ldc2_w _ => ex_go nx lv (.long (Int64.ofNat x) :: st) h
    | .iload_n k => ex_ild k nx lv st h
    | .iload k => ex_ild k nx lv st h
    | .lload_n k => ex_lld1 k nx lv st h
    | .lload k => ex_lld1 k nx lv st h
    | .aload_n k => ex_ald k nx lv st h
    | .aload k => ex_ald k nx lv st h
    | .istore_n k => ex_ist nL k nx lv st h
    | .istore k => ex_ist nL k nx lv st h
    | .lstore_n k => ex_lst nL k nx lv st h
    | .lstore k => ex_lst nL k nx lv st h
    | .astore_n k => ex_ast nL k nx lv st h
    | .astore k => ex_ast nL k nx lv st h
    | .iinc k n => ex_inc nL k n nx lv st h
    | .iadd => ex_ii (fun x y => x + y) nx lv st h
    | .isub => ex_ii (fun x y => x - y) nx lv st h
    | .imul => ex_ii (fun x y => x * y) nx lv st h
    | .iand => ex_ii (fun x y => x &&& y) nx lv st h
    | .ior => ex_ii (fun x y => x ||| y) nx lv st h
    | .ixor => ex_ii (fun x y => x ^^^ y) nx lv st h
    | .ishl => ex_ii (fun x y => x <<< (y &&& 31)) nx lv st h
    | .ishr => ex_ii (fun x y => x >>> (y &&& 31)) nx lv st h
    | .iushr => ex_ii (fun x y => (x.toUInt32 >>> (y.toUInt32 &&& Int32.toUInt32 31)).toInt32) nx lv st h
    | .idiv => ex_iid (fun x y => x / y) nx lv st h
    | .irem => ex_iid (fun x y => x - x / y * y) nx lv st h
    | .ladd => ex_ll (fun x y => x + y) nx lv st h
    | .lsub => ex_ll (fun x y => x - y) nx lv st h
    | .lmul => ex_ll (fun x y => x * y) nx lv st h
    | .land => ex_ll (fun x y => x &&& y) nx lv st h
    | .lor => ex_ll (fun x y => x ||| y) nx lv st h
    | .lxor => ex_ll (fun x y => x ^^^ y) nx lv st h
    | .ldiv => ex_lld (fun x y => x / y) nx lv st h
    | .lrem => ex_lld (fun x y => x - x / y * y) nx lv st h
    | .lshl => ex_li (fun x y => x <<< (y.toInt64 &&& 63)) nx lv st h
    | .lshr => ex_li (fun x y => x >>> (y.toInt64 &&& 63)) nx lv st h
    | .lushr => ex_li (fun x y => (x.toUInt64 >>> (y.toInt64.toUInt64 &&& Int64.toUInt64 63)).toInt64) nx lv st h
    | .ineg => ex_i (fun x => .int (-x)) nx lv st h
    | .i2l => ex_i (fun x => .long x.toInt64) nx lv st h
    | .i2b => ex_i (fun x => .int x.toInt8.toInt32) nx lv st h
    | .i2c => ex_i (fun x => .int (x.toUInt32 % 65536).toInt32) nx lv st h
    | .lneg => ex_l (fun x => .long (-x)) nx lv st h
    | .l2i => ex_l (fun x => .int x.toInt32) nx lv st h
    | .lcmp => ex_lc nx lv st h
    | .ifCond .eq _ => ex_if (fun x => decide (x = 0)) x nx lv st h
    | .ifCond .ne _ => ex_if (fun x => decide (¬ x = 0)) x nx lv st h
    | .ifCond .lt _ => ex_if (fun x => decide (x < 0)) x nx lv st h
    | .ifCond .ge _ => ex_if (fun x => decide (0 ≤ x)) x nx lv st h
    | .ifCond .gt _ => ex_if (fun x => decide (0 < x)) x nx lv st h
    | .ifCond .le _ => ex_if (fun x => decide (x ≤ 0)) x nx lv st h
    | .if_icmp .eq _ => ex_ic (fun x y => decide (x = y)) x nx lv st h
    | .if_icmp .ne _ => ex_ic (fun x y => decide (¬ x = y)) x nx lv st h
    | .if_icmp .lt _ => ex_ic (fun x y => decide (x < y)) x nx lv st h
    | .if_icmp .ge _ => ex_ic (fun x y => decide (y ≤ x)) x nx lv st h
    | .if_icmp .gt _ => ex_ic (fun x y => decide (y < x)) x nx lv st h
    | .if_icmp .le _ => ex_ic (fun x y => decide (x ≤ y)) x nx lv st h
    | .goto _ => ex_go x lv st h
    | .tableswitch d lo hi offs => ex_tsw d lo hi offs pc lv st h
    | .lookupswitch d ps => ex_lsw d ps pc lv st h
    | .dup => ex_dup nx lv st h
    | .dup2 => ex_dup2 nx lv st h
    | .dup_x1 => ex_dupx1 nx lv st h
    | .pop => ex_pop nx lv st h
    | .getfield _ => ex_gf g x y nx lv st h
    | .putfield _ => ex_pf g (ex_ft x) x y nx lv st h
    | .getstatic _ => ex_ldc x y nx lv st h
    | .arraylength => ex_len g nx lv st h
    | .iaload => ex_xld g 0 0 nx lv st h
    | .baload => ex_xld g 1 2 nx lv st h
    | .laload => ex_xlld g nx lv st h
    | .aaload => ex_xald g nx lv st h
    | .iastore => ex_xst g nx lv st h
    | .bastore => ex_xbst g nx lv st h
    | .lastore => ex_xlst g nx lv st h
    | .aastore => ex_xast g nx lv st h
    | .new _ => ex_new g (ex_ft x) x nx lv st h
    | .newarray t => ex_newa g t nx lv st h
    | .anewarray _ => ex_newq g nx lv st h
    | .ireturn => ex_ret rt st h
    | .lreturn => ex_lret rt st h
    | .areturn => ex_aret rt st h
    | .return_ => ex_vret rt st h
    | .invokevirtual _ => ex_callV g x y z nx lv st h
    | .invokespecial _ => ex_callI x y nx lv st h
    | .invokestatic _ => ex_callS g x y nx lv st h
    | _ => none
/-- a frame's run, with what its calls do; so many instructions at most -/
def ex_loop (g : ex_G) (call : Nat → List Value → ex_H → Option (Option Value × ex_H)) (nL : Nat) (rt : Option FieldType) (cd : List (List (Option ex_I))) : Nat → ex_F → Option (Option Value × ex_H)
  | 0, _ => none
  | n + 1, f => match ex_cd cd f.1 with
    | none => none
    | some e => match ex_step g nL rt e f.1 f.2.1 f.2.2.1 f.2.2.2 with
      | none => none
      | some (.inl k) => ex_loop g call nL rt cd n k
      | some (.inr (.inl r)) => some r
      | some (.inr (.inr (k, as, b))) => match call k as b.2.2.2 with
        | none => none
        | some (none, h) => ex_loop g call nL rt cd n (b.1, b.2.1, b.2.2.1, h)
        | some (some v, h) => ex_loop g call nL rt cd n (b.1, b.2.1, v :: b.2.2.1, h)
/-- a call, so deep at most -/
def ex_run (g : ex_G) (P : Nat → Option ex_M) (N : Nat) : Nat → Nat → List Value → ex_H → Option (Option Value × ex_H)
  | 0, _, _, _ => none
  | d + 1, k, as, h => match P k with
    | none => none
    | some M => bif Nat.ble (ex_w as) M.2.2.1 then ex_loop g (ex_run g P N d) M.2.2.1 M.2.2.2.1 M.2.2.2.2 N (0, lv_args 0 as, [], h) else none
end
section
/-! ===== what the interpreter's cells are on the machine's heap ===== -/
/-- the tables' words: the classes and their slots; the arrays' classes; where the cells are that stood there before; where the first new one comes -/
abbrev ex_P : Type := va_G × (Nat → ClassId) × (Nat → Nat) × Nat
def ex_ad (g : ex_G) (o : ex_P) (i : Nat) : Nat := if i < g.1 then o.2.2.1 i else o.2.2.2 + (i - g.1)
def ex_cv (g : ex_G) (o : ex_P) (v : Value) : Value := match v with
  | .ref i => .ref (ex_ad g o i)
  | w => w
def ex_ca (g : ex_G) (o : ex_P) (f : (Nat → Int32) ⊕ (Nat → Int64) ⊕ (Nat → UInt32) ⊕ (Nat → UInt64) ⊕ (Nat → Option Nat)) : (Nat → Int32) ⊕ (Nat → Int64) ⊕ (Nat → UInt32) ⊕ (Nat → UInt64) ⊕ (Nat → Option Nat) := match f with
  | .inl f => .inl f
  | .inr (.inl f) => .inr (.inl f)
  | .inr (.inr (.inl f)) => .inr (.inr (.inl f))
  | .inr (.inr (.inr (.inl f))) => .inr (.inr (.inr (.inl f)))
  | .inr (.inr (.inr (.inr f))) => .inr (.inr (.inr (.inr (fun j => (f j).map (ex_ad g o)))))
def ex_ce (g : ex_G) (o : ex_P) (c : ex_C) : va_E := match c with
  | .inl (ci, fs) => .inr (ci, fs.map (ex_cv g o))
  | .inr (t, n, f) => .inl (o.2.1 t, n, ex_ca g o f)
def ex_tys (o : ex_P) : List (ClassId × FieldType) := [(o.2.1 0, .int), (o.2.1 1, .byte), (o.2.1 2, .boolean), (o.2.1 3, .long), (o.2.1 4, .object "java/lang/String")]
def ex_A (o : ex_P) : Nat → Prop := fun q => o.2.2.2 ≤ q
def ex_Wd (g : ex_G) (o : ex_P) (h : ex_H) (H : Heap) : Prop := H.size = o.2.2.2 + h.1.length ∧ ∀ (i : Nat) (c : ex_C), h.1[i]? = some c → va_at o.1 ex_cl (o.2.2.2 + i, ex_ce g o c) H
def ex_fdS : u_T := fun k => match k with
  | 0 => ("java/lang/String", "value", "[B", true)
  | _ => ("java/lang/String", "coder", "B", true)
def ex_fd (ci k : Nat) : String × String × String × Bool := match ex_cl[ci]? with
  | some r => r.2.1 k
  | none => ex_fdS k
def ex_cn (ci : Nat) : String := match ex_cl[ci]? with
  | some r => r.1
  | none => "java/lang/String"
/-- the element types of arrays that stood there before -/
def ex_xt (t : Nat) : FieldType := match t with
  | 0 => .int
  | _ => .byte
/-- a cell that stood there before -/
def ex_xc (g : ex_G) (o : ex_P) (c : ex_C) (a : Nat) (U : State) (H : Heap) : Prop := match c with
  | .inl (ci, fs) => ci = 13 ∧ va_O "java/lang/String" a (ex_A o) U H ∧ ∀ (k : Nat) (v : Value), fs[k]? = some v → va_OF (ex_fdS k).1 (ex_fdS k).2.1 (ex_fdS k).2.2.1 (ex_cv g o v) a (ex_A o) U H
  | .inr (t, n, .inl f) => (t = 0 ∨ t = 1) ∧ n < 2 ^ 31 ∧ va_T (ex_xt t) a n (fun j => .int (f j)) (ex_A o) U H
  | .inr _ => False
def ex_X (g : ex_G) (o : ex_P) (U : State) (H : Heap) : Prop :=
  (∀ (i : Nat) (c : ex_C), i < g.1 → g.2.1 i = some c → ex_xc g o c (o.2.2.1 i) U H) ∧
  (∀ q ∈ g.2.2.1, vk_R q.1 q.2.1 q.2.2.2 (ex_ad g o q.2.2.1) U) ∧
  ∀ q ∈ g.2.2.2, va_Z q.1 q.2.1 q.2.2.1 (ex_cv g o q.2.2.2) (ex_A o) U H
theorem ex_X.kept {g : ex_G} {o : ex_P} {U : State} {H H1 : Heap} (h : ex_X g o U H) (hq : ∀ a : Nat, a < H.size → ¬ ex_A o a → H1[a]? = H[a]?) : ex_X g o U H1 := by
  refine ⟨fun i c hi hc => ?_, h.2.1, fun q hm => ?_⟩
  · have h1 := h.1 i c hi hc
    match c, h1 with
    | .inl (ci, fs), h1 => exact ⟨h1.1, h1.2.1.kept hq, fun k v hv => (h1.2.2 k v hv).kept hq⟩
    | .inr (t, n, .inl f), h1 => exact ⟨h1.1, h1.2.1, h1.2.2.kept hq⟩
    | .inr (t, n, .inr f), h1 => exact False.elim h1
  · exact (h.2.2 q hm).kept hq
theorem ex_X.warm {g : ex_G} {o : ex_P} {s U : State} {H : Heap} (hW : s.WarmedH U.vm) (h : ex_X g o s H) : ex_X g o U H := by
  refine ⟨fun i c hi hc => ?_, fun q hm => vk_R.warm hW (h.2.1 q hm), fun q hm => va_Z.moved hW.alike (h.2.2 q hm)⟩
  have h1 := h.1 i c hi hc
  match c, h1 with
  | .inl (ci, fs), h1 => exact ⟨h1.1, va_O.moved hW.alike h1.2.1, fun k v hv => va_OF.moved hW.alike (h1.2.2 k v hv)⟩
  | .inr (t, n, .inl f), h1 => exact ⟨h1.1, h1.2.1, va_T.moved hW.alike h1.2.2⟩
  | .inr (t, n, .inr f), h1 => exact False.elim h1
theorem ex_X.same {g : ex_G} {o : ex_P} {s U : State} {H : Heap} (hv : U.vm = s.vm) (h : ex_X g o s H) : ex_X g o U H := by
  have ha : s.vm.Alike U.vm := by rw [hv]; exact Vm.Alike.refl _
  refine ⟨fun i c hi hc => ?_, fun q hm => vk_R.same hv (h.2.1 q hm), fun q hm => va_Z.moved ha (h.2.2 q hm)⟩
  have h1 := h.1 i c hi hc
  match c, h1 with
  | .inl (ci, fs), h1 => exact ⟨h1.1, va_O.moved ha h1.2.1, fun k v hv => va_OF.moved ha (h1.2.2 k v hv)⟩
  | .inr (t, n, .inl f), h1 => exact ⟨h1.1, h1.2.1, va_T.moved ha h1.2.2⟩
  | .inr (t, n, .inr f), h1 => exact False.elim h1
-- the words
def ex_wall : List Cond := lw_tbl.filter goodWord
theorem ex_wall_good : ∀ w ∈ ex_wall, (w.onTables && w.keeps) = true ∨ ∃ ty, w = .arrayClass ty := fun w h => good_of_word (List.mem_filter.mp h).2
/-- the classes' rows: names apart, types, slots -/
def ex_clsOk : Prop := ∀ (ci : Nat) (r : vw_C), ex_cl[ci]? = some r → (∀ w ∈ u_ws r.1 r.2.1 r.2.2, w ∈ ex_wall) ∧ (∀ a, a < r.2.2 → ∀ b, b < r.2.2 → a ≠ b → (r.2.1 a).2.1 ≠ (r.2.1 b).2.1) ∧ (ex_ft ci).length = r.2.2 ∧ ∀ k, k < r.2.2 → parseFieldDescriptor (r.2.1 k).2.2.1 = some ((ex_ft ci).getD k .int)
-- cells
theorem ex_own_spec {g : ex_G} {h : ex_H} {i : Nat} {c : ex_C} (q : ex_own g h i = some c) : ¬ i < g.1 ∧ h.1[i - g.1]? = some c := by
  unfold ex_own at q
  by_cases hi : i < g.1
  · rw [show Nat.blt i g.1 = true from Nat.blt_eq.mpr hi] at q
    cases q
  · have hb : Nat.blt i g.1 = false := by
      cases hb : Nat.blt i g.1 with
      | false => rfl
      | true => exact absurd (Nat.blt_eq.mp hb) hi
    rw [hb] at q
    exact ⟨hi, q⟩
theorem ex_get_spec {g : ex_G} {h : ex_H} {i : Nat} {c : ex_C} (q : ex_get g h i = some c) : (i < g.1 ∧ g.2.1 i = some c) ∨ ex_own g h i = some c := by
  unfold ex_get at q
  unfold ex_own
  by_cases hi : i < g.1
  · rw [show Nat.blt i g.1 = true from Nat.blt_eq.mpr hi] at q
    exact Or.inl ⟨hi, q⟩
  · have hb : Nat.blt i g.1 = false := by
      cases hb : Nat.blt i g.1 with
      | false => rfl
      | true => exact absurd (Nat.blt_eq.mp hb) hi
    rw [hb] at q
    rw [hb]
    exact Or.inr q
theorem ex_Wd.at {g : ex_G} {o : ex_P} {h : ex_H} {H : Heap} (hW : ex_Wd g o h H) {i : Nat} {c : ex_C} (q : ex_own g h i = some c) : va_at o.1 ex_cl (ex_ad g o i, ex_ce g o c) H := by
  obtain ⟨h1, h2⟩ := ex_own_spec q
  have e : ex_ad g o i = o.2.2.2 + (i - g.1) := by unfold ex_ad; rw [if_neg h1]
  rw [e]
  exact hW.2 _ _ h2
theorem ex_one {D : va_G} {cl : List vw_C} {H : Heap} {a : Nat} {e : va_E} (h : va_at D cl (a, e) H) : va_P D cl [(a, e)] H := by
  intro k q hk
  match k, hk with
  | 0, hk => cases hk; exact h
  | k + 1, hk => simp at hk
theorem ex_Wd.set {g : ex_G} {o : ex_P} {h : ex_H} {H H1 : Heap} (hW : ex_Wd g o h H) {i : Nat} {c c' : ex_C} (q : ex_own g h i = some c) (hz : H1.size = H.size) (ha : va_at o.1 ex_cl (ex_ad g o i, ex_ce g o c') H1) (hq : ∀ a : Nat, a ≠ ex_ad g o i → H1[a]? = H[a]?) : ex_Wd g o (ex_set g h i c') H1 := by
  obtain ⟨h1, h2⟩ := ex_own_spec q
  have e : ex_ad g o i = o.2.2.2 + (i - g.1) := by unfold ex_ad; rw [if_neg h1]
  rw [e] at ha hq
  have hl : i - g.1 < h.1.length := (List.getElem?_eq_some_iff.mp h2).1
  refine ⟨by rw [hz, hW.1]; show _ = _ + (h.1.set _ _).length; rw [List.length_set], fun k c1 hk => ?_⟩
  by_cases hki : k = i - g.1
  · subst hki
    rw [show (ex_set g h i c').1 = h.1.set (i - g.1) c' from rfl, List.getElem?_set_self hl] at hk
    cases hk
    exact ha
  · rw [show (ex_set g h i c').1 = h.1.set (i - g.1) c' from rfl, List.getElem?_set_ne (Ne.symm hki)] at hk
    exact (hW.2 k c1 hk).kept (hq _ (fun z => hki (by have z2 : o.2.2.2 + k = o.2.2.2 + (i - g.1) := z; omega)))
theorem ex_Wd.push {g : ex_G} {o : ex_P} {h : ex_H} {H H1 : Heap} (hW : ex_Wd g o h H) {c : ex_C} {n : Nat} (hz : H1.size = H.size + 1) (ha : va_at o.1 ex_cl (H.size, ex_ce g o c) H1) (hq : ∀ a : Nat, a < H.size → H1[a]? = H[a]?) : ex_Wd g o (h.1 ++ [c], n) H1 := by
  refine ⟨by rw [hz, hW.1]; show _ = _ + (h.1 ++ [c]).length; rw [List.length_append]; rfl, fun k c1 hk => ?_⟩
  have hk : (h.1 ++ [c])[k]? = some c1 := hk
  by_cases hl : k < h.1.length
  · rw [List.getElem?_append_left hl] at hk
    exact (hW.2 k c1 hk).kept (hq _ (by show o.2.2.2 + k < _; rw [hW.1]; omega))
  · rw [List.getElem?_append_right (by omega)] at hk
    have hz2 : k - h.1.length < 1 := (List.getElem?_eq_some_iff.mp hk).1
    rw [show k - h.1.length = 0 by omega] at hk
    cases hk
    rw [show o.2.2.2 + k = H.size by rw [hW.1]; omega]
    exact ha
theorem ex_ad_new {g : ex_G} {o : ex_P} {h : ex_H} {H : Heap} (hW : ex_Wd g o h H) : ex_ad g o (g.1 + h.1.length) = H.size := by
  unfold ex_ad
  rw [if_neg (by omega), hW.1]
  omega
theorem ex_in_spec {i : Int32} {n : Nat} (h : ex_in i n = true) : vp_in i n := by
  unfold ex_in at h
  rw [Bool.and_eq_true] at h
  obtain ⟨h1, h2⟩ := h
  have h3 : ¬ i < 0 := by simpa using h1
  have h4 := Nat.blt_eq.mp h2
  exact fun z => z.elim h3 (fun z => by omega)
theorem ex_cat (g : ex_G) (o : ex_P) (v : Value) : (ex_cv g o v).category = v.category := by cases v <;> rfl
theorem ex_wm (g : ex_G) (o : ex_P) (st : List Value) : ((st.map (ex_cv g o)).map fun v => v.category).sum = ex_w st := by
  unfold ex_w
  rw [List.map_map]
  congr 1
  exact List.map_congr_left (fun v _ => ex_cat g o v)
-- locals
def ex_lm (g : ex_G) (o : ex_P) (lv : ex_V) : ex_V := lv.map (fun q => (q.1, ex_cv g o q.2))
theorem ex_at_mem : ∀ {lv : ex_V} {i : Nat} {v : Value}, ex_at lv i = some v → (i, v) ∈ lv := by
  intro lv
  induction lv with
  | nil => intro i v h; cases h
  | cons q t ih =>
    intro i v h
    unfold ex_at at h
    cases hb : Nat.beq q.1 i with
    | true =>
      rw [hb] at h
      have e1 := Nat.eq_of_beq_eq_true hb
      cases h
      obtain ⟨a, b⟩ := q
      subst e1
      exact List.mem_cons_self
    | false =>
      rw [hb] at h
      exact List.mem_cons_of_mem _ (ih h)
theorem ex_ls {g : ex_G} {o : ex_P} {ls : Array Slot} {nL : Nat} {lv : ex_V} (h : lv_has ls nL (ex_lm g o lv)) {i : Nat} {v : Value} (q : ex_at lv i = some v) : ls[i]? = some (.val (ex_cv g o v)) :=
  h.2.2 (i, ex_cv g o v) (List.mem_map.mpr ⟨(i, v), ex_at_mem q, rfl⟩)
theorem ex_lm_s1 (g : ex_G) (o : ex_P) (lv : ex_V) (i : Nat) (v : Value) : (i, ex_cv g o v) :: (ex_lm g o lv).filter (fun q => !(q.1 == i) && !(q.1 + 1 == i && q.2.category == 2)) = ex_lm g o (ex_s1 lv i v) := by
  unfold ex_lm ex_s1
  rw [List.map_cons, List.filter_map]
  congr 2
  refine List.filter_congr (fun q _ => ?_)
  show (!(q.1 == i) && !(q.1 + 1 == i && (ex_cv g o q.2).category == 2)) = _
  rw [ex_cat]
theorem ex_lm_s2 (g : ex_G) (o : ex_P) (lv : ex_V) (i : Nat) (v : Value) : (i, ex_cv g o v) :: (ex_lm g o lv).filter (fun q => !(q.1 == i) && (!(q.1 == i + 1) && !(q.1 + 1 == i && q.2.category == 2))) = ex_lm g o (ex_s2 lv i v) := by
  unfold ex_lm ex_s2
  rw [List.map_cons, List.filter_map]
  congr 2
  refine List.filter_congr (fun q _ => ?_)
  show (!(q.1 == i) && (!(q.1 == i + 1) && !(q.1 + 1 == i && (ex_cv g o q.2).category == 2))) = _
  rw [ex_cat]
theorem ex_lm_args (g : ex_G) (o : ex_P) : ∀ (as : List Value) (i : Nat), lv_args i (as.map (ex_cv g o)) = ex_lm g o (lv_args i as) := by
  intro as
  induction as with
  | nil => intro i; rfl
  | cons v t ih =>
    intro i
    show (i, ex_cv g o v) :: lv_args (if (ex_cv g o v).category = 2 then i + 2 else i + 1) (t.map (ex_cv g o)) = (i, ex_cv g o v) :: ex_lm g o (lv_args (if v.category = 2 then i + 2 else i + 1) t)
    rw [ex_cat, ih]
theorem ex_sl_len : ∀ (as : List Value), (lg_sl as).length = ex_w as := by
  intro as
  induction as with
  | nil => rfl
  | cons v t ih =>
    have e : lg_sl (v :: t) = (if v.category = 2 then [.val v, .second] else [.val v]) ++ lg_sl t := rfl
    have e2 : ex_w (v :: t) = v.category + ex_w t := rfl
    rw [e, List.length_append, ih, e2]
    rcases lv_cat v with h | h
    · rw [if_neg (by omega), h]; rfl
    · rw [if_pos h, h]; rfl
theorem ex_fit_spec {ty : FieldType} {v : Value} (g : ex_G) (o : ex_P) (h : ex_fit ty v = true) : narrow ty (ex_cv g o v) = ex_cv g o v ∧ fits ty (ex_cv g o v) = true := by
  unfold ex_fit at h
  split at h
  · rename_i v
    rw [Bool.or_eq_true] at h
    rcases h with h | h
    · have e : v = 0 := by simpa using h
      subst e
      exact ⟨rfl, rfl⟩
    · have e : v = 1 := by simpa using h
      subst e
      exact ⟨rfl, rfl⟩
  · exact ⟨rfl, rfl⟩
  · exact ⟨rfl, rfl⟩
  · exact ⟨rfl, rfl⟩
  · exact ⟨rfl, rfl⟩
  · cases h
end
section
/-! ===== one instruction: what the interpreter does, the machine does (by the kit's rows) ===== -/
def ex_ln (i : Instr) : Nat := match i with
  | .bipush _ | .ldc _ | .iload _ | .lload _ | .aload _ | .istore _ | .lstore _ | .astore _ | .newarray _ => 2
  | .sipush _ | .ldc_w _ | .ldc2_w _ | .iinc _ _ | .ifCond _ _ | .if_icmp _ _ | .goto _ | .getfield _ | .putfield _ | .getstatic _ | .new _ | .anewarray _ | .invokevirtual _ | .invokespecial _ | .invokestatic _ => 3
  | _ => 1
/-- the bytes at a place are this instruction -/
def ex_dec (cc : ByteArray) (pc : Nat) (e : ex_I) : Prop := match e with
  | (ins, _, _, _, nx) => match ins with
    | .tableswitch _ _ _ _ => ∃ len, decode cc pc = .ok (ins, len)
    | .lookupswitch _ ps => (∃ len, decode cc pc = .ok (ins, len)) ∧ (ps.toList.zip (ps.toList.drop 1)).all (fun (a, next) => a.1 < next.1) = true
    | _ => decode cc pc = .ok (ins, ex_ln ins) ∧ nx = pc + ex_ln ins
/-- what an instruction names is what its numbers say -/
def ex_lk (g : ex_G) (P : Nat → Option ex_M) (own mn : String) (pc : Nat) (e : ex_I) : Prop := match e with
  | (ins, x, y, z, _) => match ins with
    | .ldc i | .ldc_w i => (y = 0 ∧ Jvm.Cond.constant own i (Int32.ofNat x) ∈ ex_wall) ∨ (¬ y = 0 ∧ ∃ tx, (own, i, x, tx) ∈ g.2.2.1)
    | .ldc2_w i => Jvm.Cond.constantLong own i (Int64.ofNat x) ∈ ex_wall
    | .ifCond _ off | .if_icmp _ off | .goto off => (pc : Int) + off = (x : Int)
    | .getfield i => (∀ r : vw_C, ex_cl[x]? = some r → y < r.2.2) ∧ Jvm.Cond.fieldLink own i (ex_fd x y).1 (ex_fd x y).2.1 (ex_fd x y).2.2.1 ∈ ex_wall
    | .putfield i => ∃ r : vw_C, ex_cl[x]? = some r ∧ y < r.2.2 ∧ Jvm.Cond.fieldLink own i (r.2.1 y).1 (r.2.1 y).2.1 (r.2.1 y).2.2.1 ∈ ex_wall ∧ ((r.2.1 y).2.2.2 = false ∨ ((r.2.1 y).2.2.2 = true ∧ mn = "<init>" ∧ (r.2.1 y).1 = own))
    | .getstatic i => ∃ q ∈ g.2.2.2, Jvm.Cond.fieldLink own i q.1 q.2.1 q.2.2.1 ∈ ex_wall ∧ q.2.2.2 = (bif Nat.beq y 0 then Value.int (Int32.ofNat x) else Value.ref x)
    | .new i => ∃ r : vw_C, ex_cl[x]? = some r ∧ Jvm.Cond.classLink own i r.1 ∈ ex_wall ∧ Jvm.Cond.instantiable r.1 r.2.2 ∈ ex_wall ∧ Jvm.Cond.initialized r.1 ∈ ex_wall
    | .newarray t => Jvm.Cond.arrayClass (newarray.typeOf t) ∈ ex_wall
    | .anewarray i => Jvm.Cond.classLink own i "java/lang/String" ∈ ex_wall ∧ Jvm.Cond.arrayOver (.object "java/lang/String") ∈ ex_wall
    | .invokevirtual i => ∃ M : ex_M, P x = some M ∧ M.1.cls = ex_cn z ∧ Jvm.Cond.methodLink own i M.1 ∈ ex_wall ∧ Jvm.Cond.instanceMethod M.1 ∈ ex_wall ∧ Jvm.Cond.selects M.1.cls M.1 M.1 ∈ ex_wall ∧ (parseMethodDescriptor M.1.desc).map (fun d => d.parameters.length) = some y
    | .invokespecial i => (x = 1000000 ∧ Jvm.Cond.methodLink own i objectInit ∈ ex_wall ∧ Jvm.Cond.instanceMethod objectInit ∈ ex_wall ∧ Jvm.Cond.code objectInit ⟨#[0xb1]⟩ 1 none ∈ ex_wall) ∨
        (¬ x = 1000000 ∧ ∃ M : ex_M, P x = some M ∧ M.1.name = "<init>" ∧ M.2.2.2.1 = none ∧ Jvm.Cond.methodLink own i M.1 ∈ ex_wall ∧ Jvm.Cond.instanceMethod M.1 ∈ ex_wall ∧ (parseMethodDescriptor M.1.desc).map (fun d => d.parameters.length) = some y)
    | .invokestatic i => (x = 1000000 ∧ Jvm.Cond.methodLink own i arraycopyName ∈ ex_wall ∧ Jvm.Cond.native arraycopyName ∈ ex_wall ∧ Jvm.Cond.static arraycopyName ∈ ex_wall ∧ Jvm.Cond.initialized "java/lang/System" ∈ ex_wall) ∨
        (¬ x = 1000000 ∧ ∃ M : ex_M, P x = some M ∧ Jvm.Cond.methodLink own i M.1 ∈ ex_wall ∧ Jvm.Cond.static M.1 ∈ ex_wall ∧ (parseMethodDescriptor M.1.desc).map (fun d => d.parameters.length) = some y)
    | _ => True
/-- a method's row is true of the tables -/
def ex_okM (g : ex_G) (P : Nat → Option ex_M) (M : ex_M) : Prop :=
  plainName M.1.cls = true ∧ (M.1.cls ≠ "java/lang/invoke/MethodHandle" ∧ M.1.cls ≠ "java/lang/invoke/VarHandle") ∧ Jvm.Cond.initialized M.1.cls ∈ ex_wall ∧ Jvm.Cond.code M.1 M.2.1 M.2.2.1 M.2.2.2.1 ∈ ex_wall ∧ M.2.2.1 ≤ 41 ∧
  ∀ (pc : Nat) (e : ex_I), ex_cd M.2.2.2.2 pc = some e → ex_dec M.2.1 pc e ∧ ex_lk g P M.1.cls M.1.name pc e
/-- what holds at a place of a frame -/
def ex_At (g : ex_G) (o : ex_P) (nL n0 s0 : Nat) (H0 : Heap) (f : ex_F) (H : Heap) (ls : Array Slot) (locs : List Loc) (cells slots : Nat) : Prop :=
  lv_has ls nL (ex_lm g o f.2.1) ∧ ex_Wd g o f.2.2.2 H ∧ va_S (ex_A o) H0 H locs ∧ cells + n0 = f.2.2.2.1.length ∧ slots + s0 = f.2.2.2.2
/-- what is fixed in a frame -/
def ex_Cx (g : ex_G) (o : ex_P) (p : Program) (s : State) (m : MethodId) (args : Array Value) (meth : Method) (c : Code) (cc : ByteArray) (nL : Nat) (rt : Option FieldType) (own mn : String) (R : Room) : Prop :=
  p.tables.exec = Jvm.exec ∧ c.code = cc ∧ c.maxLocals = nL ∧ s.vm.findClass own = some m.cls ∧ (∀ w ∈ ex_wall, w.before args s = true) ∧ va_K o.1 ex_cl (ex_tys o) s ∧ ex_X g o s s.heap ∧ meth.locks = false ∧ meth.sig.returnType = rt ∧ meth.name = mn ∧ ex_clsOk ∧ o.2.2.2 ≤ s.heap.size ∧ 1 ≤ R.frames ∧ 60 ≤ R.locals

section EXINV
variable {nx : Nat} {lv : ex_V} {st : List Value} {h : ex_H} {o : ex_O}
theorem ex_ii_v {f : Int32 → Int32 → Int32} (q : ex_ii f nx lv st h = some o) : ∃ x y r, st = .int y :: .int x :: r ∧ o = .inl (nx, lv, .int (f x y) :: r, h) := by
  unfold ex_ii at q
  split at q
  · cases q
    exact ⟨_, _, _, rfl, rfl⟩
  · cases q
theorem ex_ll_v {f : Int64 → Int64 → Int64} (q : ex_ll f nx lv st h = some o) : ∃ x y r, st = .long y :: .long x :: r ∧ o = .inl (nx, lv, .long (f x y) :: r, h) := by
  unfold ex_ll at q
  split at q
  · cases q
    exact ⟨_, _, _, rfl, rfl⟩
  · cases q
theorem ex_li_v {f : Int64 → Int32 → Int64} (q : ex_li f nx lv st h = some o) : ∃ x y r, st = .int y :: .long x :: r ∧ o = .inl (nx, lv, .long (f x y) :: r, h) := by
  unfold ex_li at q
  split at q
  · cases q
    exact ⟨_, _, _, rfl, rfl⟩
  · cases q
theorem ex_i_v {f : Int32 → Value} (q : ex_i f nx lv st h = some o) : ∃ x r, st = .int x :: r ∧ o = .inl (nx, lv, f x :: r, h) := by
  unfold ex_i at q
  split at q
  · cases q
    exact ⟨_, _, rfl, rfl⟩
  · cases q
theorem ex_l_v {f : Int64 → Value} (q : ex_l f nx lv st h = some o) : ∃ x r, st = .long x :: r ∧ o = .inl (nx, lv, f x :: r, h) := by
  unfold ex_l at q
  split at q
  · cases q
    exact ⟨_, _, rfl, rfl⟩
  · cases q
theorem ex_lc_v  (q : ex_lc  nx lv st h = some o) : ∃ x y r, st = .long y :: .long x :: r ∧ o = .inl (nx, lv, .int (lg_cmp x y) :: r, h) := by
  unfold ex_lc at q
  split at q
  · cases q
    exact ⟨_, _, _, rfl, rfl⟩
  · cases q
theorem ex_iid_v {f : Int32 → Int32 → Int32} (q : ex_iid f nx lv st h = some o) : ∃ x y r, ¬ y = 0 ∧ st = .int y :: .int x :: r ∧ o = .inl (nx, lv, .int (f x y) :: r, h) := by
  unfold ex_iid at q
  split at q
  · rename_i y x r
    by_cases hy : y = 0
    · rw [show decide (y = 0) = true from decide_eq_true hy] at q
      cases q
    · rw [show decide (y = 0) = false from decide_eq_false hy] at q
      cases q
      exact ⟨x, y, r, hy, rfl, rfl⟩
  · cases q
theorem ex_lld_v {f : Int64 → Int64 → Int64} (q : ex_lld f nx lv st h = some o) : ∃ x y r, ¬ y = 0 ∧ st = .long y :: .long x :: r ∧ o = .inl (nx, lv, .long (f x y) :: r, h) := by
  unfold ex_lld at q
  split at q
  · rename_i y x r
    by_cases hy : y = 0
    · rw [show decide (y = 0) = true from decide_eq_true hy] at q
      cases q
    · rw [show decide (y = 0) = false from decide_eq_false hy] at q
      cases q
      exact ⟨x, y, r, hy, rfl, rfl⟩
  · cases q
theorem ex_if_v {f : Int32 → Bool} {t : Nat} (q : ex_if f t nx lv st h = some o) : ∃ x r, st = .int x :: r ∧ ((f x = true ∧ o = .inl (t, lv, r, h)) ∨ (f x = false ∧ o = .inl (nx, lv, r, h))) := by
  unfold ex_if at q
  split at q
  · rename_i x r
    refine ⟨x, r, rfl, ?_⟩
    cases hf : f x with
    | true =>
      rw [hf] at q
      cases q
      exact Or.inl ⟨rfl, rfl⟩
    | false =>
      rw [hf] at q
      cases q
      exact Or.inr ⟨rfl, rfl⟩
  · cases q
theorem ex_ic_v {f : Int32 → Int32 → Bool} {t : Nat} (q : ex_ic f t nx lv st h = some o) : ∃ x y r, st = .int y :: .int x :: r ∧ ((f x y = true ∧ o = .inl (t, lv, r, h)) ∨ (f x y = false ∧ o = .inl (nx, lv, r, h))) := by
  unfold ex_ic at q
  split at q
  · rename_i y x r
    refine ⟨x, y, r, rfl, ?_⟩
    cases hf : f x y with
    | true =>
      rw [hf] at q
      cases q
      exact Or.inl ⟨rfl, rfl⟩
    | false =>
      rw [hf] at q
      cases q
      exact Or.inr ⟨rfl, rfl⟩
  · cases q
theorem ex_to_v {pc : Nat} {off : Int} (q : ex_to pc off lv st h = some o) : ∃ t : Nat, (pc : Int) + off = (t : Int) ∧ o = .inl (t, lv, st, h) := by
  unfold ex_to at q
  by_cases hy : 0 ≤ (pc : Int) + off
  · rw [show decide (0 ≤ (pc : Int) + off) = true from decide_eq_true hy] at q
    cases q
    exact ⟨((pc : Int) + off).toNat, by omega, rfl⟩
  · rw [show decide (0 ≤ (pc : Int) + off) = false from decide_eq_false hy] at q
    cases q
theorem ex_ild_v {i : Nat} (q : ex_ild i nx lv st h = some o) : ∃ x, ex_at lv i = some (.int x) ∧ o = .inl (nx, lv, .int x :: st, h) := by
  unfold ex_ild at q
  split at q
  · cases q; exact ⟨_, by assumption, rfl⟩
  · cases q
theorem ex_lld1_v {i : Nat} (q : ex_lld1 i nx lv st h = some o) : ∃ x, ex_at lv i = some (.long x) ∧ o = .inl (nx, lv, .long x :: st, h) := by
  unfold ex_lld1 at q
  split at q
  · cases q; exact ⟨_, by assumption, rfl⟩
  · cases q
theorem ex_ald_v {i : Nat} (q : ex_ald i nx lv st h = some o) : ∃ x, ex_at lv i = some (.ref x) ∧ o = .inl (nx, lv, .ref x :: st, h) := by
  unfold ex_ald at q
  split at q
  · cases q; exact ⟨_, by assumption, rfl⟩
  · cases q
theorem ex_blt {a b : Nat} (h : ¬ a < b) : Nat.blt a b = false := by
  cases hb : Nat.blt a b with
  | false => rfl
  | true => exact absurd (Nat.blt_eq.mp hb) h

theorem ex_ist_v {nL i : Nat} (q : ex_ist nL i nx lv st h = some o) : ∃ x r, i < nL ∧ st = .int x :: r ∧ o = .inl (nx, ex_s1 lv i (.int x), r, h) := by
  unfold ex_ist at q
  split at q
  · rename_i x r
    by_cases hi : i < nL
    · rw [show Nat.blt (i) nL = true from Nat.blt_eq.mpr hi] at q
      cases q
      exact ⟨x, r, hi, rfl, rfl⟩
    · rw [ex_blt hi] at q
      cases q
  · cases q
theorem ex_lst_v {nL i : Nat} (q : ex_lst nL i nx lv st h = some o) : ∃ x r, i + 1 < nL ∧ st = .long x :: r ∧ o = .inl (nx, ex_s2 lv i (.long x), r, h) := by
  unfold ex_lst at q
  split at q
  · rename_i x r
    by_cases hi : i + 1 < nL
    · rw [show Nat.blt (i + 1) nL = true from Nat.blt_eq.mpr hi] at q
      cases q
      exact ⟨x, r, hi, rfl, rfl⟩
    · rw [ex_blt hi] at q
      cases q
  · cases q
theorem ex_ast_v {nL i : Nat} (q : ex_ast nL i nx lv st h = some o) : ∃ x r, i < nL ∧ st = .ref x :: r ∧ o = .inl (nx, ex_s1 lv i (.ref x), r, h) := by
  unfold ex_ast at q
  split at q
  · rename_i x r
    by_cases hi : i < nL
    · rw [show Nat.blt (i) nL = true from Nat.blt_eq.mpr hi] at q
      cases q
      exact ⟨x, r, hi, rfl, rfl⟩
    · rw [ex_blt hi] at q
      cases q
  · cases q
theorem ex_inc_v {nL i : Nat} {n : Int} (q : ex_inc nL i n nx lv st h = some o) : ∃ x, i < nL ∧ ex_at lv i = some (.int x) ∧ o = .inl (nx, ex_s1 lv i (.int (x + Int32.ofInt n)), st, h) := by
  unfold ex_inc at q
  split at q
  · rename_i x hx
    by_cases hi : i < nL
    · rw [show Nat.blt i nL = true from Nat.blt_eq.mpr hi] at q
      cases q
      exact ⟨x, hi, hx, rfl⟩
    · rw [ex_blt hi] at q
      cases q
  · cases q
theorem ex_dup_v (q : ex_dup nx lv st h = some o) : ∃ v r, v.category = 1 ∧ st = v :: r ∧ o = .inl (nx, lv, v :: v :: r, h) := by
  unfold ex_dup at q
  split at q
  · rename_i v r
    cases hb : Nat.beq v.category 1 with
    | true => rw [hb] at q; cases q; exact ⟨v, r, Nat.eq_of_beq_eq_true hb, rfl, rfl⟩
    | false => rw [hb] at q; cases q
  · cases q
theorem ex_pop_v (q : ex_pop nx lv st h = some o) : ∃ v r, v.category = 1 ∧ st = v :: r ∧ o = .inl (nx, lv, r, h) := by
  unfold ex_pop at q
  split at q
  · rename_i v r
    cases hb : Nat.beq v.category 1 with
    | true => rw [hb] at q; cases q; exact ⟨v, r, Nat.eq_of_beq_eq_true hb, rfl, rfl⟩
    | false => rw [hb] at q; cases q
  · cases q
theorem ex_dupx1_v (q : ex_dupx1 nx lv st h = some o) : ∃ v u r, v.category = 1 ∧ u.category = 1 ∧ st = v :: u :: r ∧ o = .inl (nx, lv, v :: u :: v :: r, h) := by
  unfold ex_dupx1 at q
  split at q
  · rename_i v u r
    cases hb : (Nat.beq v.category 1 && Nat.beq u.category 1) with
    | true =>
      rw [hb] at q
      cases q
      rw [Bool.and_eq_true] at hb
      exact ⟨v, u, r, Nat.eq_of_beq_eq_true hb.1, Nat.eq_of_beq_eq_true hb.2, rfl, rfl⟩
    | false => rw [hb] at q; cases q
  · cases q
theorem ex_dup2_v (q : ex_dup2 nx lv st h = some o) : ∃ v u r, st = v :: u :: r ∧ ((v.category = 2 ∧ o = .inl (nx, lv, v :: v :: u :: r, h)) ∨ (v.category = 1 ∧ u.category = 1 ∧ o = .inl (nx, lv, v :: u :: v :: u :: r, h))) := by
  unfold ex_dup2 at q
  split at q
  · rename_i v u r
    refine ⟨v, u, r, rfl, ?_⟩
    cases hb : Nat.beq v.category 2 with
    | true => rw [hb] at q; cases q; exact Or.inl ⟨Nat.eq_of_beq_eq_true hb, rfl⟩
    | false =>
      rw [hb] at q
      cases hc : (Nat.beq v.category 1 && Nat.beq u.category 1) with
      | true =>
        rw [hc] at q
        cases q
        rw [Bool.and_eq_true] at hc
        exact Or.inr ⟨Nat.eq_of_beq_eq_true hc.1, Nat.eq_of_beq_eq_true hc.2, rfl⟩
      | false => rw [hc] at q; cases q
  · cases q
theorem ex_gf_v {g : ex_G} {ci k : Nat} (q : ex_gf g ci k nx lv st h = some o) : ∃ i fs v r, ex_get g h i = some (.inl (ci, fs)) ∧ fs[k]? = some v ∧ st = .ref i :: r ∧ o = .inl (nx, lv, v :: r, h) := by
  unfold ex_gf at q
  split at q
  · rename_i i r
    split at q
    · rename_i cj fs hg
      cases hb : Nat.beq ci cj with
      | false => rw [hb] at q; cases q
      | true =>
        rw [hb] at q
        have e := Nat.eq_of_beq_eq_true hb
        subst e
        cases hv : fs[k]? with
        | none => simp only [hv, cond_true] at q; cases q
        | some v => simp only [hv, cond_true] at q; cases q; exact ⟨i, fs, v, r, hg, hv, rfl, rfl⟩
    · cases q
  · cases q
theorem ex_pf_v {g : ex_G} {tys : List FieldType} {ci k : Nat} (q : ex_pf g tys ci k nx lv st h = some o) : ∃ i fs v r ty, ex_own g h i = some (.inl (ci, fs)) ∧ k < fs.length ∧ tys[k]? = some ty ∧ ex_fit ty v = true ∧ st = v :: .ref i :: r ∧ o = .inl (nx, lv, r, ex_set g h i (.inl (ci, fs.set k v))) := by
  unfold ex_pf at q
  split at q
  · rename_i v i r
    split at q
    · rename_i cj fs hg
      cases hb : (Nat.beq ci cj && Nat.blt k fs.length) with
      | false => rw [hb] at q; cases q
      | true =>
        rw [hb] at q
        rw [Bool.and_eq_true] at hb
        have e := Nat.eq_of_beq_eq_true hb.1
        subst e
        cases hv : tys[k]? with
        | none => simp only [hv, cond_true] at q; cases q
        | some ty =>
          simp only [hv, cond_true] at q
          cases hf : ex_fit ty v with
          | false => rw [hf] at q; cases q
          | true => rw [hf] at q; cases q; exact ⟨i, fs, v, r, ty, hg, Nat.blt_eq.mp hb.2, rfl, hf, rfl, rfl⟩
    · cases q
  · cases q
theorem ex_len_v {g : ex_G} (q : ex_len g nx lv st h = some o) : ∃ i t n f r, ex_get g h i = some (.inr (t, n, f)) ∧ t < 5 ∧ st = .ref i :: r ∧ o = .inl (nx, lv, .int (Int32.ofNat n) :: r, h) := by
  unfold ex_len at q
  split at q
  · rename_i i r
    split at q
    · rename_i t n f hg
      cases hb : Nat.blt t 5 with
      | false => rw [hb] at q; cases q
      | true => rw [hb] at q; cases q; exact ⟨i, t, n, f, r, hg, Nat.blt_eq.mp hb, rfl, rfl⟩
    · cases q
  · cases q
theorem ex_xld_v {g : ex_G} {t u : Nat} (q : ex_xld g t u nx lv st h = some o) : ∃ i j k n f r, ex_get g h i = some (.inr (k, n, .inl f)) ∧ (k = t ∨ k = u) ∧ vp_in j n ∧ st = .int j :: .ref i :: r ∧ o = .inl (nx, lv, .int (f j.toNatClampNeg) :: r, h) := by
  unfold ex_xld at q
  split at q
  · rename_i j i r
    split at q
    · rename_i k n f hg
      cases hb : ((Nat.beq k t || Nat.beq k u) && ex_in j n) with
      | false => rw [hb] at q; cases q
      | true =>
        rw [hb] at q
        cases q
        rw [Bool.and_eq_true, Bool.or_eq_true] at hb
        exact ⟨i, j, k, n, f, r, hg, hb.1.elim (fun h => Or.inl (Nat.eq_of_beq_eq_true h)) (fun h => Or.inr (Nat.eq_of_beq_eq_true h)), ex_in_spec hb.2, rfl, rfl⟩
    · cases q
  · cases q
theorem ex_xlld_v {g : ex_G} (q : ex_xlld g nx lv st h = some o) : ∃ i j n f r, ex_own g h i = some (.inr (3, n, .inr (.inl f))) ∧ vp_in j n ∧ st = .int j :: .ref i :: r ∧ o = .inl (nx, lv, .long (f j.toNatClampNeg) :: r, h) := by
  unfold ex_xlld at q
  split at q
  · rename_i j i r
    split at q
    · rename_i k n f hg
      cases hb : (Nat.beq k 3 && ex_in j n) with
      | false => rw [hb] at q; cases q
      | true =>
        rw [hb] at q
        cases q
        rw [Bool.and_eq_true] at hb
        have e := Nat.eq_of_beq_eq_true hb.1
        subst e
        exact ⟨i, j, n, f, r, hg, ex_in_spec hb.2, rfl, rfl⟩
    · cases q
  · cases q
theorem ex_xst_v {g : ex_G} (q : ex_xst g nx lv st h = some o) : ∃ i j n f x r, ex_own g h i = some (.inr (0, n, .inl f)) ∧ vp_in j n ∧ st = .int x :: .int j :: .ref i :: r ∧ o = .inl (nx, lv, r, ex_set g h i (.inr (0, n, .inl (upd f j.toNatClampNeg x)))) := by
  unfold ex_xst at q
  split at q
  · rename_i x j i r
    split at q
    · rename_i k n f hg
      cases hb : (Nat.beq k 0 && ex_in j n) with
      | false => rw [hb] at q; cases q
      | true =>
        rw [hb] at q
        cases q
        rw [Bool.and_eq_true] at hb
        have e := Nat.eq_of_beq_eq_true hb.1
        subst e
        exact ⟨i, j, n, f, x, r, hg, ex_in_spec hb.2, rfl, rfl⟩
    · cases q
  · cases q
theorem ex_xlst_v {g : ex_G} (q : ex_xlst g nx lv st h = some o) : ∃ i j n f x r, ex_own g h i = some (.inr (3, n, .inr (.inl f))) ∧ vp_in j n ∧ st = .long x :: .int j :: .ref i :: r ∧ o = .inl (nx, lv, r, ex_set g h i (.inr (3, n, .inr (.inl (vp_updL f j.toNatClampNeg x))))) := by
  unfold ex_xlst at q
  split at q
  · rename_i x j i r
    split at q
    · rename_i k n f hg
      cases hb : (Nat.beq k 3 && ex_in j n) with
      | false => rw [hb] at q; cases q
      | true =>
        rw [hb] at q
        cases q
        rw [Bool.and_eq_true] at hb
        have e := Nat.eq_of_beq_eq_true hb.1
        subst e
        exact ⟨i, j, n, f, x, r, hg, ex_in_spec hb.2, rfl, rfl⟩
    · cases q
  · cases q
theorem ex_xbst_v {g : ex_G} (q : ex_xbst g nx lv st h = some o) : ∃ i j n f x r, vp_in j n ∧ st = .int x :: .int j :: .ref i :: r ∧ ((ex_own g h i = some (.inr (1, n, .inl f)) ∧ o = .inl (nx, lv, r, ex_set g h i (.inr (1, n, .inl (upd f j.toNatClampNeg x.toInt8.toInt32))))) ∨ (ex_own g h i = some (.inr (2, n, .inl f)) ∧ o = .inl (nx, lv, r, ex_set g h i (.inr (2, n, .inl (upd f j.toNatClampNeg (x &&& 1))))))) := by
  unfold ex_xbst at q
  split at q
  · rename_i x j i r
    split at q
    · rename_i k n f hg
      cases hb : (Nat.beq k 1 && ex_in j n) with
      | true =>
        rw [hb] at q
        cases q
        rw [Bool.and_eq_true] at hb
        have e := Nat.eq_of_beq_eq_true hb.1
        subst e
        exact ⟨i, j, n, f, x, r, ex_in_spec hb.2, rfl, Or.inl ⟨hg, rfl⟩⟩
      | false =>
        rw [hb] at q
        cases hc : (Nat.beq k 2 && ex_in j n) with
        | true =>
          rw [hc] at q
          cases q
          rw [Bool.and_eq_true] at hc
          have e := Nat.eq_of_beq_eq_true hc.1
          subst e
          exact ⟨i, j, n, f, x, r, ex_in_spec hc.2, rfl, Or.inr ⟨hg, rfl⟩⟩
        | false => rw [hc] at q; cases q
    · cases q
  · cases q
theorem ex_xast_v {g : ex_G} (q : ex_xast g nx lv st h = some o) : ∃ i j n f v fs r, ex_own g h i = some (.inr (4, n, .inr (.inr (.inr (.inr f))))) ∧ vp_in j n ∧ v < g.1 ∧ g.2.1 v = some (.inl (13, fs)) ∧ st = .ref v :: .int j :: .ref i :: r ∧ o = .inl (nx, lv, r, ex_set g h i (.inr (4, n, .inr (.inr (.inr (.inr (va_up f j.toNatClampNeg (some v)))))))) := by
  unfold ex_xast at q
  split at q
  · rename_i v j i r
    split at q
    · rename_i k n f hg
      cases hb : (Nat.beq k 4 && ex_in j n && Nat.blt v g.1) with
      | false => rw [hb] at q; cases q
      | true =>
        rw [hb] at q
        rw [Bool.and_eq_true, Bool.and_eq_true] at hb
        have e := Nat.eq_of_beq_eq_true hb.1.1
        subst e
        simp only [cond_true] at q
        split at q
        · rename_i fs hv
          cases q
          exact ⟨i, j, n, f, v, fs, r, hg, ex_in_spec hb.1.2, Nat.blt_eq.mp hb.2, hv, rfl, rfl⟩
        · cases q
    · cases q
  · cases q
theorem ex_xald_v {g : ex_G} (q : ex_xald g nx lv st h = some o) : ∃ i j n f v r, ex_own g h i = some (.inr (4, n, .inr (.inr (.inr (.inr f))))) ∧ vp_in j n ∧ f j.toNatClampNeg = some v ∧ st = .int j :: .ref i :: r ∧ o = .inl (nx, lv, .ref v :: r, h) := by
  unfold ex_xald at q
  split at q
  · rename_i j i r
    split at q
    · rename_i k n f hg
      cases hb : (Nat.beq k 4 && ex_in j n) with
      | false => rw [hb] at q; cases q
      | true =>
        rw [hb] at q
        rw [Bool.and_eq_true] at hb
        have e := Nat.eq_of_beq_eq_true hb.1
        subst e
        simp only [cond_true] at q
        split at q
        · rename_i v hv
          cases q
          exact ⟨i, j, n, f, v, r, hg, ex_in_spec hb.2, hv, rfl, rfl⟩
        · cases q
    · cases q
  · cases q
theorem ex_newa_v {g : ex_G} {t : ArrayType} (q : ex_newa g t nx lv st h = some o) : ∃ n r k z, ¬ n < 0 ∧ n.toNatClampNeg ≤ 1000000 ∧ ex_nar t = some (k, z) ∧ st = .int n :: r ∧ o = .inl (nx, lv, .ref (g.1 + h.1.length) :: r, (h.1 ++ [.inr (k, n.toNatClampNeg, z)], h.2 + n.toNatClampNeg)) := by
  unfold ex_newa at q
  split at q
  · rename_i n r
    cases hb : (!(decide (n < 0)) && Nat.ble n.toNatClampNeg 1000000) with
    | false => rw [hb] at q; cases q
    | true =>
      rw [hb] at q
      rw [Bool.and_eq_true] at hb
      simp only [cond_true] at q
      split at q
      · rename_i k z hz
        cases q
        exact ⟨n, r, k, z, by simpa using hb.1, Nat.le_of_ble_eq_true hb.2, hz, rfl, rfl⟩
      · cases q
  · cases q
theorem ex_newq_v {g : ex_G} (q : ex_newq g nx lv st h = some o) : ∃ n r, ¬ n < 0 ∧ n.toNatClampNeg ≤ 1000000 ∧ st = .int n :: r ∧ o = .inl (nx, lv, .ref (g.1 + h.1.length) :: r, (h.1 ++ [.inr (4, n.toNatClampNeg, .inr (.inr (.inr (.inr (fun _ => none)))))], h.2 + n.toNatClampNeg)) := by
  unfold ex_newq at q
  split at q
  · rename_i n r
    cases hb : (!(decide (n < 0)) && Nat.ble n.toNatClampNeg 1000000) with
    | false => rw [hb] at q; cases q
    | true =>
      rw [hb] at q
      rw [Bool.and_eq_true] at hb
      cases q
      exact ⟨n, r, by simpa using hb.1, Nat.le_of_ble_eq_true hb.2, rfl, rfl⟩
  · cases q
theorem ex_cpy_v {g : ex_G} (q : ex_cpy g nx lv st h = some o) : ∃ n dp b sp a r n0 f n1 k, ex_own g h a = some (.inr (1, n0, .inl f)) ∧ ex_own g h b = some (.inr (1, n1, .inl k)) ∧ n.toNatClampNeg = 0 ∧ ¬ sp < 0 ∧ ¬ dp < 0 ∧ ¬ n < 0 ∧ sp.toNatClampNeg ≤ n0 ∧ dp.toNatClampNeg ≤ n1 ∧ ex_w r ≤ 8 ∧ st = .int n :: .int dp :: .ref b :: .int sp :: .ref a :: r ∧ o = .inl (nx, lv, r, h) := by
  unfold ex_cpy at q
  split at q
  · rename_i n dp b sp a r
    split at q
    · rename_i q1 n0 f u n1 k h1 h2
      cases hb : (Nat.beq q1 u && Nat.beq q1 1 && Nat.beq n.toNatClampNeg 0 && !(decide (sp < 0)) && !(decide (dp < 0)) && !(decide (n < 0)) && Nat.ble sp.toNatClampNeg n0 && Nat.ble dp.toNatClampNeg n1 && Nat.ble (ex_w r) 8) with
      | false => rw [hb] at q; cases q
      | true =>
        rw [hb] at q
        cases q
        simp only [Bool.and_eq_true] at hb
        obtain ⟨⟨⟨⟨⟨⟨⟨⟨c1, c2⟩, c3⟩, c4⟩, c5⟩, c6⟩, c7⟩, c8⟩, c9⟩ := hb
        have e1 := Nat.eq_of_beq_eq_true c1
        have e2 := Nat.eq_of_beq_eq_true c2
        subst e1
        subst e2
        exact ⟨n, dp, b, sp, a, r, n0, f, n1, k, h1, h2, Nat.eq_of_beq_eq_true c3, by simpa using c4, by simpa using c5, by simpa using c6, Nat.le_of_ble_eq_true c7, Nat.le_of_ble_eq_true c8, Nat.le_of_ble_eq_true c9, rfl, rfl⟩
    · cases q
  · cases q
end EXINV
end
section
/-! ===== the machine follows the interpreter: one instruction ===== -/
section EXS
variable {p : Program} {l : Launch} {e : Env} {R : Room} {s : State} {m : MethodId} {args : Array Value} {below : List Frame} {meth : Method} {c : Code} {H : Heap} {locs : List Loc} {cells slots : Nat} {Q : State → Prop}
variable {cc : ByteArray} {pc : Nat} {ls : Array Slot} {rest : List Value} {g : ex_G} {o : ex_P} {nL n0 s0 : Nat} {rt : Option FieldType} {own mn : String} {h : ex_H} {H0 : Heap}
theorem ex_fd_of {ci k : Nat} {r : vw_C} (hc : ex_cl[ci]? = some r) : ex_fd ci k = r.2.1 k := by
  unfold ex_fd
  rw [hc]
theorem ex_cn_of {ci : Nat} {r : vw_C} (hc : ex_cl[ci]? = some r) : ex_cn ci = r.1 := by
  unfold ex_cn
  rw [hc]
theorem ex_setV {N : Nat} {fs : List Value} {k : Nat} (hk : k < fs.length) (v : Value) (j : Nat) (_ : j < N) : updV (vp_V fs) k v j = vp_V (fs.set k v) j := vp_updV_set hk v j
/-- a field is read -/
theorem ex_kget (C : ex_Cx g o p s m args meth c cc nL rt own mn R) (hW : ex_Wd g o h H) (hS : va_S (ex_A o) s.heap H locs) {i ci k index : Nat} {fs : List Value} {v : Value} (hi : ex_get g h i = some (.inl (ci, fs))) (hv : fs[k]? = some v)
    (hlt : ∀ r : vw_C, ex_cl[ci]? = some r → k < r.2.2) (hlk : Jvm.Cond.fieldLink own index (ex_fd ci k).1 (ex_fd ci k).2.1 (ex_fd ci k).2.2.1 ∈ ex_wall) (hdg : decode cc pc = .ok (.getfield index, 3))
    (kk : W p l e R s m args below meth c H locs cells slots Q (F0 m (pc + 3) ls (ex_cv g o v :: rest))) : W p l e R s m args below meth c H locs cells slots Q (F0 m pc ls (.ref (ex_ad g o i) :: rest)) := by
  obtain ⟨hx, hb, hml, hown, hts, hK, hX, hlocks, hr, hmn, hco, hBs, hRf, hRl⟩ := C
  have hlink := hts _ hlk
  rcases ex_get_spec hi with ⟨hlo, hxt⟩ | hi
  · have e1 : ex_ad g o i = o.2.2.1 i := by unfold ex_ad; rw [if_pos hlo]
    rw [e1]
    obtain ⟨hci, hO, hF⟩ := hX.1 i _ hlo hxt
    subst hci
    exact vk_getf hx hb (hF k v hv) hS hown (show (Jvm.Cond.fieldLink own index (ex_fdS k).1 (ex_fdS k).2.1 (ex_fdS k).2.2.1).before args s = true from hlink) (fun _ q => q) hdg kk
  · have hat := hW.at hi
    obtain ⟨r, hc, -⟩ := id hat
    obtain ⟨C, T, N⟩ := r
    have hin := (hco ci _ hc).1
    rw [ex_fd_of hc] at hlink
    exact va_get hx hb hts hin hown hK (ex_one hat) 0 rfl hc k (hlt _ hc) hlink (fun _ q => q) (by rw [List.getElem?_map, hv]; rfl) hdg kk
/-- a field is written -/
theorem ex_kput (C : ex_Cx g o p s m args meth c cc nL rt own mn R) (hW : ex_Wd g o h H) (hS : va_S (ex_A o) s.heap H locs) {i ci k index : Nat} {fs : List Value} {v : Value} {ty : FieldType} {r : vw_C} (hi : ex_own g h i = some (.inl (ci, fs))) (hl : k < fs.length) (hty : (ex_ft ci)[k]? = some ty) (hfit : ex_fit ty v = true)
    (hc : ex_cl[ci]? = some r) (hk : k < r.2.2) (hlk : Jvm.Cond.fieldLink own index (r.2.1 k).1 (r.2.1 k).2.1 (r.2.1 k).2.2.1 ∈ ex_wall) (hfin : (r.2.1 k).2.2.2 = false ∨ ((r.2.1 k).2.2.2 = true ∧ mn = "<init>" ∧ (r.2.1 k).1 = own)) (hdg : decode cc pc = .ok (.putfield index, 3))
    (kk : ∀ (H1 : Heap) (locs1 : List Loc), ex_Wd g o (ex_set g h i (.inl (ci, fs.set k v))) H1 → va_S (ex_A o) s.heap H1 locs1 → W p l e R s m args below meth c H1 locs1 cells slots Q (F0 m (pc + 3) ls rest)) : W p l e R s m args below meth c H locs cells slots Q (F0 m pc ls (ex_cv g o v :: .ref (ex_ad g o i) :: rest)) := by
  obtain ⟨hx, hb, hml, hown, hts, hK, hX, hlocks, hr, hmn, hco, hBs, hRf, hRl⟩ := C
  have hlink := hts _ hlk
  have hat := hW.at hi
  obtain ⟨r', h1, cell, q1, q2, q3, q4⟩ := id hat
  cases h1.symm.trans hc
  obtain ⟨hin, hnm, hlen, htys⟩ := hco ci _ hc
  have hap := va_apart (own := own) hts hin (fun k => (ex_ft ci).getD k .int) htys hnm hK hc
  obtain ⟨hSl, hfc, kC, hkC, hkind⟩ := hK.1 ci _ hc
  obtain ⟨cf, kf, fi, f, hif, hsl⟩ := hSl k hk
  have hd : parseFieldDescriptor (r.2.1 k).2.2.1 = some ty := by
    rw [htys k hk, List.getD_eq_getElem?_getD, hty]
    rfl
  obtain ⟨hn, hf2⟩ := ex_fit_spec g o hfit
  have hlay := hts _ (hin _ (u_in_lay hk))
  have hst := (u_facts hfc hkC (u_lays hts hin hk) hif).1
  have hA : ex_A o (ex_ad g o i) := by
    have := (ex_own_spec hi).1
    unfold ex_ad ex_A
    rw [if_neg this]
    omega
  have hl2 : k < (fs.map (ex_cv g o)).length := by rw [List.length_map]; exact hl
  have fin : ∀ (H1 : Heap), H1[ex_ad g o i]? = some (cell.setSlot (o.1.2 ci k) (ex_cv g o v)) → H1.size = H.size → (∀ q, q ≠ ex_ad g o i → H1[q]? = H[q]?) → W p l e R s m args below meth c H1 (locs ++ [⟨ex_ad g o i, o.1.2 ci k⟩]) cells slots Q (F0 m (pc + 3) ls rest) := by
    intro H1 e1 e2 e3
    refine kk H1 _ (hW.set hi e2 ?_ e3) (hS.put e2 e3 hA)
    refine ⟨_, hc, t_OB.to (V := updV (vp_V (fs.map (ex_cv g o))) k (ex_cv g o v)) ⟨_, e1, q2, q3, t_set q4 hap hk _⟩ (fun j _ => ?_)⟩
    rw [vp_updV_set hl2, List.map_set]
  rcases hfin with hfin | ⟨hfin, hin2, hdecl⟩
  · unfold u_lay at hlay
    rw [if_neg (by rw [hfin]; decide)] at hlay
    have h6 := u_store hfc hkC hkind hlay hif hd hn hf2
    refine W.putK hx hb (f := f) ⟨hown, hlink, ⟨_, _, _, hif⟩, hst⟩ (by rw [q2]; exact h6) q1 q3 (by rw [hsl]; exact k2_hasslot (q4 k hk)) rfl rfl hdg fun H' e1 e2 e3 => ?_
    rw [hsl] at e1 ⊢
    exact fin H' e1 e2 e3
  · unfold u_lay at hlay
    rw [if_pos hfin] at hlay
    have hcf : m.cls = cf := by
      obtain ⟨_, _, c', _, _, _, -, -, hf', -, -, -, hown2, -⟩ := Cond.laysFinal_spec hlay
      have e1 : c' = cf := by have := hif.symm.trans hf'; simp at this; exact this.1.symm
      rw [hdecl] at hown2
      rw [← e1]; exact Option.some.inj (hown.symm.trans hown2)
    have h6 := u_fits hfc hkC hkind (Or.inr hlay) hif hd hn hf2
    refine W.putFinK hx hb hown hlink hif hst hcf (by rw [hmn]; exact hin2) (by rw [q2]; exact h6) q1 q3 (by rw [hsl]; exact k2_hasslot (q4 k hk)) rfl rfl hdg fun H' e1 e2 e3 => ?_
    rw [hsl] at e1 ⊢
    exact fin H' e1 e2 e3
theorem ex_own_A {i : Nat} {x : ex_C} (hi : ex_own g h i = some x) : ex_A o (ex_ad g o i) := by
  have := (ex_own_spec hi).1
  unfold ex_ad ex_A
  rw [if_neg this]
  omega
theorem ex_get_own {i : Nat} {x : ex_C} (hi : ex_own g h i = some x) : ex_get g h i = some x := by
  have h1 := (ex_own_spec hi).1
  unfold ex_get
  rw [ex_blt h1]
  exact (ex_own_spec hi).2

theorem ex_kiast (C : ex_Cx g o p s m args meth c cc nL rt own mn R) (hW : ex_Wd g o h H) (hS : va_S (ex_A o) s.heap H locs) {i n : Nat} {j : Int32} {f : Nat → Int32} {x : Int32} (hi : ex_own g h i = some (.inr (0, n, .inl f))) (hin : vp_in j n) (hdg : decode cc pc = .ok (.iastore, 1))
    (kk : ∀ (H1 : Heap) (locs1 : List Loc), ex_Wd g o (ex_set g h i (.inr (0, n, .inl (upd f j.toNatClampNeg x)))) H1 → va_S (ex_A o) s.heap H1 locs1 → W p l e R s m args below meth c H1 locs1 cells slots Q (F0 m (pc + 1) ls rest)) : W p l e R s m args below meth c H locs cells slots Q (F0 m pc ls (.int x :: .int j :: .ref (ex_ad g o i) :: rest)) := by
  obtain ⟨hx, hb, hml, hown, hts, hK, hX, hlocks, hr, hmn, hco, hBs, hRf, hRl⟩ := C
  have hat : H[ex_ad g o i]? = some (arrV (o.2.1 0) n (fun j => .int (f j))) := hW.at hi
  refine W.iast hx hb hat ((hK.2 0 _ rfl).1 n (fun j => .int (f j))) (fun q => by cases q) (by rw [arrV_size]; exact hin) rfl rfl hdg fun H1 e1 e2 e3 => ?_
  refine kk H1 _ (hW.set hi e2 ?_ e3) (hS.put e2 e3 (ex_own_A hi))
  show H1[ex_ad g o i]? = some (arrV (o.2.1 0) n (fun q => .int ((upd f j.toNatClampNeg x) q)))
  rw [e1, arrV_store]
  congr 2
  funext q
  by_cases hq : q = j.toNatClampNeg
  · subst hq
    simp [updV, upd]
  · simp [updV, upd, hq]
theorem ex_kbast (C : ex_Cx g o p s m args meth c cc nL rt own mn R) (hW : ex_Wd g o h H) (hS : va_S (ex_A o) s.heap H locs) {i n : Nat} {j : Int32} {f : Nat → Int32} {x : Int32} (hi : ex_own g h i = some (.inr (1, n, .inl f))) (hin : vp_in j n) (hdg : decode cc pc = .ok (.bastore, 1))
    (kk : ∀ (H1 : Heap) (locs1 : List Loc), ex_Wd g o (ex_set g h i (.inr (1, n, .inl (upd f j.toNatClampNeg x.toInt8.toInt32)))) H1 → va_S (ex_A o) s.heap H1 locs1 → W p l e R s m args below meth c H1 locs1 cells slots Q (F0 m (pc + 1) ls rest)) : W p l e R s m args below meth c H locs cells slots Q (F0 m pc ls (.int x :: .int j :: .ref (ex_ad g o i) :: rest)) := by
  obtain ⟨hx, hb, hml, hown, hts, hK, hX, hlocks, hr, hmn, hco, hBs, hRf, hRl⟩ := C
  have hat : H[ex_ad g o i]? = some (arrV (o.2.1 1) n (fun j => .int (f j))) := hW.at hi
  refine W.bast hx hb hat ((hK.2 1 _ rfl).1 n (fun j => .int (f j))) (fun q => by cases q) (by rw [arrV_size]; exact hin) rfl rfl hdg fun H1 e1 e2 e3 => ?_
  refine kk H1 _ (hW.set hi e2 ?_ e3) (hS.put e2 e3 (ex_own_A hi))
  show H1[ex_ad g o i]? = some (arrV (o.2.1 1) n (fun q => .int ((upd f j.toNatClampNeg x.toInt8.toInt32) q)))
  rw [e1, arrV_store]
  congr 2
  funext q
  by_cases hq : q = j.toNatClampNeg
  · subst hq
    simp [updV, upd, narrow]
  · simp [updV, upd, narrow, hq]
theorem ex_kzast (C : ex_Cx g o p s m args meth c cc nL rt own mn R) (hW : ex_Wd g o h H) (hS : va_S (ex_A o) s.heap H locs) {i n : Nat} {j : Int32} {f : Nat → Int32} {x : Int32} (hi : ex_own g h i = some (.inr (2, n, .inl f))) (hin : vp_in j n) (hdg : decode cc pc = .ok (.bastore, 1))
    (kk : ∀ (H1 : Heap) (locs1 : List Loc), ex_Wd g o (ex_set g h i (.inr (2, n, .inl (upd f j.toNatClampNeg (x &&& 1))))) H1 → va_S (ex_A o) s.heap H1 locs1 → W p l e R s m args below meth c H1 locs1 cells slots Q (F0 m (pc + 1) ls rest)) : W p l e R s m args below meth c H locs cells slots Q (F0 m pc ls (.int x :: .int j :: .ref (ex_ad g o i) :: rest)) := by
  obtain ⟨hx, hb, hml, hown, hts, hK, hX, hlocks, hr, hmn, hco, hBs, hRf, hRl⟩ := C
  have hat : H[ex_ad g o i]? = some (arrV (o.2.1 2) n (fun j => .int (f j))) := hW.at hi
  refine W.zast hx hb hat ((hK.2 2 _ rfl).1 n (fun j => .int (f j))) (fun q => by cases q) (by rw [arrV_size]; exact hin) rfl rfl hdg fun H1 e1 e2 e3 => ?_
  refine kk H1 _ (hW.set hi e2 ?_ e3) (hS.put e2 e3 (ex_own_A hi))
  show H1[ex_ad g o i]? = some (arrV (o.2.1 2) n (fun q => .int ((upd f j.toNatClampNeg (x &&& 1)) q)))
  rw [e1, arrV_store]
  congr 2
  funext q
  by_cases hq : q = j.toNatClampNeg
  · subst hq
    simp [updV, upd, narrow]
  · simp [updV, upd, narrow, hq]
theorem ex_klast (C : ex_Cx g o p s m args meth c cc nL rt own mn R) (hW : ex_Wd g o h H) (hS : va_S (ex_A o) s.heap H locs) {i n : Nat} {j : Int32} {f : Nat → Int64} {x : Int64} (hi : ex_own g h i = some (.inr (3, n, .inr (.inl f)))) (hin : vp_in j n) (hdg : decode cc pc = .ok (.lastore, 1))
    (kk : ∀ (H1 : Heap) (locs1 : List Loc), ex_Wd g o (ex_set g h i (.inr (3, n, .inr (.inl (vp_updL f j.toNatClampNeg x))))) H1 → va_S (ex_A o) s.heap H1 locs1 → W p l e R s m args below meth c H1 locs1 cells slots Q (F0 m (pc + 1) ls rest)) : W p l e R s m args below meth c H locs cells slots Q (F0 m pc ls (.long x :: .int j :: .ref (ex_ad g o i) :: rest)) := by
  obtain ⟨hx, hb, hml, hown, hts, hK, hX, hlocks, hr, hmn, hco, hBs, hRf, hRl⟩ := C
  have hat : H[ex_ad g o i]? = some (arrV (o.2.1 3) n (fun j => .long (f j))) := hW.at hi
  refine W.last hx hb hat ((hK.2 3 _ rfl).1 n (fun j => .long (f j))) (fun q => by cases q) (by rw [arrV_size]; exact hin) rfl rfl hdg fun H1 e1 e2 e3 => ?_
  refine kk H1 _ (hW.set hi e2 ?_ e3) (hS.put e2 e3 (ex_own_A hi))
  show H1[ex_ad g o i]? = some (arrV (o.2.1 3) n (fun q => .long ((vp_updL f j.toNatClampNeg x) q)))
  rw [e1, arrV_store]
  congr 2
  funext q
  by_cases hq : q = j.toNatClampNeg
  · subst hq
    simp [updV, vp_updL]
  · simp [updV, vp_updL, hq]
theorem ex_kaast (C : ex_Cx g o p s m args meth c cc nL rt own mn R) (hW : ex_Wd g o h H) (hS : va_S (ex_A o) s.heap H locs) {i n v : Nat} {j : Int32} {f : Nat → Option Nat} {fs : List Value} (hi : ex_own g h i = some (.inr (4, n, .inr (.inr (.inr (.inr f)))))) (hv : v < g.1) (hxt : g.2.1 v = some (.inl (13, fs))) (hin : vp_in j n) (hdg : decode cc pc = .ok (.aastore, 1))
    (kk : ∀ (H1 : Heap) (locs1 : List Loc), ex_Wd g o (ex_set g h i (.inr (4, n, .inr (.inr (.inr (.inr (va_up f j.toNatClampNeg (some v)))))))) H1 → va_S (ex_A o) s.heap H1 locs1 → W p l e R s m args below meth c H1 locs1 cells slots Q (F0 m (pc + 1) ls rest)) : W p l e R s m args below meth c H locs cells slots Q (F0 m pc ls (.ref (ex_ad g o v) :: .int j :: .ref (ex_ad g o i) :: rest)) := by
  obtain ⟨hx, hb, hml, hown, hts, hK, hX, hlocks, hr, hmn, hco, hBs, hRf, hRl⟩ := C
  have hat : H[ex_ad g o i]? = some (arrV (o.2.1 4) n (fun j => va_rf ((f j).map (ex_ad g o)))) := hW.at hi
  obtain ⟨-, hO, -⟩ := hX.1 v _ hv hxt
  have ev : ex_ad g o v = o.2.2.1 v := by unfold ex_ad; rw [if_pos hv]
  obtain ⟨cellV, g1, g3, g4, -⟩ := hO.kept hS.2.1
  obtain ⟨kC, hkC, -⟩ := Vm.findClass_spec g4
  obtain ⟨kA, comp, k1, k2, k3, -⟩ := (hK.2 4 _ rfl).2
  obtain ⟨kE, hkE, -⟩ := Vm.findClass_spec k3
  have hcc : comp = cellV.cls := Option.some.inj (k3.symm.trans g4)
  have h0 : ¬ j < 0 := fun q => hin (Or.inl q)
  have hlt : j.toNatClampNeg < n := Nat.not_le.mp fun q => hin (Or.inr q)
  rw [ev]
  refine W.aast hx hb hat (fun q h => by cases h) (fun h => by cases h) k1 k2 rfl hkE ⟨h0, by rw [arrV_size]; exact hlt⟩ g1 (fun q h => by rw [h] at g3; cases g3) hkC (by rw [hcc]; exact va_asg _ _) rfl rfl hdg fun H1 e1 e2 e3 => ?_
  refine kk H1 _ (hW.set hi e2 ?_ e3) (hS.put e2 e3 (ex_own_A hi))
  show H1[ex_ad g o i]? = some (arrV (o.2.1 4) n (fun q => va_rf ((va_up f j.toNatClampNeg (some v) q).map (ex_ad g o))))
  rw [e1, arrV_store]
  congr 2
  funext q
  by_cases hq : q = j.toNatClampNeg
  · subst hq
    simp [updV, va_up, va_rf, ev]
  · simp [updV, va_up, hq]
theorem ex_dflt (t : FieldType) : ex_cv g o (defaultValue t) = defaultValue t := by cases t <;> rfl
theorem ex_knew (C : ex_Cx g o p s m args meth c cc nL rt own mn R) (hW : ex_Wd g o h H) (hS : va_S (ex_A o) s.heap H locs) {ci index : Nat} {r : vw_C} (hc : ex_cl[ci]? = some r) (h1 : Jvm.Cond.classLink own index r.1 ∈ ex_wall) (h2 : Jvm.Cond.instantiable r.1 r.2.2 ∈ ex_wall) (h3 : Jvm.Cond.initialized r.1 ∈ ex_wall) (hcells : cells + 1 ≤ R.cells) (hslots : slots + (ex_ft ci).length ≤ R.slots) (hdg : decode cc pc = .ok (.new index, 3))
    (kk : ∀ (H1 : Heap), ex_Wd g o (h.1 ++ [.inl (ci, (ex_ft ci).map defaultValue)], h.2 + (ex_ft ci).length) H1 → va_S (ex_A o) s.heap H1 locs → W p l e R s m args below meth c H1 locs (cells + 1) (slots + (ex_ft ci).length) Q (F0 m (pc + 3) ls (.ref (ex_ad g o (g.1 + h.1.length)) :: rest))) : W p l e R s m args below meth c H locs cells slots Q (F0 m pc ls rest) := by
  obtain ⟨hx, hb, hml, hown, hts, hK, hX, hlocks, hr, hmn, hco, hBs, hRf, hRl⟩ := C
  obtain ⟨hin, hnm, hlen, htys⟩ := hco ci _ hc
  have hKn := hK.1 ci _ hc
  have e0 := ex_ad_new hW
  refine W.newcK hx hb hown (hts _ h1) (hts _ h2) (hts _ h3) rfl hdg hcells (by rw [← hlen]; exact hslots) hKn.2.1 rfl fun H1 kC hkC e1 e2 e3 => ?_
  rw [e0] at kk
  rw [← hlen]
  refine kk H1 (hW.push e2 ?_ e3) ⟨Nat.le_trans hS.1 (by omega), fun x q1 q2 => (e3 x (Nat.lt_of_lt_of_le q1 hS.1)).trans (hS.2.1 x q1 q2), hS.2.2⟩
  refine ⟨_, hc, (u_born (fun k => (ex_ft ci).getD k .int) hts hin hKn hkC e1 htys).to (fun j hj => ?_)⟩
  have hj2 : j < (ex_ft ci).length := by rw [hlen]; exact hj
  show _ = (((ex_ft ci).map defaultValue).map (ex_cv g o)).getD j .null
  rw [List.getD_eq_getElem?_getD, List.getD_eq_getElem?_getD, List.getElem?_map, List.getElem?_map, List.getElem?_eq_getElem hj2]
  show defaultValue _ = ex_cv g o (defaultValue _)
  rw [ex_dflt]
  rfl
theorem ex_knewa (C : ex_Cx g o p s m args meth c cc nL rt own mn R) (hW : ex_Wd g o h H) (hS : va_S (ex_A o) s.heap H locs) {t : ArrayType} {n : Int32} {k : Nat} {z} (hz : ex_nar t = some (k, z)) (hn : ¬ n < 0) (hN : n.toNatClampNeg ≤ 1000000) (hlk : Jvm.Cond.arrayClass (newarray.typeOf t) ∈ ex_wall) (hcells : cells + 1 ≤ R.cells) (hslots : slots + n.toNatClampNeg ≤ R.slots) (hdg : decode cc pc = .ok (.newarray t, 2))
    (kk : ∀ (H1 : Heap), ex_Wd g o (h.1 ++ [.inr (k, n.toNatClampNeg, z)], h.2 + n.toNatClampNeg) H1 → va_S (ex_A o) s.heap H1 locs → W p l e R s m args below meth c H1 locs (cells + 1) (slots + n.toNatClampNeg) Q (F0 m (pc + 2) ls (.ref (ex_ad g o (g.1 + h.1.length)) :: rest))) : W p l e R s m args below meth c H locs cells slots Q (F0 m pc ls (.int n :: rest)) := by
  obtain ⟨hx, hb, hml, hown, hts, hK, hX, hlocks, hr, hmn, hco, hBs, hRf, hRl⟩ := C
  have e0 := ex_ad_new hW
  rw [e0] at kk
  have hbytes : n.toNatClampNeg * componentBytes (newarray.typeOf t) ≤ 536870912 := by
    have hb8 : componentBytes (newarray.typeOf t) ≤ 8 := by cases t <;> decide
    exact Nat.le_trans (Nat.mul_le_mul hN hb8) (Nat.le_of_ble_eq_true rfl)
  refine va_newaK hx hb (hts _ hlk) rfl hdg rfl hn rfl hbytes hcells hslots rfl fun H1 cA e1 e2 e3 hAr hNm => ?_
  refine kk H1 (hW.push e2 ?_ e3) ⟨Nat.le_trans hS.1 (by omega), fun x q1 q2 => (e3 x (Nat.lt_of_lt_of_le q1 hS.1)).trans (hS.2.1 x q1 q2), hS.2.2⟩
  cases t with
  | int =>
    cases hz
    have e5 : cA = o.2.1 0 := Option.some.inj (hNm.symm.trans (hK.2 0 _ rfl).2)
    subst e5
    exact e1
  | byte =>
    cases hz
    have e5 : cA = o.2.1 1 := Option.some.inj (hNm.symm.trans (hK.2 1 _ rfl).2)
    subst e5
    exact e1
  | boolean =>
    cases hz
    have e5 : cA = o.2.1 2 := Option.some.inj (hNm.symm.trans (hK.2 2 _ rfl).2)
    subst e5
    exact e1
  | long =>
    cases hz
    have e5 : cA = o.2.1 3 := Option.some.inj (hNm.symm.trans (hK.2 3 _ rfl).2)
    subst e5
    exact e1
  | _ => cases hz
theorem ex_knewq (C : ex_Cx g o p s m args meth c cc nL rt own mn R) (hW : ex_Wd g o h H) (hS : va_S (ex_A o) s.heap H locs) {n : Int32} {index : Nat} (hn : ¬ n < 0) (hN : n.toNatClampNeg ≤ 1000000) (h1 : Jvm.Cond.classLink own index "java/lang/String" ∈ ex_wall) (h2 : Jvm.Cond.arrayOver (.object "java/lang/String") ∈ ex_wall) (hcells : cells + 1 ≤ R.cells) (hslots : slots + n.toNatClampNeg ≤ R.slots) (hdg : decode cc pc = .ok (.anewarray index, 3))
    (kk : ∀ (H1 : Heap), ex_Wd g o (h.1 ++ [.inr (4, n.toNatClampNeg, .inr (.inr (.inr (.inr (fun _ => none)))))], h.2 + n.toNatClampNeg) H1 → va_S (ex_A o) s.heap H1 locs → W p l e R s m args below meth c H1 locs (cells + 1) (slots + n.toNatClampNeg) Q (F0 m (pc + 3) ls (.ref (ex_ad g o (g.1 + h.1.length)) :: rest))) : W p l e R s m args below meth c H locs cells slots Q (F0 m pc ls (.int n :: rest)) := by
  obtain ⟨hx, hb, hml, hown, hts, hK, hX, hlocks, hr, hmn, hco, hBs, hRf, hRl⟩ := C
  have e0 := ex_ad_new hW
  rw [e0] at kk
  refine W.anew hx hb hown (hts _ h1) (hts _ h2) rfl hdg rfl hn (by omega) hcells hslots fun cA kA comp f1 f2 f3 f4 => ?_
  obtain ⟨kA', comp', k1, k2, k3, k4⟩ := (hK.2 4 _ rfl).2
  have e5 : cA = o.2.1 4 := Option.some.inj (f1.symm.trans k4)
  subst e5
  have e3 : ∀ q : Nat, q < H.size → (H.push ({ cls := o.2.1 4, slots := Array.replicate n.toNatClampNeg .null, vm := .none } : Cell))[q]? = H[q]? := fun q hq => by rw [Array.getElem?_push, if_neg (Nat.ne_of_lt hq)]
  refine kk _ (hW.push (by rw [Array.size_push]) ?_ e3) ⟨Nat.le_trans hS.1 (by rw [Array.size_push]; omega), fun x q1 q2 => (e3 x (Nat.lt_of_lt_of_le q1 hS.1)).trans (hS.2.1 x q1 q2), hS.2.2⟩
  show (H.push ({ cls := o.2.1 4, slots := Array.replicate n.toNatClampNeg .null, vm := .none } : Cell))[H.size]? = some (arrV (o.2.1 4) n.toNatClampNeg (fun _ => va_rf none))
  rw [Array.getElem?_push_size, ← arrV_new]
  rfl
theorem ex_kcpy (C : ex_Cx g o p s m args meth c cc nL rt own mn R) (hW : ex_Wd g o h H) (hS : va_S (ex_A o) s.heap H locs) (hls : ls.size = nL) {n dp sp : Int32} {a b n1 n2 index : Nat} {f k : Nat → Int32} (ha : ex_own g h a = some (.inr (1, n1, .inl f))) (hb2 : ex_own g h b = some (.inr (1, n2, .inl k))) (hn0 : n.toNatClampNeg = 0) (h1 : ¬ sp < 0) (h2 : ¬ dp < 0) (h3 : ¬ n < 0) (h4 : sp.toNatClampNeg ≤ n1) (h5 : dp.toNatClampNeg ≤ n2) (hw : (rest.map fun v => v.category).sum ≤ 8)
    (q1 : Jvm.Cond.methodLink own index arraycopyName ∈ ex_wall) (q2 : Jvm.Cond.native arraycopyName ∈ ex_wall) (q3 : Jvm.Cond.static arraycopyName ∈ ex_wall) (q4 : Jvm.Cond.initialized "java/lang/System" ∈ ex_wall) (hdg : decode cc pc = .ok (.invokestatic index, 3))
    (kk : ∀ (H1 : Heap) (locs1 : List Loc), ex_Wd g o h H1 → va_S (ex_A o) s.heap H1 locs1 → W p l e R s m args below meth c H1 locs1 cells slots Q (F0 m (pc + 3) ls rest)) : W p l e R s m args below meth c H locs cells slots Q (F0 m pc ls (.int n :: .int dp :: .ref (ex_ad g o b) :: .int sp :: .ref (ex_ad g o a) :: rest)) := by
  obtain ⟨hx, hb, hml, hown, hts, hK, hX, hlocks, hr, hmn, hco, hBs, hRf, hRl⟩ := C
  have nn : ∀ z : Int32, ¬ z < 0 → z.toInt = (z.toNatClampNeg : Int) := by
    intro z hz
    have hz0 : (0 : Int) ≤ z.toInt := by
      have := Int32.not_lt.mp hz
      simpa using Int32.le_iff_toInt_le.mp this
    show z.toInt = ((z.toInt.toNat : Nat) : Int)
    omega
  intro T hT X
  have hc0 : H[ex_ad g o a]? = some (vp_cell (o.2.1 1) (n1, .inl f)) := hW.at ha
  have hc1 : H[ex_ad g o b]? = some (vp_cell (o.2.1 1) (n2, .inl k)) := hW.at hb2
  obtain ⟨-, k0, hk0, cm0, hkk0⟩ := (hK.2 1 _ rfl).1 n1 (fun j => .int (f j))
  obtain ⟨vm', X', step⟩ := X.arraycopy hx hown (hts _ q1) (hts _ q2) (hts _ q3) (hts _ q4) (src := ex_ad g o a) (dst := ex_ad g o b) (cs := vp_cell (o.2.1 1) (n1, .inl f)) (cd := vp_cell (o.2.1 1) (n2, .inl k)) (srcPos := sp) (destPos := dp) (n := n) (by rw [hT]; exact hc0) (by rw [hT]; exact hc1)
    (fun _ h => by cases h) (fun _ h => by cases h) (fun h => by cases h) (fun h => by cases h) hk0 hk0 hkk0 hkk0 (by rfl) h1 h2 h3
    (by rw [nn sp h1, nn n h3]; show ¬ _ > ((arrV (o.2.1 1) n1 (fun j => .int (f j))).slots.size : Int); rw [arrV_size]; omega)
    (by rw [nn dp h2, nn n h3]; show ¬ _ > ((arrV (o.2.1 1) n2 (fun j => .int (k j))).slots.size : Int); rw [arrV_size]; omega)
    (fun vm₁ _ i hi => by omega)
    (g := F0 m pc ls (.int n :: .int dp :: .ref (ex_ad g o b) :: .int sp :: .ref (ex_ad g o a) :: rest)) rfl (by rw [hml]; exact hls) (rest := rest) rfl (by rw [hb]; exact hdg) hRf (by
      show 2 * 0 + _ + (nativeFrameWords "java/lang/System" "arraycopy" 5 + 11) ≤ _
      have : nativeFrameWords "java/lang/System" "arraycopy" 5 + 11 ≤ 50 := by decide +kernel
      omega)
  have e1 : copied (vp_cell (o.2.1 1) (n1, .inl f)) (vp_cell (o.2.1 1) (n2, .inl k)) sp dp n = vp_cell (o.2.1 1) (n2, .inl (va_cpy f k sp.toNatClampNeg dp.toNatClampNeg n.toNatClampNeg)) := va_copied (fun z => .int z) (o.2.1 1) (o.2.1 1) f k (by omega)
  have e2 : va_cpy f k sp.toNatClampNeg dp.toNatClampNeg n.toNatClampNeg = k := by
    funext q
    unfold va_cpy
    rw [hn0]
    first | (rw [if_neg (by omega)]) | (simp; omega) | simp
  rw [e1, e2] at X' step
  have hl : ex_ad g o b < H.size := (Array.getElem?_eq_some_iff.mp hc1).1
  have hheap : ((T.setVm vm').setCell (ex_ad g o b) (vp_cell (o.2.1 1) (n2, .inl k))).heap = H := by
    have e3 : ((T.setVm vm').setCell (ex_ad g o b) (vp_cell (o.2.1 1) (n2, .inl k))).heap = H.setIfInBounds (ex_ad g o b) (vp_cell (o.2.1 1) (n2, .inl k)) := by rw [← hT]; rfl
    rw [e3]
    apply Array.ext_getElem?
    intro q
    rw [Array.getElem?_setIfInBounds]
    by_cases hq : ex_ad g o b = q
    · subst hq
      rw [if_pos rfl, if_pos hl]
      exact hc1.symm
    · rw [if_neg hq]
  obtain ⟨t, a1, b1⟩ := kk H _ hW ⟨hS.1, hS.2.1, fun q hq => by
    rcases List.mem_append.mp hq with h | h
    · exact hS.2.2 q h
    · obtain ⟨y, -, rfl⟩ := List.mem_map.mp h
      exact ex_own_A hb2⟩ _ hheap X'
  exact ⟨t, step t a1, b1⟩
end EXS
end
section
/-! ===== the machine follows the interpreter: an instruction that goes on, one that returns ===== -/
section EXN
variable {p : Program} {l : Launch} {e : Env} {R : Room} {s : State} {m : MethodId} {args : Array Value} {below : List Frame} {meth : Method} {c : Code} {H : Heap} {locs : List Loc} {cells slots : Nat} {Q : State → Prop}
variable {cc : ByteArray} {pc : Nat} {ls : Array Slot} {rest : List Value} {g : ex_G} {o : ex_P} {nL n0 s0 : Nat} {rt : Option FieldType} {own mn : String} {h : ex_H}
theorem va_ldcSW (hexec : p.tables.exec = Jvm.exec) (hb : c.code = cc) {tx : String} {index q : Nat} (hown : s.vm.findClass own = some m.cls) (hZ : vk_R own index tx q s) (hdg : decode cc pc = .ok (.ldc_w index, 3))
    (k : W p l e R s m args below meth c H locs cells slots Q (F0 m (pc + 3) ls (.ref q :: rest))) : W p l e R s m args below meth c H locs cells slots Q (F0 m pc ls rest) := by
  intro T hT X
  obtain ⟨t, a1, b1⟩ := k T hT X
  exact ⟨t, X.ldcStringW hexec hown (text := tx) (a := q) hZ.1 hZ.2 (g := F0 m pc ls rest) rfl (by rw [hb]; exact hdg) t a1, b1⟩
theorem ex_tsw_v {d lo hi : Int} {offs : Array Int} {lv : ex_V} {st : List Value} {q : ex_O} (hq : ex_tsw d lo hi offs pc lv st h = some q) : ∃ x r, st = .int x :: r ∧ (((x.toInt < lo ∨ hi < x.toInt) ∧ ∃ t : Nat, (pc : Int) + d = (t : Int) ∧ q = .inl (t, lv, r, h)) ∨ (¬ (x.toInt < lo ∨ hi < x.toInt) ∧ ∃ (off : Int) (t : Nat), offs[(x.toInt - lo).toNat]? = some off ∧ (pc : Int) + off = (t : Int) ∧ q = .inl (t, lv, r, h))) := by
  unfold ex_tsw at hq
  split at hq
  · rename_i x r
    refine ⟨x, r, rfl, ?_⟩
    by_cases hx : x.toInt < lo ∨ hi < x.toInt
    · rw [show decide (x.toInt < lo ∨ hi < x.toInt) = true from decide_eq_true hx] at hq
      exact Or.inl ⟨hx, ex_to_v hq⟩
    · rw [show decide (x.toInt < lo ∨ hi < x.toInt) = false from decide_eq_false hx] at hq
      simp only [cond_false] at hq
      split at hq
      · rename_i off hoff
        obtain ⟨t, h1, h2⟩ := ex_to_v hq
        exact Or.inr ⟨hx, off, t, hoff, h1, h2⟩
      · cases hq
  · cases hq
theorem ex_lsw_v {d : Int} {ps : Array (Int × Int)} {lv : ex_V} {st : List Value} {q : ex_O} (hq : ex_lsw d ps pc lv st h = some q) : ∃ (x : Int32) (r : List Value) (t : Nat), st = .int x :: r ∧ (pc : Int) + Op.lookupswitch.offset ps.toList d x.toInt = (t : Int) ∧ q = .inl (t, lv, r, h) := by
  unfold ex_lsw at hq
  split at hq
  · rename_i x r
    obtain ⟨t, h1, h2⟩ := ex_to_v hq
    exact ⟨x, r, t, rfl, h1, h2⟩
  · cases hq
theorem ex_kxld (C : ex_Cx g o p s m args meth c cc nL rt own mn R) (hW : ex_Wd g o h H) (hS : va_S (ex_A o) s.heap H locs) {i n : Nat} {j : Int32} {f : Nat → Int32} (hi : ex_get g h i = some (.inr (0, n, .inl f))) (hin : vp_in j n) (hdg : decode cc pc = .ok (.iaload, 1))
    (kk : W p l e R s m args below meth c H locs cells slots Q (F0 m (pc + 1) ls (.int (f j.toNatClampNeg) :: rest))) : W p l e R s m args below meth c H locs cells slots Q (F0 m pc ls (.int j :: .ref (ex_ad g o i) :: rest)) := by
  obtain ⟨hx, hb, hml, hown, hts, hK, hX, hlocks, hr, hmn, hco, hBs, hRf, hRl⟩ := C
  rcases ex_get_spec hi with ⟨hlo, hxt⟩ | hi
  · have e1 : ex_ad g o i = o.2.2.1 i := by unfold ex_ad; rw [if_pos hlo]
    rw [e1]
    obtain ⟨-, -, hT⟩ := hX.1 i _ hlo hxt
    exact va_ti hx hb hT hS hin rfl hdg kk
  · exact va_iald hx hb hK (ex_one (hW.at hi)) 0 0 rfl rfl hin hdg kk
theorem ex_kbld (C : ex_Cx g o p s m args meth c cc nL rt own mn R) (hW : ex_Wd g o h H) (hS : va_S (ex_A o) s.heap H locs) {i n t : Nat} {j : Int32} {f : Nat → Int32} (hi : ex_get g h i = some (.inr (t, n, .inl f))) (ht : t = 1 ∨ t = 2) (hin : vp_in j n) (hdg : decode cc pc = .ok (.baload, 1))
    (kk : W p l e R s m args below meth c H locs cells slots Q (F0 m (pc + 1) ls (.int (f j.toNatClampNeg) :: rest))) : W p l e R s m args below meth c H locs cells slots Q (F0 m pc ls (.int j :: .ref (ex_ad g o i) :: rest)) := by
  obtain ⟨hx, hb, hml, hown, hts, hK, hX, hlocks, hr, hmn, hco, hBs, hRf, hRl⟩ := C
  rcases ex_get_spec hi with ⟨hlo, hxt⟩ | hi
  · have e1 : ex_ad g o i = o.2.2.1 i := by unfold ex_ad; rw [if_pos hlo]
    rw [e1]
    obtain ⟨h01, -, hT⟩ := hX.1 i _ hlo hxt
    have e2 : t = 1 := by omega
    subst e2
    exact va_tb hx hb hT hS hin rfl hdg kk
  · rcases ht with rfl | rfl
    · exact va_bald hx hb hK (ex_one (hW.at hi)) 0 1 rfl rfl hin hdg kk
    · exact va_zald hx hb hK (ex_one (hW.at hi)) 0 2 rfl rfl hin hdg kk
theorem ex_klen (C : ex_Cx g o p s m args meth c cc nL rt own mn R) (hW : ex_Wd g o h H) (hS : va_S (ex_A o) s.heap H locs) {i n t : Nat} {f} (hi : ex_get g h i = some (.inr (t, n, f))) (ht : t < 5) (hdg : decode cc pc = .ok (.arraylength, 1))
    (kk : W p l e R s m args below meth c H locs cells slots Q (F0 m (pc + 1) ls (.int (Int32.ofNat n) :: rest))) : W p l e R s m args below meth c H locs cells slots Q (F0 m pc ls (.ref (ex_ad g o i) :: rest)) := by
  obtain ⟨hx, hb, hml, hown, hts, hK, hX, hlocks, hr, hmn, hco, hBs, hRf, hRl⟩ := C
  rcases ex_get_spec hi with ⟨hlo, hxt⟩ | hi
  · have e1 : ex_ad g o i = o.2.2.1 i := by unfold ex_ad; rw [if_pos hlo]
    rw [e1]
    have h1 := hX.1 i _ hlo hxt
    match f, h1 with
    | .inl f, h1 => exact va_tlen hx hb h1.2.2 hS rfl hdg kk
    | .inr f, h1 => exact False.elim h1
  · have ha := ex_one (hW.at hi)
    match t, ht with
    | 0, _ => exact va_alen hx hb hK ha 0 0 rfl rfl rfl hdg kk
    | 1, _ => exact va_alen hx hb hK ha 0 1 rfl rfl rfl hdg kk
    | 2, _ => exact va_alen hx hb hK ha 0 2 rfl rfl rfl hdg kk
    | 3, _ => exact va_alen hx hb hK ha 0 3 rfl rfl rfl hdg kk
    | 4, _ => exact va_alen hx hb hK ha 0 4 rfl rfl rfl hdg kk
set_option maxHeartbeats 4000000 in
/-- an instruction that goes on -/
theorem ex_next {P : Nat → Option ex_M} (C : ex_Cx g o p s m args meth c cc nL rt own mn R) {ins : Instr} {x y z nx : Nat} {lv : ex_V} {st : List Value} {f : ex_F} (hd : ex_dec cc pc (ins, x, y, z, nx)) (hk : ex_lk g P own mn pc (ins, x, y, z, nx)) (hs : ex_step g nL rt (ins, x, y, z, nx) pc lv st h = some (.inl f))
    (hA : ex_At g o nL n0 s0 s.heap (pc, lv, st, h) H ls locs cells slots) (hm1 : f.2.2.2.1.length ≤ R.cells + n0) (hm2 : f.2.2.2.2 ≤ R.slots + s0)
    (kk : ∀ (H1 : Heap) (ls1 : Array Slot) (locs1 : List Loc) (cells1 slots1 : Nat), ex_At g o nL n0 s0 s.heap f H1 ls1 locs1 cells1 slots1 → W p l e R s m args below meth c H1 locs1 cells1 slots1 Q (F0 m f.1 ls1 (f.2.2.1.map (ex_cv g o)))) :
    W p l e R s m args below meth c H locs cells slots Q (F0 m pc ls (st.map (ex_cv g o))) := by
  have C0 := C
  obtain ⟨hx, hb, hml, hown, hts, hK, hX, hlocks, hr, hmn, hco, hBs, hRf, hRl⟩ := C
  obtain ⟨hl, hW, hS, hc, hsl⟩ := id hA
  cases ins with
  | iconst n =>
    obtain ⟨hdg, hnx⟩ : decode cc pc = .ok (.iconst n, 1) ∧ nx = pc + 1 := hd
    subst hnx
    cases (show ex_go (pc + 1) lv (.int (Int32.ofInt n) :: st) h = some (.inl f) from hs)
    exact lv_iconst (v := Int32.ofInt n) hx hb hdg rfl (kk H ls locs cells slots hA)
  | bipush n =>
    obtain ⟨hdg, hnx⟩ : decode cc pc = .ok (.bipush n, 2) ∧ nx = pc + 2 := hd
    subst hnx
    cases (show ex_go (pc + 2) lv (.int (Int8.ofInt n).toInt32 :: st) h = some (.inl f) from hs)
    exact lv_bipush (v := (Int8.ofInt n).toInt32) hx hb hdg rfl (kk H ls locs cells slots hA)
  | sipush n =>
    obtain ⟨hdg, hnx⟩ : decode cc pc = .ok (.sipush n, 3) ∧ nx = pc + 3 := hd
    subst hnx
    cases (show ex_go (pc + 3) lv (.int (Int16.ofInt n).toInt32 :: st) h = some (.inl f) from hs)
    exact lv_sipush (v := (Int16.ofInt n).toInt32) hx hb hdg rfl (kk H ls locs cells slots hA)
  | lconst n =>
    obtain ⟨hdg, hnx⟩ : decode cc pc = .ok (.lconst n, 1) ∧ nx = pc + 1 := hd
    subst hnx
    cases (show ex_go (pc + 1) lv (.long (Int64.ofNat (n : Nat)) :: st) h = some (.inl f) from hs)
    exact lv_lconst (v := Int64.ofNat (n : Nat)) hx hb hdg rfl (kk H ls locs cells slots hA)
  | ldc i =>
    obtain ⟨hdg, hnx⟩ : decode cc pc = .ok (.ldc i, 2) ∧ nx = pc + 2 := hd
    subst hnx
    have hs : ex_ldc x y (pc + 2) lv st h = some (.inl f) := hs
    rcases (show (y = 0 ∧ Jvm.Cond.constant own i (Int32.ofNat x) ∈ ex_wall) ∨ (¬ y = 0 ∧ ∃ tx, (own, i, x, tx) ∈ g.2.2.1) from hk) with ⟨hy, hw⟩ | ⟨hy, tx, hw⟩
    · subst hy
      cases (show some (Sum.inl (pc + 2, lv, .int (Int32.ofNat x) :: st, h)) = some (Sum.inl f) from hs)
      exact lv_ldc hx hb hown (hts _ hw) hdg (kk H ls locs cells slots hA)
    · have hb0 : Nat.beq y 0 = false := by cases y with | zero => exact absurd rfl hy | succ y => rfl
      unfold ex_ldc at hs
      rw [hb0] at hs
      cases (show some (Sum.inl (pc + 2, lv, .ref x :: st, h)) = some (Sum.inl f) from hs)
      exact va_ldcS hx hb hown (hX.2.1 _ hw) hdg (kk H ls locs cells slots hA)
  | ldc_w i =>
    obtain ⟨hdg, hnx⟩ : decode cc pc = .ok (.ldc_w i, 3) ∧ nx = pc + 3 := hd
    subst hnx
    have hs : ex_ldc x y (pc + 3) lv st h = some (.inl f) := hs
    rcases (show (y = 0 ∧ Jvm.Cond.constant own i (Int32.ofNat x) ∈ ex_wall) ∨ (¬ y = 0 ∧ ∃ tx, (own, i, x, tx) ∈ g.2.2.1) from hk) with ⟨hy, hw⟩ | ⟨hy, tx, hw⟩
    · subst hy
      cases (show some (Sum.inl (pc + 3, lv, .int (Int32.ofNat x) :: st, h)) = some (Sum.inl f) from hs)
      exact lv_ldcw hx hb hown (hts _ hw) hdg (kk H ls locs cells slots hA)
    · have hb0 : Nat.beq y 0 = false := by cases y with | zero => exact absurd rfl hy | succ y => rfl
      unfold ex_ldc at hs
      rw [hb0] at hs
      cases (show some (Sum.inl (pc + 3, lv, .ref x :: st, h)) = some (Sum.inl f) from hs)
      exact va_ldcSW hx hb hown (hX.2.1 _ hw) hdg (kk H ls locs cells slots hA)
  | getstatic i =>
    obtain ⟨hdg, hnx⟩ : decode cc pc = .ok (.getstatic i, 3) ∧ nx = pc + 3 := hd
    subst hnx
    have hs : ex_ldc x y (pc + 3) lv st h = some (.inl f) := hs
    obtain ⟨q, hq, hw, hv⟩ : ∃ q ∈ g.2.2.2, Jvm.Cond.fieldLink own i q.1 q.2.1 q.2.2.1 ∈ ex_wall ∧ q.2.2.2 = (bif Nat.beq y 0 then Value.int (Int32.ofNat x) else Value.ref x) := hk
    have hZ := hX.2.2 q hq
    rw [hv] at hZ
    unfold ex_ldc at hs
    cases hb0 : Nat.beq y 0 with
    | true =>
      rw [hb0] at hs hZ
      cases (show some (Sum.inl (pc + 3, lv, .int (Int32.ofNat x) :: st, h)) = some (Sum.inl f) from hs)
      exact va_gets hx hb hZ hS hown (hts _ hw) (fun _ q => q) hdg (kk H ls locs cells slots hA)
    | false =>
      rw [hb0] at hs hZ
      cases (show some (Sum.inl (pc + 3, lv, .ref x :: st, h)) = some (Sum.inl f) from hs)
      exact va_gets hx hb hZ hS hown (hts _ hw) (fun _ q => q) hdg (kk H ls locs cells slots hA)
  | ldc2_w i =>
    obtain ⟨hdg, hnx⟩ : decode cc pc = .ok (.ldc2_w i, 3) ∧ nx = pc + 3 := hd
    subst hnx
    cases (show ex_go (pc + 3) lv (.long (Int64.ofNat x) :: st) h = some (.inl f) from hs)
    exact lv_ldc2 hx hb hown (hts _ (show Jvm.Cond.constantLong own i (Int64.ofNat x) ∈ ex_wall from hk)) hdg (kk H ls locs cells slots hA)
  | iload_n k =>
    obtain ⟨hdg, hnx⟩ : decode cc pc = .ok (.iload_n k, 1) ∧ nx = pc + 1 := hd
    subst hnx
    obtain ⟨v, hv, e1⟩ := ex_ild_v (show ex_ild k (pc + 1) lv st h = some (.inl f) from hs)
    cases e1
    exact lv_iload_n hx hb hdg rfl (ex_ls hl hv) (kk H ls locs cells slots hA)
  | iload k =>
    obtain ⟨hdg, hnx⟩ : decode cc pc = .ok (.iload k, 2) ∧ nx = pc + 2 := hd
    subst hnx
    obtain ⟨v, hv, e1⟩ := ex_ild_v (show ex_ild k (pc + 2) lv st h = some (.inl f) from hs)
    cases e1
    exact lv_iload hx hb hdg (ex_ls hl hv) (kk H ls locs cells slots hA)
  | lload_n k =>
    obtain ⟨hdg, hnx⟩ : decode cc pc = .ok (.lload_n k, 1) ∧ nx = pc + 1 := hd
    subst hnx
    obtain ⟨v, hv, e1⟩ := ex_lld1_v (show ex_lld1 k (pc + 1) lv st h = some (.inl f) from hs)
    cases e1
    exact lv_lload_n hx hb hdg rfl (ex_ls hl hv) (kk H ls locs cells slots hA)
  | lload k =>
    obtain ⟨hdg, hnx⟩ : decode cc pc = .ok (.lload k, 2) ∧ nx = pc + 2 := hd
    subst hnx
    obtain ⟨v, hv, e1⟩ := ex_lld1_v (show ex_lld1 k (pc + 2) lv st h = some (.inl f) from hs)
    cases e1
    exact lv_lload hx hb hdg (ex_ls hl hv) (kk H ls locs cells slots hA)
  | aload_n k =>
    obtain ⟨hdg, hnx⟩ : decode cc pc = .ok (.aload_n k, 1) ∧ nx = pc + 1 := hd
    subst hnx
    obtain ⟨v, hv, e1⟩ := ex_ald_v (show ex_ald k (pc + 1) lv st h = some (.inl f) from hs)
    cases e1
    exact lv_aload_n hx hb hdg rfl (ex_ls hl hv) (kk H ls locs cells slots hA)
  | aload k =>
    obtain ⟨hdg, hnx⟩ : decode cc pc = .ok (.aload k, 2) ∧ nx = pc + 2 := hd
    subst hnx
    obtain ⟨v, hv, e1⟩ := ex_ald_v (show ex_ald k (pc + 2) lv st h = some (.inl f) from hs)
    cases e1
    exact lv_aload hx hb hdg (ex_ls hl hv) (kk H ls locs cells slots hA)
  | istore_n k =>
    obtain ⟨hdg, hnx⟩ : decode cc pc = .ok (.istore_n k, 1) ∧ nx = pc + 1 := hd
    subst hnx
    obtain ⟨v, r, hlt, rfl, e1⟩ := ex_ist_v (show ex_ist nL k (pc + 1) lv st h = some (.inl f) from hs)
    cases e1
    exact lv_istore_n (lv' := ex_lm g o (ex_s1 lv k (.int v))) hx hb hdg rfl hl hlt (ex_lm_s1 g o lv k (.int v)) (fun ls1 hl1 => kk H ls1 locs cells slots ⟨hl1, hW, hS, hc, hsl⟩)
  | istore k =>
    obtain ⟨hdg, hnx⟩ : decode cc pc = .ok (.istore k, 2) ∧ nx = pc + 2 := hd
    subst hnx
    obtain ⟨v, r, hlt, rfl, e1⟩ := ex_ist_v (show ex_ist nL k (pc + 2) lv st h = some (.inl f) from hs)
    cases e1
    exact lv_istore (lv' := ex_lm g o (ex_s1 lv k (.int v))) hx hb hdg hl hlt (ex_lm_s1 g o lv k (.int v)) (fun ls1 hl1 => kk H ls1 locs cells slots ⟨hl1, hW, hS, hc, hsl⟩)
  | lstore_n k =>
    obtain ⟨hdg, hnx⟩ : decode cc pc = .ok (.lstore_n k, 1) ∧ nx = pc + 1 := hd
    subst hnx
    obtain ⟨v, r, hlt, rfl, e1⟩ := ex_lst_v (show ex_lst nL k (pc + 1) lv st h = some (.inl f) from hs)
    cases e1
    exact lv_lstore_n (lv' := ex_lm g o (ex_s2 lv k (.long v))) hx hb hdg rfl hl hlt (ex_lm_s2 g o lv k (.long v)) (fun ls1 hl1 => kk H ls1 locs cells slots ⟨hl1, hW, hS, hc, hsl⟩)
  | lstore k =>
    obtain ⟨hdg, hnx⟩ : decode cc pc = .ok (.lstore k, 2) ∧ nx = pc + 2 := hd
    subst hnx
    obtain ⟨v, r, hlt, rfl, e1⟩ := ex_lst_v (show ex_lst nL k (pc + 2) lv st h = some (.inl f) from hs)
    cases e1
    exact lv_lstore (lv' := ex_lm g o (ex_s2 lv k (.long v))) hx hb hdg hl hlt (ex_lm_s2 g o lv k (.long v)) (fun ls1 hl1 => kk H ls1 locs cells slots ⟨hl1, hW, hS, hc, hsl⟩)
  | astore_n k =>
    obtain ⟨hdg, hnx⟩ : decode cc pc = .ok (.astore_n k, 1) ∧ nx = pc + 1 := hd
    subst hnx
    obtain ⟨v, r, hlt, rfl, e1⟩ := ex_ast_v (show ex_ast nL k (pc + 1) lv st h = some (.inl f) from hs)
    cases e1
    exact lv_astore_n (lv' := ex_lm g o (ex_s1 lv k (.ref v))) hx hb hdg rfl hl hlt (ex_lm_s1 g o lv k (.ref v)) (fun ls1 hl1 => kk H ls1 locs cells slots ⟨hl1, hW, hS, hc, hsl⟩)
  | astore k =>
    obtain ⟨hdg, hnx⟩ : decode cc pc = .ok (.astore k, 2) ∧ nx = pc + 2 := hd
    subst hnx
    obtain ⟨v, r, hlt, rfl, e1⟩ := ex_ast_v (show ex_ast nL k (pc + 2) lv st h = some (.inl f) from hs)
    cases e1
    exact lv_astore (lv' := ex_lm g o (ex_s1 lv k (.ref v))) hx hb hdg hl hlt (ex_lm_s1 g o lv k (.ref v)) (fun ls1 hl1 => kk H ls1 locs cells slots ⟨hl1, hW, hS, hc, hsl⟩)
  | iinc k n =>
    obtain ⟨hdg, hnx⟩ : decode cc pc = .ok (.iinc k n, 3) ∧ nx = pc + 3 := hd
    subst hnx
    obtain ⟨v, hlt, hv, e1⟩ := ex_inc_v (show ex_inc nL k n (pc + 3) lv st h = some (.inl f) from hs)
    cases e1
    obtain ⟨kx, hkx⟩ := List.getElem?_of_mem (show (k, Value.int v) ∈ ex_lm g o lv from List.mem_map.mpr ⟨(k, .int v), ex_at_mem hv, rfl⟩)
    exact lv_iinc (v := v + Int32.ofInt n) (lv' := ex_lm g o (ex_s1 lv k (.int (v + Int32.ofInt n)))) hx hb hdg hl hkx rfl hlt (ex_lm_s1 g o lv k (.int (v + Int32.ofInt n))) (fun ls1 hl1 => kk H ls1 locs cells slots ⟨hl1, hW, hS, hc, hsl⟩)
  | iadd =>
    obtain ⟨hdg, hnx⟩ : decode cc pc = .ok (.iadd, 1) ∧ nx = pc + 1 := hd
    subst hnx
    obtain ⟨a, b, r, rfl, e1⟩ := ex_ii_v (show ex_ii (fun x y => x + y) (pc + 1) lv st h = some (.inl f) from hs)
    cases e1
    exact lv_iadd hx hb hdg (kk H ls locs cells slots hA)
  | isub =>
    obtain ⟨hdg, hnx⟩ : decode cc pc = .ok (.isub, 1) ∧ nx = pc + 1 := hd
    subst hnx
    obtain ⟨a, b, r, rfl, e1⟩ := ex_ii_v (show ex_ii (fun x y => x - y) (pc + 1) lv st h = some (.inl f) from hs)
    cases e1
    exact lv_isub hx hb hdg (kk H ls locs cells slots hA)
  | imul =>
    obtain ⟨hdg, hnx⟩ : decode cc pc = .ok (.imul, 1) ∧ nx = pc + 1 := hd
    subst hnx
    obtain ⟨a, b, r, rfl, e1⟩ := ex_ii_v (show ex_ii (fun x y => x * y) (pc + 1) lv st h = some (.inl f) from hs)
    cases e1
    exact lv_imul hx hb hdg (kk H ls locs cells slots hA)
  | iand =>
    obtain ⟨hdg, hnx⟩ : decode cc pc = .ok (.iand, 1) ∧ nx = pc + 1 := hd
    subst hnx
    obtain ⟨a, b, r, rfl, e1⟩ := ex_ii_v (show ex_ii (fun x y => x &&& y) (pc + 1) lv st h = some (.inl f) from hs)
    cases e1
    exact lv_iand hx hb hdg (kk H ls locs cells slots hA)
  | ior =>
    obtain ⟨hdg, hnx⟩ : decode cc pc = .ok (.ior, 1) ∧ nx = pc + 1 := hd
    subst hnx
    obtain ⟨a, b, r, rfl, e1⟩ := ex_ii_v (show ex_ii (fun x y => x ||| y) (pc + 1) lv st h = some (.inl f) from hs)
    cases e1
    exact lv_ior hx hb hdg (kk H ls locs cells slots hA)
  | ixor =>
    obtain ⟨hdg, hnx⟩ : decode cc pc = .ok (.ixor, 1) ∧ nx = pc + 1 := hd
    subst hnx
    obtain ⟨a, b, r, rfl, e1⟩ := ex_ii_v (show ex_ii (fun x y => x ^^^ y) (pc + 1) lv st h = some (.inl f) from hs)
    cases e1
    exact lv_ixor hx hb hdg (kk H ls locs cells slots hA)
  | ishl =>
    obtain ⟨hdg, hnx⟩ : decode cc pc = .ok (.ishl, 1) ∧ nx = pc + 1 := hd
    subst hnx
    obtain ⟨a, b, r, rfl, e1⟩ := ex_ii_v (show ex_ii (fun x y => x <<< (y &&& 31)) (pc + 1) lv st h = some (.inl f) from hs)
    cases e1
    exact lv_ishl hx hb hdg (kk H ls locs cells slots hA)
  | ishr =>
    obtain ⟨hdg, hnx⟩ : decode cc pc = .ok (.ishr, 1) ∧ nx = pc + 1 := hd
    subst hnx
    obtain ⟨a, b, r, rfl, e1⟩ := ex_ii_v (show ex_ii (fun x y => x >>> (y &&& 31)) (pc + 1) lv st h = some (.inl f) from hs)
    cases e1
    exact lv_ishr hx hb hdg (kk H ls locs cells slots hA)
  | iushr =>
    obtain ⟨hdg, hnx⟩ : decode cc pc = .ok (.iushr, 1) ∧ nx = pc + 1 := hd
    subst hnx
    obtain ⟨a, b, r, rfl, e1⟩ := ex_ii_v (show ex_ii (fun x y => (x.toUInt32 >>> (y.toUInt32 &&& Int32.toUInt32 31)).toInt32) (pc + 1) lv st h = some (.inl f) from hs)
    cases e1
    exact lv_iushr hx hb hdg rfl (kk H ls locs cells slots hA)
  | idiv =>
    obtain ⟨hdg, hnx⟩ : decode cc pc = .ok (.idiv, 1) ∧ nx = pc + 1 := hd
    subst hnx
    obtain ⟨a, b, r, hne, rfl, e1⟩ := ex_iid_v (show ex_iid (fun x y => x / y) (pc + 1) lv st h = some (.inl f) from hs)
    cases e1
    exact lv_idiv hx hb hdg hne (kk H ls locs cells slots hA)
  | irem =>
    obtain ⟨hdg, hnx⟩ : decode cc pc = .ok (.irem, 1) ∧ nx = pc + 1 := hd
    subst hnx
    obtain ⟨a, b, r, hne, rfl, e1⟩ := ex_iid_v (show ex_iid (fun x y => x - x / y * y) (pc + 1) lv st h = some (.inl f) from hs)
    cases e1
    exact lv_irem hx hb hdg hne (kk H ls locs cells slots hA)
  | ladd =>
    obtain ⟨hdg, hnx⟩ : decode cc pc = .ok (.ladd, 1) ∧ nx = pc + 1 := hd
    subst hnx
    obtain ⟨a, b, r, rfl, e1⟩ := ex_ll_v (show ex_ll (fun x y => x + y) (pc + 1) lv st h = some (.inl f) from hs)
    cases e1
    exact lv_ladd hx hb hdg (kk H ls locs cells slots hA)
  | lsub =>
    obtain ⟨hdg, hnx⟩ : decode cc pc = .ok (.lsub, 1) ∧ nx = pc + 1 := hd
    subst hnx
    obtain ⟨a, b, r, rfl, e1⟩ := ex_ll_v (show ex_ll (fun x y => x - y) (pc + 1) lv st h = some (.inl f) from hs)
    cases e1
    exact lv_lsub hx hb hdg (kk H ls locs cells slots hA)
  | lmul =>
    obtain ⟨hdg, hnx⟩ : decode cc pc = .ok (.lmul, 1) ∧ nx = pc + 1 := hd
    subst hnx
    obtain ⟨a, b, r, rfl, e1⟩ := ex_ll_v (show ex_ll (fun x y => x * y) (pc + 1) lv st h = some (.inl f) from hs)
    cases e1
    exact lv_lmul hx hb hdg (kk H ls locs cells slots hA)
  | land =>
    obtain ⟨hdg, hnx⟩ : decode cc pc = .ok (.land, 1) ∧ nx = pc + 1 := hd
    subst hnx
    obtain ⟨a, b, r, rfl, e1⟩ := ex_ll_v (show ex_ll (fun x y => x &&& y) (pc + 1) lv st h = some (.inl f) from hs)
    cases e1
    exact lv_land hx hb hdg (kk H ls locs cells slots hA)
  | lor =>
    obtain ⟨hdg, hnx⟩ : decode cc pc = .ok (.lor, 1) ∧ nx = pc + 1 := hd
    subst hnx
    obtain ⟨a, b, r, rfl, e1⟩ := ex_ll_v (show ex_ll (fun x y => x ||| y) (pc + 1) lv st h = some (.inl f) from hs)
    cases e1
    exact lv_lor hx hb hdg (kk H ls locs cells slots hA)
  | lxor =>
    obtain ⟨hdg, hnx⟩ : decode cc pc = .ok (.lxor, 1) ∧ nx = pc + 1 := hd
    subst hnx
    obtain ⟨a, b, r, rfl, e1⟩ := ex_ll_v (show ex_ll (fun x y => x ^^^ y) (pc + 1) lv st h = some (.inl f) from hs)
    cases e1
    exact lv_lxor hx hb hdg (kk H ls locs cells slots hA)
  | ldiv =>
    obtain ⟨hdg, hnx⟩ : decode cc pc = .ok (.ldiv, 1) ∧ nx = pc + 1 := hd
    subst hnx
    obtain ⟨a, b, r, hne, rfl, e1⟩ := ex_lld_v (show ex_lld (fun x y => x / y) (pc + 1) lv st h = some (.inl f) from hs)
    cases e1
    exact lv_ldiv hx hb hdg hne (kk H ls locs cells slots hA)
  | lrem =>
    obtain ⟨hdg, hnx⟩ : decode cc pc = .ok (.lrem, 1) ∧ nx = pc + 1 := hd
    subst hnx
    obtain ⟨a, b, r, hne, rfl, e1⟩ := ex_lld_v (show ex_lld (fun x y => x - x / y * y) (pc + 1) lv st h = some (.inl f) from hs)
    cases e1
    exact lv_lrem hx hb hdg hne (kk H ls locs cells slots hA)
  | lshl =>
    obtain ⟨hdg, hnx⟩ : decode cc pc = .ok (.lshl, 1) ∧ nx = pc + 1 := hd
    subst hnx
    obtain ⟨a, b, r, rfl, e1⟩ := ex_li_v (show ex_li (fun x y => x <<< (y.toInt64 &&& 63)) (pc + 1) lv st h = some (.inl f) from hs)
    cases e1
    exact lv_lshl hx hb hdg rfl (kk H ls locs cells slots hA)
  | lshr =>
    obtain ⟨hdg, hnx⟩ : decode cc pc = .ok (.lshr, 1) ∧ nx = pc + 1 := hd
    subst hnx
    obtain ⟨a, b, r, rfl, e1⟩ := ex_li_v (show ex_li (fun x y => x >>> (y.toInt64 &&& 63)) (pc + 1) lv st h = some (.inl f) from hs)
    cases e1
    exact lv_lshr hx hb hdg rfl (kk H ls locs cells slots hA)
  | lushr =>
    obtain ⟨hdg, hnx⟩ : decode cc pc = .ok (.lushr, 1) ∧ nx = pc + 1 := hd
    subst hnx
    obtain ⟨a, b, r, rfl, e1⟩ := ex_li_v (show ex_li (fun x y => (x.toUInt64 >>> (y.toInt64.toUInt64 &&& Int64.toUInt64 63)).toInt64) (pc + 1) lv st h = some (.inl f) from hs)
    cases e1
    exact lv_lushr hx hb hdg rfl (kk H ls locs cells slots hA)
  | ineg =>
    obtain ⟨hdg, hnx⟩ : decode cc pc = .ok (.ineg, 1) ∧ nx = pc + 1 := hd
    subst hnx
    obtain ⟨a, r, rfl, e1⟩ := ex_i_v (show ex_i (fun x => .int (-x)) (pc + 1) lv st h = some (.inl f) from hs)
    cases e1
    exact lv_ineg hx hb hdg (kk H ls locs cells slots hA)
  | i2l =>
    obtain ⟨hdg, hnx⟩ : decode cc pc = .ok (.i2l, 1) ∧ nx = pc + 1 := hd
    subst hnx
    obtain ⟨a, r, rfl, e1⟩ := ex_i_v (show ex_i (fun x => .long x.toInt64) (pc + 1) lv st h = some (.inl f) from hs)
    cases e1
    exact lv_i2l hx hb hdg rfl (kk H ls locs cells slots hA)
  | i2b =>
    obtain ⟨hdg, hnx⟩ : decode cc pc = .ok (.i2b, 1) ∧ nx = pc + 1 := hd
    subst hnx
    obtain ⟨a, r, rfl, e1⟩ := ex_i_v (show ex_i (fun x => .int x.toInt8.toInt32) (pc + 1) lv st h = some (.inl f) from hs)
    cases e1
    exact lv_i2b hx hb hdg rfl (kk H ls locs cells slots hA)
  | i2c =>
    obtain ⟨hdg, hnx⟩ : decode cc pc = .ok (.i2c, 1) ∧ nx = pc + 1 := hd
    subst hnx
    obtain ⟨a, r, rfl, e1⟩ := ex_i_v (show ex_i (fun x => .int (x.toUInt32 % 65536).toInt32) (pc + 1) lv st h = some (.inl f) from hs)
    cases e1
    exact lv_i2c hx hb hdg rfl (kk H ls locs cells slots hA)
  | lneg =>
    obtain ⟨hdg, hnx⟩ : decode cc pc = .ok (.lneg, 1) ∧ nx = pc + 1 := hd
    subst hnx
    obtain ⟨a, r, rfl, e1⟩ := ex_l_v (show ex_l (fun x => .long (-x)) (pc + 1) lv st h = some (.inl f) from hs)
    cases e1
    exact lv_lneg hx hb hdg (kk H ls locs cells slots hA)
  | l2i =>
    obtain ⟨hdg, hnx⟩ : decode cc pc = .ok (.l2i, 1) ∧ nx = pc + 1 := hd
    subst hnx
    obtain ⟨a, r, rfl, e1⟩ := ex_l_v (show ex_l (fun x => .int x.toInt32) (pc + 1) lv st h = some (.inl f) from hs)
    cases e1
    exact lv_l2i hx hb hdg rfl (kk H ls locs cells slots hA)
  | lcmp =>
    obtain ⟨hdg, hnx⟩ : decode cc pc = .ok (.lcmp, 1) ∧ nx = pc + 1 := hd
    subst hnx
    obtain ⟨a, b, r, rfl, e1⟩ := ex_lc_v (show ex_lc (pc + 1) lv st h = some (.inl f) from hs)
    cases e1
    exact W.lcmp hx hb hdg (kk H ls locs cells slots hA)
  | ifCond cnd off =>
    cases cnd with
    | eq =>
      obtain ⟨hdg, hnx⟩ : decode cc pc = .ok (.ifCond .eq off, 3) ∧ nx = pc + 3 := hd
      subst hnx
      obtain ⟨a, r, rfl, ⟨hc1, e1⟩ | ⟨hc1, e1⟩⟩ := ex_if_v (show ex_if (fun x => decide (x = 0)) x (pc + 3) lv st h = some (.inl f) from hs)
      · cases e1
        exact lv_if_eq hx hb hdg (show (pc : Int) + off = (x : Int) from hk) (fun _ => kk H ls locs cells slots hA) (fun q => absurd (of_decide_eq_true hc1) q)
      · cases e1
        exact lv_if_eq hx hb hdg (show (pc : Int) + off = (x : Int) from hk) (fun q => absurd q (of_decide_eq_false hc1)) (fun _ => kk H ls locs cells slots hA)
    | ne =>
      obtain ⟨hdg, hnx⟩ : decode cc pc = .ok (.ifCond .ne off, 3) ∧ nx = pc + 3 := hd
      subst hnx
      obtain ⟨a, r, rfl, ⟨hc1, e1⟩ | ⟨hc1, e1⟩⟩ := ex_if_v (show ex_if (fun x => decide (¬ x = 0)) x (pc + 3) lv st h = some (.inl f) from hs)
      · cases e1
        exact lv_if_ne hx hb hdg (show (pc : Int) + off = (x : Int) from hk) (fun _ => kk H ls locs cells slots hA) (fun q => absurd q (of_decide_eq_true hc1))
      · cases e1
        exact lv_if_ne hx hb hdg (show (pc : Int) + off = (x : Int) from hk) (fun q => absurd q (of_decide_eq_false hc1)) (fun _ => kk H ls locs cells slots hA)
    | lt =>
      obtain ⟨hdg, hnx⟩ : decode cc pc = .ok (.ifCond .lt off, 3) ∧ nx = pc + 3 := hd
      subst hnx
      obtain ⟨a, r, rfl, ⟨hc1, e1⟩ | ⟨hc1, e1⟩⟩ := ex_if_v (show ex_if (fun x => decide (x < 0)) x (pc + 3) lv st h = some (.inl f) from hs)
      · cases e1
        exact lv_if_lt hx hb hdg (show (pc : Int) + off = (x : Int) from hk) (fun _ => kk H ls locs cells slots hA) (fun q => absurd (of_decide_eq_true hc1) q)
      · cases e1
        exact lv_if_lt hx hb hdg (show (pc : Int) + off = (x : Int) from hk) (fun q => absurd q (of_decide_eq_false hc1)) (fun _ => kk H ls locs cells slots hA)
    | ge =>
      obtain ⟨hdg, hnx⟩ : decode cc pc = .ok (.ifCond .ge off, 3) ∧ nx = pc + 3 := hd
      subst hnx
      obtain ⟨a, r, rfl, ⟨hc1, e1⟩ | ⟨hc1, e1⟩⟩ := ex_if_v (show ex_if (fun x => decide (0 ≤ x)) x (pc + 3) lv st h = some (.inl f) from hs)
      · cases e1
        exact lv_if_ge hx hb hdg (show (pc : Int) + off = (x : Int) from hk) (fun _ => kk H ls locs cells slots hA) (fun q => absurd (of_decide_eq_true hc1) q)
      · cases e1
        exact lv_if_ge hx hb hdg (show (pc : Int) + off = (x : Int) from hk) (fun q => absurd q (of_decide_eq_false hc1)) (fun _ => kk H ls locs cells slots hA)
    | gt =>
      obtain ⟨hdg, hnx⟩ : decode cc pc = .ok (.ifCond .gt off, 3) ∧ nx = pc + 3 := hd
      subst hnx
      obtain ⟨a, r, rfl, ⟨hc1, e1⟩ | ⟨hc1, e1⟩⟩ := ex_if_v (show ex_if (fun x => decide (0 < x)) x (pc + 3) lv st h = some (.inl f) from hs)
      · cases e1
        exact lv_if_gt hx hb hdg (show (pc : Int) + off = (x : Int) from hk) (fun _ => kk H ls locs cells slots hA) (fun q => absurd (of_decide_eq_true hc1) q)
      · cases e1
        exact lv_if_gt hx hb hdg (show (pc : Int) + off = (x : Int) from hk) (fun q => absurd q (of_decide_eq_false hc1)) (fun _ => kk H ls locs cells slots hA)
    | le =>
      obtain ⟨hdg, hnx⟩ : decode cc pc = .ok (.ifCond .le off, 3) ∧ nx = pc + 3 := hd
      subst hnx
      obtain ⟨a, r, rfl, ⟨hc1, e1⟩ | ⟨hc1, e1⟩⟩ := ex_if_v (show ex_if (fun x => decide (x ≤ 0)) x (pc + 3) lv st h = some (.inl f) from hs)
      · cases e1
        exact lv_if_le hx hb hdg (show (pc : Int) + off = (x : Int) from hk) (fun _ => kk H ls locs cells slots hA) (fun q => absurd (of_decide_eq_true hc1) q)
      · cases e1
        exact lv_if_le hx hb hdg (show (pc : Int) + off = (x : Int) from hk) (fun q => absurd q (of_decide_eq_false hc1)) (fun _ => kk H ls locs cells slots hA)
  | if_icmp cnd off =>
    cases cnd with
    | eq =>
      obtain ⟨hdg, hnx⟩ : decode cc pc = .ok (.if_icmp .eq off, 3) ∧ nx = pc + 3 := hd
      subst hnx
      obtain ⟨a, b, r, rfl, ⟨hc1, e1⟩ | ⟨hc1, e1⟩⟩ := ex_ic_v (show ex_ic (fun x y => decide (x = y)) x (pc + 3) lv st h = some (.inl f) from hs)
      · cases e1
        exact lv_icmp_eq hx hb hdg (show (pc : Int) + off = (x : Int) from hk) (fun _ => kk H ls locs cells slots hA) (fun q => absurd (of_decide_eq_true hc1) q)
      · cases e1
        exact lv_icmp_eq hx hb hdg (show (pc : Int) + off = (x : Int) from hk) (fun q => absurd q (of_decide_eq_false hc1)) (fun _ => kk H ls locs cells slots hA)
    | ne =>
      obtain ⟨hdg, hnx⟩ : decode cc pc = .ok (.if_icmp .ne off, 3) ∧ nx = pc + 3 := hd
      subst hnx
      obtain ⟨a, b, r, rfl, ⟨hc1, e1⟩ | ⟨hc1, e1⟩⟩ := ex_ic_v (show ex_ic (fun x y => decide (¬ x = y)) x (pc + 3) lv st h = some (.inl f) from hs)
      · cases e1
        exact lv_icmp_ne hx hb hdg (show (pc : Int) + off = (x : Int) from hk) (fun _ => kk H ls locs cells slots hA) (fun q => absurd q (of_decide_eq_true hc1))
      · cases e1
        exact lv_icmp_ne hx hb hdg (show (pc : Int) + off = (x : Int) from hk) (fun q => absurd q (of_decide_eq_false hc1)) (fun _ => kk H ls locs cells slots hA)
    | lt =>
      obtain ⟨hdg, hnx⟩ : decode cc pc = .ok (.if_icmp .lt off, 3) ∧ nx = pc + 3 := hd
      subst hnx
      obtain ⟨a, b, r, rfl, ⟨hc1, e1⟩ | ⟨hc1, e1⟩⟩ := ex_ic_v (show ex_ic (fun x y => decide (x < y)) x (pc + 3) lv st h = some (.inl f) from hs)
      · cases e1
        exact lv_icmp_lt hx hb hdg (show (pc : Int) + off = (x : Int) from hk) (fun _ => kk H ls locs cells slots hA) (fun q => absurd (of_decide_eq_true hc1) q)
      · cases e1
        exact lv_icmp_lt hx hb hdg (show (pc : Int) + off = (x : Int) from hk) (fun q => absurd q (of_decide_eq_false hc1)) (fun _ => kk H ls locs cells slots hA)
    | ge =>
      obtain ⟨hdg, hnx⟩ : decode cc pc = .ok (.if_icmp .ge off, 3) ∧ nx = pc + 3 := hd
      subst hnx
      obtain ⟨a, b, r, rfl, ⟨hc1, e1⟩ | ⟨hc1, e1⟩⟩ := ex_ic_v (show ex_ic (fun x y => decide (y ≤ x)) x (pc + 3) lv st h = some (.inl f) from hs)
      · cases e1
        exact lv_icmp_ge hx hb hdg (show (pc : Int) + off = (x : Int) from hk) (fun _ => kk H ls locs cells slots hA) (fun q => absurd (of_decide_eq_true hc1) q)
      · cases e1
        exact lv_icmp_ge hx hb hdg (show (pc : Int) + off = (x : Int) from hk) (fun q => absurd q (of_decide_eq_false hc1)) (fun _ => kk H ls locs cells slots hA)
    | gt =>
      obtain ⟨hdg, hnx⟩ : decode cc pc = .ok (.if_icmp .gt off, 3) ∧ nx = pc + 3 := hd
      subst hnx
      obtain ⟨a, b, r, rfl, ⟨hc1, e1⟩ | ⟨hc1, e1⟩⟩ := ex_ic_v (show ex_ic (fun x y => decide (y < x)) x (pc + 3) lv st h = some (.inl f) from hs)
      · cases e1
        exact lv_icmp_gt hx hb hdg (show (pc : Int) + off = (x : Int) from hk) (fun _ => kk H ls locs cells slots hA) (fun q => absurd (of_decide_eq_true hc1) q)
      · cases e1
        exact lv_icmp_gt hx hb hdg (show (pc : Int) + off = (x : Int) from hk) (fun q => absurd q (of_decide_eq_false hc1)) (fun _ => kk H ls locs cells slots hA)
    | le =>
      obtain ⟨hdg, hnx⟩ : decode cc pc = .ok (.if_icmp .le off, 3) ∧ nx = pc + 3 := hd
      subst hnx
      obtain ⟨a, b, r, rfl, ⟨hc1, e1⟩ | ⟨hc1, e1⟩⟩ := ex_ic_v (show ex_ic (fun x y => decide (x ≤ y)) x (pc + 3) lv st h = some (.inl f) from hs)
      · cases e1
        exact lv_icmp_le hx hb hdg (show (pc : Int) + off = (x : Int) from hk) (fun _ => kk H ls locs cells slots hA) (fun q => absurd (of_decide_eq_true hc1) q)
      · cases e1
        exact lv_icmp_le hx hb hdg (show (pc : Int) + off = (x : Int) from hk) (fun q => absurd q (of_decide_eq_false hc1)) (fun _ => kk H ls locs cells slots hA)
  | goto off =>
    obtain ⟨hdg, hnx⟩ : decode cc pc = .ok (.goto off, 3) ∧ nx = pc + 3 := hd
    subst hnx
    cases (show ex_go x lv st h = some (.inl f) from hs)
    exact lv_goto hx hb hdg (show (pc : Int) + off = (x : Int) from hk) (kk H ls locs cells slots hA)
  | tableswitch d lo hi offs =>
    obtain ⟨len, hdg⟩ : ∃ len, decode cc pc = .ok (.tableswitch d lo hi offs, len) := hd
    obtain ⟨a, r, rfl, ⟨hc1, t, ht, e1⟩ | ⟨hc1, off, t, ho, ht, e1⟩⟩ := ex_tsw_v (show ex_tsw d lo hi offs pc lv st h = some (.inl f) from hs)
    · cases e1
      exact lv_tableOut hx hb hdg hc1 ht (kk H ls locs cells slots hA)
    · cases e1
      exact lv_tableIn hx hb hdg (fun q => hc1 (Or.inl q)) (fun q => hc1 (Or.inr q)) ho ht (kk H ls locs cells slots hA)
  | lookupswitch d ps =>
    obtain ⟨⟨len, hdg⟩, hps⟩ : (∃ len, decode cc pc = .ok (.lookupswitch d ps, len)) ∧ (ps.toList.zip (ps.toList.drop 1)).all (fun (a, next) => a.1 < next.1) = true := hd
    obtain ⟨a, r, t, rfl, ht, e1⟩ := ex_lsw_v (show ex_lsw d ps pc lv st h = some (.inl f) from hs)
    cases e1
    exact lv_lookup hx hb hdg hps rfl ht (kk H ls locs cells slots hA)
  | dup =>
    obtain ⟨hdg, hnx⟩ : decode cc pc = .ok (.dup, 1) ∧ nx = pc + 1 := hd
    subst hnx
    obtain ⟨v, r, hv, rfl, e1⟩ := ex_dup_v (show ex_dup (pc + 1) lv st h = some (.inl f) from hs)
    cases e1
    exact lv_dup hx hb hdg (by rw [ex_cat]; exact hv) (kk H ls locs cells slots hA)
  | pop =>
    obtain ⟨hdg, hnx⟩ : decode cc pc = .ok (.pop, 1) ∧ nx = pc + 1 := hd
    subst hnx
    obtain ⟨v, r, hv, rfl, e1⟩ := ex_pop_v (show ex_pop (pc + 1) lv st h = some (.inl f) from hs)
    cases e1
    exact lv_pop hx hb hdg (by rw [ex_cat]; exact hv) (kk H ls locs cells slots hA)
  | dup_x1 =>
    obtain ⟨hdg, hnx⟩ : decode cc pc = .ok (.dup_x1, 1) ∧ nx = pc + 1 := hd
    subst hnx
    obtain ⟨v, u, r, hv, hu, rfl, e1⟩ := ex_dupx1_v (show ex_dupx1 (pc + 1) lv st h = some (.inl f) from hs)
    cases e1
    exact lv_dup_x1 hx hb hdg (by rw [ex_cat]; exact hv) (by rw [ex_cat]; exact hu) (kk H ls locs cells slots hA)
  | dup2 =>
    obtain ⟨hdg, hnx⟩ : decode cc pc = .ok (.dup2, 1) ∧ nx = pc + 1 := hd
    subst hnx
    obtain ⟨v, u, r, rfl, ⟨hv, e1⟩ | ⟨hv, hu, e1⟩⟩ := ex_dup2_v (show ex_dup2 (pc + 1) lv st h = some (.inl f) from hs)
    · cases e1
      exact lv_dup2_2 hx hb hdg (by rw [ex_cat]; exact hv) (kk H ls locs cells slots hA)
    · cases e1
      exact lv_dup2_11 hx hb hdg (by rw [ex_cat]; exact hv) (by rw [ex_cat]; exact hu) (kk H ls locs cells slots hA)
  | getfield i =>
    obtain ⟨hdg, hnx⟩ : decode cc pc = .ok (.getfield i, 3) ∧ nx = pc + 3 := hd
    subst hnx
    obtain ⟨j, fs, v, r, hj, hv, rfl, e1⟩ := ex_gf_v (show ex_gf g x y (pc + 3) lv st h = some (.inl f) from hs)
    cases e1
    obtain ⟨k1, k2⟩ : (∀ r : vw_C, ex_cl[x]? = some r → y < r.2.2) ∧ Jvm.Cond.fieldLink own i (ex_fd x y).1 (ex_fd x y).2.1 (ex_fd x y).2.2.1 ∈ ex_wall := hk
    exact ex_kget C0 hW hS hj hv k1 k2 hdg (kk H ls locs cells slots hA)
  | putfield i =>
    obtain ⟨hdg, hnx⟩ : decode cc pc = .ok (.putfield i, 3) ∧ nx = pc + 3 := hd
    subst hnx
    obtain ⟨j, fs, v, r, ty, hj, hlt, hty, hfit, rfl, e1⟩ := ex_pf_v (show ex_pf g (ex_ft x) x y (pc + 3) lv st h = some (.inl f) from hs)
    cases e1
    obtain ⟨r0, k1, k2, k3, k4⟩ : ∃ r : vw_C, ex_cl[x]? = some r ∧ y < r.2.2 ∧ Jvm.Cond.fieldLink own i (r.2.1 y).1 (r.2.1 y).2.1 (r.2.1 y).2.2.1 ∈ ex_wall ∧ ((r.2.1 y).2.2.2 = false ∨ ((r.2.1 y).2.2.2 = true ∧ mn = "<init>" ∧ (r.2.1 y).1 = own)) := hk
    refine ex_kput C0 hW hS hj hlt hty hfit k1 k2 k3 k4 hdg (fun H1 locs1 hW1 hS1 => kk H1 ls locs1 cells slots ⟨hl, hW1, hS1, ?_, hsl⟩)
    show cells + n0 = (h.1.set _ _).length
    rw [List.length_set]; exact hc
  | arraylength =>
    obtain ⟨hdg, hnx⟩ : decode cc pc = .ok (.arraylength, 1) ∧ nx = pc + 1 := hd
    subst hnx
    obtain ⟨j, t, n, q, r, hj, ht, rfl, e1⟩ := ex_len_v (show ex_len g (pc + 1) lv st h = some (.inl f) from hs)
    cases e1
    exact ex_klen C0 hW hS hj ht hdg (kk H ls locs cells slots hA)
  | iaload =>
    obtain ⟨hdg, hnx⟩ : decode cc pc = .ok (.iaload, 1) ∧ nx = pc + 1 := hd
    subst hnx
    obtain ⟨i, j, k, n, q, r, hj, hk1, hin, rfl, e1⟩ := ex_xld_v (show ex_xld g 0 0 (pc + 1) lv st h = some (.inl f) from hs)
    cases e1
    have hk2 : k = 0 := hk1.elim id id
    subst hk2
    exact ex_kxld C0 hW hS hj hin hdg (kk H ls locs cells slots hA)
  | baload =>
    obtain ⟨hdg, hnx⟩ : decode cc pc = .ok (.baload, 1) ∧ nx = pc + 1 := hd
    subst hnx
    obtain ⟨i, j, k, n, q, r, hj, hk1, hin, rfl, e1⟩ := ex_xld_v (show ex_xld g 1 2 (pc + 1) lv st h = some (.inl f) from hs)
    cases e1
    exact ex_kbld C0 hW hS hj hk1 hin hdg (kk H ls locs cells slots hA)
  | laload =>
    obtain ⟨hdg, hnx⟩ : decode cc pc = .ok (.laload, 1) ∧ nx = pc + 1 := hd
    subst hnx
    obtain ⟨i, j, n, q, r, hj, hin, rfl, e1⟩ := ex_xlld_v (show ex_xlld g (pc + 1) lv st h = some (.inl f) from hs)
    cases e1
    exact va_lald hx hb hK (ex_one (hW.at hj)) 0 3 rfl rfl hin hdg (kk H ls locs cells slots hA)
  | aaload =>
    obtain ⟨hdg, hnx⟩ : decode cc pc = .ok (.aaload, 1) ∧ nx = pc + 1 := hd
    subst hnx
    obtain ⟨i, j, n, q, v, r, hj, hin, hv, rfl, e1⟩ := ex_xald_v (show ex_xald g (pc + 1) lv st h = some (.inl f) from hs)
    cases e1
    refine va_aldq hx hb hK (ex_one (hW.at hj)) 0 4 rfl rfl hin hdg ?_
    rw [show ((q j.toNatClampNeg).map (ex_ad g o)) = some (ex_ad g o v) by rw [hv]; rfl]
    exact kk H ls locs cells slots hA
  | iastore =>
    obtain ⟨hdg, hnx⟩ : decode cc pc = .ok (.iastore, 1) ∧ nx = pc + 1 := hd
    subst hnx
    obtain ⟨i, j, n, q, v, r, hj, hin, rfl, e1⟩ := ex_xst_v (show ex_xst g (pc + 1) lv st h = some (.inl f) from hs)
    cases e1
    refine ex_kiast C0 hW hS hj hin hdg (fun H1 locs1 hW1 hS1 => kk H1 ls locs1 cells slots ⟨hl, hW1, hS1, ?_, hsl⟩)
    show cells + n0 = (h.1.set _ _).length
    rw [List.length_set]; exact hc
  | lastore =>
    obtain ⟨hdg, hnx⟩ : decode cc pc = .ok (.lastore, 1) ∧ nx = pc + 1 := hd
    subst hnx
    obtain ⟨i, j, n, q, v, r, hj, hin, rfl, e1⟩ := ex_xlst_v (show ex_xlst g (pc + 1) lv st h = some (.inl f) from hs)
    cases e1
    refine ex_klast C0 hW hS hj hin hdg (fun H1 locs1 hW1 hS1 => kk H1 ls locs1 cells slots ⟨hl, hW1, hS1, ?_, hsl⟩)
    show cells + n0 = (h.1.set _ _).length
    rw [List.length_set]; exact hc
  | bastore =>
    obtain ⟨hdg, hnx⟩ : decode cc pc = .ok (.bastore, 1) ∧ nx = pc + 1 := hd
    subst hnx
    obtain ⟨i, j, n, q, v, r, hin, rfl, ⟨hj, e1⟩ | ⟨hj, e1⟩⟩ := ex_xbst_v (show ex_xbst g (pc + 1) lv st h = some (.inl f) from hs)
    · cases e1
      refine ex_kbast C0 hW hS hj hin hdg (fun H1 locs1 hW1 hS1 => kk H1 ls locs1 cells slots ⟨hl, hW1, hS1, ?_, hsl⟩)
      show cells + n0 = (h.1.set _ _).length
      rw [List.length_set]; exact hc
    · cases e1
      refine ex_kzast C0 hW hS hj hin hdg (fun H1 locs1 hW1 hS1 => kk H1 ls locs1 cells slots ⟨hl, hW1, hS1, ?_, hsl⟩)
      show cells + n0 = (h.1.set _ _).length
      rw [List.length_set]; exact hc
  | aastore =>
    obtain ⟨hdg, hnx⟩ : decode cc pc = .ok (.aastore, 1) ∧ nx = pc + 1 := hd
    subst hnx
    obtain ⟨i, j, n, q, v, fs, r, hj, hin, hv1, hv2, rfl, e1⟩ := ex_xast_v (show ex_xast g (pc + 1) lv st h = some (.inl f) from hs)
    cases e1
    refine ex_kaast C0 hW hS hj hv1 hv2 hin hdg (fun H1 locs1 hW1 hS1 => kk H1 ls locs1 cells slots ⟨hl, hW1, hS1, ?_, hsl⟩)
    show cells + n0 = (h.1.set _ _).length
    rw [List.length_set]; exact hc
  | new i =>
    obtain ⟨hdg, hnx⟩ : decode cc pc = .ok (.new i, 3) ∧ nx = pc + 3 := hd
    subst hnx
    cases (show ex_go (pc + 3) lv (.ref (g.1 + h.1.length) :: st) (h.1 ++ [.inl (x, (ex_ft x).map defaultValue)], h.2 + (ex_ft x).length) = some (.inl f) from hs)
    obtain ⟨r, k1, k2, k3, k4⟩ : ∃ r : vw_C, ex_cl[x]? = some r ∧ Jvm.Cond.classLink own i r.1 ∈ ex_wall ∧ Jvm.Cond.instantiable r.1 r.2.2 ∈ ex_wall ∧ Jvm.Cond.initialized r.1 ∈ ex_wall := hk
    have hm1 : (h.1 ++ [Sum.inl (x, (ex_ft x).map defaultValue)]).length ≤ R.cells + n0 := hm1
    have hm2 : h.2 + (ex_ft x).length ≤ R.slots + s0 := hm2
    rw [List.length_append, List.length_singleton] at hm1
    have hc : cells + n0 = h.1.length := hc
    have hsl : slots + s0 = h.2 := hsl
    refine ex_knew C0 hW hS k1 k2 k3 k4 (by omega) (by omega) hdg (fun H1 hW1 hS1 => kk H1 ls locs (cells + 1) (slots + (ex_ft x).length) ⟨hl, hW1, hS1, ?_, ?_⟩)
    · show cells + 1 + n0 = (h.1 ++ [Sum.inl (x, (ex_ft x).map defaultValue)]).length
      rw [List.length_append, List.length_singleton]; omega
    · show slots + (ex_ft x).length + s0 = h.2 + (ex_ft x).length
      omega
  | newarray t =>
    obtain ⟨hdg, hnx⟩ : decode cc pc = .ok (.newarray t, 2) ∧ nx = pc + 2 := hd
    subst hnx
    obtain ⟨n, r, k, zz, hn, hN, hz, rfl, e1⟩ := ex_newa_v (show ex_newa g t (pc + 2) lv st h = some (.inl f) from hs)
    cases e1
    have hm1 : (h.1 ++ [(Sum.inr (k, n.toNatClampNeg, zz) : ex_C)]).length ≤ R.cells + n0 := hm1
    have hm2 : h.2 + n.toNatClampNeg ≤ R.slots + s0 := hm2
    rw [List.length_append, List.length_singleton] at hm1
    have hc : cells + n0 = h.1.length := hc
    have hsl : slots + s0 = h.2 := hsl
    refine ex_knewa C0 hW hS hz hn hN (show Jvm.Cond.arrayClass (newarray.typeOf t) ∈ ex_wall from hk) (by omega) (by omega) hdg (fun H1 hW1 hS1 => kk H1 ls locs (cells + 1) (slots + n.toNatClampNeg) ⟨hl, hW1, hS1, ?_, ?_⟩)
    · show cells + 1 + n0 = (h.1 ++ [(Sum.inr (k, n.toNatClampNeg, zz) : ex_C)]).length
      rw [List.length_append, List.length_singleton]; omega
    · show slots + n.toNatClampNeg + s0 = h.2 + n.toNatClampNeg
      omega
  | anewarray i =>
    obtain ⟨hdg, hnx⟩ : decode cc pc = .ok (.anewarray i, 3) ∧ nx = pc + 3 := hd
    subst hnx
    obtain ⟨n, r, hn, hN, rfl, e1⟩ := ex_newq_v (show ex_newq g (pc + 3) lv st h = some (.inl f) from hs)
    cases e1
    have hm1 : (h.1 ++ [(Sum.inr (4, n.toNatClampNeg, .inr (.inr (.inr (.inr (fun _ => none))))) : ex_C)]).length ≤ R.cells + n0 := hm1
    have hm2 : h.2 + n.toNatClampNeg ≤ R.slots + s0 := hm2
    rw [List.length_append, List.length_singleton] at hm1
    have hc : cells + n0 = h.1.length := hc
    have hsl : slots + s0 = h.2 := hsl
    refine ex_knewq C0 hW hS hn hN hk.1 hk.2 (by omega) (by omega) hdg (fun H1 hW1 hS1 => kk H1 ls locs (cells + 1) (slots + n.toNatClampNeg) ⟨hl, hW1, hS1, ?_, ?_⟩)
    · show cells + 1 + n0 = (h.1 ++ [(Sum.inr (4, n.toNatClampNeg, .inr (.inr (.inr (.inr (fun _ => none))))) : ex_C)]).length
      rw [List.length_append, List.length_singleton]; omega
    · show slots + n.toNatClampNeg + s0 = h.2 + n.toNatClampNeg
      omega
  | invokespecial i =>
    obtain ⟨hdg, hnx⟩ : decode cc pc = .ok (.invokespecial i, 3) ∧ nx = pc + 3 := hd
    subst hnx
    replace hs : ex_callI x y (pc + 3) lv st h = some (.inl f) := hs
    unfold ex_callI at hs
    rcases (show (x = 1000000 ∧ Jvm.Cond.methodLink own i objectInit ∈ ex_wall ∧ Jvm.Cond.instanceMethod objectInit ∈ ex_wall ∧ Jvm.Cond.code objectInit ⟨#[0xb1]⟩ 1 none ∈ ex_wall) ∨ (¬ x = 1000000 ∧ ∃ M : ex_M, P x = some M ∧ M.1.name = "<init>" ∧ M.2.2.2.1 = none ∧ Jvm.Cond.methodLink own i M.1 ∈ ex_wall ∧ Jvm.Cond.instanceMethod M.1 ∈ ex_wall ∧ (parseMethodDescriptor M.1.desc).map (fun d => d.parameters.length) = some y) from hk) with ⟨hx0, k1, k2, k3⟩ | ⟨hx0, -⟩
    · subst hx0
      rw [show Nat.beq 1000000 1000000 = true from rfl] at hs
      simp only [cond_true] at hs
      split at hs
      · rename_i b r
        cases hw : Nat.ble (ex_w r) 8 with
        | false => rw [hw] at hs; cases hs
        | true =>
          rw [hw] at hs
          cases (show some (Sum.inl (pc + 3, lv, r, h)) = some (Sum.inl f) from hs)
          refine W.objInit hx hb hown (hts _ k1) (hts _ k2) (hts _ k3) (g := F0 m pc ls ((Value.ref b :: r).map (ex_cv g o))) rfl (hl.1.trans hml.symm) (a := ex_ad g o b) (rest := r.map (ex_cv g o)) rfl hdg hRf ?_ (kk H ls locs cells slots hA)
          show 2 * 0 + _ + 12 ≤ _
          rw [ex_wm]
          have := Nat.le_of_ble_eq_true hw
          omega
      · cases hs
    · have hb0 : Nat.beq x 1000000 = false := by
        cases hq : Nat.beq x 1000000 with
        | false => rfl
        | true => exact absurd (Nat.eq_of_beq_eq_true hq) hx0
      rw [hb0] at hs
      simp only [cond_false] at hs
      split at hs
      · rename_i b r hdr
        cases hq : (Nat.ble (ex_w r) 8 && Nat.beq (st.take y).length y) with
        | false => rw [hq] at hs; cases hs
        | true => rw [hq] at hs; cases hs
      · cases hs
  | invokestatic i =>
    obtain ⟨hdg, hnx⟩ : decode cc pc = .ok (.invokestatic i, 3) ∧ nx = pc + 3 := hd
    subst hnx
    replace hs : ex_callS g x y (pc + 3) lv st h = some (.inl f) := hs
    unfold ex_callS at hs
    rcases (show (x = 1000000 ∧ Jvm.Cond.methodLink own i arraycopyName ∈ ex_wall ∧ Jvm.Cond.native arraycopyName ∈ ex_wall ∧ Jvm.Cond.static arraycopyName ∈ ex_wall ∧ Jvm.Cond.initialized "java/lang/System" ∈ ex_wall) ∨ (¬ x = 1000000 ∧ ∃ M : ex_M, P x = some M ∧ Jvm.Cond.methodLink own i M.1 ∈ ex_wall ∧ Jvm.Cond.static M.1 ∈ ex_wall ∧ (parseMethodDescriptor M.1.desc).map (fun d => d.parameters.length) = some y) from hk) with ⟨hx0, k1, k2, k3, k4⟩ | ⟨hx0, -⟩
    · subst hx0
      rw [show Nat.beq 1000000 1000000 = true from rfl] at hs
      simp only [cond_true] at hs
      obtain ⟨n, dp, b, sp, a, r, n1, q1, n2, q2, ha, hb2, hn0, h1, h2, h3, h4, h5, hw, rfl, e1⟩ := ex_cpy_v hs
      cases e1
      exact ex_kcpy C0 hW hS hl.1 ha hb2 hn0 h1 h2 h3 h4 h5 (by rw [ex_wm]; exact hw) k1 k2 k3 k4 hdg (fun H1 locs1 hW1 hS1 => kk H1 ls locs1 cells slots ⟨hl, hW1, hS1, hc, hsl⟩)
    · have hb0 : Nat.beq x 1000000 = false := by
        cases hq : Nat.beq x 1000000 with
        | false => rfl
        | true => exact absurd (Nat.eq_of_beq_eq_true hq) hx0
      rw [hb0] at hs
      simp only [cond_false] at hs
      cases hq : (Nat.ble (ex_w (st.drop y)) 8 && Nat.beq (st.take y).length y) with
      | false => rw [hq] at hs; cases hs
      | true => rw [hq] at hs; cases hs
  | invokevirtual i =>
    obtain ⟨hdg, hnx⟩ : decode cc pc = .ok (.invokevirtual i, 3) ∧ nx = pc + 3 := hd
    subst hnx
    replace hs : ex_callV g x y z (pc + 3) lv st h = some (.inl f) := hs
    unfold ex_callV at hs
    split at hs
    · split at hs
      · rename_i b r hdr _ cj fs hg
        cases hq : (Nat.beq z cj && Nat.ble (ex_w r) 8 && Nat.beq (st.take y).length y) with
        | false => rw [hq] at hs; cases hs
        | true => rw [hq] at hs; cases hs
      · cases hs
    · cases hs
  | ireturn =>
    replace hs : ex_ret rt st h = some (.inl f) := hs
    unfold ex_ret at hs
    split at hs
    · cases hs
    · rename_i v
      cases hq : (v == 0 || v == 1) with
      | false => rw [hq] at hs; cases hs
      | true => rw [hq] at hs; cases hs
    · rename_i v
      cases hq : decide (narrow .char (.int v) = .int v) with
      | false => rw [hq] at hs; cases hs
      | true => rw [hq] at hs; cases hs
    · rename_i v
      cases hq : decide (narrow .byte (.int v) = .int v) with
      | false => rw [hq] at hs; cases hs
      | true => rw [hq] at hs; cases hs
    · cases hs
  | lreturn =>
    replace hs : ex_lret rt st h = some (.inl f) := hs
    unfold ex_lret at hs
    split at hs
    · cases hs
    · cases hs
  | areturn =>
    replace hs : ex_aret rt st h = some (.inl f) := hs
    unfold ex_aret at hs
    split at hs
    · cases hs
    · cases hs
  | return_ =>
    replace hs : ex_vret rt st h = some (.inl f) := hs
    unfold ex_vret at hs
    split at hs
    · cases hs
    · cases hs
  | _ => cases (show (none : Option ex_O) = some (.inl f) from hs)
end EXN
end
section
/-! ===== returns, calls, the loop: what the interpreter runs, the machine runs ===== -/
def ex_isR (i : Instr) : Nat := match i with
  | .ireturn => 1
  | .lreturn => 2
  | .areturn => 3
  | .return_ => 4
  | _ => 0
def ex_isC (i : Instr) : Nat := match i with
  | .invokevirtual _ => 1
  | .invokespecial _ => 2
  | .invokestatic _ => 3
  | _ => 0
section EXR
variable {g : ex_G} {nL : Nat} {rt : Option FieldType} {pc nx x y z : Nat} {lv : ex_V} {st : List Value} {h : ex_H} {q : ex_O}
def ex_kd (ins : Instr) (h : ex_H) (q : ex_O) : Prop :=
  (∃ f : ex_F, q = .inl f ∧ h.1.length ≤ f.2.2.2.1.length ∧ h.2 ≤ f.2.2.2.2) ∨ (∃ r : Option Value, q = .inr (.inl (r, h)) ∧ ¬ ex_isR ins = 0) ∨ (∃ (k : Nat) (as : List Value) (f : ex_F), q = .inr (.inr (k, as, f)) ∧ f.2.2.2 = h ∧ ¬ ex_isC ins = 0)
theorem ex_kd_go {ins : Instr} {f : ex_F} (e : q = .inl f) (h1 : f.2.2.2 = h) : ex_kd ins h q := Or.inl ⟨f, e, by rw [h1]; exact Nat.le_refl _, by rw [h1]; exact Nat.le_refl _⟩
theorem ex_kd_set {ins : Instr} {a : Nat} {v : ex_V} {r : List Value} {i : Nat} {c : ex_C} (e : q = .inl (a, v, r, ex_set g h i c)) : ex_kd ins h q := Or.inl ⟨_, e, by show h.1.length ≤ (h.1.set _ _).length; rw [List.length_set]; exact Nat.le_refl _, Nat.le_refl _⟩
theorem ex_kd_new {ins : Instr} {a n : Nat} {v : ex_V} {r : List Value} {c : ex_C} (e : q = .inl (a, v, r, (h.1 ++ [c], h.2 + n))) : ex_kd ins h q := Or.inl ⟨_, e, by show h.1.length ≤ (h.1 ++ [c]).length; rw [List.length_append]; exact Nat.le_add_right _ _, Nat.le_add_right _ _⟩
theorem ex_callV_v {k n ci : Nat} (hq : ex_callV g k n ci nx lv st h = some q) : ∃ (A : List Value) (b : Nat) (r fs : List Value), st = A ++ .ref b :: r ∧ A.length = n ∧ ex_get g h b = some (.inl (ci, fs)) ∧ ex_w r ≤ 8 ∧ q = .inr (.inr (k, .ref b :: A.reverse, (nx, lv, r, h))) := by
  unfold ex_callV at hq
  split at hq
  · rename_i b r hdr
    split at hq
    · rename_i cj fs hg
      cases hb : (Nat.beq ci cj && Nat.ble (ex_w r) 8 && Nat.beq (st.take n).length n) with
      | false => rw [hb] at hq; cases hq
      | true =>
        rw [hb] at hq
        cases hq
        rw [Bool.and_eq_true, Bool.and_eq_true] at hb
        have e := Nat.eq_of_beq_eq_true hb.1.1
        subst e
        exact ⟨st.take n, b, r, fs, by rw [← hdr, List.take_append_drop], Nat.eq_of_beq_eq_true hb.2, hg, Nat.le_of_ble_eq_true hb.1.2, rfl⟩
    · cases hq
  · cases hq
theorem ex_callI_v {k n : Nat} (hk : ¬ k = 1000000) (hq : ex_callI k n nx lv st h = some q) : ∃ (A : List Value) (b : Nat) (r : List Value), st = A ++ .ref b :: r ∧ A.length = n ∧ ex_w r ≤ 8 ∧ q = .inr (.inr (k, .ref b :: A.reverse, (nx, lv, r, h))) := by
  unfold ex_callI at hq
  have hb0 : Nat.beq k 1000000 = false := by
    cases hb : Nat.beq k 1000000 with
    | false => rfl
    | true => exact absurd (Nat.eq_of_beq_eq_true hb) hk
  rw [hb0] at hq
  simp only [cond_false] at hq
  split at hq
  · rename_i b r hdr
    cases hb : (Nat.ble (ex_w r) 8 && Nat.beq (st.take n).length n) with
    | false => rw [hb] at hq; cases hq
    | true =>
      rw [hb] at hq
      cases hq
      rw [Bool.and_eq_true] at hb
      exact ⟨st.take n, b, r, by rw [← hdr, List.take_append_drop], Nat.eq_of_beq_eq_true hb.2, Nat.le_of_ble_eq_true hb.1, rfl⟩
  · cases hq
theorem ex_callI_go {n : Nat} (hq : ex_callI 1000000 n nx lv st h = some q) : ∃ (a : Nat) (r : List Value), st = .ref a :: r ∧ ex_w r ≤ 8 ∧ q = .inl (nx, lv, r, h) := by
  unfold ex_callI at hq
  rw [show Nat.beq 1000000 1000000 = true from rfl] at hq
  simp only [cond_true] at hq
  split at hq
  · rename_i a r
    cases hb : Nat.ble (ex_w r) 8 with
    | false => rw [hb] at hq; cases hq
    | true => rw [hb] at hq; cases hq; exact ⟨a, r, rfl, Nat.le_of_ble_eq_true hb, rfl⟩
  · cases hq
theorem ex_callS_v {k n : Nat} (hk : ¬ k = 1000000) (hq : ex_callS g k n nx lv st h = some q) : ∃ (A r : List Value), st = A ++ r ∧ A.length = n ∧ ex_w r ≤ 8 ∧ q = .inr (.inr (k, A.reverse, (nx, lv, r, h))) := by
  unfold ex_callS at hq
  have hb0 : Nat.beq k 1000000 = false := by
    cases hb : Nat.beq k 1000000 with
    | false => rfl
    | true => exact absurd (Nat.eq_of_beq_eq_true hb) hk
  rw [hb0] at hq
  simp only [cond_false] at hq
  cases hb : (Nat.ble (ex_w (st.drop n)) 8 && Nat.beq (st.take n).length n) with
  | false => rw [hb] at hq; cases hq
  | true =>
    rw [hb] at hq
    cases hq
    rw [Bool.and_eq_true] at hb
    exact ⟨st.take n, st.drop n, (List.take_append_drop n st).symm, Nat.eq_of_beq_eq_true hb.2, Nat.le_of_ble_eq_true hb.1, rfl⟩
theorem ex_callS_go {n : Nat} (hq : ex_callS g 1000000 n nx lv st h = some q) : ex_cpy g nx lv st h = some q := hq
theorem ex_ret_v (hq : ex_ret rt st h = some q) : ∃ (v : Int32) (ty : FieldType), rt = some ty ∧ st = [.int v] ∧ narrow ty (.int v) = .int v ∧ q = .inr (.inl (some (.int v), h)) := by
  unfold ex_ret at hq
  split at hq
  · rename_i v
    cases hq
    exact ⟨v, _, rfl, rfl, rfl, rfl⟩
  · rename_i v
    cases hb : (v == 0 || v == 1) with
    | false => rw [hb] at hq; cases hq
    | true =>
      rw [hb] at hq
      cases hq
      refine ⟨v, _, rfl, rfl, ?_, rfl⟩
      rw [Bool.or_eq_true] at hb
      rcases hb with hb | hb
      · have e : v = 0 := by simpa using hb
        subst e
        rfl
      · have e : v = 1 := by simpa using hb
        subst e
        rfl
  · rename_i v
    cases hb : decide (narrow .char (.int v) = .int v) with
    | false => rw [hb] at hq; cases hq
    | true => rw [hb] at hq; cases hq; exact ⟨v, _, rfl, rfl, of_decide_eq_true hb, rfl⟩
  · rename_i v
    cases hb : decide (narrow .byte (.int v) = .int v) with
    | false => rw [hb] at hq; cases hq
    | true => rw [hb] at hq; cases hq; exact ⟨v, _, rfl, rfl, of_decide_eq_true hb, rfl⟩
  · cases hq
theorem ex_lret_v (hq : ex_lret rt st h = some q) : ∃ v : Int64, rt = some .long ∧ st = [.long v] ∧ q = .inr (.inl (some (.long v), h)) := by
  unfold ex_lret at hq
  split at hq
  · cases hq; exact ⟨_, rfl, rfl, rfl⟩
  · cases hq
theorem ex_aret_v (hq : ex_aret rt st h = some q) : ∃ (v : Nat) (C : String), rt = some (.object C) ∧ st = [.ref v] ∧ q = .inr (.inl (some (.ref v), h)) := by
  unfold ex_aret at hq
  split at hq
  · cases hq; exact ⟨_, _, rfl, rfl, rfl⟩
  · cases hq
theorem ex_vret_v (hq : ex_vret rt st h = some q) : rt = none ∧ st = [] ∧ q = .inr (.inl (none, h)) := by
  unfold ex_vret at hq
  split at hq
  · cases hq; exact ⟨rfl, rfl, rfl⟩
  · cases hq
set_option maxHeartbeats 4000000 in
/-- an instruction goes on, or returns, or calls; the heap doesn't shrink -/
theorem ex_kind {ins : Instr} (hs : ex_step g nL rt (ins, x, y, z, nx) pc lv st h = some q) : ex_kd ins h q := by
  cases ins with
  | iconst n =>
    cases (show ex_go nx lv (.int (Int32.ofInt n) :: st) h = some q from hs)
    exact ex_kd_go rfl rfl
  | bipush n =>
    cases (show ex_go nx lv (.int (Int8.ofInt n).toInt32 :: st) h = some q from hs)
    exact ex_kd_go rfl rfl
  | sipush n =>
    cases (show ex_go nx lv (.int (Int16.ofInt n).toInt32 :: st) h = some q from hs)
    exact ex_kd_go rfl rfl
  | lconst n =>
    cases (show ex_go nx lv (.long (Int64.ofNat (n : Nat)) :: st) h = some q from hs)
    exact ex_kd_go rfl rfl
  | ldc2_w i =>
    cases (show ex_go nx lv (.long (Int64.ofNat x) :: st) h = some q from hs)
    exact ex_kd_go rfl rfl
  | ldc i =>
    have hs : ex_ldc x y nx lv st h = some q := hs
    unfold ex_ldc at hs
    cases hb : Nat.beq y 0 with
    | true => rw [hb] at hs; cases (show some _ = some q from hs); exact ex_kd_go rfl rfl
    | false => rw [hb] at hs; cases (show some _ = some q from hs); exact ex_kd_go rfl rfl
  | ldc_w i =>
    have hs : ex_ldc x y nx lv st h = some q := hs
    unfold ex_ldc at hs
    cases hb : Nat.beq y 0 with
    | true => rw [hb] at hs; cases (show some _ = some q from hs); exact ex_kd_go rfl rfl
    | false => rw [hb] at hs; cases (show some _ = some q from hs); exact ex_kd_go rfl rfl
  | getstatic i =>
    have hs : ex_ldc x y nx lv st h = some q := hs
    unfold ex_ldc at hs
    cases hb : Nat.beq y 0 with
    | true => rw [hb] at hs; cases (show some _ = some q from hs); exact ex_kd_go rfl rfl
    | false => rw [hb] at hs; cases (show some _ = some q from hs); exact ex_kd_go rfl rfl
  | iload_n k =>
    obtain ⟨_, _, e1⟩ := ex_ild_v (show ex_ild k nx lv st h = some q from hs)
    exact ex_kd_go e1 rfl
  | iload k =>
    obtain ⟨_, _, e1⟩ := ex_ild_v (show ex_ild k nx lv st h = some q from hs)
    exact ex_kd_go e1 rfl
  | lload_n k =>
    obtain ⟨_, _, e1⟩ := ex_lld1_v (show ex_lld1 k nx lv st h = some q from hs)
    exact ex_kd_go e1 rfl
  | lload k =>
    obtain ⟨_, _, e1⟩ := ex_lld1_v (show ex_lld1 k nx lv st h = some q from hs)
    exact ex_kd_go e1 rfl
  | aload_n k =>
    obtain ⟨_, _, e1⟩ := ex_ald_v (show ex_ald k nx lv st h = some q from hs)
    exact ex_kd_go e1 rfl
  | aload k =>
    obtain ⟨_, _, e1⟩ := ex_ald_v (show ex_ald k nx lv st h = some q from hs)
    exact ex_kd_go e1 rfl
  | istore_n k =>
    obtain ⟨_, _, _, _, e1⟩ := ex_ist_v (show ex_ist nL k nx lv st h = some q from hs)
    exact ex_kd_go e1 rfl
  | istore k =>
    obtain ⟨_, _, _, _, e1⟩ := ex_ist_v (show ex_ist nL k nx lv st h = some q from hs)
    exact ex_kd_go e1 rfl
  | lstore_n k =>
    obtain ⟨_, _, _, _, e1⟩ := ex_lst_v (show ex_lst nL k nx lv st h = some q from hs)
    exact ex_kd_go e1 rfl
  | lstore k =>
    obtain ⟨_, _, _, _, e1⟩ := ex_lst_v (show ex_lst nL k nx lv st h = some q from hs)
    exact ex_kd_go e1 rfl
  | astore_n k =>
    obtain ⟨_, _, _, _, e1⟩ := ex_ast_v (show ex_ast nL k nx lv st h = some q from hs)
    exact ex_kd_go e1 rfl
  | astore k =>
    obtain ⟨_, _, _, _, e1⟩ := ex_ast_v (show ex_ast nL k nx lv st h = some q from hs)
    exact ex_kd_go e1 rfl
  | iinc k n =>
    obtain ⟨_, _, _, e1⟩ := ex_inc_v (show ex_inc nL k n nx lv st h = some q from hs)
    exact ex_kd_go e1 rfl
  | iadd =>
    obtain ⟨_, _, _, _, e1⟩ := ex_ii_v (show ex_ii (fun x y => x + y) nx lv st h = some q from hs)
    exact ex_kd_go e1 rfl
  | isub =>
    obtain ⟨_, _, _, _, e1⟩ := ex_ii_v (show ex_ii (fun x y => x - y) nx lv st h = some q from hs)
    exact ex_kd_go e1 rfl
  | imul =>
    obtain ⟨_, _, _, _, e1⟩ := ex_ii_v (show ex_ii (fun x y => x * y) nx lv st h = some q from hs)
    exact ex_kd_go e1 rfl
  | iand =>
    obtain ⟨_, _, _, _, e1⟩ := ex_ii_v (show ex_ii (fun x y => x &&& y) nx lv st h = some q from hs)
    exact ex_kd_go e1 rfl
  | ior =>
    obtain ⟨_, _, _, _, e1⟩ := ex_ii_v (show ex_ii (fun x y => x ||| y) nx lv st h = some q from hs)
    exact ex_kd_go e1 rfl
  | ixor =>
    obtain ⟨_, _, _, _, e1⟩ := ex_ii_v (show ex_ii (fun x y => x ^^^ y) nx lv st h = some q from hs)
    exact ex_kd_go e1 rfl
  | ishl =>
    obtain ⟨_, _, _, _, e1⟩ := ex_ii_v (show ex_ii (fun x y => x <<< (y &&& 31)) nx lv st h = some q from hs)
    exact ex_kd_go e1 rfl
  | ishr =>
    obtain ⟨_, _, _, _, e1⟩ := ex_ii_v (show ex_ii (fun x y => x >>> (y &&& 31)) nx lv st h = some q from hs)
    exact ex_kd_go e1 rfl
  | iushr =>
    obtain ⟨_, _, _, _, e1⟩ := ex_ii_v (show ex_ii (fun x y => (x.toUInt32 >>> (y.toUInt32 &&& Int32.toUInt32 31)).toInt32) nx lv st h = some q from hs)
    exact ex_kd_go e1 rfl
  | idiv =>
    obtain ⟨_, _, _, _, _, e1⟩ := ex_iid_v (show ex_iid (fun x y => x / y) nx lv st h = some q from hs)
    exact ex_kd_go e1 rfl
  | irem =>
    obtain ⟨_, _, _, _, _, e1⟩ := ex_iid_v (show ex_iid (fun x y => x - x / y * y) nx lv st h = some q from hs)
    exact ex_kd_go e1 rfl
  | ladd =>
    obtain ⟨_, _, _, _, e1⟩ := ex_ll_v (show ex_ll (fun x y => x + y) nx lv st h = some q from hs)
    exact ex_kd_go e1 rfl
  | lsub =>
    obtain ⟨_, _, _, _, e1⟩ := ex_ll_v (show ex_ll (fun x y => x - y) nx lv st h = some q from hs)
    exact ex_kd_go e1 rfl
  | lmul =>
    obtain ⟨_, _, _, _, e1⟩ := ex_ll_v (show ex_ll (fun x y => x * y) nx lv st h = some q from hs)
    exact ex_kd_go e1 rfl
  | land =>
    obtain ⟨_, _, _, _, e1⟩ := ex_ll_v (show ex_ll (fun x y => x &&& y) nx lv st h = some q from hs)
    exact ex_kd_go e1 rfl
  | lor =>
    obtain ⟨_, _, _, _, e1⟩ := ex_ll_v (show ex_ll (fun x y => x ||| y) nx lv st h = some q from hs)
    exact ex_kd_go e1 rfl
  | lxor =>
    obtain ⟨_, _, _, _, e1⟩ := ex_ll_v (show ex_ll (fun x y => x ^^^ y) nx lv st h = some q from hs)
    exact ex_kd_go e1 rfl
  | ldiv =>
    obtain ⟨_, _, _, _, _, e1⟩ := ex_lld_v (show ex_lld (fun x y => x / y) nx lv st h = some q from hs)
    exact ex_kd_go e1 rfl
  | lrem =>
    obtain ⟨_, _, _, _, _, e1⟩ := ex_lld_v (show ex_lld (fun x y => x - x / y * y) nx lv st h = some q from hs)
    exact ex_kd_go e1 rfl
  | lshl =>
    obtain ⟨_, _, _, _, e1⟩ := ex_li_v (show ex_li (fun x y => x <<< (y.toInt64 &&& 63)) nx lv st h = some q from hs)
    exact ex_kd_go e1 rfl
  | lshr =>
    obtain ⟨_, _, _, _, e1⟩ := ex_li_v (show ex_li (fun x y => x >>> (y.toInt64 &&& 63)) nx lv st h = some q from hs)
    exact ex_kd_go e1 rfl
  | lushr =>
    obtain ⟨_, _, _, _, e1⟩ := ex_li_v (show ex_li (fun x y => (x.toUInt64 >>> (y.toInt64.toUInt64 &&& Int64.toUInt64 63)).toInt64) nx lv st h = some q from hs)
    exact ex_kd_go e1 rfl
  | ineg =>
    obtain ⟨_, _, _, e1⟩ := ex_i_v (show ex_i (fun x => .int (-x)) nx lv st h = some q from hs)
    exact ex_kd_go e1 rfl
  | i2l =>
    obtain ⟨_, _, _, e1⟩ := ex_i_v (show ex_i (fun x => .long x.toInt64) nx lv st h = some q from hs)
    exact ex_kd_go e1 rfl
  | i2b =>
    obtain ⟨_, _, _, e1⟩ := ex_i_v (show ex_i (fun x => .int x.toInt8.toInt32) nx lv st h = some q from hs)
    exact ex_kd_go e1 rfl
  | i2c =>
    obtain ⟨_, _, _, e1⟩ := ex_i_v (show ex_i (fun x => .int (x.toUInt32 % 65536).toInt32) nx lv st h = some q from hs)
    exact ex_kd_go e1 rfl
  | lneg =>
    obtain ⟨_, _, _, e1⟩ := ex_l_v (show ex_l (fun x => .long (-x)) nx lv st h = some q from hs)
    exact ex_kd_go e1 rfl
  | l2i =>
    obtain ⟨_, _, _, e1⟩ := ex_l_v (show ex_l (fun x => .int x.toInt32) nx lv st h = some q from hs)
    exact ex_kd_go e1 rfl
  | lcmp =>
    obtain ⟨_, _, _, _, e1⟩ := ex_lc_v (show ex_lc nx lv st h = some q from hs)
    exact ex_kd_go e1 rfl
  | ifCond cnd off =>
    cases cnd with
    | eq =>
      obtain ⟨_, _, _, ⟨_, e1⟩ | ⟨_, e1⟩⟩ := ex_if_v (show ex_if (fun x => decide (x = 0)) x nx lv st h = some q from hs) <;> exact ex_kd_go e1 rfl
    | ne =>
      obtain ⟨_, _, _, ⟨_, e1⟩ | ⟨_, e1⟩⟩ := ex_if_v (show ex_if (fun x => decide (¬ x = 0)) x nx lv st h = some q from hs) <;> exact ex_kd_go e1 rfl
    | lt =>
      obtain ⟨_, _, _, ⟨_, e1⟩ | ⟨_, e1⟩⟩ := ex_if_v (show ex_if (fun x => decide (x < 0)) x nx lv st h = some q from hs) <;> exact ex_kd_go e1 rfl
    | ge =>
      obtain ⟨_, _, _, ⟨_, e1⟩ | ⟨_, e1⟩⟩ := ex_if_v (show ex_if (fun x => decide (0 ≤ x)) x nx lv st h = some q from hs) <;> exact ex_kd_go e1 rfl
    | gt =>
      obtain ⟨_, _, _, ⟨_, e1⟩ | ⟨_, e1⟩⟩ := ex_if_v (show ex_if (fun x => decide (0 < x)) x nx lv st h = some q from hs) <;> exact ex_kd_go e1 rfl
    | le =>
      obtain ⟨_, _, _, ⟨_, e1⟩ | ⟨_, e1⟩⟩ := ex_if_v (show ex_if (fun x => decide (x ≤ 0)) x nx lv st h = some q from hs) <;> exact ex_kd_go e1 rfl
  | if_icmp cnd off =>
    cases cnd with
    | eq =>
      obtain ⟨_, _, _, _, ⟨_, e1⟩ | ⟨_, e1⟩⟩ := ex_ic_v (show ex_ic (fun x y => decide (x = y)) x nx lv st h = some q from hs) <;> exact ex_kd_go e1 rfl
    | ne =>
      obtain ⟨_, _, _, _, ⟨_, e1⟩ | ⟨_, e1⟩⟩ := ex_ic_v (show ex_ic (fun x y => decide (¬ x = y)) x nx lv st h = some q from hs) <;> exact ex_kd_go e1 rfl
    | lt =>
      obtain ⟨_, _, _, _, ⟨_, e1⟩ | ⟨_, e1⟩⟩ := ex_ic_v (show ex_ic (fun x y => decide (x < y)) x nx lv st h = some q from hs) <;> exact ex_kd_go e1 rfl
    | ge =>
      obtain ⟨_, _, _, _, ⟨_, e1⟩ | ⟨_, e1⟩⟩ := ex_ic_v (show ex_ic (fun x y => decide (y ≤ x)) x nx lv st h = some q from hs) <;> exact ex_kd_go e1 rfl
    | gt =>
      obtain ⟨_, _, _, _, ⟨_, e1⟩ | ⟨_, e1⟩⟩ := ex_ic_v (show ex_ic (fun x y => decide (y < x)) x nx lv st h = some q from hs) <;> exact ex_kd_go e1 rfl
    | le =>
      obtain ⟨_, _, _, _, ⟨_, e1⟩ | ⟨_, e1⟩⟩ := ex_ic_v (show ex_ic (fun x y => decide (x ≤ y)) x nx lv st h = some q from hs) <;> exact ex_kd_go e1 rfl
  | goto off =>
    cases (show ex_go x lv st h = some q from hs)
    exact ex_kd_go rfl rfl
  | tableswitch d lo hi offs =>
    obtain ⟨_, _, _, ⟨_, _, _, e1⟩ | ⟨_, _, _, _, _, e1⟩⟩ := ex_tsw_v (show ex_tsw d lo hi offs pc lv st h = some q from hs) <;> exact ex_kd_go e1 rfl
  | lookupswitch d ps =>
    obtain ⟨_, _, _, _, _, e1⟩ := ex_lsw_v (show ex_lsw d ps pc lv st h = some q from hs)
    exact ex_kd_go e1 rfl
  | dup =>
    obtain ⟨_, _, _, _, e1⟩ := ex_dup_v (show ex_dup nx lv st h = some q from hs)
    exact ex_kd_go e1 rfl
  | pop =>
    obtain ⟨_, _, _, _, e1⟩ := ex_pop_v (show ex_pop nx lv st h = some q from hs)
    exact ex_kd_go e1 rfl
  | dup_x1 =>
    obtain ⟨_, _, _, _, _, _, e1⟩ := ex_dupx1_v (show ex_dupx1 nx lv st h = some q from hs)
    exact ex_kd_go e1 rfl
  | dup2 =>
    obtain ⟨_, _, _, _, ⟨_, e1⟩ | ⟨_, _, e1⟩⟩ := ex_dup2_v (show ex_dup2 nx lv st h = some q from hs) <;> exact ex_kd_go e1 rfl
  | getfield i =>
    obtain ⟨_, _, _, _, _, _, _, e1⟩ := ex_gf_v (show ex_gf g x y nx lv st h = some q from hs)
    exact ex_kd_go e1 rfl
  | putfield i =>
    obtain ⟨_, _, _, _, _, _, _, _, _, _, e1⟩ := ex_pf_v (show ex_pf g (ex_ft x) x y nx lv st h = some q from hs)
    exact ex_kd_set e1
  | arraylength =>
    obtain ⟨_, _, _, _, _, _, _, _, e1⟩ := ex_len_v (show ex_len g nx lv st h = some q from hs)
    exact ex_kd_go e1 rfl
  | iaload =>
    obtain ⟨_, _, _, _, _, _, _, _, _, _, e1⟩ := ex_xld_v (show ex_xld g 0 0 nx lv st h = some q from hs)
    exact ex_kd_go e1 rfl
  | baload =>
    obtain ⟨_, _, _, _, _, _, _, _, _, _, e1⟩ := ex_xld_v (show ex_xld g 1 2 nx lv st h = some q from hs)
    exact ex_kd_go e1 rfl
  | laload =>
    obtain ⟨_, _, _, _, _, _, _, _, e1⟩ := ex_xlld_v (show ex_xlld g nx lv st h = some q from hs)
    exact ex_kd_go e1 rfl
  | aaload =>
    obtain ⟨_, _, _, _, _, _, _, _, _, _, e1⟩ := ex_xald_v (show ex_xald g nx lv st h = some q from hs)
    exact ex_kd_go e1 rfl
  | iastore =>
    obtain ⟨_, _, _, _, _, _, _, _, _, e1⟩ := ex_xst_v (show ex_xst g nx lv st h = some q from hs)
    exact ex_kd_set e1
  | lastore =>
    obtain ⟨_, _, _, _, _, _, _, _, _, e1⟩ := ex_xlst_v (show ex_xlst g nx lv st h = some q from hs)
    exact ex_kd_set e1
  | bastore =>
    obtain ⟨_, _, _, _, _, _, _, _, ⟨_, e1⟩ | ⟨_, e1⟩⟩ := ex_xbst_v (show ex_xbst g nx lv st h = some q from hs) <;> exact ex_kd_set e1
  | aastore =>
    obtain ⟨_, _, _, _, _, _, _, _, _, _, _, _, e1⟩ := ex_xast_v (show ex_xast g nx lv st h = some q from hs)
    exact ex_kd_set e1
  | new i =>
    cases (show ex_go nx lv (.ref (g.1 + h.1.length) :: st) (h.1 ++ [.inl (x, (ex_ft x).map defaultValue)], h.2 + (ex_ft x).length) = some q from hs)
    exact ex_kd_new rfl
  | newarray t =>
    obtain ⟨_, _, _, _, _, _, _, _, e1⟩ := ex_newa_v (show ex_newa g t nx lv st h = some q from hs)
    exact ex_kd_new e1
  | anewarray i =>
    obtain ⟨_, _, _, _, _, e1⟩ := ex_newq_v (show ex_newq g nx lv st h = some q from hs)
    exact ex_kd_new e1
  | ireturn =>
    obtain ⟨_, _, _, _, _, e1⟩ := ex_ret_v (show ex_ret rt st h = some q from hs)
    exact Or.inr (Or.inl ⟨_, e1, by decide⟩)
  | lreturn =>
    obtain ⟨_, _, _, e1⟩ := ex_lret_v (show ex_lret rt st h = some q from hs)
    exact Or.inr (Or.inl ⟨_, e1, by decide⟩)
  | areturn =>
    obtain ⟨_, _, _, _, e1⟩ := ex_aret_v (show ex_aret rt st h = some q from hs)
    exact Or.inr (Or.inl ⟨_, e1, by decide⟩)
  | return_ =>
    obtain ⟨_, _, e1⟩ := ex_vret_v (show ex_vret rt st h = some q from hs)
    exact Or.inr (Or.inl ⟨_, e1, by decide⟩)
  | invokevirtual i =>
    obtain ⟨_, _, _, _, _, _, _, _, e1⟩ := ex_callV_v (show ex_callV g x y z nx lv st h = some q from hs)
    exact Or.inr (Or.inr ⟨_, _, _, e1, rfl, by show ¬ 1 = 0; decide⟩)
  | invokespecial i =>
    by_cases hx : x = 1000000
    · subst hx
      obtain ⟨_, _, _, _, e1⟩ := ex_callI_go (show ex_callI 1000000 y nx lv st h = some q from hs)
      exact ex_kd_go e1 rfl
    · obtain ⟨_, _, _, _, _, _, e1⟩ := ex_callI_v hx (show ex_callI x y nx lv st h = some q from hs)
      exact Or.inr (Or.inr ⟨_, _, _, e1, rfl, by show ¬ 2 = 0; decide⟩)
  | invokestatic i =>
    by_cases hx : x = 1000000
    · subst hx
      obtain ⟨_, _, _, _, _, _, _, _, _, _, _, _, _, _, _, _, _, _, _, _, e1⟩ := ex_cpy_v (ex_callS_go (show ex_callS g 1000000 y nx lv st h = some q from hs))
      exact ex_kd_go e1 rfl
    · obtain ⟨_, _, _, _, _, e1⟩ := ex_callS_v hx (show ex_callS g x y nx lv st h = some q from hs)
      exact Or.inr (Or.inr ⟨_, _, _, e1, rfl, by show ¬ 3 = 0; decide⟩)
  | _ => cases (show (none : Option ex_O) = some q from hs)
end EXR
/-- what a run leaves: its answer, its cells, all else as it was -/
def ex_Qc (g : ex_G) (o : ex_P) (r : Option Value) (h : ex_H) : Array Value → State → Outcome → State → Prop := fun _ st oc t => oc = .returned (r.map (ex_cv g o)) ∧ ex_Wd g o h t.heap ∧ va_F (ex_A o) st t
/-- what a run begins with -/
def ex_St (g : ex_G) (o : ex_P) (h : ex_H) (U : State) : Prop := va_K o.1 ex_cl (ex_tys o) U ∧ ex_X g o U U.heap ∧ ex_Wd g o h U.heap
def ex_ws (M : ex_M) : List Cond := Jvm.Cond.code M.1 M.2.1 M.2.2.1 M.2.2.2.1 :: ex_wall
def ex_rm (d mc ms : Nat) : Room := { frames := d, cells := mc, slots := ms, locals := 60 * d }
theorem ex_blind {g : ex_G} {o : ex_P} {h : ex_H} {av : List Value} : FrameBlind (va_Pc av (ex_St g o h)) := fun a U gf mk q =>
  ⟨q.1, va_K.moved (u := U) (U := U.calling gf mk a) (Vm.Alike.refl U.vm) q.2.1, ex_X.same (s := U) (U := U.calling gf mk a) rfl q.2.2.1, q.2.2.2⟩
theorem ex_gi {ws : List Cond} (h : ∀ w ∈ ws, w ∈ ex_wall) : GoodIn ex_wall ws := fun w hw => ⟨h w hw, ex_wall_good w (h w hw)⟩
section EXC
variable {p : Program} {l : Launch} {e : Env} {R : Room} {s : State} {m : MethodId} {args : Array Value} {below : List Frame} {meth : Method} {c : Code} {H : Heap} {locs : List Loc} {cells slots : Nat} {Q : State → Prop}
variable {cc : ByteArray} {pc : Nat} {ls : Array Slot} {rest : List Value} {g : ex_G} {o : ex_P} {nL n0 s0 : Nat} {rt : Option FieldType} {own mn : String} {h : ex_H}
/-- an instruction that returns -/
theorem ex_returns (C : ex_Cx g o p s m args meth c cc nL rt own mn R) {ins : Instr} {x y z nx : Nat} {lv : ex_V} {st : List Value} {r : Option Value} {h' : ex_H} (hd : ex_dec cc pc (ins, x, y, z, nx)) (hs : ex_step g nL rt (ins, x, y, z, nx) pc lv st h = some (.inr (.inl (r, h'))))
    (hA : ex_At g o nL n0 s0 s.heap (pc, lv, st, h) H ls locs cells slots) : h' = h ∧ W p l e R s m args below meth c H locs cells slots (MQ below (ex_Qc g o r h') args s cells slots (ex_A o)) (F0 m pc ls (st.map (ex_cv g o))) := by
  obtain ⟨hx, hb, hml, hown, hts, hK, hX, hlocks, hr, hmn, hco, hBs, hRf, hRl⟩ := C
  obtain ⟨hl, hW, hS, hc, hsl⟩ := id hA
  rcases ex_kind hs with ⟨f, e1, -⟩ | ⟨r1, e1, hR⟩ | ⟨k, as, f, e1, -⟩
  · cases e1
  · cases e1
    refine ⟨rfl, ?_⟩
    cases ins with
    | ireturn =>
      obtain ⟨v, ty, hty, rfl, hn, e1⟩ := ex_ret_v (show ex_ret rt st h = some (.inr (.inl (r, h))) from hs)
      cases e1
      subst hty
      exact W.zret hx hb hr hn (fun t ht _ => ⟨rfl, by rw [ht]; exact hW, hS.F ht⟩) hS.2.2 hd.1 hlocks
    | lreturn =>
      obtain ⟨v, hty, rfl, e1⟩ := ex_lret_v (show ex_lret rt st h = some (.inr (.inl (r, h))) from hs)
      cases e1
      subst hty
      exact W.lret hx hb hr (fun t ht _ => ⟨rfl, by rw [ht]; exact hW, hS.F ht⟩) hS.2.2 hd.1 hlocks
    | areturn =>
      obtain ⟨v, Cn, hty, rfl, e1⟩ := ex_aret_v (show ex_aret rt st h = some (.inr (.inl (r, h))) from hs)
      cases e1
      subst hty
      exact W.aret hx hb hr (Or.inl ⟨_, rfl⟩) (Or.inr ⟨_, rfl⟩) (fun t ht _ => ⟨rfl, by rw [ht]; exact hW, hS.F ht⟩) hS.2.2 hd.1 hlocks
    | return_ =>
      obtain ⟨hty, rfl, e1⟩ := ex_vret_v (show ex_vret rt st h = some (.inr (.inl (r, h))) from hs)
      cases e1
      subst hty
      exact W.vret hx hb hr (fun t ht _ => ⟨rfl, by rw [ht]; exact hW, hS.F ht⟩) hS.2.2 hd.1 hlocks
    | _ => exact absurd rfl hR
  · cases e1
theorem ex_back {mc ms : Nat} {r : Option Value} {h' : ex_H} {st0 : List Value} {a : Array Value} (hr : va_Run p l e R s m args below meth c H locs cells slots mc ms (F0 m pc ls st0) rest (ex_Qc g o r h' a) (ex_A o)) (hS : va_S (ex_A o) s.heap H locs)
    (kk : ∀ (H1 : Heap) (locs1 : List Loc), ex_Wd g o h' H1 → va_S (ex_A o) s.heap H1 locs1 → W p l e R s m args below meth c H1 locs1 (cells + mc) (slots + ms) Q (F0 m (pc + 3) ls ((r.map (ex_cv g o)).toList ++ rest))) : W p l e R s m args below meth c H locs cells slots Q (F0 m pc ls st0) := by
  intro T hT X
  obtain ⟨v, st₀, t, T', L, h0, X', hL, e1, e2, ⟨hv, hWd, hz, hk⟩, st⟩ := hr T hT X
  cases hv
  rw [h0] at hz hk
  obtain ⟨t2, a1, b1⟩ := kk T'.heap (locs ++ L) (by rw [e1]; exact hWd) ⟨Nat.le_trans hS.1 (by rw [e1]; exact hz), fun q h1 h2 => by rw [e1, hk q (Nat.lt_of_lt_of_le h1 hS.1) h2]; exact hS.2.1 q h1 h2, fun q hq => by
      rcases List.mem_append.mp hq with h | h
      · exact hS.2.2 q h
      · exact hL q h⟩ T' rfl X'
  exact ⟨t2, st t2 a1, b1⟩
theorem ex_pre (C : ex_Cx g o p s m args meth c cc nL rt own mn R) (hW : ex_Wd g o h H) (hS : va_S (ex_A o) s.heap H locs) (av : List Value) : ∀ U : State, U.heap = H → s.WarmedH U.vm → va_Pc av (ex_St g o h) av.toArray U := by
  obtain ⟨hx, hb, hml, hown, hts, hK, hX, hlocks, hr, hmn, hco, hBs, hRf, hRl⟩ := C
  intro U hU hWm
  exact ⟨rfl, va_K.moved hWm.alike hK, by rw [hU]; exact (hX.kept hS.2.1).warm hWm, by rw [hU]; exact hW⟩
theorem ex_stk (A : List Value) (b : Nat) (r : List Value) : (A ++ Value.ref b :: r).map (ex_cv g o) = ((A.reverse).map (ex_cv g o)).reverse ++ Value.ref (ex_ad g o b) :: r.map (ex_cv g o) := by
  rw [List.map_append, List.map_cons, List.map_reverse, List.reverse_reverse]
  rfl
theorem ex_stk0 (A r : List Value) : (A ++ r).map (ex_cv g o) = ((A.reverse).map (ex_cv g o)).reverse ++ r.map (ex_cv g o) := by
  rw [List.map_append, List.map_reverse, List.reverse_reverse]
/-- an instruction that calls -/
theorem ex_calls {P : Nat → Option ex_M} {d : Nat} (C : ex_Cx g o p s m args meth c cc nL rt own mn R) {ins : Instr} {x y z nx k : Nat} {lv : ex_V} {st as : List Value} {f : ex_F} {r : Option Value} {h' : ex_H} (hP : ∀ k M, P k = some M → ex_okM g P M) (hd : ex_dec cc pc (ins, x, y, z, nx)) (hk : ex_lk g P own mn pc (ins, x, y, z, nx)) (hs : ex_step g nL rt (ins, x, y, z, nx) pc lv st h = some (.inr (.inr (k, as, f))))
    (hA : ex_At g o nL n0 s0 s.heap (pc, lv, st, h) H ls locs cells slots) (hf : d + 1 ≤ R.frames) (hlo : 60 * (d + 1) ≤ R.locals) (hmc : h.1.length ≤ h'.1.length) (hms : h.2 ≤ h'.2) (hm1 : h'.1.length ≤ R.cells + n0) (hm2 : h'.2 ≤ R.slots + s0)
    (hM : ∀ M, P k = some M → Met l M.1 (ex_ws M) (ex_rm d (h'.1.length - h.1.length) (h'.2 - h.2)) (va_Pc (as.map (ex_cv g o)) (ex_St g o h)) (ex_Qc g o r h') (h'.1.length - h.1.length) (h'.2 - h.2) (ex_A o))
    (kk : ∀ (H1 : Heap) (locs1 : List Loc) (cells1 slots1 : Nat), ex_At g o nL n0 s0 s.heap (f.1, f.2.1, r.toList ++ f.2.2.1, h') H1 ls locs1 cells1 slots1 → W p l e R s m args below meth c H1 locs1 cells1 slots1 Q (F0 m f.1 ls ((r.toList ++ f.2.2.1).map (ex_cv g o)))) :
    W p l e R s m args below meth c H locs cells slots Q (F0 m pc ls (st.map (ex_cv g o))) := by
  have C0 := C
  obtain ⟨hx, hb, hml, hown, hts, hK, hX, hlocks, hr, hmn, hco, hBs, hRf, hRl⟩ := C
  obtain ⟨hl, hW, hS, hc, hsl⟩ := id hA
  have hc : cells + n0 = h.1.length := hc
  have hsl : slots + s0 = h.2 := hsl
  have hcells : cells + (h'.1.length - h.1.length) ≤ R.cells ∧ slots + (h'.2 - h.2) ≤ R.slots := ⟨by omega, by omega⟩
  have fin : f.1 = pc + 3 → f.2.1 = lv → ∀ (H1 : Heap) (locs1 : List Loc), ex_Wd g o h' H1 → va_S (ex_A o) s.heap H1 locs1 → W p l e R s m args below meth c H1 locs1 (cells + (h'.1.length - h.1.length)) (slots + (h'.2 - h.2)) Q (F0 m (pc + 3) ls ((r.map (ex_cv g o)).toList ++ f.2.2.1.map (ex_cv g o))) := by
    intro e1 e2 H1 locs1 hW1 hS1
    have h1 := kk H1 locs1 (cells + (h'.1.length - h.1.length)) (slots + (h'.2 - h.2)) ⟨by rw [e2]; exact hl, hW1, hS1, by show _ + _ + n0 = h'.1.length; omega, by show _ + _ + s0 = h'.2; omega⟩
    rw [e1, List.map_append] at h1
    cases r <;> exact h1
  have hrm : (ex_rm d (h'.1.length - h.1.length) (h'.2 - h.2)).frames + 1 ≤ R.frames := hf
  have S : CallFix p m c cc nL s args ex_wall own := ⟨hx, hb, hml, hown, hts⟩
  rcases ex_kind hs with ⟨f1, e1, -⟩ | ⟨r1, e1, -⟩ | ⟨k1, as1, f1, e1, -, hC⟩
  · cases e1
  · cases e1
  cases e1
  cases ins with
  | invokevirtual i =>
    obtain ⟨hdg, hnx⟩ : decode cc pc = .ok (.invokevirtual i, 3) ∧ nx = pc + 3 := hd
    subst hnx
    obtain ⟨A, b, rr, fs, rfl, hn, hg, hw, e1⟩ := ex_callV_v (show ex_callV g x y z (pc + 3) lv st h = some (.inr (.inr (k, as, f))) from hs)
    cases e1
    obtain ⟨M, hPM, hcls, k1, k2, k3, k4⟩ : ∃ M : ex_M, P x = some M ∧ M.1.cls = ex_cn z ∧ Jvm.Cond.methodLink own i M.1 ∈ ex_wall ∧ Jvm.Cond.instanceMethod M.1 ∈ ex_wall ∧ Jvm.Cond.selects M.1.cls M.1 M.1 ∈ ex_wall ∧ (parseMethodDescriptor M.1.desc).map (fun d => d.parameters.length) = some y := hk
    obtain ⟨-, m2, m3, m4, m5, -⟩ := hP x M hPM
    have hrecv : ∃ cellB : Cell, H[ex_ad g o b]? = some cellB ∧ cellB.vm.isStatics = false ∧ s.vm.findClass M.1.cls = some cellB.cls := by
      rw [hcls]
      rcases ex_get_spec hg with ⟨hlo1, hxt⟩ | hg
      · have e1 : ex_ad g o b = o.2.2.1 b := by unfold ex_ad; rw [if_pos hlo1]
        rw [e1]
        obtain ⟨hci, hO, -⟩ := hX.1 b _ hlo1 hxt
        obtain ⟨cell, g1, g2, g3, -⟩ := hO.kept hS.2.1
        subst hci
        exact ⟨cell, g1, g2, g3⟩
      · have hat := hW.at hg
        obtain ⟨r0, hc0, -⟩ := id hat
        rw [ex_cn_of hc0]
        exact va_recv hK (ex_one hat) hc0 (q0 := 0) rfl
    rw [ex_stk]
    exact ex_back (va_runV (As := (A.reverse).map (ex_cv g o)) (rest := rr.map (ex_cv g o)) S (hM M hPM)
      (cwV (C := M.1.cls) y hts (ex_gi (fun w hw => by
        unfold wsV ex_ws at hw
        simp only [List.mem_append, List.mem_cons, List.not_mem_nil, or_false] at hw
        rcases hw with (rfl | rfl | rfl | rfl) | rfl | hw
        · exact k1
        · exact k2
        · exact k3
        · exact m3
        · exact m4
        · exact hw)) rfl rfl rfl ⟨rfl, m2.1, m2.2, k4⟩ ⟨hrm, by show 8 + (M.2.2.1 + 11) + 60 * d ≤ R.locals; omega⟩)
      ⟨ex_blind, hrecv, ex_pre C0 hW hS _⟩ rfl (by rw [List.length_map, List.length_reverse]; exact hn) hl.1 rfl (lv_room (by rw [ex_wm]; exact hw)) hdg hcells) hS (fin rfl rfl)
  | invokespecial i =>
    obtain ⟨hdg, hnx⟩ : decode cc pc = .ok (.invokespecial i, 3) ∧ nx = pc + 3 := hd
    subst hnx
    rcases (show (x = 1000000 ∧ Jvm.Cond.methodLink own i objectInit ∈ ex_wall ∧ Jvm.Cond.instanceMethod objectInit ∈ ex_wall ∧ Jvm.Cond.code objectInit ⟨#[0xb1]⟩ 1 none ∈ ex_wall) ∨ (¬ x = 1000000 ∧ ∃ M : ex_M, P x = some M ∧ M.1.name = "<init>" ∧ M.2.2.2.1 = none ∧ Jvm.Cond.methodLink own i M.1 ∈ ex_wall ∧ Jvm.Cond.instanceMethod M.1 ∈ ex_wall ∧ (parseMethodDescriptor M.1.desc).map (fun d => d.parameters.length) = some y) from hk) with ⟨hx0, -⟩ | ⟨hx0, M, hPM, k0, k5, k1, k2, k4⟩
    · subst hx0
      obtain ⟨_, _, _, _, e1⟩ := ex_callI_go (show ex_callI 1000000 y (pc + 3) lv st h = some (.inr (.inr (k, as, f))) from hs)
      cases e1
    · obtain ⟨A, b, rr, rfl, hn, hw, e1⟩ := ex_callI_v hx0 (show ex_callI x y (pc + 3) lv st h = some (.inr (.inr (k, as, f))) from hs)
      cases e1
      obtain ⟨-, m2, m3, m4, m5, -⟩ := hP x M hPM
      rw [ex_stk]
      refine ex_back (va_runI (As := (A.reverse).map (ex_cv g o)) (rest := rr.map (ex_cv g o)) S (hM M hPM)
        (cwI (maxL := M.2.2.1) (bytes := M.2.1) (ws' := ex_wall) y hts (ex_gi (fun w hw => by
          unfold ex_ws at hw
          rcases List.mem_cons.mp hw with rfl | hw
          · exact m4
          · exact hw)) (by unfold ex_ws; rw [k5]) rfl rfl (hts _ m3) (hts _ k1) (hts _ k2) k0 ⟨m2.1, m2.2, k4⟩ ⟨hrm, by show 8 + (M.2.2.1 + 11) + 60 * d ≤ R.locals; omega⟩)
        ⟨ex_blind, ex_pre C0 hW hS _⟩ rfl (by rw [List.length_map, List.length_reverse]; exact hn) hl.1 rfl (lv_room (by rw [ex_wm]; exact hw)) hdg hcells) hS (fin rfl rfl)
  | invokestatic i =>
    obtain ⟨hdg, hnx⟩ : decode cc pc = .ok (.invokestatic i, 3) ∧ nx = pc + 3 := hd
    subst hnx
    rcases (show (x = 1000000 ∧ Jvm.Cond.methodLink own i arraycopyName ∈ ex_wall ∧ Jvm.Cond.native arraycopyName ∈ ex_wall ∧ Jvm.Cond.static arraycopyName ∈ ex_wall ∧ Jvm.Cond.initialized "java/lang/System" ∈ ex_wall) ∨ (¬ x = 1000000 ∧ ∃ M : ex_M, P x = some M ∧ Jvm.Cond.methodLink own i M.1 ∈ ex_wall ∧ Jvm.Cond.static M.1 ∈ ex_wall ∧ (parseMethodDescriptor M.1.desc).map (fun d => d.parameters.length) = some y) from hk) with ⟨hx0, -⟩ | ⟨hx0, M, hPM, k1, k2, k4⟩
    · subst hx0
      obtain ⟨_, _, _, _, _, _, _, _, _, _, _, _, _, _, _, _, _, _, _, _, e1⟩ := ex_cpy_v (ex_callS_go (show ex_callS g 1000000 y (pc + 3) lv st h = some (.inr (.inr (k, as, f))) from hs))
      cases e1
    · obtain ⟨A, rr, rfl, hn, hw, e1⟩ := ex_callS_v hx0 (show ex_callS g x y (pc + 3) lv st h = some (.inr (.inr (k, as, f))) from hs)
      cases e1
      obtain ⟨-, m2, m3, m4, m5, -⟩ := hP x M hPM
      rw [ex_stk0]
      exact ex_back (va_runS (As := (A.reverse).map (ex_cv g o)) (rest := rr.map (ex_cv g o)) S (hM M hPM)
        (va_cwS y hts (ex_gi (fun w hw => by
          unfold va_wsS ex_ws at hw
          simp only [List.mem_append, List.mem_cons, List.not_mem_nil, or_false] at hw
          rcases hw with (rfl | rfl | rfl) | rfl | hw
          · exact k1
          · exact k2
          · exact m3
          · exact m4
          · exact hw)) rfl rfl rfl ⟨m2.1, m2.2, k4⟩ ⟨hrm, by show 8 + (M.2.2.1 + 11) + 60 * d ≤ R.locals; omega⟩)
        ⟨ex_blind, ex_pre C0 hW hS _⟩ rfl (by rw [List.length_map, List.length_reverse]; exact hn) hl.1 rfl (lv_room (by rw [ex_wm]; exact hw)) hdg hcells) hS (fin rfl rfl)
  | _ => exact absurd rfl hC
end EXC
/-- what is known of calls: they don't shrink the heap, and they are contracts -/
def ex_callOk (g : ex_G) (o : ex_P) (P : Nat → Option ex_M) (l : Launch) (d : Nat) (call : Nat → List Value → ex_H → Option (Option Value × ex_H)) : Prop :=
  ∀ k as h r h', call k as h = some (r, h') → (h.1.length ≤ h'.1.length ∧ h.2 ≤ h'.2) ∧
    ∀ M, P k = some M → Met l M.1 (ex_ws M) (ex_rm d (h'.1.length - h.1.length) (h'.2 - h.2)) (va_Pc (as.map (ex_cv g o)) (ex_St g o h)) (ex_Qc g o r h') (h'.1.length - h.1.length) (h'.2 - h.2) (ex_A o)
theorem ex_loop_mono {g : ex_G} {call : Nat → List Value → ex_H → Option (Option Value × ex_H)} (hcall : ∀ k as h r h', call k as h = some (r, h') → h.1.length ≤ h'.1.length ∧ h.2 ≤ h'.2) {nL : Nat} {rt : Option FieldType} {cd : List (List (Option ex_I))} :
    ∀ (n : Nat) (f : ex_F) (r : Option Value) (h' : ex_H), ex_loop g call nL rt cd n f = some (r, h') → f.2.2.2.1.length ≤ h'.1.length ∧ f.2.2.2.2 ≤ h'.2 := by
  intro n
  induction n with
  | zero => intro f r h' hq; cases hq
  | succ n ih =>
    intro f r h' hq
    unfold ex_loop at hq
    cases he : ex_cd cd f.1 with
    | none => rw [he] at hq; cases hq
    | some ei =>
      rw [he] at hq
      simp only at hq
      obtain ⟨ins, x, y, z, nx⟩ := ei
      cases hs : ex_step g nL rt (ins, x, y, z, nx) f.1 f.2.1 f.2.2.1 f.2.2.2 with
      | none => rw [hs] at hq; cases hq
      | some q =>
        rw [hs] at hq
        rcases ex_kind hs with ⟨f1, rfl, h1, h2⟩ | ⟨r1, rfl, -⟩ | ⟨k, as, f1, rfl, h1, -⟩
        · obtain ⟨h3, h4⟩ := ih f1 r h' hq
          exact ⟨Nat.le_trans h1 h3, Nat.le_trans h2 h4⟩
        · cases hq
          exact ⟨Nat.le_refl _, Nat.le_refl _⟩
        · simp only at hq
          rw [h1] at hq
          cases hcl : call k as f.2.2.2 with
          | none => rw [hcl] at hq; cases hq
          | some rh =>
            obtain ⟨rv, h2⟩ := rh
            rw [hcl] at hq
            obtain ⟨g1, g2⟩ := hcall _ _ _ _ _ hcl
            cases rv with
            | none =>
              obtain ⟨h3, h4⟩ := ih _ r h' hq
              exact ⟨Nat.le_trans g1 h3, Nat.le_trans g2 h4⟩
            | some v =>
              obtain ⟨h3, h4⟩ := ih _ r h' hq
              exact ⟨Nat.le_trans g1 h3, Nat.le_trans g2 h4⟩
theorem ex_loop_ok {p : Program} {l : Launch} {e : Env} {R : Room} {s : State} {m : MethodId} {args : Array Value} {below : List Frame} {meth : Method} {c : Code} {cc : ByteArray} {g : ex_G} {o : ex_P} {nL n0 s0 : Nat} {rt : Option FieldType} {own mn : String} {P : Nat → Option ex_M} {d : Nat} {call : Nat → List Value → ex_H → Option (Option Value × ex_H)} {cd : List (List (Option ex_I))} {r : Option Value} {h' : ex_H}
    (C : ex_Cx g o p s m args meth c cc nL rt own mn R) (hP : ∀ k M, P k = some M → ex_okM g P M) (hcd : ∀ (pc : Nat) (e : ex_I), ex_cd cd pc = some e → ex_dec cc pc e ∧ ex_lk g P own mn pc e) (hcall : ex_callOk g o P l d call) (hf : d + 1 ≤ R.frames) (hlo : 60 * (d + 1) ≤ R.locals) (hRc : R.cells + n0 = h'.1.length) (hRs : R.slots + s0 = h'.2) :
    ∀ (n : Nat) (f : ex_F), ex_loop g call nL rt cd n f = some (r, h') → ∀ (H : Heap) (ls : Array Slot) (locs : List Loc) (cells slots : Nat), ex_At g o nL n0 s0 s.heap f H ls locs cells slots →
      W p l e R s m args below meth c H locs cells slots (MQ below (ex_Qc g o r h') args s R.cells R.slots (ex_A o)) (F0 m f.1 ls (f.2.2.1.map (ex_cv g o))) := by
  have hmono := ex_loop_mono (g := g) (nL := nL) (rt := rt) (cd := cd) (fun k as h r h' q => (hcall k as h r h' q).1)
  intro n
  induction n with
  | zero => intro f hq; cases hq
  | succ n ih =>
    intro f hq H ls locs cells slots hA
    unfold ex_loop at hq
    cases he : ex_cd cd f.1 with
    | none => rw [he] at hq; cases hq
    | some ei =>
      rw [he] at hq
      simp only at hq
      obtain ⟨hd, hk⟩ := hcd _ _ he
      obtain ⟨ins, x, y, z, nx⟩ := ei
      cases hs : ex_step g nL rt (ins, x, y, z, nx) f.1 f.2.1 f.2.2.1 f.2.2.2 with
      | none => rw [hs] at hq; cases hq
      | some q =>
        rw [hs] at hq
        rcases ex_kind hs with ⟨f1, rfl, h1, h2⟩ | ⟨r1, rfl, -⟩ | ⟨k, as, f1, rfl, h1, -⟩
        · obtain ⟨h3, h4⟩ := hmono n f1 r h' hq
          exact ex_next C hd hk hs hA (by omega) (by omega) (fun H1 ls1 locs1 cells1 slots1 hA1 => ih f1 hq H1 ls1 locs1 cells1 slots1 hA1)
        · obtain ⟨e1, hw⟩ := ex_returns (l := l) (e := e) (below := below) C hd hs hA
          cases hq
          obtain ⟨-, -, -, hc, hsl⟩ := hA
          rw [show R.cells = cells by omega, show R.slots = slots by omega]
          exact hw
        · simp only at hq
          rw [h1] at hq
          cases hcl : call k as f.2.2.2 with
          | none => rw [hcl] at hq; cases hq
          | some rh =>
            obtain ⟨rv, h2⟩ := rh
            rw [hcl] at hq
            obtain ⟨⟨g1, g2⟩, hM⟩ := hcall _ _ _ _ _ hcl
            cases rv with
            | none =>
              obtain ⟨h3, h4⟩ := hmono n _ r h' hq
              have h3 : h2.1.length ≤ h'.1.length := h3
              have h4 : h2.2 ≤ h'.2 := h4
              exact ex_calls C hP hd hk hs hA hf hlo g1 g2 (by omega) (by omega) hM (fun H1 locs1 cells1 slots1 hA1 => ih _ hq H1 ls locs1 cells1 slots1 hA1)
            | some v =>
              obtain ⟨h3, h4⟩ := hmono n _ r h' hq
              have h3 : h2.1.length ≤ h'.1.length := h3
              have h4 : h2.2 ≤ h'.2 := h4
              exact ex_calls C hP hd hk hs hA hf hlo g1 g2 (by omega) (by omega) hM (fun H1 locs1 cells1 slots1 hA1 => ih _ hq H1 ls locs1 cells1 slots1 hA1)
/-- THE CONTRACT OF A RUN: whatever the interpreter's run of a method ends with, the machine's does -/
theorem ex_run_ok {g : ex_G} {o : ex_P} {P : Nat → Option ex_M} {N : Nat} (hP : ∀ k M, P k = some M → ex_okM g P M) (hco : ex_clsOk) (l : Launch) : ∀ d : Nat, ex_callOk g o P l d (ex_run g P N d) := by
  intro d
  induction d with
  | zero => intro k as h r h' hq; cases hq
  | succ d ih =>
    intro k as h r h' hq
    unfold ex_run at hq
    cases hk : P k with
    | none => rw [hk] at hq; cases hq
    | some M =>
      rw [hk] at hq
      simp only at hq
      cases hw : Nat.ble (ex_w as) M.2.2.1 with
      | false => rw [hw] at hq; cases hq
      | true =>
        rw [hw] at hq
        simp only [cond_true] at hq
        have hmono := ex_loop_mono (fun k as h r h' q => (ih k as h r h' q).1) N _ r h' hq
        refine ⟨hmono, fun M' hM' => ?_⟩
        cases hM'
        obtain ⟨m1, m2, m3, m4, m5, m6⟩ := hP k M hk
        have h3 : h.1.length ≤ h'.1.length := hmono.1
        have h4 : h.2 ≤ h'.2 := hmono.2
        refine Met.ofW (cc := M.2.1) (maxL := M.2.2.1) (ret := M.2.2.2.1) m1 rfl ?_
        intro p e s m args below meth c s₁ B hml hv
        obtain ⟨rfl, hK, hX, hWd⟩ := hv
        have hts := atoms_spec (ws := ex_ws M) B.pre
        have hown : s.vm.findClass M.1.cls = some m.cls := findClass_of_methodNamed B.named
        rw [lg_entry_eq]
        have hl := lv_entry (as.map (ex_cv g o)) (n := M.2.2.1) (by rw [ex_sl_len]; show ((as.map (ex_cv g o)).map fun v => v.category).sum ≤ _; rw [ex_wm]; exact Nat.le_of_ble_eq_true hw)
        generalize (lg_sl (as.map (ex_cv g o)) ++ List.replicate (M.2.2.1 - (lg_sl (as.map (ex_cv g o))).length) Slot.unset).toArray = ls at hl ⊢
        rw [ex_lm_args] at hl
        have C : ex_Cx g o p s m (as.map (ex_cv g o)).toArray meth c M.2.1 M.2.2.1 M.2.2.2.1 M.1.cls M.1.name (ex_rm (d + 1) (h'.1.length - h.1.length) (h'.2 - h.2)) :=
          ⟨B.exec, B.bytes, hml, hown, fun w hw => hts w (List.mem_cons_of_mem _ hw), hK, hX, B.notSynchronized, B.returns, (name_of_methodNamed B.named B.method).1, hco, by rw [hWd.1]; exact Nat.le_add_right _ _, Nat.succ_le_succ (Nat.zero_le _), by show 60 ≤ 60 * (d + 1); omega⟩
        exact ex_loop_ok (n0 := h.1.length) (s0 := h.2) C hP m6 ih (Nat.le_refl _) (Nat.le_refl _) (by show (h'.1.length - h.1.length) + _ = _; omega) (by show (h'.2 - h.2) + _ = _; omega) N (0, lv_args 0 as, [], h) hq s.heap ls [] 0 0
          ⟨hl, hWd, va_S.rf, Nat.zero_add _, Nat.zero_add _⟩
end
