section
-- ===== PART A: goes FIRST, ahead of the names: the tables' words, and 'selects' of the private methods out of them =====
/-- a private method of a class that the tables say can be made, by its rows of tables_1 -/
def lw_okq (q : MethodName × Nat) : Prop := (q.1.cls ≠ "java/lang/invoke/MethodHandle" ∧ q.1.cls ≠ "java/lang/invoke/VarHandle") ∧ Cond.instantiable q.1.cls q.2 ∈ tables_1 ∧ Cond.privateMethod q.1 ∈ tables_1 ∧ Cond.instanceMethod q.1 ∈ tables_1
theorem lw_p0 : lw_okq (⟨"PaperHouse", "layNumber", "(I)V"⟩, 19) := ⟨⟨by decide +kernel, by decide +kernel⟩, List.mem_of_getElem? (i := 23) (by decide +kernel), List.mem_of_getElem? (i := 704) (by decide +kernel), List.mem_of_getElem? (i := 705) (by decide +kernel)⟩
theorem lw_p1 : lw_okq (⟨"PaperHouse$Loader", "passes", "(Ljava/lang/String;I)Z"⟩, 10) := ⟨⟨by decide +kernel, by decide +kernel⟩, List.mem_of_getElem? (i := 416) (by decide +kernel), List.mem_of_getElem? (i := 756) (by decide +kernel), List.mem_of_getElem? (i := 757) (by decide +kernel)⟩
theorem lw_p2 : lw_okq (⟨"PaperHouse$Loader", "lastStart", "()I"⟩, 10) := ⟨⟨by decide +kernel, by decide +kernel⟩, List.mem_of_getElem? (i := 416) (by decide +kernel), List.mem_of_getElem? (i := 770) (by decide +kernel), List.mem_of_getElem? (i := 771) (by decide +kernel)⟩
theorem lw_p3 : lw_okq (⟨"PaperHouse$Loader", "readStart", "()I"⟩, 10) := ⟨⟨by decide +kernel, by decide +kernel⟩, List.mem_of_getElem? (i := 416) (by decide +kernel), List.mem_of_getElem? (i := 775) (by decide +kernel), List.mem_of_getElem? (i := 776) (by decide +kernel)⟩
theorem lw_p4 : lw_okq (⟨"PaperHouse$Loader", "passesBlanks", "()Z"⟩, 10) := ⟨⟨by decide +kernel, by decide +kernel⟩, List.mem_of_getElem? (i := 416) (by decide +kernel), List.mem_of_getElem? (i := 779) (by decide +kernel), List.mem_of_getElem? (i := 780) (by decide +kernel)⟩
theorem lw_p5 : lw_okq (⟨"PaperHouse$Parser", "lookAtRow", "()V"⟩, 18) := ⟨⟨by decide +kernel, by decide +kernel⟩, List.mem_of_getElem? (i := 206) (by decide +kernel), List.mem_of_getElem? (i := 821) (by decide +kernel), List.mem_of_getElem? (i := 822) (by decide +kernel)⟩
theorem lw_p6 : lw_okq (⟨"PaperHouse$Parser", "rowIs", "(Ljava/lang/String;)Z"⟩, 18) := ⟨⟨by decide +kernel, by decide +kernel⟩, List.mem_of_getElem? (i := 206) (by decide +kernel), List.mem_of_getElem? (i := 836) (by decide +kernel), List.mem_of_getElem? (i := 837) (by decide +kernel)⟩
theorem lw_p7 : lw_okq (⟨"PaperHouse$Sections", "headsRows", "(I)Z"⟩, 13) := ⟨⟨by decide +kernel, by decide +kernel⟩, List.mem_of_getElem? (i := 365) (by decide +kernel), List.mem_of_getElem? (i := 842) (by decide +kernel), List.mem_of_getElem? (i := 843) (by decide +kernel)⟩
theorem lw_p8 : lw_okq (⟨"PaperHouse$Sections", "readTable", "(I)Z"⟩, 13) := ⟨⟨by decide +kernel, by decide +kernel⟩, List.mem_of_getElem? (i := 365) (by decide +kernel), List.mem_of_getElem? (i := 859) (by decide +kernel), List.mem_of_getElem? (i := 860) (by decide +kernel)⟩
theorem lw_p9 : lw_okq (⟨"PaperHouse$Sections", "readEntries", "(II)Z"⟩, 13) := ⟨⟨by decide +kernel, by decide +kernel⟩, List.mem_of_getElem? (i := 365) (by decide +kernel), List.mem_of_getElem? (i := 876) (by decide +kernel), List.mem_of_getElem? (i := 877) (by decide +kernel)⟩
theorem lw_p10 : lw_okq (⟨"PaperHouse$Sections", "isEntry", "(I)Z"⟩, 13) := ⟨⟨by decide +kernel, by decide +kernel⟩, List.mem_of_getElem? (i := 365) (by decide +kernel), List.mem_of_getElem? (i := 880) (by decide +kernel), List.mem_of_getElem? (i := 881) (by decide +kernel)⟩
theorem lw_p11 : lw_okq (⟨"PaperHouse$Parser", "object", "(I)I"⟩, 18) := ⟨⟨by decide +kernel, by decide +kernel⟩, List.mem_of_getElem? (i := 206) (by decide +kernel), List.mem_of_getElem? (i := 893) (by decide +kernel), List.mem_of_getElem? (i := 894) (by decide +kernel)⟩
theorem lw_p12 : lw_okq (⟨"PaperHouse$Parser", "name", "()I"⟩, 18) := ⟨⟨by decide +kernel, by decide +kernel⟩, List.mem_of_getElem? (i := 206) (by decide +kernel), List.mem_of_getElem? (i := 897) (by decide +kernel), List.mem_of_getElem? (i := 898) (by decide +kernel)⟩
theorem lw_p13 : lw_okq (⟨"PaperHouse$Parser", "failAt", "(II)I"⟩, 18) := ⟨⟨by decide +kernel, by decide +kernel⟩, List.mem_of_getElem? (i := 206) (by decide +kernel), List.mem_of_getElem? (i := 904) (by decide +kernel), List.mem_of_getElem? (i := 905) (by decide +kernel)⟩
theorem lw_p14 : lw_okq (⟨"PaperHouse$Parser", "put", "(I)V"⟩, 18) := ⟨⟨by decide +kernel, by decide +kernel⟩, List.mem_of_getElem? (i := 206) (by decide +kernel), List.mem_of_getElem? (i := 908) (by decide +kernel), List.mem_of_getElem? (i := 909) (by decide +kernel)⟩
theorem lw_p15 : lw_okq (⟨"PaperHouse$Parser", "make", "(IIII)I"⟩, 18) := ⟨⟨by decide +kernel, by decide +kernel⟩, List.mem_of_getElem? (i := 206) (by decide +kernel), List.mem_of_getElem? (i := 912) (by decide +kernel), List.mem_of_getElem? (i := 913) (by decide +kernel)⟩
def lw_privs_1 : List (MethodName × Nat) := [(⟨"PaperHouse", "layNumber", "(I)V"⟩, 19), (⟨"PaperHouse$Loader", "passes", "(Ljava/lang/String;I)Z"⟩, 10), (⟨"PaperHouse$Loader", "lastStart", "()I"⟩, 10), (⟨"PaperHouse$Loader", "readStart", "()I"⟩, 10), (⟨"PaperHouse$Loader", "passesBlanks", "()Z"⟩, 10), (⟨"PaperHouse$Parser", "lookAtRow", "()V"⟩, 18), (⟨"PaperHouse$Parser", "rowIs", "(Ljava/lang/String;)Z"⟩, 18), (⟨"PaperHouse$Sections", "headsRows", "(I)Z"⟩, 13), (⟨"PaperHouse$Sections", "readTable", "(I)Z"⟩, 13), (⟨"PaperHouse$Sections", "readEntries", "(II)Z"⟩, 13), (⟨"PaperHouse$Sections", "isEntry", "(I)Z"⟩, 13), (⟨"PaperHouse$Parser", "object", "(I)I"⟩, 18), (⟨"PaperHouse$Parser", "name", "()I"⟩, 18), (⟨"PaperHouse$Parser", "failAt", "(II)I"⟩, 18), (⟨"PaperHouse$Parser", "put", "(I)V"⟩, 18), (⟨"PaperHouse$Parser", "make", "(IIII)I"⟩, 18)]
theorem lw_r1 : ∀ q ∈ lw_privs_1, lw_okq q := List.forall_mem_cons.mpr ⟨lw_p0, List.forall_mem_cons.mpr ⟨lw_p1, List.forall_mem_cons.mpr ⟨lw_p2, List.forall_mem_cons.mpr ⟨lw_p3, List.forall_mem_cons.mpr ⟨lw_p4, List.forall_mem_cons.mpr ⟨lw_p5, List.forall_mem_cons.mpr ⟨lw_p6, List.forall_mem_cons.mpr ⟨lw_p7, List.forall_mem_cons.mpr ⟨lw_p8, List.forall_mem_cons.mpr ⟨lw_p9, List.forall_mem_cons.mpr ⟨lw_p10, List.forall_mem_cons.mpr ⟨lw_p11, List.forall_mem_cons.mpr ⟨lw_p12, List.forall_mem_cons.mpr ⟨lw_p13, List.forall_mem_cons.mpr ⟨lw_p14, List.forall_mem_cons.mpr ⟨lw_p15, fun _ h => absurd h List.not_mem_nil⟩⟩⟩⟩⟩⟩⟩⟩⟩⟩⟩⟩⟩⟩⟩⟩
theorem lw_p16 : lw_okq (⟨"PaperHouse$Parser", "string", "()I"⟩, 18) := ⟨⟨by decide +kernel, by decide +kernel⟩, List.mem_of_getElem? (i := 206) (by decide +kernel), List.mem_of_getElem? (i := 918) (by decide +kernel), List.mem_of_getElem? (i := 919) (by decide +kernel)⟩
theorem lw_p17 : lw_okq (⟨"PaperHouse$Parser", "scanRound", "()Z"⟩, 18) := ⟨⟨by decide +kernel, by decide +kernel⟩, List.mem_of_getElem? (i := 206) (by decide +kernel), List.mem_of_getElem? (i := 922) (by decide +kernel), List.mem_of_getElem? (i := 923) (by decide +kernel)⟩
theorem lw_p18 : lw_okq (⟨"PaperHouse$Parser", "scanEscape", "()V"⟩, 18) := ⟨⟨by decide +kernel, by decide +kernel⟩, List.mem_of_getElem? (i := 206) (by decide +kernel), List.mem_of_getElem? (i := 926) (by decide +kernel), List.mem_of_getElem? (i := 927) (by decide +kernel)⟩
theorem lw_p19 : lw_okq (⟨"PaperHouse$Parser", "scanHex", "()Z"⟩, 18) := ⟨⟨by decide +kernel, by decide +kernel⟩, List.mem_of_getElem? (i := 206) (by decide +kernel), List.mem_of_getElem? (i := 933) (by decide +kernel), List.mem_of_getElem? (i := 934) (by decide +kernel)⟩
theorem lw_p20 : lw_okq (⟨"PaperHouse$Parser", "compound", "(IZ)I"⟩, 18) := ⟨⟨by decide +kernel, by decide +kernel⟩, List.mem_of_getElem? (i := 206) (by decide +kernel), List.mem_of_getElem? (i := 937) (by decide +kernel), List.mem_of_getElem? (i := 938) (by decide +kernel)⟩
theorem lw_p21 : lw_okq (⟨"PaperHouse$Parser", "noKey", "(I)I"⟩, 18) := ⟨⟨by decide +kernel, by decide +kernel⟩, List.mem_of_getElem? (i := 206) (by decide +kernel), List.mem_of_getElem? (i := 941) (by decide +kernel), List.mem_of_getElem? (i := 942) (by decide +kernel)⟩
theorem lw_p22 : lw_okq (⟨"PaperHouse$Parser", "isTwice", "(II)Z"⟩, 18) := ⟨⟨by decide +kernel, by decide +kernel⟩, List.mem_of_getElem? (i := 206) (by decide +kernel), List.mem_of_getElem? (i := 945) (by decide +kernel), List.mem_of_getElem? (i := 946) (by decide +kernel)⟩
theorem lw_p23 : lw_okq (⟨"PaperHouse$Parser", "plain", "(I)I"⟩, 18) := ⟨⟨by decide +kernel, by decide +kernel⟩, List.mem_of_getElem? (i := 206) (by decide +kernel), List.mem_of_getElem? (i := 1003) (by decide +kernel), List.mem_of_getElem? (i := 1004) (by decide +kernel)⟩
theorem lw_p24 : lw_okq (⟨"PaperHouse$Parser", "literal", "(I)I"⟩, 18) := ⟨⟨by decide +kernel, by decide +kernel⟩, List.mem_of_getElem? (i := 206) (by decide +kernel), List.mem_of_getElem? (i := 1007) (by decide +kernel), List.mem_of_getElem? (i := 1008) (by decide +kernel)⟩
theorem lw_p25 : lw_okq (⟨"PaperHouse$Sections", "readRows", "(II[B)Z"⟩, 13) := ⟨⟨by decide +kernel, by decide +kernel⟩, List.mem_of_getElem? (i := 365) (by decide +kernel), List.mem_of_getElem? (i := 1018) (by decide +kernel), List.mem_of_getElem? (i := 1019) (by decide +kernel)⟩
theorem lw_p26 : lw_okq (⟨"PaperHouse$Filters", "readNames", "(I)Z"⟩, 9) := ⟨⟨by decide +kernel, by decide +kernel⟩, List.mem_of_getElem? (i := 275) (by decide +kernel), List.mem_of_getElem? (i := 1060) (by decide +kernel), List.mem_of_getElem? (i := 1061) (by decide +kernel)⟩
theorem lw_p27 : lw_okq (⟨"PaperHouse$Filters", "readName", "(I)Z"⟩, 9) := ⟨⟨by decide +kernel, by decide +kernel⟩, List.mem_of_getElem? (i := 275) (by decide +kernel), List.mem_of_getElem? (i := 1066) (by decide +kernel), List.mem_of_getElem? (i := 1067) (by decide +kernel)⟩
theorem lw_p28 : lw_okq (⟨"PaperHouse$Filters", "readParms", "(I)Z"⟩, 9) := ⟨⟨by decide +kernel, by decide +kernel⟩, List.mem_of_getElem? (i := 275) (by decide +kernel), List.mem_of_getElem? (i := 1077) (by decide +kernel), List.mem_of_getElem? (i := 1078) (by decide +kernel)⟩
theorem lw_p29 : lw_okq (⟨"PaperHouse$Filters", "areRight", "(IZ)Z"⟩, 9) := ⟨⟨by decide +kernel, by decide +kernel⟩, List.mem_of_getElem? (i := 275) (by decide +kernel), List.mem_of_getElem? (i := 1081) (by decide +kernel), List.mem_of_getElem? (i := 1082) (by decide +kernel)⟩
theorem lw_p30 : lw_okq (⟨"PaperHouse$Filters", "wholeOr", "(III)I"⟩, 9) := ⟨⟨by decide +kernel, by decide +kernel⟩, List.mem_of_getElem? (i := 275) (by decide +kernel), List.mem_of_getElem? (i := 1085) (by decide +kernel), List.mem_of_getElem? (i := 1086) (by decide +kernel)⟩
theorem lw_p31 : lw_okq (⟨"PaperHouse$Inflate", "bits", "(I)I"⟩, 15) := ⟨⟨by decide +kernel, by decide +kernel⟩, List.mem_of_getElem? (i := 281) (by decide +kernel), List.mem_of_getElem? (i := 1097) (by decide +kernel), List.mem_of_getElem? (i := 1098) (by decide +kernel)⟩
def lw_privs_2 : List (MethodName × Nat) := [(⟨"PaperHouse$Parser", "string", "()I"⟩, 18), (⟨"PaperHouse$Parser", "scanRound", "()Z"⟩, 18), (⟨"PaperHouse$Parser", "scanEscape", "()V"⟩, 18), (⟨"PaperHouse$Parser", "scanHex", "()Z"⟩, 18), (⟨"PaperHouse$Parser", "compound", "(IZ)I"⟩, 18), (⟨"PaperHouse$Parser", "noKey", "(I)I"⟩, 18), (⟨"PaperHouse$Parser", "isTwice", "(II)Z"⟩, 18), (⟨"PaperHouse$Parser", "plain", "(I)I"⟩, 18), (⟨"PaperHouse$Parser", "literal", "(I)I"⟩, 18), (⟨"PaperHouse$Sections", "readRows", "(II[B)Z"⟩, 13), (⟨"PaperHouse$Filters", "readNames", "(I)Z"⟩, 9), (⟨"PaperHouse$Filters", "readName", "(I)Z"⟩, 9), (⟨"PaperHouse$Filters", "readParms", "(I)Z"⟩, 9), (⟨"PaperHouse$Filters", "areRight", "(IZ)Z"⟩, 9), (⟨"PaperHouse$Filters", "wholeOr", "(III)I"⟩, 9), (⟨"PaperHouse$Inflate", "bits", "(I)I"⟩, 15)]
theorem lw_r2 : ∀ q ∈ lw_privs_2, lw_okq q := List.forall_mem_cons.mpr ⟨lw_p16, List.forall_mem_cons.mpr ⟨lw_p17, List.forall_mem_cons.mpr ⟨lw_p18, List.forall_mem_cons.mpr ⟨lw_p19, List.forall_mem_cons.mpr ⟨lw_p20, List.forall_mem_cons.mpr ⟨lw_p21, List.forall_mem_cons.mpr ⟨lw_p22, List.forall_mem_cons.mpr ⟨lw_p23, List.forall_mem_cons.mpr ⟨lw_p24, List.forall_mem_cons.mpr ⟨lw_p25, List.forall_mem_cons.mpr ⟨lw_p26, List.forall_mem_cons.mpr ⟨lw_p27, List.forall_mem_cons.mpr ⟨lw_p28, List.forall_mem_cons.mpr ⟨lw_p29, List.forall_mem_cons.mpr ⟨lw_p30, List.forall_mem_cons.mpr ⟨lw_p31, fun _ h => absurd h List.not_mem_nil⟩⟩⟩⟩⟩⟩⟩⟩⟩⟩⟩⟩⟩⟩⟩⟩
theorem lw_p32 : lw_okq (⟨"PaperHouse$Inflate", "stored", "()Z"⟩, 15) := ⟨⟨by decide +kernel, by decide +kernel⟩, List.mem_of_getElem? (i := 281) (by decide +kernel), List.mem_of_getElem? (i := 1101) (by decide +kernel), List.mem_of_getElem? (i := 1102) (by decide +kernel)⟩
theorem lw_p33 : lw_okq (⟨"PaperHouse$Inflate", "toWholeByte", "()V"⟩, 15) := ⟨⟨by decide +kernel, by decide +kernel⟩, List.mem_of_getElem? (i := 281) (by decide +kernel), List.mem_of_getElem? (i := 1105) (by decide +kernel), List.mem_of_getElem? (i := 1106) (by decide +kernel)⟩
theorem lw_p34 : lw_okq (⟨"PaperHouse$Inflate", "write", "(I)Z"⟩, 15) := ⟨⟨by decide +kernel, by decide +kernel⟩, List.mem_of_getElem? (i := 281) (by decide +kernel), List.mem_of_getElem? (i := 1110) (by decide +kernel), List.mem_of_getElem? (i := 1111) (by decide +kernel)⟩
theorem lw_p35 : lw_okq (⟨"PaperHouse$Inflate", "fixedCodes", "()V"⟩, 15) := ⟨⟨by decide +kernel, by decide +kernel⟩, List.mem_of_getElem? (i := 281) (by decide +kernel), List.mem_of_getElem? (i := 1114) (by decide +kernel), List.mem_of_getElem? (i := 1115) (by decide +kernel)⟩
theorem lw_p36 : lw_okq (⟨"PaperHouse$Inflate", "build", "([I[III)I"⟩, 15) := ⟨⟨by decide +kernel, by decide +kernel⟩, List.mem_of_getElem? (i := 281) (by decide +kernel), List.mem_of_getElem? (i := 1118) (by decide +kernel), List.mem_of_getElem? (i := 1119) (by decide +kernel)⟩
theorem lw_p37 : lw_okq (⟨"PaperHouse$Inflate", "decode", "()Z"⟩, 15) := ⟨⟨by decide +kernel, by decide +kernel⟩, List.mem_of_getElem? (i := 281) (by decide +kernel), List.mem_of_getElem? (i := 1123) (by decide +kernel), List.mem_of_getElem? (i := 1124) (by decide +kernel)⟩
theorem lw_p38 : lw_okq (⟨"PaperHouse$Inflate", "symbol", "([I[I)I"⟩, 15) := ⟨⟨by decide +kernel, by decide +kernel⟩, List.mem_of_getElem? (i := 281) (by decide +kernel), List.mem_of_getElem? (i := 1127) (by decide +kernel), List.mem_of_getElem? (i := 1128) (by decide +kernel)⟩
theorem lw_p39 : lw_okq (⟨"PaperHouse$Inflate", "row", "(I)Z"⟩, 15) := ⟨⟨by decide +kernel, by decide +kernel⟩, List.mem_of_getElem? (i := 281) (by decide +kernel), List.mem_of_getElem? (i := 1131) (by decide +kernel), List.mem_of_getElem? (i := 1132) (by decide +kernel)⟩
theorem lw_p40 : lw_okq (⟨"PaperHouse$Inflate", "readCodes", "()Z"⟩, 15) := ⟨⟨by decide +kernel, by decide +kernel⟩, List.mem_of_getElem? (i := 281) (by decide +kernel), List.mem_of_getElem? (i := 1143) (by decide +kernel), List.mem_of_getElem? (i := 1144) (by decide +kernel)⟩
theorem lw_p41 : lw_okq (⟨"PaperHouse$Inflate", "readSizes", "()Z"⟩, 15) := ⟨⟨by decide +kernel, by decide +kernel⟩, List.mem_of_getElem? (i := 281) (by decide +kernel), List.mem_of_getElem? (i := 1149) (by decide +kernel), List.mem_of_getElem? (i := 1150) (by decide +kernel)⟩
theorem lw_p42 : lw_okq (⟨"PaperHouse$Inflate", "dynamicCodes", "()Z"⟩, 15) := ⟨⟨by decide +kernel, by decide +kernel⟩, List.mem_of_getElem? (i := 281) (by decide +kernel), List.mem_of_getElem? (i := 1153) (by decide +kernel), List.mem_of_getElem? (i := 1154) (by decide +kernel)⟩
theorem lw_p43 : lw_okq (⟨"PaperHouse$Inflate", "endsWell", "()Z"⟩, 15) := ⟨⟨by decide +kernel, by decide +kernel⟩, List.mem_of_getElem? (i := 281) (by decide +kernel), List.mem_of_getElem? (i := 1157) (by decide +kernel), List.mem_of_getElem? (i := 1158) (by decide +kernel)⟩
theorem lw_p44 : lw_okq (⟨"PaperHouse$Filters", "columns", "(I)I"⟩, 9) := ⟨⟨by decide +kernel, by decide +kernel⟩, List.mem_of_getElem? (i := 275) (by decide +kernel), List.mem_of_getElem? (i := 1171) (by decide +kernel), List.mem_of_getElem? (i := 1172) (by decide +kernel)⟩
theorem lw_p45 : lw_okq (⟨"PaperHouse$Sections", "readWidths", "(I)Z"⟩, 13) := ⟨⟨by decide +kernel, by decide +kernel⟩, List.mem_of_getElem? (i := 365) (by decide +kernel), List.mem_of_getElem? (i := 1185) (by decide +kernel), List.mem_of_getElem? (i := 1186) (by decide +kernel)⟩
theorem lw_p46 : lw_okq (⟨"PaperHouse$Sections", "readPairs", "(II)Z"⟩, 13) := ⟨⟨by decide +kernel, by decide +kernel⟩, List.mem_of_getElem? (i := 365) (by decide +kernel), List.mem_of_getElem? (i := 1192) (by decide +kernel), List.mem_of_getElem? (i := 1193) (by decide +kernel)⟩
theorem lw_p47 : lw_okq (⟨"PaperHouse$Sections", "readPair", "(III)Z"⟩, 13) := ⟨⟨by decide +kernel, by decide +kernel⟩, List.mem_of_getElem? (i := 365) (by decide +kernel), List.mem_of_getElem? (i := 1196) (by decide +kernel), List.mem_of_getElem? (i := 1197) (by decide +kernel)⟩
def lw_privs_3 : List (MethodName × Nat) := [(⟨"PaperHouse$Inflate", "stored", "()Z"⟩, 15), (⟨"PaperHouse$Inflate", "toWholeByte", "()V"⟩, 15), (⟨"PaperHouse$Inflate", "write", "(I)Z"⟩, 15), (⟨"PaperHouse$Inflate", "fixedCodes", "()V"⟩, 15), (⟨"PaperHouse$Inflate", "build", "([I[III)I"⟩, 15), (⟨"PaperHouse$Inflate", "decode", "()Z"⟩, 15), (⟨"PaperHouse$Inflate", "symbol", "([I[I)I"⟩, 15), (⟨"PaperHouse$Inflate", "row", "(I)Z"⟩, 15), (⟨"PaperHouse$Inflate", "readCodes", "()Z"⟩, 15), (⟨"PaperHouse$Inflate", "readSizes", "()Z"⟩, 15), (⟨"PaperHouse$Inflate", "dynamicCodes", "()Z"⟩, 15), (⟨"PaperHouse$Inflate", "endsWell", "()Z"⟩, 15), (⟨"PaperHouse$Filters", "columns", "(I)I"⟩, 9), (⟨"PaperHouse$Sections", "readWidths", "(I)Z"⟩, 13), (⟨"PaperHouse$Sections", "readPairs", "(II)Z"⟩, 13), (⟨"PaperHouse$Sections", "readPair", "(III)Z"⟩, 13)]
theorem lw_r3 : ∀ q ∈ lw_privs_3, lw_okq q := List.forall_mem_cons.mpr ⟨lw_p32, List.forall_mem_cons.mpr ⟨lw_p33, List.forall_mem_cons.mpr ⟨lw_p34, List.forall_mem_cons.mpr ⟨lw_p35, List.forall_mem_cons.mpr ⟨lw_p36, List.forall_mem_cons.mpr ⟨lw_p37, List.forall_mem_cons.mpr ⟨lw_p38, List.forall_mem_cons.mpr ⟨lw_p39, List.forall_mem_cons.mpr ⟨lw_p40, List.forall_mem_cons.mpr ⟨lw_p41, List.forall_mem_cons.mpr ⟨lw_p42, List.forall_mem_cons.mpr ⟨lw_p43, List.forall_mem_cons.mpr ⟨lw_p44, List.forall_mem_cons.mpr ⟨lw_p45, List.forall_mem_cons.mpr ⟨lw_p46, List.forall_mem_cons.mpr ⟨lw_p47, fun _ h => absurd h List.not_mem_nil⟩⟩⟩⟩⟩⟩⟩⟩⟩⟩⟩⟩⟩⟩⟩⟩
theorem lw_p48 : lw_okq (⟨"PaperHouse$Sections", "number", "(I)J"⟩, 13) := ⟨⟨by decide +kernel, by decide +kernel⟩, List.mem_of_getElem? (i := 365) (by decide +kernel), List.mem_of_getElem? (i := 1200) (by decide +kernel), List.mem_of_getElem? (i := 1201) (by decide +kernel)⟩
theorem lw_p49 : lw_okq (⟨"PaperHouse$Sections", "readTrailer", "(II)I"⟩, 13) := ⟨⟨by decide +kernel, by decide +kernel⟩, List.mem_of_getElem? (i := 365) (by decide +kernel), List.mem_of_getElem? (i := 1208) (by decide +kernel), List.mem_of_getElem? (i := 1209) (by decide +kernel)⟩
theorem lw_p50 : lw_okq (⟨"PaperHouse$Loader", "waits", "(I)Z"⟩, 10) := ⟨⟨by decide +kernel, by decide +kernel⟩, List.mem_of_getElem? (i := 416) (by decide +kernel), List.mem_of_getElem? (i := 1242) (by decide +kernel), List.mem_of_getElem? (i := 1243) (by decide +kernel)⟩
theorem lw_p51 : lw_okq (⟨"PaperHouse$Loader", "failObject", "(I)I"⟩, 10) := ⟨⟨by decide +kernel, by decide +kernel⟩, List.mem_of_getElem? (i := 416) (by decide +kernel), List.mem_of_getElem? (i := 1246) (by decide +kernel), List.mem_of_getElem? (i := 1247) (by decide +kernel)⟩
theorem lw_p52 : lw_okq (⟨"PaperHouse$Loader", "clip", "(I)I"⟩, 10) := ⟨⟨by decide +kernel, by decide +kernel⟩, List.mem_of_getElem? (i := 416) (by decide +kernel), List.mem_of_getElem? (i := 1254) (by decide +kernel), List.mem_of_getElem? (i := 1255) (by decide +kernel)⟩
theorem lw_p53 : lw_okq (⟨"PaperHouse$Loader", "findInside", "(I)Z"⟩, 10) := ⟨⟨by decide +kernel, by decide +kernel⟩, List.mem_of_getElem? (i := 416) (by decide +kernel), List.mem_of_getElem? (i := 1282) (by decide +kernel), List.mem_of_getElem? (i := 1283) (by decide +kernel)⟩
theorem lw_p54 : lw_okq (⟨"PaperHouse$Loader", "findPlaced", "(I)Z"⟩, 10) := ⟨⟨by decide +kernel, by decide +kernel⟩, List.mem_of_getElem? (i := 416) (by decide +kernel), List.mem_of_getElem? (i := 1304) (by decide +kernel), List.mem_of_getElem? (i := 1305) (by decide +kernel)⟩
theorem lw_p55 : lw_okq (⟨"PaperHouse$Loader", "readBehind", "(II)V"⟩, 10) := ⟨⟨by decide +kernel, by decide +kernel⟩, List.mem_of_getElem? (i := 416) (by decide +kernel), List.mem_of_getElem? (i := 1315) (by decide +kernel), List.mem_of_getElem? (i := 1316) (by decide +kernel)⟩
theorem lw_p56 : lw_okq (⟨"PaperHouse$Tree", "visit", "(III)I"⟩, 9) := ⟨⟨by decide +kernel, by decide +kernel⟩, List.mem_of_getElem? (i := 455) (by decide +kernel), List.mem_of_getElem? (i := 1356) (by decide +kernel), List.mem_of_getElem? (i := 1357) (by decide +kernel)⟩
theorem lw_p57 : lw_okq (⟨"PaperHouse$Tree", "looksRight", "(IIZ)Z"⟩, 9) := ⟨⟨by decide +kernel, by decide +kernel⟩, List.mem_of_getElem? (i := 455) (by decide +kernel), List.mem_of_getElem? (i := 1361) (by decide +kernel), List.mem_of_getElem? (i := 1362) (by decide +kernel)⟩
theorem lw_p58 : lw_okq (⟨"PaperHouse$Tree", "isBox", "(I)Z"⟩, 9) := ⟨⟨by decide +kernel, by decide +kernel⟩, List.mem_of_getElem? (i := 455) (by decide +kernel), List.mem_of_getElem? (i := 1366) (by decide +kernel), List.mem_of_getElem? (i := 1367) (by decide +kernel)⟩
theorem lw_p59 : lw_okq (⟨"PaperHouse$Tree", "takesPage", "(I)Z"⟩, 9) := ⟨⟨by decide +kernel, by decide +kernel⟩, List.mem_of_getElem? (i := 455) (by decide +kernel), List.mem_of_getElem? (i := 1378) (by decide +kernel), List.mem_of_getElem? (i := 1379) (by decide +kernel)⟩
theorem lw_p60 : lw_okq (⟨"PaperHouse", "kindHere", "()I"⟩, 19) := ⟨⟨by decide +kernel, by decide +kernel⟩, List.mem_of_getElem? (i := 23) (by decide +kernel), List.mem_of_getElem? (i := 1415) (by decide +kernel), List.mem_of_getElem? (i := 1416) (by decide +kernel)⟩
theorem lw_p61 : lw_okq (⟨"PaperHouse", "nodeHere", "()I"⟩, 19) := ⟨⟨by decide +kernel, by decide +kernel⟩, List.mem_of_getElem? (i := 23) (by decide +kernel), List.mem_of_getElem? (i := 1420) (by decide +kernel), List.mem_of_getElem? (i := 1421) (by decide +kernel)⟩
theorem lw_p62 : lw_okq (⟨"PaperHouse", "isNowhere", "()Z"⟩, 19) := ⟨⟨by decide +kernel, by decide +kernel⟩, List.mem_of_getElem? (i := 23) (by decide +kernel), List.mem_of_getElem? (i := 1424) (by decide +kernel), List.mem_of_getElem? (i := 1425) (by decide +kernel)⟩
theorem lw_p63 : lw_okq (⟨"PaperHouse", "keyHere", "()I"⟩, 19) := ⟨⟨by decide +kernel, by decide +kernel⟩, List.mem_of_getElem? (i := 23) (by decide +kernel), List.mem_of_getElem? (i := 1444) (by decide +kernel), List.mem_of_getElem? (i := 1445) (by decide +kernel)⟩
def lw_privs_4 : List (MethodName × Nat) := [(⟨"PaperHouse$Sections", "number", "(I)J"⟩, 13), (⟨"PaperHouse$Sections", "readTrailer", "(II)I"⟩, 13), (⟨"PaperHouse$Loader", "waits", "(I)Z"⟩, 10), (⟨"PaperHouse$Loader", "failObject", "(I)I"⟩, 10), (⟨"PaperHouse$Loader", "clip", "(I)I"⟩, 10), (⟨"PaperHouse$Loader", "findInside", "(I)Z"⟩, 10), (⟨"PaperHouse$Loader", "findPlaced", "(I)Z"⟩, 10), (⟨"PaperHouse$Loader", "readBehind", "(II)V"⟩, 10), (⟨"PaperHouse$Tree", "visit", "(III)I"⟩, 9), (⟨"PaperHouse$Tree", "looksRight", "(IIZ)Z"⟩, 9), (⟨"PaperHouse$Tree", "isBox", "(I)Z"⟩, 9), (⟨"PaperHouse$Tree", "takesPage", "(I)Z"⟩, 9), (⟨"PaperHouse", "kindHere", "()I"⟩, 19), (⟨"PaperHouse", "nodeHere", "()I"⟩, 19), (⟨"PaperHouse", "isNowhere", "()Z"⟩, 19), (⟨"PaperHouse", "keyHere", "()I"⟩, 19)]
theorem lw_r4 : ∀ q ∈ lw_privs_4, lw_okq q := List.forall_mem_cons.mpr ⟨lw_p48, List.forall_mem_cons.mpr ⟨lw_p49, List.forall_mem_cons.mpr ⟨lw_p50, List.forall_mem_cons.mpr ⟨lw_p51, List.forall_mem_cons.mpr ⟨lw_p52, List.forall_mem_cons.mpr ⟨lw_p53, List.forall_mem_cons.mpr ⟨lw_p54, List.forall_mem_cons.mpr ⟨lw_p55, List.forall_mem_cons.mpr ⟨lw_p56, List.forall_mem_cons.mpr ⟨lw_p57, List.forall_mem_cons.mpr ⟨lw_p58, List.forall_mem_cons.mpr ⟨lw_p59, List.forall_mem_cons.mpr ⟨lw_p60, List.forall_mem_cons.mpr ⟨lw_p61, List.forall_mem_cons.mpr ⟨lw_p62, List.forall_mem_cons.mpr ⟨lw_p63, fun _ h => absurd h List.not_mem_nil⟩⟩⟩⟩⟩⟩⟩⟩⟩⟩⟩⟩⟩⟩⟩⟩
theorem lw_p64 : lw_okq (⟨"PaperHouse$Painter", "operate", "(II)V"⟩, 19) := ⟨⟨by decide +kernel, by decide +kernel⟩, List.mem_of_getElem? (i := 492) (by decide +kernel), List.mem_of_getElem? (i := 1532) (by decide +kernel), List.mem_of_getElem? (i := 1533) (by decide +kernel)⟩
theorem lw_p65 : lw_okq (⟨"PaperHouse$Painter", "fits", "(I)Z"⟩, 19) := ⟨⟨by decide +kernel, by decide +kernel⟩, List.mem_of_getElem? (i := 492) (by decide +kernel), List.mem_of_getElem? (i := 1539) (by decide +kernel), List.mem_of_getElem? (i := 1540) (by decide +kernel)⟩
theorem lw_p66 : lw_okq (⟨"PaperHouse$Painter", "operand", "(I)I"⟩, 19) := ⟨⟨by decide +kernel, by decide +kernel⟩, List.mem_of_getElem? (i := 492) (by decide +kernel), List.mem_of_getElem? (i := 1543) (by decide +kernel), List.mem_of_getElem? (i := 1544) (by decide +kernel)⟩
theorem lw_p67 : lw_okq (⟨"PaperHouse$Painter", "arePieces", "(I)Z"⟩, 19) := ⟨⟨by decide +kernel, by decide +kernel⟩, List.mem_of_getElem? (i := 492) (by decide +kernel), List.mem_of_getElem? (i := 1548) (by decide +kernel), List.mem_of_getElem? (i := 1549) (by decide +kernel)⟩
theorem lw_p68 : lw_okq (⟨"PaperHouse$Painter", "areNumbers", "(I)Z"⟩, 19) := ⟨⟨by decide +kernel, by decide +kernel⟩, List.mem_of_getElem? (i := 492) (by decide +kernel), List.mem_of_getElem? (i := 1556) (by decide +kernel), List.mem_of_getElem? (i := 1557) (by decide +kernel)⟩
theorem lw_p69 : lw_okq (⟨"PaperHouse$Painter", "isInOrder", "(I)Z"⟩, 19) := ⟨⟨by decide +kernel, by decide +kernel⟩, List.mem_of_getElem? (i := 492) (by decide +kernel), List.mem_of_getElem? (i := 1560) (by decide +kernel), List.mem_of_getElem? (i := 1561) (by decide +kernel)⟩
theorem lw_p70 : lw_okq (⟨"PaperHouse$Painter", "findsFont", "(I)Z"⟩, 19) := ⟨⟨by decide +kernel, by decide +kernel⟩, List.mem_of_getElem? (i := 492) (by decide +kernel), List.mem_of_getElem? (i := 1564) (by decide +kernel), List.mem_of_getElem? (i := 1565) (by decide +kernel)⟩
theorem lw_p71 : lw_okq (⟨"PaperHouse$Painter", "resources", "()I"⟩, 19) := ⟨⟨by decide +kernel, by decide +kernel⟩, List.mem_of_getElem? (i := 492) (by decide +kernel), List.mem_of_getElem? (i := 1568) (by decide +kernel), List.mem_of_getElem? (i := 1569) (by decide +kernel)⟩
theorem lw_p72 : lw_okq (⟨"PaperHouse$Painter", "readFont", "(I)Z"⟩, 19) := ⟨⟨by decide +kernel, by decide +kernel⟩, List.mem_of_getElem? (i := 492) (by decide +kernel), List.mem_of_getElem? (i := 1575) (by decide +kernel), List.mem_of_getElem? (i := 1576) (by decide +kernel)⟩
theorem lw_p73 : lw_okq (⟨"PaperHouse$Painter", "hasString", "(I)Z"⟩, 19) := ⟨⟨by decide +kernel, by decide +kernel⟩, List.mem_of_getElem? (i := 492) (by decide +kernel), List.mem_of_getElem? (i := 1585) (by decide +kernel), List.mem_of_getElem? (i := 1586) (by decide +kernel)⟩
theorem lw_p74 : lw_okq (⟨"PaperHouse$Painter", "showText", "(II)I"⟩, 19) := ⟨⟨by decide +kernel, by decide +kernel⟩, List.mem_of_getElem? (i := 492) (by decide +kernel), List.mem_of_getElem? (i := 1589) (by decide +kernel), List.mem_of_getElem? (i := 1590) (by decide +kernel)⟩
theorem lw_p75 : lw_okq (⟨"PaperHouse$Painter", "workInText", "(I)I"⟩, 19) := ⟨⟨by decide +kernel, by decide +kernel⟩, List.mem_of_getElem? (i := 492) (by decide +kernel), List.mem_of_getElem? (i := 1593) (by decide +kernel), List.mem_of_getElem? (i := 1594) (by decide +kernel)⟩
theorem lw_p76 : lw_okq (⟨"PaperHouse$Painter", "nextLine", "(II)Z"⟩, 19) := ⟨⟨by decide +kernel, by decide +kernel⟩, List.mem_of_getElem? (i := 492) (by decide +kernel), List.mem_of_getElem? (i := 1597) (by decide +kernel), List.mem_of_getElem? (i := 1598) (by decide +kernel)⟩
theorem lw_p77 : lw_okq (⟨"PaperHouse$Painter", "give", "(IIIIII)V"⟩, 19) := ⟨⟨by decide +kernel, by decide +kernel⟩, List.mem_of_getElem? (i := 492) (by decide +kernel), List.mem_of_getElem? (i := 1601) (by decide +kernel), List.mem_of_getElem? (i := 1602) (by decide +kernel)⟩
theorem lw_p78 : lw_okq (⟨"PaperHouse$Painter", "giveOperands", "()V"⟩, 19) := ⟨⟨by decide +kernel, by decide +kernel⟩, List.mem_of_getElem? (i := 492) (by decide +kernel), List.mem_of_getElem? (i := 1614) (by decide +kernel), List.mem_of_getElem? (i := 1615) (by decide +kernel)⟩
theorem lw_p79 : lw_okq (⟨"PaperHouse$Painter", "showString", "(I)I"⟩, 19) := ⟨⟨by decide +kernel, by decide +kernel⟩, List.mem_of_getElem? (i := 492) (by decide +kernel), List.mem_of_getElem? (i := 1618) (by decide +kernel), List.mem_of_getElem? (i := 1619) (by decide +kernel)⟩
def lw_privs_5 : List (MethodName × Nat) := [(⟨"PaperHouse$Painter", "operate", "(II)V"⟩, 19), (⟨"PaperHouse$Painter", "fits", "(I)Z"⟩, 19), (⟨"PaperHouse$Painter", "operand", "(I)I"⟩, 19), (⟨"PaperHouse$Painter", "arePieces", "(I)Z"⟩, 19), (⟨"PaperHouse$Painter", "areNumbers", "(I)Z"⟩, 19), (⟨"PaperHouse$Painter", "isInOrder", "(I)Z"⟩, 19), (⟨"PaperHouse$Painter", "findsFont", "(I)Z"⟩, 19), (⟨"PaperHouse$Painter", "resources", "()I"⟩, 19), (⟨"PaperHouse$Painter", "readFont", "(I)Z"⟩, 19), (⟨"PaperHouse$Painter", "hasString", "(I)Z"⟩, 19), (⟨"PaperHouse$Painter", "showText", "(II)I"⟩, 19), (⟨"PaperHouse$Painter", "workInText", "(I)I"⟩, 19), (⟨"PaperHouse$Painter", "nextLine", "(II)Z"⟩, 19), (⟨"PaperHouse$Painter", "give", "(IIIIII)V"⟩, 19), (⟨"PaperHouse$Painter", "giveOperands", "()V"⟩, 19), (⟨"PaperHouse$Painter", "showString", "(I)I"⟩, 19)]
theorem lw_r5 : ∀ q ∈ lw_privs_5, lw_okq q := List.forall_mem_cons.mpr ⟨lw_p64, List.forall_mem_cons.mpr ⟨lw_p65, List.forall_mem_cons.mpr ⟨lw_p66, List.forall_mem_cons.mpr ⟨lw_p67, List.forall_mem_cons.mpr ⟨lw_p68, List.forall_mem_cons.mpr ⟨lw_p69, List.forall_mem_cons.mpr ⟨lw_p70, List.forall_mem_cons.mpr ⟨lw_p71, List.forall_mem_cons.mpr ⟨lw_p72, List.forall_mem_cons.mpr ⟨lw_p73, List.forall_mem_cons.mpr ⟨lw_p74, List.forall_mem_cons.mpr ⟨lw_p75, List.forall_mem_cons.mpr ⟨lw_p76, List.forall_mem_cons.mpr ⟨lw_p77, List.forall_mem_cons.mpr ⟨lw_p78, List.forall_mem_cons.mpr ⟨lw_p79, fun _ h => absurd h List.not_mem_nil⟩⟩⟩⟩⟩⟩⟩⟩⟩⟩⟩⟩⟩⟩⟩⟩
theorem lw_p80 : lw_okq (⟨"PaperHouse$Painter", "keepGlyph", "(I)V"⟩, 19) := ⟨⟨by decide +kernel, by decide +kernel⟩, List.mem_of_getElem? (i := 492) (by decide +kernel), List.mem_of_getElem? (i := 1624) (by decide +kernel), List.mem_of_getElem? (i := 1625) (by decide +kernel)⟩
theorem lw_p81 : lw_okq (⟨"PaperHouse$Painter", "scaled", "(J)J"⟩, 19) := ⟨⟨by decide +kernel, by decide +kernel⟩, List.mem_of_getElem? (i := 492) (by decide +kernel), List.mem_of_getElem? (i := 1628) (by decide +kernel), List.mem_of_getElem? (i := 1629) (by decide +kernel)⟩
theorem lw_p82 : lw_okq (⟨"PaperHouse$Painter", "advance", "(J)Z"⟩, 19) := ⟨⟨by decide +kernel, by decide +kernel⟩, List.mem_of_getElem? (i := 492) (by decide +kernel), List.mem_of_getElem? (i := 1637) (by decide +kernel), List.mem_of_getElem? (i := 1638) (by decide +kernel)⟩
theorem lw_p83 : lw_okq (⟨"PaperHouse$Painter", "work", "(I)I"⟩, 19) := ⟨⟨by decide +kernel, by decide +kernel⟩, List.mem_of_getElem? (i := 492) (by decide +kernel), List.mem_of_getElem? (i := 1641) (by decide +kernel), List.mem_of_getElem? (i := 1642) (by decide +kernel)⟩
theorem lw_p84 : lw_okq (⟨"PaperHouse$Changes", "set", "(IIIII)V"⟩, 3) := ⟨⟨by decide +kernel, by decide +kernel⟩, List.mem_of_getElem? (i := 560) (by decide +kernel), List.mem_of_getElem? (i := 1687) (by decide +kernel), List.mem_of_getElem? (i := 1688) (by decide +kernel)⟩
theorem lw_p85 : lw_okq (⟨"PaperHouse$Changes", "putIn", "(II)V"⟩, 3) := ⟨⟨by decide +kernel, by decide +kernel⟩, List.mem_of_getElem? (i := 560) (by decide +kernel), List.mem_of_getElem? (i := 1708) (by decide +kernel), List.mem_of_getElem? (i := 1709) (by decide +kernel)⟩
theorem lw_p86 : lw_okq (⟨"PaperHouse$Changes", "ownKids", "(I)I"⟩, 3) := ⟨⟨by decide +kernel, by decide +kernel⟩, List.mem_of_getElem? (i := 560) (by decide +kernel), List.mem_of_getElem? (i := 1717) (by decide +kernel), List.mem_of_getElem? (i := 1718) (by decide +kernel)⟩
theorem lw_p87 : lw_okq (⟨"PaperHouse$Changes", "placeOf", "(II)I"⟩, 3) := ⟨⟨by decide +kernel, by decide +kernel⟩, List.mem_of_getElem? (i := 560) (by decide +kernel), List.mem_of_getElem? (i := 1727) (by decide +kernel), List.mem_of_getElem? (i := 1728) (by decide +kernel)⟩
theorem lw_p88 : lw_okq (⟨"PaperHouse$Changes", "countUp", "(II)V"⟩, 3) := ⟨⟨by decide +kernel, by decide +kernel⟩, List.mem_of_getElem? (i := 560) (by decide +kernel), List.mem_of_getElem? (i := 1744) (by decide +kernel), List.mem_of_getElem? (i := 1745) (by decide +kernel)⟩
theorem lw_p89 : lw_okq (⟨"PaperHouse", "changed", "(I)I"⟩, 19) := ⟨⟨by decide +kernel, by decide +kernel⟩, List.mem_of_getElem? (i := 23) (by decide +kernel), List.mem_of_getElem? (i := 1749) (by decide +kernel), List.mem_of_getElem? (i := 1750) (by decide +kernel)⟩
theorem lw_p90 : lw_okq (⟨"PaperHouse$Changes", "takeOut", "(I)V"⟩, 3) := ⟨⟨by decide +kernel, by decide +kernel⟩, List.mem_of_getElem? (i := 560) (by decide +kernel), List.mem_of_getElem? (i := 1762) (by decide +kernel), List.mem_of_getElem? (i := 1763) (by decide +kernel)⟩
theorem lw_p91 : lw_okq (⟨"PaperHouse$Changes", "takeOver", "(II)V"⟩, 3) := ⟨⟨by decide +kernel, by decide +kernel⟩, List.mem_of_getElem? (i := 560) (by decide +kernel), List.mem_of_getElem? (i := 1778) (by decide +kernel), List.mem_of_getElem? (i := 1779) (by decide +kernel)⟩
theorem lw_p92 : lw_okq (⟨"PaperHouse$Writer", "putText", "(Ljava/lang/String;)V"⟩, 18) := ⟨⟨by decide +kernel, by decide +kernel⟩, List.mem_of_getElem? (i := 576) (by decide +kernel), List.mem_of_getElem? (i := 1830) (by decide +kernel), List.mem_of_getElem? (i := 1831) (by decide +kernel)⟩
theorem lw_p93 : lw_okq (⟨"PaperHouse$Writer", "put", "(I)V"⟩, 18) := ⟨⟨by decide +kernel, by decide +kernel⟩, List.mem_of_getElem? (i := 576) (by decide +kernel), List.mem_of_getElem? (i := 1836) (by decide +kernel), List.mem_of_getElem? (i := 1837) (by decide +kernel)⟩
theorem lw_p94 : lw_okq (⟨"PaperHouse$Writer", "meet", "(I)I"⟩, 18) := ⟨⟨by decide +kernel, by decide +kernel⟩, List.mem_of_getElem? (i := 576) (by decide +kernel), List.mem_of_getElem? (i := 1840) (by decide +kernel), List.mem_of_getElem? (i := 1841) (by decide +kernel)⟩
theorem lw_p95 : lw_okq (⟨"PaperHouse$Writer", "putObject", "(III)V"⟩, 18) := ⟨⟨by decide +kernel, by decide +kernel⟩, List.mem_of_getElem? (i := 576) (by decide +kernel), List.mem_of_getElem? (i := 1844) (by decide +kernel), List.mem_of_getElem? (i := 1845) (by decide +kernel)⟩
def lw_privs_6 : List (MethodName × Nat) := [(⟨"PaperHouse$Painter", "keepGlyph", "(I)V"⟩, 19), (⟨"PaperHouse$Painter", "scaled", "(J)J"⟩, 19), (⟨"PaperHouse$Painter", "advance", "(J)Z"⟩, 19), (⟨"PaperHouse$Painter", "work", "(I)I"⟩, 19), (⟨"PaperHouse$Changes", "set", "(IIIII)V"⟩, 3), (⟨"PaperHouse$Changes", "putIn", "(II)V"⟩, 3), (⟨"PaperHouse$Changes", "ownKids", "(I)I"⟩, 3), (⟨"PaperHouse$Changes", "placeOf", "(II)I"⟩, 3), (⟨"PaperHouse$Changes", "countUp", "(II)V"⟩, 3), (⟨"PaperHouse", "changed", "(I)I"⟩, 19), (⟨"PaperHouse$Changes", "takeOut", "(I)V"⟩, 3), (⟨"PaperHouse$Changes", "takeOver", "(II)V"⟩, 3), (⟨"PaperHouse$Writer", "putText", "(Ljava/lang/String;)V"⟩, 18), (⟨"PaperHouse$Writer", "put", "(I)V"⟩, 18), (⟨"PaperHouse$Writer", "meet", "(I)I"⟩, 18), (⟨"PaperHouse$Writer", "putObject", "(III)V"⟩, 18)]
theorem lw_r6 : ∀ q ∈ lw_privs_6, lw_okq q := List.forall_mem_cons.mpr ⟨lw_p80, List.forall_mem_cons.mpr ⟨lw_p81, List.forall_mem_cons.mpr ⟨lw_p82, List.forall_mem_cons.mpr ⟨lw_p83, List.forall_mem_cons.mpr ⟨lw_p84, List.forall_mem_cons.mpr ⟨lw_p85, List.forall_mem_cons.mpr ⟨lw_p86, List.forall_mem_cons.mpr ⟨lw_p87, List.forall_mem_cons.mpr ⟨lw_p88, List.forall_mem_cons.mpr ⟨lw_p89, List.forall_mem_cons.mpr ⟨lw_p90, List.forall_mem_cons.mpr ⟨lw_p91, List.forall_mem_cons.mpr ⟨lw_p92, List.forall_mem_cons.mpr ⟨lw_p93, List.forall_mem_cons.mpr ⟨lw_p94, List.forall_mem_cons.mpr ⟨lw_p95, fun _ h => absurd h List.not_mem_nil⟩⟩⟩⟩⟩⟩⟩⟩⟩⟩⟩⟩⟩⟩⟩⟩
theorem lw_p96 : lw_okq (⟨"PaperHouse$Writer", "putNumber", "(J)V"⟩, 18) := ⟨⟨by decide +kernel, by decide +kernel⟩, List.mem_of_getElem? (i := 576) (by decide +kernel), List.mem_of_getElem? (i := 1848) (by decide +kernel), List.mem_of_getElem? (i := 1849) (by decide +kernel)⟩
theorem lw_p97 : lw_okq (⟨"PaperHouse$Writer", "squeeze", "([BII)V"⟩, 18) := ⟨⟨by decide +kernel, by decide +kernel⟩, List.mem_of_getElem? (i := 576) (by decide +kernel), List.mem_of_getElem? (i := 1859) (by decide +kernel), List.mem_of_getElem? (i := 1860) (by decide +kernel)⟩
theorem lw_p98 : lw_okq (⟨"PaperHouse$Writer", "push", "(II)V"⟩, 18) := ⟨⟨by decide +kernel, by decide +kernel⟩, List.mem_of_getElem? (i := 576) (by decide +kernel), List.mem_of_getElem? (i := 1864) (by decide +kernel), List.mem_of_getElem? (i := 1865) (by decide +kernel)⟩
theorem lw_p99 : lw_okq (⟨"PaperHouse$Writer", "longest", "([BIII)I"⟩, 18) := ⟨⟨by decide +kernel, by decide +kernel⟩, List.mem_of_getElem? (i := 576) (by decide +kernel), List.mem_of_getElem? (i := 1868) (by decide +kernel), List.mem_of_getElem? (i := 1869) (by decide +kernel)⟩
theorem lw_p100 : lw_okq (⟨"PaperHouse$Writer", "pushSymbol", "(I)V"⟩, 18) := ⟨⟨by decide +kernel, by decide +kernel⟩, List.mem_of_getElem? (i := 576) (by decide +kernel), List.mem_of_getElem? (i := 1875) (by decide +kernel), List.mem_of_getElem? (i := 1876) (by decide +kernel)⟩
theorem lw_p101 : lw_okq (⟨"PaperHouse$Writer", "pushCode", "(II)V"⟩, 18) := ⟨⟨by decide +kernel, by decide +kernel⟩, List.mem_of_getElem? (i := 576) (by decide +kernel), List.mem_of_getElem? (i := 1879) (by decide +kernel), List.mem_of_getElem? (i := 1880) (by decide +kernel)⟩
theorem lw_p102 : lw_okq (⟨"PaperHouse$Writer", "pushRow", "(I)V"⟩, 18) := ⟨⟨by decide +kernel, by decide +kernel⟩, List.mem_of_getElem? (i := 576) (by decide +kernel), List.mem_of_getElem? (i := 1883) (by decide +kernel), List.mem_of_getElem? (i := 1884) (by decide +kernel)⟩
theorem lw_p103 : lw_okq (⟨"PaperHouse$Writer", "remember", "([BIII)V"⟩, 18) := ⟨⟨by decide +kernel, by decide +kernel⟩, List.mem_of_getElem? (i := 576) (by decide +kernel), List.mem_of_getElem? (i := 1891) (by decide +kernel), List.mem_of_getElem? (i := 1892) (by decide +kernel)⟩
theorem lw_p104 : lw_okq (⟨"PaperHouse$Writer", "forget", "([BII)V"⟩, 18) := ⟨⟨by decide +kernel, by decide +kernel⟩, List.mem_of_getElem? (i := 576) (by decide +kernel), List.mem_of_getElem? (i := 1896) (by decide +kernel), List.mem_of_getElem? (i := 1897) (by decide +kernel)⟩
theorem lw_p105 : lw_okq (⟨"PaperHouse$Writer", "putEntries", "(IIZ)V"⟩, 18) := ⟨⟨by decide +kernel, by decide +kernel⟩, List.mem_of_getElem? (i := 576) (by decide +kernel), List.mem_of_getElem? (i := 1902) (by decide +kernel), List.mem_of_getElem? (i := 1903) (by decide +kernel)⟩
theorem lw_p106 : lw_okq (⟨"PaperHouse$Writer", "putName", "(I)V"⟩, 18) := ⟨⟨by decide +kernel, by decide +kernel⟩, List.mem_of_getElem? (i := 576) (by decide +kernel), List.mem_of_getElem? (i := 1910) (by decide +kernel), List.mem_of_getElem? (i := 1911) (by decide +kernel)⟩
theorem lw_p107 : lw_okq (⟨"PaperHouse$Writer", "putHex", "(I)V"⟩, 18) := ⟨⟨by decide +kernel, by decide +kernel⟩, List.mem_of_getElem? (i := 576) (by decide +kernel), List.mem_of_getElem? (i := 1917) (by decide +kernel), List.mem_of_getElem? (i := 1918) (by decide +kernel)⟩
theorem lw_p108 : lw_okq (⟨"PaperHouse$Writer", "putValue", "(II)V"⟩, 18) := ⟨⟨by decide +kernel, by decide +kernel⟩, List.mem_of_getElem? (i := 576) (by decide +kernel), List.mem_of_getElem? (i := 1921) (by decide +kernel), List.mem_of_getElem? (i := 1922) (by decide +kernel)⟩
theorem lw_p109 : lw_okq (⟨"PaperHouse$Writer", "putReal", "(I)V"⟩, 18) := ⟨⟨by decide +kernel, by decide +kernel⟩, List.mem_of_getElem? (i := 576) (by decide +kernel), List.mem_of_getElem? (i := 1929) (by decide +kernel), List.mem_of_getElem? (i := 1930) (by decide +kernel)⟩
theorem lw_p110 : lw_okq (⟨"PaperHouse$Writer", "putString", "(I)V"⟩, 18) := ⟨⟨by decide +kernel, by decide +kernel⟩, List.mem_of_getElem? (i := 576) (by decide +kernel), List.mem_of_getElem? (i := 1936) (by decide +kernel), List.mem_of_getElem? (i := 1937) (by decide +kernel)⟩
theorem lw_p111 : lw_okq (⟨"PaperHouse$Writer", "putReference", "(I)V"⟩, 18) := ⟨⟨by decide +kernel, by decide +kernel⟩, List.mem_of_getElem? (i := 576) (by decide +kernel), List.mem_of_getElem? (i := 1943) (by decide +kernel), List.mem_of_getElem? (i := 1944) (by decide +kernel)⟩
def lw_privs_7 : List (MethodName × Nat) := [(⟨"PaperHouse$Writer", "putNumber", "(J)V"⟩, 18), (⟨"PaperHouse$Writer", "squeeze", "([BII)V"⟩, 18), (⟨"PaperHouse$Writer", "push", "(II)V"⟩, 18), (⟨"PaperHouse$Writer", "longest", "([BIII)I"⟩, 18), (⟨"PaperHouse$Writer", "pushSymbol", "(I)V"⟩, 18), (⟨"PaperHouse$Writer", "pushCode", "(II)V"⟩, 18), (⟨"PaperHouse$Writer", "pushRow", "(I)V"⟩, 18), (⟨"PaperHouse$Writer", "remember", "([BIII)V"⟩, 18), (⟨"PaperHouse$Writer", "forget", "([BII)V"⟩, 18), (⟨"PaperHouse$Writer", "putEntries", "(IIZ)V"⟩, 18), (⟨"PaperHouse$Writer", "putName", "(I)V"⟩, 18), (⟨"PaperHouse$Writer", "putHex", "(I)V"⟩, 18), (⟨"PaperHouse$Writer", "putValue", "(II)V"⟩, 18), (⟨"PaperHouse$Writer", "putReal", "(I)V"⟩, 18), (⟨"PaperHouse$Writer", "putString", "(I)V"⟩, 18), (⟨"PaperHouse$Writer", "putReference", "(I)V"⟩, 18)]
theorem lw_r7 : ∀ q ∈ lw_privs_7, lw_okq q := List.forall_mem_cons.mpr ⟨lw_p96, List.forall_mem_cons.mpr ⟨lw_p97, List.forall_mem_cons.mpr ⟨lw_p98, List.forall_mem_cons.mpr ⟨lw_p99, List.forall_mem_cons.mpr ⟨lw_p100, List.forall_mem_cons.mpr ⟨lw_p101, List.forall_mem_cons.mpr ⟨lw_p102, List.forall_mem_cons.mpr ⟨lw_p103, List.forall_mem_cons.mpr ⟨lw_p104, List.forall_mem_cons.mpr ⟨lw_p105, List.forall_mem_cons.mpr ⟨lw_p106, List.forall_mem_cons.mpr ⟨lw_p107, List.forall_mem_cons.mpr ⟨lw_p108, List.forall_mem_cons.mpr ⟨lw_p109, List.forall_mem_cons.mpr ⟨lw_p110, List.forall_mem_cons.mpr ⟨lw_p111, fun _ h => absurd h List.not_mem_nil⟩⟩⟩⟩⟩⟩⟩⟩⟩⟩⟩⟩⟩⟩⟩⟩
theorem lw_p112 : lw_okq (⟨"PaperHouse$Writer", "putCode", "()V"⟩, 18) := ⟨⟨by decide +kernel, by decide +kernel⟩, List.mem_of_getElem? (i := 576) (by decide +kernel), List.mem_of_getElem? (i := 1952) (by decide +kernel), List.mem_of_getElem? (i := 1953) (by decide +kernel)⟩
theorem lw_p113 : lw_okq (⟨"PaperHouse$Writer", "putEntry", "(II)V"⟩, 18) := ⟨⟨by decide +kernel, by decide +kernel⟩, List.mem_of_getElem? (i := 576) (by decide +kernel), List.mem_of_getElem? (i := 1962) (by decide +kernel), List.mem_of_getElem? (i := 1963) (by decide +kernel)⟩
theorem lw_p114 : lw_okq (⟨"PaperHouse$Writer", "putDigits", "(JJ)V"⟩, 18) := ⟨⟨by decide +kernel, by decide +kernel⟩, List.mem_of_getElem? (i := 576) (by decide +kernel), List.mem_of_getElem? (i := 1967) (by decide +kernel), List.mem_of_getElem? (i := 1968) (by decide +kernel)⟩
theorem lw_p115 : lw_okq (⟨"PaperHouse$Writer", "putRoots", "()V"⟩, 18) := ⟨⟨by decide +kernel, by decide +kernel⟩, List.mem_of_getElem? (i := 576) (by decide +kernel), List.mem_of_getElem? (i := 1973) (by decide +kernel), List.mem_of_getElem? (i := 1974) (by decide +kernel)⟩
theorem lw_p116 : lw_okq (⟨"PaperHouse$Writer", "putRoot", "(Ljava/lang/String;I)V"⟩, 18) := ⟨⟨by decide +kernel, by decide +kernel⟩, List.mem_of_getElem? (i := 576) (by decide +kernel), List.mem_of_getElem? (i := 1978) (by decide +kernel), List.mem_of_getElem? (i := 1979) (by decide +kernel)⟩
theorem lw_p117 : lw_okq (⟨"PaperHouse$Writer", "putEnd", "(I)V"⟩, 18) := ⟨⟨by decide +kernel, by decide +kernel⟩, List.mem_of_getElem? (i := 576) (by decide +kernel), List.mem_of_getElem? (i := 1985) (by decide +kernel), List.mem_of_getElem? (i := 1986) (by decide +kernel)⟩
theorem lw_p118 : lw_okq (⟨"PaperHouse$Writer", "finish", "()I"⟩, 18) := ⟨⟨by decide +kernel, by decide +kernel⟩, List.mem_of_getElem? (i := 576) (by decide +kernel), List.mem_of_getElem? (i := 1991) (by decide +kernel), List.mem_of_getElem? (i := 1992) (by decide +kernel)⟩
theorem lw_p119 : lw_okq (⟨"PaperHouse$Writer", "putRows", "(II)V"⟩, 18) := ⟨⟨by decide +kernel, by decide +kernel⟩, List.mem_of_getElem? (i := 576) (by decide +kernel), List.mem_of_getElem? (i := 2010) (by decide +kernel), List.mem_of_getElem? (i := 2011) (by decide +kernel)⟩
theorem lw_p120 : lw_okq (⟨"PaperHouse$Writer", "endOfRow", "(III)I"⟩, 18) := ⟨⟨by decide +kernel, by decide +kernel⟩, List.mem_of_getElem? (i := 576) (by decide +kernel), List.mem_of_getElem? (i := 2016) (by decide +kernel), List.mem_of_getElem? (i := 2017) (by decide +kernel)⟩
theorem lw_p121 : lw_okq (⟨"PaperHouse$Writer", "isListed", "(II)Z"⟩, 18) := ⟨⟨by decide +kernel, by decide +kernel⟩, List.mem_of_getElem? (i := 576) (by decide +kernel), List.mem_of_getElem? (i := 2020) (by decide +kernel), List.mem_of_getElem? (i := 2021) (by decide +kernel)⟩
theorem lw_p122 : lw_okq (⟨"PaperHouse$Writer", "layRow", "(III)I"⟩, 18) := ⟨⟨by decide +kernel, by decide +kernel⟩, List.mem_of_getElem? (i := 576) (by decide +kernel), List.mem_of_getElem? (i := 2025) (by decide +kernel), List.mem_of_getElem? (i := 2026) (by decide +kernel)⟩
theorem lw_p123 : lw_okq (⟨"PaperHouse$Writer", "putTable", "(I)V"⟩, 18) := ⟨⟨by decide +kernel, by decide +kernel⟩, List.mem_of_getElem? (i := 576) (by decide +kernel), List.mem_of_getElem? (i := 2032) (by decide +kernel), List.mem_of_getElem? (i := 2033) (by decide +kernel)⟩
theorem lw_p124 : lw_okq (⟨"PaperHouseModel", "lay", "(I)V"⟩, 121) := ⟨⟨by decide +kernel, by decide +kernel⟩, List.mem_of_getElem? (i := 2057) (by decide +kernel), List.mem_of_getElem? (i := 2486) (by decide +kernel), List.mem_of_getElem? (i := 2487) (by decide +kernel)⟩
theorem lw_p125 : lw_okq (⟨"PaperHouseModel", "readFile", "()V"⟩, 121) := ⟨⟨by decide +kernel, by decide +kernel⟩, List.mem_of_getElem? (i := 2057) (by decide +kernel), List.mem_of_getElem? (i := 2498) (by decide +kernel), List.mem_of_getElem? (i := 2499) (by decide +kernel)⟩
theorem lw_p126 : lw_okq (⟨"PaperHouseModel", "byteHere", "(I)I"⟩, 121) := ⟨⟨by decide +kernel, by decide +kernel⟩, List.mem_of_getElem? (i := 2057) (by decide +kernel), List.mem_of_getElem? (i := 2503) (by decide +kernel), List.mem_of_getElem? (i := 2504) (by decide +kernel)⟩
theorem lw_p127 : lw_okq (⟨"PaperHouseModel", "fail", "(II)V"⟩, 121) := ⟨⟨by decide +kernel, by decide +kernel⟩, List.mem_of_getElem? (i := 2057) (by decide +kernel), List.mem_of_getElem? (i := 2508) (by decide +kernel), List.mem_of_getElem? (i := 2509) (by decide +kernel)⟩
def lw_privs_8 : List (MethodName × Nat) := [(⟨"PaperHouse$Writer", "putCode", "()V"⟩, 18), (⟨"PaperHouse$Writer", "putEntry", "(II)V"⟩, 18), (⟨"PaperHouse$Writer", "putDigits", "(JJ)V"⟩, 18), (⟨"PaperHouse$Writer", "putRoots", "()V"⟩, 18), (⟨"PaperHouse$Writer", "putRoot", "(Ljava/lang/String;I)V"⟩, 18), (⟨"PaperHouse$Writer", "putEnd", "(I)V"⟩, 18), (⟨"PaperHouse$Writer", "finish", "()I"⟩, 18), (⟨"PaperHouse$Writer", "putRows", "(II)V"⟩, 18), (⟨"PaperHouse$Writer", "endOfRow", "(III)I"⟩, 18), (⟨"PaperHouse$Writer", "isListed", "(II)Z"⟩, 18), (⟨"PaperHouse$Writer", "layRow", "(III)I"⟩, 18), (⟨"PaperHouse$Writer", "putTable", "(I)V"⟩, 18), (⟨"PaperHouseModel", "lay", "(I)V"⟩, 121), (⟨"PaperHouseModel", "readFile", "()V"⟩, 121), (⟨"PaperHouseModel", "byteHere", "(I)I"⟩, 121), (⟨"PaperHouseModel", "fail", "(II)V"⟩, 121)]
theorem lw_r8 : ∀ q ∈ lw_privs_8, lw_okq q := List.forall_mem_cons.mpr ⟨lw_p112, List.forall_mem_cons.mpr ⟨lw_p113, List.forall_mem_cons.mpr ⟨lw_p114, List.forall_mem_cons.mpr ⟨lw_p115, List.forall_mem_cons.mpr ⟨lw_p116, List.forall_mem_cons.mpr ⟨lw_p117, List.forall_mem_cons.mpr ⟨lw_p118, List.forall_mem_cons.mpr ⟨lw_p119, List.forall_mem_cons.mpr ⟨lw_p120, List.forall_mem_cons.mpr ⟨lw_p121, List.forall_mem_cons.mpr ⟨lw_p122, List.forall_mem_cons.mpr ⟨lw_p123, List.forall_mem_cons.mpr ⟨lw_p124, List.forall_mem_cons.mpr ⟨lw_p125, List.forall_mem_cons.mpr ⟨lw_p126, List.forall_mem_cons.mpr ⟨lw_p127, fun _ h => absurd h List.not_mem_nil⟩⟩⟩⟩⟩⟩⟩⟩⟩⟩⟩⟩⟩⟩⟩⟩
theorem lw_p128 : lw_okq (⟨"PaperHouseModel", "stand", "(Ljava/lang/String;I)Z"⟩, 121) := ⟨⟨by decide +kernel, by decide +kernel⟩, List.mem_of_getElem? (i := 2057) (by decide +kernel), List.mem_of_getElem? (i := 2513) (by decide +kernel), List.mem_of_getElem? (i := 2514) (by decide +kernel)⟩
theorem lw_p129 : lw_okq (⟨"PaperHouseModel", "ending", "(I)J"⟩, 121) := ⟨⟨by decide +kernel, by decide +kernel⟩, List.mem_of_getElem? (i := 2057) (by decide +kernel), List.mem_of_getElem? (i := 2518) (by decide +kernel), List.mem_of_getElem? (i := 2519) (by decide +kernel)⟩
theorem lw_p130 : lw_okq (⟨"PaperHouseModel", "good", "()Z"⟩, 121) := ⟨⟨by decide +kernel, by decide +kernel⟩, List.mem_of_getElem? (i := 2057) (by decide +kernel), List.mem_of_getElem? (i := 2534) (by decide +kernel), List.mem_of_getElem? (i := 2535) (by decide +kernel)⟩
theorem lw_p131 : lw_okq (⟨"PaperHouseModel", "section", "(J)J"⟩, 121) := ⟨⟨by decide +kernel, by decide +kernel⟩, List.mem_of_getElem? (i := 2057) (by decide +kernel), List.mem_of_getElem? (i := 2538) (by decide +kernel), List.mem_of_getElem? (i := 2539) (by decide +kernel)⟩
theorem lw_p132 : lw_okq (⟨"PaperHouseModel", "from", "([BII)V"⟩, 121) := ⟨⟨by decide +kernel, by decide +kernel⟩, List.mem_of_getElem? (i := 2057) (by decide +kernel), List.mem_of_getElem? (i := 2542) (by decide +kernel), List.mem_of_getElem? (i := 2543) (by decide +kernel)⟩
theorem lw_p133 : lw_okq (⟨"PaperHouseModel", "table", "(I)I"⟩, 121) := ⟨⟨by decide +kernel, by decide +kernel⟩, List.mem_of_getElem? (i := 2057) (by decide +kernel), List.mem_of_getElem? (i := 2553) (by decide +kernel), List.mem_of_getElem? (i := 2554) (by decide +kernel)⟩
theorem lw_p134 : lw_okq (⟨"PaperHouseModel", "blanks", "()V"⟩, 121) := ⟨⟨by decide +kernel, by decide +kernel⟩, List.mem_of_getElem? (i := 2057) (by decide +kernel), List.mem_of_getElem? (i := 2557) (by decide +kernel), List.mem_of_getElem? (i := 2558) (by decide +kernel)⟩
theorem lw_p135 : lw_okq (⟨"PaperHouseModel", "peek", "(I)I"⟩, 121) := ⟨⟨by decide +kernel, by decide +kernel⟩, List.mem_of_getElem? (i := 2057) (by decide +kernel), List.mem_of_getElem? (i := 2561) (by decide +kernel), List.mem_of_getElem? (i := 2562) (by decide +kernel)⟩
theorem lw_p136 : lw_okq (⟨"PaperHouseModel", "plainRow", "()J"⟩, 121) := ⟨⟨by decide +kernel, by decide +kernel⟩, List.mem_of_getElem? (i := 2057) (by decide +kernel), List.mem_of_getElem? (i := 2565) (by decide +kernel), List.mem_of_getElem? (i := 2566) (by decide +kernel)⟩
theorem lw_p137 : lw_okq (⟨"PaperHouseModel", "isEntry", "()Z"⟩, 121) := ⟨⟨by decide +kernel, by decide +kernel⟩, List.mem_of_getElem? (i := 2057) (by decide +kernel), List.mem_of_getElem? (i := 2571) (by decide +kernel), List.mem_of_getElem? (i := 2572) (by decide +kernel)⟩
theorem lw_p138 : lw_okq (⟨"PaperHouseModel", "digits", "(II)J"⟩, 121) := ⟨⟨by decide +kernel, by decide +kernel⟩, List.mem_of_getElem? (i := 2057) (by decide +kernel), List.mem_of_getElem? (i := 2575) (by decide +kernel), List.mem_of_getElem? (i := 2576) (by decide +kernel)⟩
theorem lw_p139 : lw_okq (⟨"PaperHouseModel", "tell", "(IIJJ)V"⟩, 121) := ⟨⟨by decide +kernel, by decide +kernel⟩, List.mem_of_getElem? (i := 2057) (by decide +kernel), List.mem_of_getElem? (i := 2579) (by decide +kernel), List.mem_of_getElem? (i := 2580) (by decide +kernel)⟩
theorem lw_p140 : lw_okq (⟨"PaperHouseModel", "token", "()V"⟩, 121) := ⟨⟨by decide +kernel, by decide +kernel⟩, List.mem_of_getElem? (i := 2057) (by decide +kernel), List.mem_of_getElem? (i := 2583) (by decide +kernel), List.mem_of_getElem? (i := 2584) (by decide +kernel)⟩
theorem lw_p141 : lw_okq (⟨"PaperHouseModel", "white", "()V"⟩, 121) := ⟨⟨by decide +kernel, by decide +kernel⟩, List.mem_of_getElem? (i := 2057) (by decide +kernel), List.mem_of_getElem? (i := 2587) (by decide +kernel), List.mem_of_getElem? (i := 2588) (by decide +kernel)⟩
theorem lw_p142 : lw_okq (⟨"PaperHouseModel", "row", "()V"⟩, 121) := ⟨⟨by decide +kernel, by decide +kernel⟩, List.mem_of_getElem? (i := 2057) (by decide +kernel), List.mem_of_getElem? (i := 2591) (by decide +kernel), List.mem_of_getElem? (i := 2592) (by decide +kernel)⟩
theorem lw_p143 : lw_okq (⟨"PaperHouseModel", "realOf", "(ZJJII)V"⟩, 121) := ⟨⟨by decide +kernel, by decide +kernel⟩, List.mem_of_getElem? (i := 2057) (by decide +kernel), List.mem_of_getElem? (i := 2597) (by decide +kernel), List.mem_of_getElem? (i := 2598) (by decide +kernel)⟩
def lw_privs_9 : List (MethodName × Nat) := [(⟨"PaperHouseModel", "stand", "(Ljava/lang/String;I)Z"⟩, 121), (⟨"PaperHouseModel", "ending", "(I)J"⟩, 121), (⟨"PaperHouseModel", "good", "()Z"⟩, 121), (⟨"PaperHouseModel", "section", "(J)J"⟩, 121), (⟨"PaperHouseModel", "from", "([BII)V"⟩, 121), (⟨"PaperHouseModel", "table", "(I)I"⟩, 121), (⟨"PaperHouseModel", "blanks", "()V"⟩, 121), (⟨"PaperHouseModel", "peek", "(I)I"⟩, 121), (⟨"PaperHouseModel", "plainRow", "()J"⟩, 121), (⟨"PaperHouseModel", "isEntry", "()Z"⟩, 121), (⟨"PaperHouseModel", "digits", "(II)J"⟩, 121), (⟨"PaperHouseModel", "tell", "(IIJJ)V"⟩, 121), (⟨"PaperHouseModel", "token", "()V"⟩, 121), (⟨"PaperHouseModel", "white", "()V"⟩, 121), (⟨"PaperHouseModel", "row", "()V"⟩, 121), (⟨"PaperHouseModel", "realOf", "(ZJJII)V"⟩, 121)]
theorem lw_r9 : ∀ q ∈ lw_privs_9, lw_okq q := List.forall_mem_cons.mpr ⟨lw_p128, List.forall_mem_cons.mpr ⟨lw_p129, List.forall_mem_cons.mpr ⟨lw_p130, List.forall_mem_cons.mpr ⟨lw_p131, List.forall_mem_cons.mpr ⟨lw_p132, List.forall_mem_cons.mpr ⟨lw_p133, List.forall_mem_cons.mpr ⟨lw_p134, List.forall_mem_cons.mpr ⟨lw_p135, List.forall_mem_cons.mpr ⟨lw_p136, List.forall_mem_cons.mpr ⟨lw_p137, List.forall_mem_cons.mpr ⟨lw_p138, List.forall_mem_cons.mpr ⟨lw_p139, List.forall_mem_cons.mpr ⟨lw_p140, List.forall_mem_cons.mpr ⟨lw_p141, List.forall_mem_cons.mpr ⟨lw_p142, List.forall_mem_cons.mpr ⟨lw_p143, fun _ h => absurd h List.not_mem_nil⟩⟩⟩⟩⟩⟩⟩⟩⟩⟩⟩⟩⟩⟩⟩⟩
theorem lw_p144 : lw_okq (⟨"PaperHouseModel", "readName", "()V"⟩, 121) := ⟨⟨by decide +kernel, by decide +kernel⟩, List.mem_of_getElem? (i := 2057) (by decide +kernel), List.mem_of_getElem? (i := 2603) (by decide +kernel), List.mem_of_getElem? (i := 2604) (by decide +kernel)⟩
theorem lw_p145 : lw_okq (⟨"PaperHouseModel", "put", "(I)V"⟩, 121) := ⟨⟨by decide +kernel, by decide +kernel⟩, List.mem_of_getElem? (i := 2057) (by decide +kernel), List.mem_of_getElem? (i := 2610) (by decide +kernel), List.mem_of_getElem? (i := 2611) (by decide +kernel)⟩
theorem lw_p146 : lw_okq (⟨"PaperHouseModel", "readString", "()V"⟩, 121) := ⟨⟨by decide +kernel, by decide +kernel⟩, List.mem_of_getElem? (i := 2057) (by decide +kernel), List.mem_of_getElem? (i := 2614) (by decide +kernel), List.mem_of_getElem? (i := 2615) (by decide +kernel)⟩
theorem lw_p147 : lw_okq (⟨"PaperHouseModel", "escape", "()V"⟩, 121) := ⟨⟨by decide +kernel, by decide +kernel⟩, List.mem_of_getElem? (i := 2057) (by decide +kernel), List.mem_of_getElem? (i := 2618) (by decide +kernel), List.mem_of_getElem? (i := 2619) (by decide +kernel)⟩
theorem lw_p148 : lw_okq (⟨"PaperHouseModel", "readHex", "()V"⟩, 121) := ⟨⟨by decide +kernel, by decide +kernel⟩, List.mem_of_getElem? (i := 2057) (by decide +kernel), List.mem_of_getElem? (i := 2622) (by decide +kernel), List.mem_of_getElem? (i := 2623) (by decide +kernel)⟩
theorem lw_p149 : lw_okq (⟨"PaperHouseModel", "isWord", "(Ljava/lang/String;)Z"⟩, 121) := ⟨⟨by decide +kernel, by decide +kernel⟩, List.mem_of_getElem? (i := 2057) (by decide +kernel), List.mem_of_getElem? (i := 2627) (by decide +kernel), List.mem_of_getElem? (i := 2628) (by decide +kernel)⟩
theorem lw_p150 : lw_okq (⟨"PaperHouseModel", "object", "(IZ)I"⟩, 121) := ⟨⟨by decide +kernel, by decide +kernel⟩, List.mem_of_getElem? (i := 2057) (by decide +kernel), List.mem_of_getElem? (i := 2631) (by decide +kernel), List.mem_of_getElem? (i := 2632) (by decide +kernel)⟩
theorem lw_p151 : lw_okq (⟨"PaperHouseModel", "counted", "()V"⟩, 121) := ⟨⟨by decide +kernel, by decide +kernel⟩, List.mem_of_getElem? (i := 2057) (by decide +kernel), List.mem_of_getElem? (i := 2638) (by decide +kernel), List.mem_of_getElem? (i := 2639) (by decide +kernel)⟩
theorem lw_p152 : lw_okq (⟨"PaperHouseModel", "newNode", "(II)I"⟩, 121) := ⟨⟨by decide +kernel, by decide +kernel⟩, List.mem_of_getElem? (i := 2057) (by decide +kernel), List.mem_of_getElem? (i := 2643) (by decide +kernel), List.mem_of_getElem? (i := 2644) (by decide +kernel)⟩
theorem lw_p153 : lw_okq (⟨"PaperHouseModel", "wholeOrReference", "()I"⟩, 121) := ⟨⟨by decide +kernel, by decide +kernel⟩, List.mem_of_getElem? (i := 2057) (by decide +kernel), List.mem_of_getElem? (i := 2647) (by decide +kernel), List.mem_of_getElem? (i := 2648) (by decide +kernel)⟩
theorem lw_p154 : lw_okq (⟨"PaperHouseModel", "array", "(IZ)I"⟩, 121) := ⟨⟨by decide +kernel, by decide +kernel⟩, List.mem_of_getElem? (i := 2057) (by decide +kernel), List.mem_of_getElem? (i := 2653) (by decide +kernel), List.mem_of_getElem? (i := 2654) (by decide +kernel)⟩
theorem lw_p155 : lw_okq (⟨"PaperHouseModel", "dict", "(IZ)I"⟩, 121) := ⟨⟨by decide +kernel, by decide +kernel⟩, List.mem_of_getElem? (i := 2057) (by decide +kernel), List.mem_of_getElem? (i := 2657) (by decide +kernel), List.mem_of_getElem? (i := 2658) (by decide +kernel)⟩
theorem lw_p156 : lw_okq (⟨"PaperHouseModel", "rowStream", "(I)I"⟩, 121) := ⟨⟨by decide +kernel, by decide +kernel⟩, List.mem_of_getElem? (i := 2057) (by decide +kernel), List.mem_of_getElem? (i := 2661) (by decide +kernel), List.mem_of_getElem? (i := 2662) (by decide +kernel)⟩
theorem lw_p157 : lw_okq (⟨"PaperHouseModel", "header", "()Z"⟩, 121) := ⟨⟨by decide +kernel, by decide +kernel⟩, List.mem_of_getElem? (i := 2057) (by decide +kernel), List.mem_of_getElem? (i := 2665) (by decide +kernel), List.mem_of_getElem? (i := 2666) (by decide +kernel)⟩
theorem lw_p158 : lw_okq (⟨"PaperHouseModel", "rawEntry", "(ILjava/lang/String;)I"⟩, 121) := ⟨⟨by decide +kernel, by decide +kernel⟩, List.mem_of_getElem? (i := 2057) (by decide +kernel), List.mem_of_getElem? (i := 2671) (by decide +kernel), List.mem_of_getElem? (i := 2672) (by decide +kernel)⟩
theorem lw_p159 : lw_okq (⟨"PaperHouseModel", "isText", "(IILjava/lang/String;)Z"⟩, 121) := ⟨⟨by decide +kernel, by decide +kernel⟩, List.mem_of_getElem? (i := 2057) (by decide +kernel), List.mem_of_getElem? (i := 2675) (by decide +kernel), List.mem_of_getElem? (i := 2676) (by decide +kernel)⟩
def lw_privs_10 : List (MethodName × Nat) := [(⟨"PaperHouseModel", "readName", "()V"⟩, 121), (⟨"PaperHouseModel", "put", "(I)V"⟩, 121), (⟨"PaperHouseModel", "readString", "()V"⟩, 121), (⟨"PaperHouseModel", "escape", "()V"⟩, 121), (⟨"PaperHouseModel", "readHex", "()V"⟩, 121), (⟨"PaperHouseModel", "isWord", "(Ljava/lang/String;)Z"⟩, 121), (⟨"PaperHouseModel", "object", "(IZ)I"⟩, 121), (⟨"PaperHouseModel", "counted", "()V"⟩, 121), (⟨"PaperHouseModel", "newNode", "(II)I"⟩, 121), (⟨"PaperHouseModel", "wholeOrReference", "()I"⟩, 121), (⟨"PaperHouseModel", "array", "(IZ)I"⟩, 121), (⟨"PaperHouseModel", "dict", "(IZ)I"⟩, 121), (⟨"PaperHouseModel", "rowStream", "(I)I"⟩, 121), (⟨"PaperHouseModel", "header", "()Z"⟩, 121), (⟨"PaperHouseModel", "rawEntry", "(ILjava/lang/String;)I"⟩, 121), (⟨"PaperHouseModel", "isText", "(IILjava/lang/String;)Z"⟩, 121)]
theorem lw_r10 : ∀ q ∈ lw_privs_10, lw_okq q := List.forall_mem_cons.mpr ⟨lw_p144, List.forall_mem_cons.mpr ⟨lw_p145, List.forall_mem_cons.mpr ⟨lw_p146, List.forall_mem_cons.mpr ⟨lw_p147, List.forall_mem_cons.mpr ⟨lw_p148, List.forall_mem_cons.mpr ⟨lw_p149, List.forall_mem_cons.mpr ⟨lw_p150, List.forall_mem_cons.mpr ⟨lw_p151, List.forall_mem_cons.mpr ⟨lw_p152, List.forall_mem_cons.mpr ⟨lw_p153, List.forall_mem_cons.mpr ⟨lw_p154, List.forall_mem_cons.mpr ⟨lw_p155, List.forall_mem_cons.mpr ⟨lw_p156, List.forall_mem_cons.mpr ⟨lw_p157, List.forall_mem_cons.mpr ⟨lw_p158, List.forall_mem_cons.mpr ⟨lw_p159, fun _ h => absurd h List.not_mem_nil⟩⟩⟩⟩⟩⟩⟩⟩⟩⟩⟩⟩⟩⟩⟩⟩
theorem lw_p160 : lw_okq (⟨"PaperHouseModel", "isName", "(ILjava/lang/String;)Z"⟩, 121) := ⟨⟨by decide +kernel, by decide +kernel⟩, List.mem_of_getElem? (i := 2057) (by decide +kernel), List.mem_of_getElem? (i := 2680) (by decide +kernel), List.mem_of_getElem? (i := 2681) (by decide +kernel)⟩
theorem lw_p161 : lw_okq (⟨"PaperHouseModel", "wholeAt", "(ILjava/lang/String;I)I"⟩, 121) := ⟨⟨by decide +kernel, by decide +kernel⟩, List.mem_of_getElem? (i := 2057) (by decide +kernel), List.mem_of_getElem? (i := 2685) (by decide +kernel), List.mem_of_getElem? (i := 2686) (by decide +kernel)⟩
theorem lw_p162 : lw_okq (⟨"PaperHouseModel", "direct", "(ILjava/lang/String;)I"⟩, 121) := ⟨⟨by decide +kernel, by decide +kernel⟩, List.mem_of_getElem? (i := 2057) (by decide +kernel), List.mem_of_getElem? (i := 2689) (by decide +kernel), List.mem_of_getElem? (i := 2690) (by decide +kernel)⟩
theorem lw_p163 : lw_okq (⟨"PaperHouseModel", "streamStart", "()I"⟩, 121) := ⟨⟨by decide +kernel, by decide +kernel⟩, List.mem_of_getElem? (i := 2057) (by decide +kernel), List.mem_of_getElem? (i := 2693) (by decide +kernel), List.mem_of_getElem? (i := 2694) (by decide +kernel)⟩
theorem lw_p164 : lw_okq (⟨"PaperHouseModel", "streamEnd", "(II)Z"⟩, 121) := ⟨⟨by decide +kernel, by decide +kernel⟩, List.mem_of_getElem? (i := 2057) (by decide +kernel), List.mem_of_getElem? (i := 2698) (by decide +kernel), List.mem_of_getElem? (i := 2699) (by decide +kernel)⟩
theorem lw_p165 : lw_okq (⟨"PaperHouseModel", "decode", "(IIII)I"⟩, 121) := ⟨⟨by decide +kernel, by decide +kernel⟩, List.mem_of_getElem? (i := 2057) (by decide +kernel), List.mem_of_getElem? (i := 2704) (by decide +kernel), List.mem_of_getElem? (i := 2705) (by decide +kernel)⟩
theorem lw_p166 : lw_okq (⟨"PaperHouseModel", "filters", "(III)V"⟩, 121) := ⟨⟨by decide +kernel, by decide +kernel⟩, List.mem_of_getElem? (i := 2057) (by decide +kernel), List.mem_of_getElem? (i := 2709) (by decide +kernel), List.mem_of_getElem? (i := 2710) (by decide +kernel)⟩
theorem lw_p167 : lw_okq (⟨"PaperHouseModel", "isPredictor", "(I)Z"⟩, 121) := ⟨⟨by decide +kernel, by decide +kernel⟩, List.mem_of_getElem? (i := 2057) (by decide +kernel), List.mem_of_getElem? (i := 2716) (by decide +kernel), List.mem_of_getElem? (i := 2717) (by decide +kernel)⟩
theorem lw_p168 : lw_okq (⟨"PaperHouseModel", "inflate", "()Z"⟩, 121) := ⟨⟨by decide +kernel, by decide +kernel⟩, List.mem_of_getElem? (i := 2057) (by decide +kernel), List.mem_of_getElem? (i := 2724) (by decide +kernel), List.mem_of_getElem? (i := 2725) (by decide +kernel)⟩
theorem lw_p169 : lw_okq (⟨"PaperHouseModel", "bits", "(I)I"⟩, 121) := ⟨⟨by decide +kernel, by decide +kernel⟩, List.mem_of_getElem? (i := 2057) (by decide +kernel), List.mem_of_getElem? (i := 2728) (by decide +kernel), List.mem_of_getElem? (i := 2729) (by decide +kernel)⟩
theorem lw_p170 : lw_okq (⟨"PaperHouseModel", "stored", "()V"⟩, 121) := ⟨⟨by decide +kernel, by decide +kernel⟩, List.mem_of_getElem? (i := 2057) (by decide +kernel), List.mem_of_getElem? (i := 2732) (by decide +kernel), List.mem_of_getElem? (i := 2733) (by decide +kernel)⟩
theorem lw_p171 : lw_okq (⟨"PaperHouseModel", "emit", "(I)V"⟩, 121) := ⟨⟨by decide +kernel, by decide +kernel⟩, List.mem_of_getElem? (i := 2057) (by decide +kernel), List.mem_of_getElem? (i := 2736) (by decide +kernel), List.mem_of_getElem? (i := 2737) (by decide +kernel)⟩
theorem lw_p172 : lw_okq (⟨"PaperHouseModel", "fixed", "()V"⟩, 121) := ⟨⟨by decide +kernel, by decide +kernel⟩, List.mem_of_getElem? (i := 2057) (by decide +kernel), List.mem_of_getElem? (i := 2740) (by decide +kernel), List.mem_of_getElem? (i := 2741) (by decide +kernel)⟩
theorem lw_p173 : lw_okq (⟨"PaperHouseModel", "build", "(II[I[I)I"⟩, 121) := ⟨⟨by decide +kernel, by decide +kernel⟩, List.mem_of_getElem? (i := 2057) (by decide +kernel), List.mem_of_getElem? (i := 2744) (by decide +kernel), List.mem_of_getElem? (i := 2745) (by decide +kernel)⟩
theorem lw_p174 : lw_okq (⟨"PaperHouseModel", "codes", "()V"⟩, 121) := ⟨⟨by decide +kernel, by decide +kernel⟩, List.mem_of_getElem? (i := 2057) (by decide +kernel), List.mem_of_getElem? (i := 2748) (by decide +kernel), List.mem_of_getElem? (i := 2749) (by decide +kernel)⟩
theorem lw_p175 : lw_okq (⟨"PaperHouseModel", "symbol", "([I[I)I"⟩, 121) := ⟨⟨by decide +kernel, by decide +kernel⟩, List.mem_of_getElem? (i := 2057) (by decide +kernel), List.mem_of_getElem? (i := 2752) (by decide +kernel), List.mem_of_getElem? (i := 2753) (by decide +kernel)⟩
def lw_privs_11 : List (MethodName × Nat) := [(⟨"PaperHouseModel", "isName", "(ILjava/lang/String;)Z"⟩, 121), (⟨"PaperHouseModel", "wholeAt", "(ILjava/lang/String;I)I"⟩, 121), (⟨"PaperHouseModel", "direct", "(ILjava/lang/String;)I"⟩, 121), (⟨"PaperHouseModel", "streamStart", "()I"⟩, 121), (⟨"PaperHouseModel", "streamEnd", "(II)Z"⟩, 121), (⟨"PaperHouseModel", "decode", "(IIII)I"⟩, 121), (⟨"PaperHouseModel", "filters", "(III)V"⟩, 121), (⟨"PaperHouseModel", "isPredictor", "(I)Z"⟩, 121), (⟨"PaperHouseModel", "inflate", "()Z"⟩, 121), (⟨"PaperHouseModel", "bits", "(I)I"⟩, 121), (⟨"PaperHouseModel", "stored", "()V"⟩, 121), (⟨"PaperHouseModel", "emit", "(I)V"⟩, 121), (⟨"PaperHouseModel", "fixed", "()V"⟩, 121), (⟨"PaperHouseModel", "build", "(II[I[I)I"⟩, 121), (⟨"PaperHouseModel", "codes", "()V"⟩, 121), (⟨"PaperHouseModel", "symbol", "([I[I)I"⟩, 121)]
theorem lw_r11 : ∀ q ∈ lw_privs_11, lw_okq q := List.forall_mem_cons.mpr ⟨lw_p160, List.forall_mem_cons.mpr ⟨lw_p161, List.forall_mem_cons.mpr ⟨lw_p162, List.forall_mem_cons.mpr ⟨lw_p163, List.forall_mem_cons.mpr ⟨lw_p164, List.forall_mem_cons.mpr ⟨lw_p165, List.forall_mem_cons.mpr ⟨lw_p166, List.forall_mem_cons.mpr ⟨lw_p167, List.forall_mem_cons.mpr ⟨lw_p168, List.forall_mem_cons.mpr ⟨lw_p169, List.forall_mem_cons.mpr ⟨lw_p170, List.forall_mem_cons.mpr ⟨lw_p171, List.forall_mem_cons.mpr ⟨lw_p172, List.forall_mem_cons.mpr ⟨lw_p173, List.forall_mem_cons.mpr ⟨lw_p174, List.forall_mem_cons.mpr ⟨lw_p175, fun _ h => absurd h List.not_mem_nil⟩⟩⟩⟩⟩⟩⟩⟩⟩⟩⟩⟩⟩⟩⟩⟩
theorem lw_p176 : lw_okq (⟨"PaperHouseModel", "dynamic", "()V"⟩, 121) := ⟨⟨by decide +kernel, by decide +kernel⟩, List.mem_of_getElem? (i := 2057) (by decide +kernel), List.mem_of_getElem? (i := 2768) (by decide +kernel), List.mem_of_getElem? (i := 2769) (by decide +kernel)⟩
theorem lw_p177 : lw_okq (⟨"PaperHouseModel", "unhex", "()Z"⟩, 121) := ⟨⟨by decide +kernel, by decide +kernel⟩, List.mem_of_getElem? (i := 2057) (by decide +kernel), List.mem_of_getElem? (i := 2780) (by decide +kernel), List.mem_of_getElem? (i := 2781) (by decide +kernel)⟩
theorem lw_p178 : lw_okq (⟨"PaperHouseModel", "take", "(I)V"⟩, 121) := ⟨⟨by decide +kernel, by decide +kernel⟩, List.mem_of_getElem? (i := 2057) (by decide +kernel), List.mem_of_getElem? (i := 2784) (by decide +kernel), List.mem_of_getElem? (i := 2785) (by decide +kernel)⟩
theorem lw_p179 : lw_okq (⟨"PaperHouseModel", "unpredict", "(I)Z"⟩, 121) := ⟨⟨by decide +kernel, by decide +kernel⟩, List.mem_of_getElem? (i := 2057) (by decide +kernel), List.mem_of_getElem? (i := 2788) (by decide +kernel), List.mem_of_getElem? (i := 2789) (by decide +kernel)⟩
theorem lw_p180 : lw_okq (⟨"PaperHouseModel", "entries", "(III)V"⟩, 121) := ⟨⟨by decide +kernel, by decide +kernel⟩, List.mem_of_getElem? (i := 2057) (by decide +kernel), List.mem_of_getElem? (i := 2798) (by decide +kernel), List.mem_of_getElem? (i := 2799) (by decide +kernel)⟩
theorem lw_p181 : lw_okq (⟨"PaperHouseModel", "unsigned", "(II)J"⟩, 121) := ⟨⟨by decide +kernel, by decide +kernel⟩, List.mem_of_getElem? (i := 2057) (by decide +kernel), List.mem_of_getElem? (i := 2804) (by decide +kernel), List.mem_of_getElem? (i := 2805) (by decide +kernel)⟩
theorem lw_p182 : lw_okq (⟨"PaperHouseModel", "readObject", "(I)V"⟩, 121) := ⟨⟨by decide +kernel, by decide +kernel⟩, List.mem_of_getElem? (i := 2057) (by decide +kernel), List.mem_of_getElem? (i := 2811) (by decide +kernel), List.mem_of_getElem? (i := 2812) (by decide +kernel)⟩
theorem lw_p183 : lw_okq (⟨"PaperHouseModel", "readAt", "(I)V"⟩, 121) := ⟨⟨by decide +kernel, by decide +kernel⟩, List.mem_of_getElem? (i := 2057) (by decide +kernel), List.mem_of_getElem? (i := 2815) (by decide +kernel), List.mem_of_getElem? (i := 2816) (by decide +kernel)⟩
theorem lw_p184 : lw_okq (⟨"PaperHouseModel", "rawStream", "(II)I"⟩, 121) := ⟨⟨by decide +kernel, by decide +kernel⟩, List.mem_of_getElem? (i := 2057) (by decide +kernel), List.mem_of_getElem? (i := 2819) (by decide +kernel), List.mem_of_getElem? (i := 2820) (by decide +kernel)⟩
theorem lw_p185 : lw_okq (⟨"PaperHouseModel", "keepStream", "(IIIII)V"⟩, 121) := ⟨⟨by decide +kernel, by decide +kernel⟩, List.mem_of_getElem? (i := 2057) (by decide +kernel), List.mem_of_getElem? (i := 2823) (by decide +kernel), List.mem_of_getElem? (i := 2824) (by decide +kernel)⟩
theorem lw_p186 : lw_okq (⟨"PaperHouseModel", "readIn", "(I)V"⟩, 121) := ⟨⟨by decide +kernel, by decide +kernel⟩, List.mem_of_getElem? (i := 2057) (by decide +kernel), List.mem_of_getElem? (i := 2827) (by decide +kernel), List.mem_of_getElem? (i := 2828) (by decide +kernel)⟩
theorem lw_p187 : lw_okq (⟨"PaperHouseModel", "tree", "()V"⟩, 121) := ⟨⟨by decide +kernel, by decide +kernel⟩, List.mem_of_getElem? (i := 2057) (by decide +kernel), List.mem_of_getElem? (i := 2834) (by decide +kernel), List.mem_of_getElem? (i := 2835) (by decide +kernel)⟩
theorem lw_p188 : lw_okq (⟨"PaperHouseModel", "dictNumber", "(I)I"⟩, 121) := ⟨⟨by decide +kernel, by decide +kernel⟩, List.mem_of_getElem? (i := 2057) (by decide +kernel), List.mem_of_getElem? (i := 2840) (by decide +kernel), List.mem_of_getElem? (i := 2841) (by decide +kernel)⟩
theorem lw_p189 : lw_okq (⟨"PaperHouseModel", "resolve", "(I)I"⟩, 121) := ⟨⟨by decide +kernel, by decide +kernel⟩, List.mem_of_getElem? (i := 2057) (by decide +kernel), List.mem_of_getElem? (i := 2844) (by decide +kernel), List.mem_of_getElem? (i := 2845) (by decide +kernel)⟩
theorem lw_p190 : lw_okq (⟨"PaperHouseModel", "target", "(I)I"⟩, 121) := ⟨⟨by decide +kernel, by decide +kernel⟩, List.mem_of_getElem? (i := 2057) (by decide +kernel), List.mem_of_getElem? (i := 2848) (by decide +kernel), List.mem_of_getElem? (i := 2849) (by decide +kernel)⟩
theorem lw_p191 : lw_okq (⟨"PaperHouseModel", "generationOf", "(I)J"⟩, 121) := ⟨⟨by decide +kernel, by decide +kernel⟩, List.mem_of_getElem? (i := 2057) (by decide +kernel), List.mem_of_getElem? (i := 2852) (by decide +kernel), List.mem_of_getElem? (i := 2853) (by decide +kernel)⟩
def lw_privs_12 : List (MethodName × Nat) := [(⟨"PaperHouseModel", "dynamic", "()V"⟩, 121), (⟨"PaperHouseModel", "unhex", "()Z"⟩, 121), (⟨"PaperHouseModel", "take", "(I)V"⟩, 121), (⟨"PaperHouseModel", "unpredict", "(I)Z"⟩, 121), (⟨"PaperHouseModel", "entries", "(III)V"⟩, 121), (⟨"PaperHouseModel", "unsigned", "(II)J"⟩, 121), (⟨"PaperHouseModel", "readObject", "(I)V"⟩, 121), (⟨"PaperHouseModel", "readAt", "(I)V"⟩, 121), (⟨"PaperHouseModel", "rawStream", "(II)I"⟩, 121), (⟨"PaperHouseModel", "keepStream", "(IIIII)V"⟩, 121), (⟨"PaperHouseModel", "readIn", "(I)V"⟩, 121), (⟨"PaperHouseModel", "tree", "()V"⟩, 121), (⟨"PaperHouseModel", "dictNumber", "(I)I"⟩, 121), (⟨"PaperHouseModel", "resolve", "(I)I"⟩, 121), (⟨"PaperHouseModel", "target", "(I)I"⟩, 121), (⟨"PaperHouseModel", "generationOf", "(I)J"⟩, 121)]
theorem lw_r12 : ∀ q ∈ lw_privs_12, lw_okq q := List.forall_mem_cons.mpr ⟨lw_p176, List.forall_mem_cons.mpr ⟨lw_p177, List.forall_mem_cons.mpr ⟨lw_p178, List.forall_mem_cons.mpr ⟨lw_p179, List.forall_mem_cons.mpr ⟨lw_p180, List.forall_mem_cons.mpr ⟨lw_p181, List.forall_mem_cons.mpr ⟨lw_p182, List.forall_mem_cons.mpr ⟨lw_p183, List.forall_mem_cons.mpr ⟨lw_p184, List.forall_mem_cons.mpr ⟨lw_p185, List.forall_mem_cons.mpr ⟨lw_p186, List.forall_mem_cons.mpr ⟨lw_p187, List.forall_mem_cons.mpr ⟨lw_p188, List.forall_mem_cons.mpr ⟨lw_p189, List.forall_mem_cons.mpr ⟨lw_p190, List.forall_mem_cons.mpr ⟨lw_p191, fun _ h => absurd h List.not_mem_nil⟩⟩⟩⟩⟩⟩⟩⟩⟩⟩⟩⟩⟩⟩⟩⟩
theorem lw_p192 : lw_okq (⟨"PaperHouseModel", "isDict", "(I)Z"⟩, 121) := ⟨⟨by decide +kernel, by decide +kernel⟩, List.mem_of_getElem? (i := 2057) (by decide +kernel), List.mem_of_getElem? (i := 2856) (by decide +kernel), List.mem_of_getElem? (i := 2857) (by decide +kernel)⟩
theorem lw_p193 : lw_okq (⟨"PaperHouseModel", "entry", "(ILjava/lang/String;)I"⟩, 121) := ⟨⟨by decide +kernel, by decide +kernel⟩, List.mem_of_getElem? (i := 2057) (by decide +kernel), List.mem_of_getElem? (i := 2860) (by decide +kernel), List.mem_of_getElem? (i := 2861) (by decide +kernel)⟩
theorem lw_p194 : lw_okq (⟨"PaperHouseModel", "meet", "(III)V"⟩, 121) := ⟨⟨by decide +kernel, by decide +kernel⟩, List.mem_of_getElem? (i := 2057) (by decide +kernel), List.mem_of_getElem? (i := 2866) (by decide +kernel), List.mem_of_getElem? (i := 2867) (by decide +kernel)⟩
theorem lw_p195 : lw_okq (⟨"PaperHouseModel", "ownsRight", "(I)Z"⟩, 121) := ⟨⟨by decide +kernel, by decide +kernel⟩, List.mem_of_getElem? (i := 2057) (by decide +kernel), List.mem_of_getElem? (i := 2872) (by decide +kernel), List.mem_of_getElem? (i := 2873) (by decide +kernel)⟩
theorem lw_p196 : lw_okq (⟨"PaperHouseModel", "isBox", "(I)Z"⟩, 121) := ⟨⟨by decide +kernel, by decide +kernel⟩, List.mem_of_getElem? (i := 2057) (by decide +kernel), List.mem_of_getElem? (i := 2879) (by decide +kernel), List.mem_of_getElem? (i := 2880) (by decide +kernel)⟩
theorem lw_p197 : lw_okq (⟨"PaperHouseModel", "isNumber", "(I)Z"⟩, 121) := ⟨⟨by decide +kernel, by decide +kernel⟩, List.mem_of_getElem? (i := 2057) (by decide +kernel), List.mem_of_getElem? (i := 2883) (by decide +kernel), List.mem_of_getElem? (i := 2884) (by decide +kernel)⟩
theorem lw_p198 : lw_okq (⟨"PaperHouseModel", "dictAt", "(I)I"⟩, 121) := ⟨⟨by decide +kernel, by decide +kernel⟩, List.mem_of_getElem? (i := 2057) (by decide +kernel), List.mem_of_getElem? (i := 2887) (by decide +kernel), List.mem_of_getElem? (i := 2888) (by decide +kernel)⟩
theorem lw_p199 : lw_okq (⟨"PaperHouseModel", "meetNode", "(III)V"⟩, 121) := ⟨⟨by decide +kernel, by decide +kernel⟩, List.mem_of_getElem? (i := 2057) (by decide +kernel), List.mem_of_getElem? (i := 2891) (by decide +kernel), List.mem_of_getElem? (i := 2892) (by decide +kernel)⟩
theorem lw_p200 : lw_okq (⟨"PaperHouseModel", "meetPage", "(II)V"⟩, 121) := ⟨⟨by decide +kernel, by decide +kernel⟩, List.mem_of_getElem? (i := 2057) (by decide +kernel), List.mem_of_getElem? (i := 2897) (by decide +kernel), List.mem_of_getElem? (i := 2898) (by decide +kernel)⟩
theorem lw_p201 : lw_okq (⟨"PaperHouseModel", "inherited", "(ILjava/lang/String;)I"⟩, 121) := ⟨⟨by decide +kernel, by decide +kernel⟩, List.mem_of_getElem? (i := 2057) (by decide +kernel), List.mem_of_getElem? (i := 2901) (by decide +kernel), List.mem_of_getElem? (i := 2902) (by decide +kernel)⟩
theorem lw_p202 : lw_okq (⟨"PaperHouseModel", "holder", "(ILjava/lang/String;)I"⟩, 121) := ⟨⟨by decide +kernel, by decide +kernel⟩, List.mem_of_getElem? (i := 2057) (by decide +kernel), List.mem_of_getElem? (i := 2905) (by decide +kernel), List.mem_of_getElem? (i := 2906) (by decide +kernel)⟩
theorem lw_p203 : lw_okq (⟨"PaperHouseModel", "isNothing", "(I)Z"⟩, 121) := ⟨⟨by decide +kernel, by decide +kernel⟩, List.mem_of_getElem? (i := 2057) (by decide +kernel), List.mem_of_getElem? (i := 2909) (by decide +kernel), List.mem_of_getElem? (i := 2910) (by decide +kernel)⟩
theorem lw_p204 : lw_okq (⟨"PaperHouseModel", "contentsOf", "(I)I"⟩, 121) := ⟨⟨by decide +kernel, by decide +kernel⟩, List.mem_of_getElem? (i := 2057) (by decide +kernel), List.mem_of_getElem? (i := 2913) (by decide +kernel), List.mem_of_getElem? (i := 2914) (by decide +kernel)⟩
theorem lw_p205 : lw_okq (⟨"PaperHouseModel", "streamNumber", "(I)I"⟩, 121) := ⟨⟨by decide +kernel, by decide +kernel⟩, List.mem_of_getElem? (i := 2057) (by decide +kernel), List.mem_of_getElem? (i := 2918) (by decide +kernel), List.mem_of_getElem? (i := 2919) (by decide +kernel)⟩
theorem lw_p206 : lw_okq (⟨"PaperHouseModel", "nameAll", "(I)V"⟩, 121) := ⟨⟨by decide +kernel, by decide +kernel⟩, List.mem_of_getElem? (i := 2057) (by decide +kernel), List.mem_of_getElem? (i := 2922) (by decide +kernel), List.mem_of_getElem? (i := 2923) (by decide +kernel)⟩
theorem lw_p207 : lw_okq (⟨"PaperHouseModel", "isObject", "(I)Z"⟩, 121) := ⟨⟨by decide +kernel, by decide +kernel⟩, List.mem_of_getElem? (i := 2057) (by decide +kernel), List.mem_of_getElem? (i := 2938) (by decide +kernel), List.mem_of_getElem? (i := 2939) (by decide +kernel)⟩
def lw_privs_13 : List (MethodName × Nat) := [(⟨"PaperHouseModel", "isDict", "(I)Z"⟩, 121), (⟨"PaperHouseModel", "entry", "(ILjava/lang/String;)I"⟩, 121), (⟨"PaperHouseModel", "meet", "(III)V"⟩, 121), (⟨"PaperHouseModel", "ownsRight", "(I)Z"⟩, 121), (⟨"PaperHouseModel", "isBox", "(I)Z"⟩, 121), (⟨"PaperHouseModel", "isNumber", "(I)Z"⟩, 121), (⟨"PaperHouseModel", "dictAt", "(I)I"⟩, 121), (⟨"PaperHouseModel", "meetNode", "(III)V"⟩, 121), (⟨"PaperHouseModel", "meetPage", "(II)V"⟩, 121), (⟨"PaperHouseModel", "inherited", "(ILjava/lang/String;)I"⟩, 121), (⟨"PaperHouseModel", "holder", "(ILjava/lang/String;)I"⟩, 121), (⟨"PaperHouseModel", "isNothing", "(I)Z"⟩, 121), (⟨"PaperHouseModel", "contentsOf", "(I)I"⟩, 121), (⟨"PaperHouseModel", "streamNumber", "(I)I"⟩, 121), (⟨"PaperHouseModel", "nameAll", "(I)V"⟩, 121), (⟨"PaperHouseModel", "isObject", "(I)Z"⟩, 121)]
theorem lw_r13 : ∀ q ∈ lw_privs_13, lw_okq q := List.forall_mem_cons.mpr ⟨lw_p192, List.forall_mem_cons.mpr ⟨lw_p193, List.forall_mem_cons.mpr ⟨lw_p194, List.forall_mem_cons.mpr ⟨lw_p195, List.forall_mem_cons.mpr ⟨lw_p196, List.forall_mem_cons.mpr ⟨lw_p197, List.forall_mem_cons.mpr ⟨lw_p198, List.forall_mem_cons.mpr ⟨lw_p199, List.forall_mem_cons.mpr ⟨lw_p200, List.forall_mem_cons.mpr ⟨lw_p201, List.forall_mem_cons.mpr ⟨lw_p202, List.forall_mem_cons.mpr ⟨lw_p203, List.forall_mem_cons.mpr ⟨lw_p204, List.forall_mem_cons.mpr ⟨lw_p205, List.forall_mem_cons.mpr ⟨lw_p206, List.forall_mem_cons.mpr ⟨lw_p207, fun _ h => absurd h List.not_mem_nil⟩⟩⟩⟩⟩⟩⟩⟩⟩⟩⟩⟩⟩⟩⟩⟩
theorem lw_p208 : lw_okq (⟨"PaperHouseModel", "kindHere", "()I"⟩, 121) := ⟨⟨by decide +kernel, by decide +kernel⟩, List.mem_of_getElem? (i := 2057) (by decide +kernel), List.mem_of_getElem? (i := 2942) (by decide +kernel), List.mem_of_getElem? (i := 2943) (by decide +kernel)⟩
theorem lw_p209 : lw_okq (⟨"PaperHouseModel", "isPage", "(I)Z"⟩, 121) := ⟨⟨by decide +kernel, by decide +kernel⟩, List.mem_of_getElem? (i := 2057) (by decide +kernel), List.mem_of_getElem? (i := 2982) (by decide +kernel), List.mem_of_getElem? (i := 2983) (by decide +kernel)⟩
theorem lw_p210 : lw_okq (⟨"PaperHouseModel", "unitsOf", "(I)I"⟩, 121) := ⟨⟨by decide +kernel, by decide +kernel⟩, List.mem_of_getElem? (i := 2057) (by decide +kernel), List.mem_of_getElem? (i := 2986) (by decide +kernel), List.mem_of_getElem? (i := 2987) (by decide +kernel)⟩
theorem lw_p211 : lw_okq (⟨"PaperHouseModel", "gather", "(I)V"⟩, 121) := ⟨⟨by decide +kernel, by decide +kernel⟩, List.mem_of_getElem? (i := 2057) (by decide +kernel), List.mem_of_getElem? (i := 2995) (by decide +kernel), List.mem_of_getElem? (i := 2996) (by decide +kernel)⟩
theorem lw_p212 : lw_okq (⟨"PaperHouseModel", "collect", "(I)V"⟩, 121) := ⟨⟨by decide +kernel, by decide +kernel⟩, List.mem_of_getElem? (i := 2057) (by decide +kernel), List.mem_of_getElem? (i := 2999) (by decide +kernel), List.mem_of_getElem? (i := 3000) (by decide +kernel)⟩
theorem lw_p213 : lw_okq (⟨"PaperHouseModel", "operator", "()V"⟩, 121) := ⟨⟨by decide +kernel, by decide +kernel⟩, List.mem_of_getElem? (i := 2057) (by decide +kernel), List.mem_of_getElem? (i := 3006) (by decide +kernel), List.mem_of_getElem? (i := 3007) (by decide +kernel)⟩
theorem lw_p214 : lw_okq (⟨"PaperHouseModel", "which", "()I"⟩, 121) := ⟨⟨by decide +kernel, by decide +kernel⟩, List.mem_of_getElem? (i := 2057) (by decide +kernel), List.mem_of_getElem? (i := 3010) (by decide +kernel), List.mem_of_getElem? (i := 3011) (by decide +kernel)⟩
theorem lw_p215 : lw_okq (⟨"PaperHouseModel", "word", "()Ljava/lang/String;"⟩, 121) := ⟨⟨by decide +kernel, by decide +kernel⟩, List.mem_of_getElem? (i := 2057) (by decide +kernel), List.mem_of_getElem? (i := 3014) (by decide +kernel), List.mem_of_getElem? (i := 3015) (by decide +kernel)⟩
theorem lw_p216 : lw_okq (⟨"PaperHouseModel", "areNumbers", "(I)Z"⟩, 121) := ⟨⟨by decide +kernel, by decide +kernel⟩, List.mem_of_getElem? (i := 2057) (by decide +kernel), List.mem_of_getElem? (i := 3076) (by decide +kernel), List.mem_of_getElem? (i := 3077) (by decide +kernel)⟩
theorem lw_p217 : lw_okq (⟨"PaperHouseModel", "isOf", "(II)Z"⟩, 121) := ⟨⟨by decide +kernel, by decide +kernel⟩, List.mem_of_getElem? (i := 2057) (by decide +kernel), List.mem_of_getElem? (i := 3080) (by decide +kernel), List.mem_of_getElem? (i := 3081) (by decide +kernel)⟩
theorem lw_p218 : lw_okq (⟨"PaperHouseModel", "areShown", "(I)Z"⟩, 121) := ⟨⟨by decide +kernel, by decide +kernel⟩, List.mem_of_getElem? (i := 2057) (by decide +kernel), List.mem_of_getElem? (i := 3084) (by decide +kernel), List.mem_of_getElem? (i := 3085) (by decide +kernel)⟩
theorem lw_p219 : lw_okq (⟨"PaperHouseModel", "idle", "(Ljava/lang/String;)Z"⟩, 121) := ⟨⟨by decide +kernel, by decide +kernel⟩, List.mem_of_getElem? (i := 2057) (by decide +kernel), List.mem_of_getElem? (i := 3088) (by decide +kernel), List.mem_of_getElem? (i := 3089) (by decide +kernel)⟩
theorem lw_p220 : lw_okq (⟨"PaperHouseModel", "operandsTo", "([I)V"⟩, 121) := ⟨⟨by decide +kernel, by decide +kernel⟩, List.mem_of_getElem? (i := 2057) (by decide +kernel), List.mem_of_getElem? (i := 3092) (by decide +kernel), List.mem_of_getElem? (i := 3093) (by decide +kernel)⟩
theorem lw_p221 : lw_okq (⟨"PaperHouseModel", "product", "([I[I[I)V"⟩, 121) := ⟨⟨by decide +kernel, by decide +kernel⟩, List.mem_of_getElem? (i := 2057) (by decide +kernel), List.mem_of_getElem? (i := 3096) (by decide +kernel), List.mem_of_getElem? (i := 3097) (by decide +kernel)⟩
theorem lw_p222 : lw_okq (⟨"PaperHouseModel", "near", "(J)V"⟩, 121) := ⟨⟨by decide +kernel, by decide +kernel⟩, List.mem_of_getElem? (i := 2057) (by decide +kernel), List.mem_of_getElem? (i := 3104) (by decide +kernel), List.mem_of_getElem? (i := 3105) (by decide +kernel)⟩
theorem lw_p223 : lw_okq (⟨"PaperHouseModel", "font", "()V"⟩, 121) := ⟨⟨by decide +kernel, by decide +kernel⟩, List.mem_of_getElem? (i := 2057) (by decide +kernel), List.mem_of_getElem? (i := 3108) (by decide +kernel), List.mem_of_getElem? (i := 3109) (by decide +kernel)⟩
def lw_privs_14 : List (MethodName × Nat) := [(⟨"PaperHouseModel", "kindHere", "()I"⟩, 121), (⟨"PaperHouseModel", "isPage", "(I)Z"⟩, 121), (⟨"PaperHouseModel", "unitsOf", "(I)I"⟩, 121), (⟨"PaperHouseModel", "gather", "(I)V"⟩, 121), (⟨"PaperHouseModel", "collect", "(I)V"⟩, 121), (⟨"PaperHouseModel", "operator", "()V"⟩, 121), (⟨"PaperHouseModel", "which", "()I"⟩, 121), (⟨"PaperHouseModel", "word", "()Ljava/lang/String;"⟩, 121), (⟨"PaperHouseModel", "areNumbers", "(I)Z"⟩, 121), (⟨"PaperHouseModel", "isOf", "(II)Z"⟩, 121), (⟨"PaperHouseModel", "areShown", "(I)Z"⟩, 121), (⟨"PaperHouseModel", "idle", "(Ljava/lang/String;)Z"⟩, 121), (⟨"PaperHouseModel", "operandsTo", "([I)V"⟩, 121), (⟨"PaperHouseModel", "product", "([I[I[I)V"⟩, 121), (⟨"PaperHouseModel", "near", "(J)V"⟩, 121), (⟨"PaperHouseModel", "font", "()V"⟩, 121)]
theorem lw_r14 : ∀ q ∈ lw_privs_14, lw_okq q := List.forall_mem_cons.mpr ⟨lw_p208, List.forall_mem_cons.mpr ⟨lw_p209, List.forall_mem_cons.mpr ⟨lw_p210, List.forall_mem_cons.mpr ⟨lw_p211, List.forall_mem_cons.mpr ⟨lw_p212, List.forall_mem_cons.mpr ⟨lw_p213, List.forall_mem_cons.mpr ⟨lw_p214, List.forall_mem_cons.mpr ⟨lw_p215, List.forall_mem_cons.mpr ⟨lw_p216, List.forall_mem_cons.mpr ⟨lw_p217, List.forall_mem_cons.mpr ⟨lw_p218, List.forall_mem_cons.mpr ⟨lw_p219, List.forall_mem_cons.mpr ⟨lw_p220, List.forall_mem_cons.mpr ⟨lw_p221, List.forall_mem_cons.mpr ⟨lw_p222, List.forall_mem_cons.mpr ⟨lw_p223, fun _ h => absurd h List.not_mem_nil⟩⟩⟩⟩⟩⟩⟩⟩⟩⟩⟩⟩⟩⟩⟩⟩
theorem lw_p224 : lw_okq (⟨"PaperHouseModel", "goes", "(II)V"⟩, 121) := ⟨⟨by decide +kernel, by decide +kernel⟩, List.mem_of_getElem? (i := 2057) (by decide +kernel), List.mem_of_getElem? (i := 3116) (by decide +kernel), List.mem_of_getElem? (i := 3117) (by decide +kernel)⟩
theorem lw_p225 : lw_okq (⟨"PaperHouseModel", "newLine", "()V"⟩, 121) := ⟨⟨by decide +kernel, by decide +kernel⟩, List.mem_of_getElem? (i := 2057) (by decide +kernel), List.mem_of_getElem? (i := 3120) (by decide +kernel), List.mem_of_getElem? (i := 3121) (by decide +kernel)⟩
theorem lw_p226 : lw_okq (⟨"PaperHouseModel", "shows", "(I)V"⟩, 121) := ⟨⟨by decide +kernel, by decide +kernel⟩, List.mem_of_getElem? (i := 2057) (by decide +kernel), List.mem_of_getElem? (i := 3124) (by decide +kernel), List.mem_of_getElem? (i := 3125) (by decide +kernel)⟩
theorem lw_p227 : lw_okq (⟨"PaperHouseModel", "widthOf", "(I)I"⟩, 121) := ⟨⟨by decide +kernel, by decide +kernel⟩, List.mem_of_getElem? (i := 2057) (by decide +kernel), List.mem_of_getElem? (i := 3128) (by decide +kernel), List.mem_of_getElem? (i := 3129) (by decide +kernel)⟩
theorem lw_p228 : lw_okq (⟨"PaperHouseModel", "moves", "(J)V"⟩, 121) := ⟨⟨by decide +kernel, by decide +kernel⟩, List.mem_of_getElem? (i := 2057) (by decide +kernel), List.mem_of_getElem? (i := 3138) (by decide +kernel), List.mem_of_getElem? (i := 3139) (by decide +kernel)⟩
theorem lw_p229 : lw_okq (⟨"PaperHouseModel", "row", "(I)V"⟩, 121) := ⟨⟨by decide +kernel, by decide +kernel⟩, List.mem_of_getElem? (i := 2057) (by decide +kernel), List.mem_of_getElem? (i := 3142) (by decide +kernel), List.mem_of_getElem? (i := 3143) (by decide +kernel)⟩
theorem lw_p230 : lw_okq (⟨"PaperHouseModel", "nextNumber", "()I"⟩, 121) := ⟨⟨by decide +kernel, by decide +kernel⟩, List.mem_of_getElem? (i := 2057) (by decide +kernel), List.mem_of_getElem? (i := 3154) (by decide +kernel), List.mem_of_getElem? (i := 3155) (by decide +kernel)⟩
theorem lw_p231 : lw_okq (⟨"PaperHouseModel", "nameNode", "(Ljava/lang/String;)I"⟩, 121) := ⟨⟨by decide +kernel, by decide +kernel⟩, List.mem_of_getElem? (i := 2057) (by decide +kernel), List.mem_of_getElem? (i := 3158) (by decide +kernel), List.mem_of_getElem? (i := 3159) (by decide +kernel)⟩
theorem lw_p232 : lw_okq (⟨"PaperHouseModel", "keep", "(Ljava/lang/String;)I"⟩, 121) := ⟨⟨by decide +kernel, by decide +kernel⟩, List.mem_of_getElem? (i := 2057) (by decide +kernel), List.mem_of_getElem? (i := 3162) (by decide +kernel), List.mem_of_getElem? (i := 3163) (by decide +kernel)⟩
theorem lw_p233 : lw_okq (⟨"PaperHouseModel", "name", "(ILjava/lang/String;)V"⟩, 121) := ⟨⟨by decide +kernel, by decide +kernel⟩, List.mem_of_getElem? (i := 2057) (by decide +kernel), List.mem_of_getElem? (i := 3166) (by decide +kernel), List.mem_of_getElem? (i := 3167) (by decide +kernel)⟩
theorem lw_p234 : lw_okq (⟨"PaperHouseModel", "append", "(II)V"⟩, 121) := ⟨⟨by decide +kernel, by decide +kernel⟩, List.mem_of_getElem? (i := 2057) (by decide +kernel), List.mem_of_getElem? (i := 3170) (by decide +kernel), List.mem_of_getElem? (i := 3171) (by decide +kernel)⟩
theorem lw_p235 : lw_okq (⟨"PaperHouseModel", "entryTo", "(ILjava/lang/String;III)I"⟩, 121) := ⟨⟨by decide +kernel, by decide +kernel⟩, List.mem_of_getElem? (i := 2057) (by decide +kernel), List.mem_of_getElem? (i := 3174) (by decide +kernel), List.mem_of_getElem? (i := 3175) (by decide +kernel)⟩
theorem lw_p236 : lw_okq (⟨"PaperHouseModel", "newObject", "(I)I"⟩, 121) := ⟨⟨by decide +kernel, by decide +kernel⟩, List.mem_of_getElem? (i := 2057) (by decide +kernel), List.mem_of_getElem? (i := 3178) (by decide +kernel), List.mem_of_getElem? (i := 3179) (by decide +kernel)⟩
theorem lw_p237 : lw_okq (⟨"PaperHouseModel", "put", "(III)V"⟩, 121) := ⟨⟨by decide +kernel, by decide +kernel⟩, List.mem_of_getElem? (i := 2057) (by decide +kernel), List.mem_of_getElem? (i := 3182) (by decide +kernel), List.mem_of_getElem? (i := 3183) (by decide +kernel)⟩
theorem lw_p238 : lw_okq (⟨"PaperHouseModel", "kidsOf", "(I)I"⟩, 121) := ⟨⟨by decide +kernel, by decide +kernel⟩, List.mem_of_getElem? (i := 2057) (by decide +kernel), List.mem_of_getElem? (i := 3186) (by decide +kernel), List.mem_of_getElem? (i := 3187) (by decide +kernel)⟩
theorem lw_p239 : lw_okq (⟨"PaperHouseModel", "element", "(II)I"⟩, 121) := ⟨⟨by decide +kernel, by decide +kernel⟩, List.mem_of_getElem? (i := 2057) (by decide +kernel), List.mem_of_getElem? (i := 3190) (by decide +kernel), List.mem_of_getElem? (i := 3191) (by decide +kernel)⟩
def lw_privs_15 : List (MethodName × Nat) := [(⟨"PaperHouseModel", "goes", "(II)V"⟩, 121), (⟨"PaperHouseModel", "newLine", "()V"⟩, 121), (⟨"PaperHouseModel", "shows", "(I)V"⟩, 121), (⟨"PaperHouseModel", "widthOf", "(I)I"⟩, 121), (⟨"PaperHouseModel", "moves", "(J)V"⟩, 121), (⟨"PaperHouseModel", "row", "(I)V"⟩, 121), (⟨"PaperHouseModel", "nextNumber", "()I"⟩, 121), (⟨"PaperHouseModel", "nameNode", "(Ljava/lang/String;)I"⟩, 121), (⟨"PaperHouseModel", "keep", "(Ljava/lang/String;)I"⟩, 121), (⟨"PaperHouseModel", "name", "(ILjava/lang/String;)V"⟩, 121), (⟨"PaperHouseModel", "append", "(II)V"⟩, 121), (⟨"PaperHouseModel", "entryTo", "(ILjava/lang/String;III)I"⟩, 121), (⟨"PaperHouseModel", "newObject", "(I)I"⟩, 121), (⟨"PaperHouseModel", "put", "(III)V"⟩, 121), (⟨"PaperHouseModel", "kidsOf", "(I)I"⟩, 121), (⟨"PaperHouseModel", "element", "(II)I"⟩, 121)]
theorem lw_r15 : ∀ q ∈ lw_privs_15, lw_okq q := List.forall_mem_cons.mpr ⟨lw_p224, List.forall_mem_cons.mpr ⟨lw_p225, List.forall_mem_cons.mpr ⟨lw_p226, List.forall_mem_cons.mpr ⟨lw_p227, List.forall_mem_cons.mpr ⟨lw_p228, List.forall_mem_cons.mpr ⟨lw_p229, List.forall_mem_cons.mpr ⟨lw_p230, List.forall_mem_cons.mpr ⟨lw_p231, List.forall_mem_cons.mpr ⟨lw_p232, List.forall_mem_cons.mpr ⟨lw_p233, List.forall_mem_cons.mpr ⟨lw_p234, List.forall_mem_cons.mpr ⟨lw_p235, List.forall_mem_cons.mpr ⟨lw_p236, List.forall_mem_cons.mpr ⟨lw_p237, List.forall_mem_cons.mpr ⟨lw_p238, List.forall_mem_cons.mpr ⟨lw_p239, fun _ h => absurd h List.not_mem_nil⟩⟩⟩⟩⟩⟩⟩⟩⟩⟩⟩⟩⟩⟩⟩⟩
theorem lw_p240 : lw_okq (⟨"PaperHouseModel", "changed", "(I)V"⟩, 121) := ⟨⟨by decide +kernel, by decide +kernel⟩, List.mem_of_getElem? (i := 2057) (by decide +kernel), List.mem_of_getElem? (i := 3194) (by decide +kernel), List.mem_of_getElem? (i := 3195) (by decide +kernel)⟩
theorem lw_p241 : lw_okq (⟨"PaperHouseModel", "countTo", "(II)V"⟩, 121) := ⟨⟨by decide +kernel, by decide +kernel⟩, List.mem_of_getElem? (i := 2057) (by decide +kernel), List.mem_of_getElem? (i := 3198) (by decide +kernel), List.mem_of_getElem? (i := 3199) (by decide +kernel)⟩
theorem lw_p242 : lw_okq (⟨"PaperHouseModel", "takeOut", "(I)I"⟩, 121) := ⟨⟨by decide +kernel, by decide +kernel⟩, List.mem_of_getElem? (i := 2057) (by decide +kernel), List.mem_of_getElem? (i := 3206) (by decide +kernel), List.mem_of_getElem? (i := 3207) (by decide +kernel)⟩
theorem lw_p243 : lw_okq (⟨"PaperHouseModel", "takeOver", "(ILjava/lang/String;)V"⟩, 121) := ⟨⟨by decide +kernel, by decide +kernel⟩, List.mem_of_getElem? (i := 2057) (by decide +kernel), List.mem_of_getElem? (i := 3214) (by decide +kernel), List.mem_of_getElem? (i := 3215) (by decide +kernel)⟩
theorem lw_p244 : lw_okq (⟨"PaperHouseModel", "sayText", "(Ljava/lang/String;)V"⟩, 121) := ⟨⟨by decide +kernel, by decide +kernel⟩, List.mem_of_getElem? (i := 2057) (by decide +kernel), List.mem_of_getElem? (i := 3240) (by decide +kernel), List.mem_of_getElem? (i := 3241) (by decide +kernel)⟩
theorem lw_p245 : lw_okq (⟨"PaperHouseModel", "say", "(I)V"⟩, 121) := ⟨⟨by decide +kernel, by decide +kernel⟩, List.mem_of_getElem? (i := 2057) (by decide +kernel), List.mem_of_getElem? (i := 3244) (by decide +kernel), List.mem_of_getElem? (i := 3245) (by decide +kernel)⟩
theorem lw_p246 : lw_okq (⟨"PaperHouseModel", "numberOf", "(I)I"⟩, 121) := ⟨⟨by decide +kernel, by decide +kernel⟩, List.mem_of_getElem? (i := 2057) (by decide +kernel), List.mem_of_getElem? (i := 3248) (by decide +kernel), List.mem_of_getElem? (i := 3249) (by decide +kernel)⟩
theorem lw_p247 : lw_okq (⟨"PaperHouseModel", "numbered", "(IIJ)V"⟩, 121) := ⟨⟨by decide +kernel, by decide +kernel⟩, List.mem_of_getElem? (i := 2057) (by decide +kernel), List.mem_of_getElem? (i := 3252) (by decide +kernel), List.mem_of_getElem? (i := 3253) (by decide +kernel)⟩
theorem lw_p248 : lw_okq (⟨"PaperHouseModel", "sayNumber", "(J)V"⟩, 121) := ⟨⟨by decide +kernel, by decide +kernel⟩, List.mem_of_getElem? (i := 2057) (by decide +kernel), List.mem_of_getElem? (i := 3256) (by decide +kernel), List.mem_of_getElem? (i := 3257) (by decide +kernel)⟩
theorem lw_p249 : lw_okq (⟨"PaperHouseModel", "sayDigits", "(JI)V"⟩, 121) := ⟨⟨by decide +kernel, by decide +kernel⟩, List.mem_of_getElem? (i := 2057) (by decide +kernel), List.mem_of_getElem? (i := 3260) (by decide +kernel), List.mem_of_getElem? (i := 3261) (by decide +kernel)⟩
theorem lw_p250 : lw_okq (⟨"PaperHouseModel", "entries", "(IZ)V"⟩, 121) := ⟨⟨by decide +kernel, by decide +kernel⟩, List.mem_of_getElem? (i := 2057) (by decide +kernel), List.mem_of_getElem? (i := 3266) (by decide +kernel), List.mem_of_getElem? (i := 3267) (by decide +kernel)⟩
theorem lw_p251 : lw_okq (⟨"PaperHouseModel", "sayName", "(II)V"⟩, 121) := ⟨⟨by decide +kernel, by decide +kernel⟩, List.mem_of_getElem? (i := 2057) (by decide +kernel), List.mem_of_getElem? (i := 3270) (by decide +kernel), List.mem_of_getElem? (i := 3271) (by decide +kernel)⟩
theorem lw_p252 : lw_okq (⟨"PaperHouseModel", "write", "(I)V"⟩, 121) := ⟨⟨by decide +kernel, by decide +kernel⟩, List.mem_of_getElem? (i := 2057) (by decide +kernel), List.mem_of_getElem? (i := 3277) (by decide +kernel), List.mem_of_getElem? (i := 3278) (by decide +kernel)⟩
theorem lw_p253 : lw_okq (⟨"PaperHouseModel", "sayReal", "(I)V"⟩, 121) := ⟨⟨by decide +kernel, by decide +kernel⟩, List.mem_of_getElem? (i := 2057) (by decide +kernel), List.mem_of_getElem? (i := 3281) (by decide +kernel), List.mem_of_getElem? (i := 3282) (by decide +kernel)⟩
theorem lw_p254 : lw_okq (⟨"PaperHouseModel", "sayString", "(I)V"⟩, 121) := ⟨⟨by decide +kernel, by decide +kernel⟩, List.mem_of_getElem? (i := 2057) (by decide +kernel), List.mem_of_getElem? (i := 3287) (by decide +kernel), List.mem_of_getElem? (i := 3288) (by decide +kernel)⟩
theorem lw_p255 : lw_okq (⟨"PaperHouseModel", "reference", "(I)V"⟩, 121) := ⟨⟨by decide +kernel, by decide +kernel⟩, List.mem_of_getElem? (i := 2057) (by decide +kernel), List.mem_of_getElem? (i := 3293) (by decide +kernel), List.mem_of_getElem? (i := 3294) (by decide +kernel)⟩
def lw_privs_16 : List (MethodName × Nat) := [(⟨"PaperHouseModel", "changed", "(I)V"⟩, 121), (⟨"PaperHouseModel", "countTo", "(II)V"⟩, 121), (⟨"PaperHouseModel", "takeOut", "(I)I"⟩, 121), (⟨"PaperHouseModel", "takeOver", "(ILjava/lang/String;)V"⟩, 121), (⟨"PaperHouseModel", "sayText", "(Ljava/lang/String;)V"⟩, 121), (⟨"PaperHouseModel", "say", "(I)V"⟩, 121), (⟨"PaperHouseModel", "numberOf", "(I)I"⟩, 121), (⟨"PaperHouseModel", "numbered", "(IIJ)V"⟩, 121), (⟨"PaperHouseModel", "sayNumber", "(J)V"⟩, 121), (⟨"PaperHouseModel", "sayDigits", "(JI)V"⟩, 121), (⟨"PaperHouseModel", "entries", "(IZ)V"⟩, 121), (⟨"PaperHouseModel", "sayName", "(II)V"⟩, 121), (⟨"PaperHouseModel", "write", "(I)V"⟩, 121), (⟨"PaperHouseModel", "sayReal", "(I)V"⟩, 121), (⟨"PaperHouseModel", "sayString", "(I)V"⟩, 121), (⟨"PaperHouseModel", "reference", "(I)V"⟩, 121)]
theorem lw_r16 : ∀ q ∈ lw_privs_16, lw_okq q := List.forall_mem_cons.mpr ⟨lw_p240, List.forall_mem_cons.mpr ⟨lw_p241, List.forall_mem_cons.mpr ⟨lw_p242, List.forall_mem_cons.mpr ⟨lw_p243, List.forall_mem_cons.mpr ⟨lw_p244, List.forall_mem_cons.mpr ⟨lw_p245, List.forall_mem_cons.mpr ⟨lw_p246, List.forall_mem_cons.mpr ⟨lw_p247, List.forall_mem_cons.mpr ⟨lw_p248, List.forall_mem_cons.mpr ⟨lw_p249, List.forall_mem_cons.mpr ⟨lw_p250, List.forall_mem_cons.mpr ⟨lw_p251, List.forall_mem_cons.mpr ⟨lw_p252, List.forall_mem_cons.mpr ⟨lw_p253, List.forall_mem_cons.mpr ⟨lw_p254, List.forall_mem_cons.mpr ⟨lw_p255, fun _ h => absurd h List.not_mem_nil⟩⟩⟩⟩⟩⟩⟩⟩⟩⟩⟩⟩⟩⟩⟩⟩
theorem lw_p256 : lw_okq (⟨"PaperHouseModel", "sayReference", "(IJ)V"⟩, 121) := ⟨⟨by decide +kernel, by decide +kernel⟩, List.mem_of_getElem? (i := 2057) (by decide +kernel), List.mem_of_getElem? (i := 3297) (by decide +kernel), List.mem_of_getElem? (i := 3298) (by decide +kernel)⟩
theorem lw_p257 : lw_okq (⟨"PaperHouseModel", "codeOf", "([BII)V"⟩, 121) := ⟨⟨by decide +kernel, by decide +kernel⟩, List.mem_of_getElem? (i := 2057) (by decide +kernel), List.mem_of_getElem? (i := 3302) (by decide +kernel), List.mem_of_getElem? (i := 3303) (by decide +kernel)⟩
theorem lw_p258 : lw_okq (⟨"PaperHouseModel", "bit", "(II)V"⟩, 121) := ⟨⟨by decide +kernel, by decide +kernel⟩, List.mem_of_getElem? (i := 2057) (by decide +kernel), List.mem_of_getElem? (i := 3306) (by decide +kernel), List.mem_of_getElem? (i := 3307) (by decide +kernel)⟩
theorem lw_p259 : lw_okq (⟨"PaperHouseModel", "pair", "(II)V"⟩, 121) := ⟨⟨by decide +kernel, by decide +kernel⟩, List.mem_of_getElem? (i := 2057) (by decide +kernel), List.mem_of_getElem? (i := 3313) (by decide +kernel), List.mem_of_getElem? (i := 3314) (by decide +kernel)⟩
theorem lw_p260 : lw_okq (⟨"PaperHouseModel", "literal", "(I)V"⟩, 121) := ⟨⟨by decide +kernel, by decide +kernel⟩, List.mem_of_getElem? (i := 2057) (by decide +kernel), List.mem_of_getElem? (i := 3317) (by decide +kernel), List.mem_of_getElem? (i := 3318) (by decide +kernel)⟩
theorem lw_p261 : lw_okq (⟨"PaperHouseModel", "huffman", "(II)V"⟩, 121) := ⟨⟨by decide +kernel, by decide +kernel⟩, List.mem_of_getElem? (i := 2057) (by decide +kernel), List.mem_of_getElem? (i := 3321) (by decide +kernel), List.mem_of_getElem? (i := 3322) (by decide +kernel)⟩
theorem lw_p262 : lw_okq (⟨"PaperHouseModel", "streamTail", "()V"⟩, 121) := ⟨⟨by decide +kernel, by decide +kernel⟩, List.mem_of_getElem? (i := 2057) (by decide +kernel), List.mem_of_getElem? (i := 3325) (by decide +kernel), List.mem_of_getElem? (i := 3326) (by decide +kernel)⟩
theorem lw_p263 : lw_okq (⟨"PaperHouseModel", "sayEntry", "(JJ)V"⟩, 121) := ⟨⟨by decide +kernel, by decide +kernel⟩, List.mem_of_getElem? (i := 2057) (by decide +kernel), List.mem_of_getElem? (i := 3335) (by decide +kernel), List.mem_of_getElem? (i := 3336) (by decide +kernel)⟩
theorem lw_p264 : lw_okq (⟨"PaperHouseModel", "finish", "(I)I"⟩, 121) := ⟨⟨by decide +kernel, by decide +kernel⟩, List.mem_of_getElem? (i := 2057) (by decide +kernel), List.mem_of_getElem? (i := 3344) (by decide +kernel), List.mem_of_getElem? (i := 3345) (by decide +kernel)⟩
theorem lw_p265 : lw_okq (⟨"PaperHouseModel", "rowSection", "(I)V"⟩, 121) := ⟨⟨by decide +kernel, by decide +kernel⟩, List.mem_of_getElem? (i := 2057) (by decide +kernel), List.mem_of_getElem? (i := 3354) (by decide +kernel), List.mem_of_getElem? (i := 3355) (by decide +kernel)⟩
theorem lw_p266 : lw_okq (⟨"PaperHouseModel", "runFrom", "(II)I"⟩, 121) := ⟨⟨by decide +kernel, by decide +kernel⟩, List.mem_of_getElem? (i := 2057) (by decide +kernel), List.mem_of_getElem? (i := 3360) (by decide +kernel), List.mem_of_getElem? (i := 3361) (by decide +kernel)⟩
theorem lw_p267 : lw_okq (⟨"PaperHouseModel", "rowEntry", "(IJJ)V"⟩, 121) := ⟨⟨by decide +kernel, by decide +kernel⟩, List.mem_of_getElem? (i := 2057) (by decide +kernel), List.mem_of_getElem? (i := 3364) (by decide +kernel), List.mem_of_getElem? (i := 3365) (by decide +kernel)⟩
theorem lw_p268 : lw_okq (⟨"PaperHouseModel", "known", "()V"⟩, 121) := ⟨⟨by decide +kernel, by decide +kernel⟩, List.mem_of_getElem? (i := 2057) (by decide +kernel), List.mem_of_getElem? (i := 3371) (by decide +kernel), List.mem_of_getElem? (i := 3372) (by decide +kernel)⟩
theorem lw_p269 : lw_okq (⟨"PaperHouseModel", "tableSection", "()V"⟩, 121) := ⟨⟨by decide +kernel, by decide +kernel⟩, List.mem_of_getElem? (i := 2057) (by decide +kernel), List.mem_of_getElem? (i := 3377) (by decide +kernel), List.mem_of_getElem? (i := 3378) (by decide +kernel)⟩
def lw_privs_17 : List (MethodName × Nat) := [(⟨"PaperHouseModel", "sayReference", "(IJ)V"⟩, 121), (⟨"PaperHouseModel", "codeOf", "([BII)V"⟩, 121), (⟨"PaperHouseModel", "bit", "(II)V"⟩, 121), (⟨"PaperHouseModel", "pair", "(II)V"⟩, 121), (⟨"PaperHouseModel", "literal", "(I)V"⟩, 121), (⟨"PaperHouseModel", "huffman", "(II)V"⟩, 121), (⟨"PaperHouseModel", "streamTail", "()V"⟩, 121), (⟨"PaperHouseModel", "sayEntry", "(JJ)V"⟩, 121), (⟨"PaperHouseModel", "finish", "(I)I"⟩, 121), (⟨"PaperHouseModel", "rowSection", "(I)V"⟩, 121), (⟨"PaperHouseModel", "runFrom", "(II)I"⟩, 121), (⟨"PaperHouseModel", "rowEntry", "(IJJ)V"⟩, 121), (⟨"PaperHouseModel", "known", "()V"⟩, 121), (⟨"PaperHouseModel", "tableSection", "()V"⟩, 121)]
theorem lw_r17 : ∀ q ∈ lw_privs_17, lw_okq q := List.forall_mem_cons.mpr ⟨lw_p256, List.forall_mem_cons.mpr ⟨lw_p257, List.forall_mem_cons.mpr ⟨lw_p258, List.forall_mem_cons.mpr ⟨lw_p259, List.forall_mem_cons.mpr ⟨lw_p260, List.forall_mem_cons.mpr ⟨lw_p261, List.forall_mem_cons.mpr ⟨lw_p262, List.forall_mem_cons.mpr ⟨lw_p263, List.forall_mem_cons.mpr ⟨lw_p264, List.forall_mem_cons.mpr ⟨lw_p265, List.forall_mem_cons.mpr ⟨lw_p266, List.forall_mem_cons.mpr ⟨lw_p267, List.forall_mem_cons.mpr ⟨lw_p268, List.forall_mem_cons.mpr ⟨lw_p269, fun _ h => absurd h List.not_mem_nil⟩⟩⟩⟩⟩⟩⟩⟩⟩⟩⟩⟩⟩⟩
def lw_privs : List (MethodName × Nat) := lw_privs_1 ++ (lw_privs_2 ++ (lw_privs_3 ++ (lw_privs_4 ++ (lw_privs_5 ++ (lw_privs_6 ++ (lw_privs_7 ++ (lw_privs_8 ++ (lw_privs_9 ++ (lw_privs_10 ++ (lw_privs_11 ++ (lw_privs_12 ++ (lw_privs_13 ++ (lw_privs_14 ++ (lw_privs_15 ++ (lw_privs_16 ++ (lw_privs_17))))))))))))))))
def lw_tbl : List Cond := k2_sels lw_privs ++ tables_1
theorem lw_privs_ok : ∀ q ∈ lw_privs, lw_okq q := by
  show ∀ q ∈ lw_privs_1 ++ (lw_privs_2 ++ (lw_privs_3 ++ (lw_privs_4 ++ (lw_privs_5 ++ (lw_privs_6 ++ (lw_privs_7 ++ (lw_privs_8 ++ (lw_privs_9 ++ (lw_privs_10 ++ (lw_privs_11 ++ (lw_privs_12 ++ (lw_privs_13 ++ (lw_privs_14 ++ (lw_privs_15 ++ (lw_privs_16 ++ (lw_privs_17)))))))))))))))), lw_okq q
  exact List.forall_mem_append.mpr ⟨lw_r1, List.forall_mem_append.mpr ⟨lw_r2, List.forall_mem_append.mpr ⟨lw_r3, List.forall_mem_append.mpr ⟨lw_r4, List.forall_mem_append.mpr ⟨lw_r5, List.forall_mem_append.mpr ⟨lw_r6, List.forall_mem_append.mpr ⟨lw_r7, List.forall_mem_append.mpr ⟨lw_r8, List.forall_mem_append.mpr ⟨lw_r9, List.forall_mem_append.mpr ⟨lw_r10, List.forall_mem_append.mpr ⟨lw_r11, List.forall_mem_append.mpr ⟨lw_r12, List.forall_mem_append.mpr ⟨lw_r13, List.forall_mem_append.mpr ⟨lw_r14, List.forall_mem_append.mpr ⟨lw_r15, List.forall_mem_append.mpr ⟨lw_r16, lw_r17⟩⟩⟩⟩⟩⟩⟩⟩⟩⟩⟩⟩⟩⟩⟩⟩
-- ===== end of PART A; then your names; then what follows =====
/-! ===== the classes: names, fields, types (printed by program) ===== -/
def RX0 : String := "PaperHouse$Changes"
def TX0 : u_T := fun k => match k with
  | 0 => ("PaperHouse$Changes", "table", "LPaperHouse$Table;", true)
  | 1 => ("PaperHouse$Changes", "store", "LPaperHouse$Store;", true)
  | _ => ("PaperHouse$Changes", "tree", "LPaperHouse$Tree;", true)
def tyX0 : Nat → FieldType := fun k => match k with
  | 0 => .object "PaperHouse$Table"
  | 1 => .object "PaperHouse$Store"
  | _ => .object "PaperHouse$Tree"
theorem nmX0 : ∀ a, a < 3 → ∀ b, b < 3 → a ≠ b → (TX0 a).2.1 ≠ (TX0 b).2.1 := by decide +kernel
theorem tyX0_ok : ∀ k, k < 3 → parseFieldDescriptor (TX0 k).2.2.1 = some (tyX0 k) := by decide +kernel
def RX1 : String := "PaperHouse$Filters"
def TX1 : u_T := fun k => match k with
  | 0 => ("PaperHouse$Filters", "store", "LPaperHouse$Store;", true)
  | 1 => ("PaperHouse$Filters", "inflate", "LPaperHouse$Inflate;", true)
  | 2 => ("PaperHouse$Filters", "even", "[B", true)
  | 3 => ("PaperHouse$Filters", "odd", "[B", true)
  | 4 => ("PaperHouse$Filters", "flate", "[Z", true)
  | 5 => ("PaperHouse$Filters", "parms", "[I", true)
  | 6 => ("PaperHouse$Filters", "filters", "I", false)
  | 7 => ("PaperHouse$Filters", "result", "[B", false)
  | _ => ("PaperHouse$Filters", "length", "I", false)
def tyX1 : Nat → FieldType := fun k => match k with
  | 0 => .object "PaperHouse$Store"
  | 1 => .object "PaperHouse$Inflate"
  | 2 => .array .byte
  | 3 => .array .byte
  | 4 => .array .boolean
  | 5 => .array .int
  | 6 => .int
  | 7 => .array .byte
  | _ => .int
theorem nmX1 : ∀ a, a < 9 → ∀ b, b < 9 → a ≠ b → (TX1 a).2.1 ≠ (TX1 b).2.1 := by decide +kernel
theorem tyX1_ok : ∀ k, k < 9 → parseFieldDescriptor (TX1 k).2.2.1 = some (tyX1 k) := by decide +kernel
def RX2 : String := "PaperHouse$Inflate"
def TX2 : u_T := fun k => match k with
  | 0 => ("PaperHouse$Inflate", "sizes", "[I", true)
  | 1 => ("PaperHouse$Inflate", "many", "[I", true)
  | 2 => ("PaperHouse$Inflate", "codes", "[I", true)
  | 3 => ("PaperHouse$Inflate", "farMany", "[I", true)
  | 4 => ("PaperHouse$Inflate", "farCodes", "[I", true)
  | 5 => ("PaperHouse$Inflate", "places", "[I", true)
  | 6 => ("PaperHouse$Inflate", "in", "[B", false)
  | 7 => ("PaperHouse$Inflate", "pos", "I", false)
  | 8 => ("PaperHouse$Inflate", "end", "I", false)
  | 9 => ("PaperHouse$Inflate", "out", "[B", false)
  | 10 => ("PaperHouse$Inflate", "written", "I", false)
  | 11 => ("PaperHouse$Inflate", "literals", "I", false)
  | 12 => ("PaperHouse$Inflate", "distances", "I", false)
  | 13 => ("PaperHouse$Inflate", "held", "I", false)
  | _ => ("PaperHouse$Inflate", "heldBits", "I", false)
def tyX2 : Nat → FieldType := fun k => match k with
  | 0 => .array .int
  | 1 => .array .int
  | 2 => .array .int
  | 3 => .array .int
  | 4 => .array .int
  | 5 => .array .int
  | 6 => .array .byte
  | 7 => .int
  | 8 => .int
  | 9 => .array .byte
  | 10 => .int
  | 11 => .int
  | 12 => .int
  | 13 => .int
  | _ => .int
theorem nmX2 : ∀ a, a < 15 → ∀ b, b < 15 → a ≠ b → (TX2 a).2.1 ≠ (TX2 b).2.1 := by decide +kernel
theorem tyX2_ok : ∀ k, k < 15 → parseFieldDescriptor (TX2 k).2.2.1 = some (tyX2 k) := by decide +kernel
def RX3 : String := "PaperHouse$Loader"
def TX3 : u_T := fun k => match k with
  | 0 => ("PaperHouse$Loader", "file", "[B", true)
  | 1 => ("PaperHouse$Loader", "length", "I", false)
  | 2 => ("PaperHouse$Loader", "parser", "LPaperHouse$Parser;", true)
  | 3 => ("PaperHouse$Loader", "store", "LPaperHouse$Store;", true)
  | 4 => ("PaperHouse$Loader", "table", "LPaperHouse$Table;", true)
  | 5 => ("PaperHouse$Loader", "filters", "LPaperHouse$Filters;", true)
  | 6 => ("PaperHouse$Loader", "waiting", "[I", true)
  | 7 => ("PaperHouse$Loader", "bodies", "[I", true)
  | 8 => ("PaperHouse$Loader", "dicts", "[I", true)
  | _ => ("PaperHouse$Loader", "waiters", "I", false)
def tyX3 : Nat → FieldType := fun k => match k with
  | 0 => .array .byte
  | 1 => .int
  | 2 => .object "PaperHouse$Parser"
  | 3 => .object "PaperHouse$Store"
  | 4 => .object "PaperHouse$Table"
  | 5 => .object "PaperHouse$Filters"
  | 6 => .array .int
  | 7 => .array .int
  | 8 => .array .int
  | _ => .int
theorem nmX3 : ∀ a, a < 10 → ∀ b, b < 10 → a ≠ b → (TX3 a).2.1 ≠ (TX3 b).2.1 := by decide +kernel
theorem tyX3_ok : ∀ k, k < 10 → parseFieldDescriptor (TX3 k).2.2.1 = some (tyX3 k) := by decide +kernel
def RX4 : String := "PaperHouse$Painter"
def TX4 : u_T := fun k => match k with
  | 0 => ("PaperHouse$Painter", "table", "LPaperHouse$Table;", true)
  | 1 => ("PaperHouse$Painter", "store", "LPaperHouse$Store;", true)
  | 2 => ("PaperHouse$Painter", "tree", "LPaperHouse$Tree;", true)
  | 3 => ("PaperHouse$Painter", "parser", "LPaperHouse$Parser;", true)
  | 4 => ("PaperHouse$Painter", "bytes", "[B", true)
  | 5 => ("PaperHouse$Painter", "state", "[I", true)
  | 6 => ("PaperHouse$Painter", "kept", "[I", true)
  | 7 => ("PaperHouse$Painter", "text", "[I", true)
  | 8 => ("PaperHouse$Painter", "line", "[I", true)
  | 9 => ("PaperHouse$Painter", "given", "[I", true)
  | 10 => ("PaperHouse$Painter", "shown", "[I", true)
  | 11 => ("PaperHouse$Painter", "widths", "[I", true)
  | 12 => ("PaperHouse$Painter", "operands", "[I", true)
  | 13 => ("PaperHouse$Painter", "glyph", "[I", true)
  | 14 => ("PaperHouse$Painter", "waiting", "I", false)
  | 15 => ("PaperHouse$Painter", "keeps", "I", false)
  | 16 => ("PaperHouse$Painter", "inText", "Z", false)
  | 17 => ("PaperHouse$Painter", "page", "I", false)
  | _ => ("PaperHouse$Painter", "glyphs", "I", false)
def tyX4 : Nat → FieldType := fun k => match k with
  | 0 => .object "PaperHouse$Table"
  | 1 => .object "PaperHouse$Store"
  | 2 => .object "PaperHouse$Tree"
  | 3 => .object "PaperHouse$Parser"
  | 4 => .array .byte
  | 5 => .array .int
  | 6 => .array .int
  | 7 => .array .int
  | 8 => .array .int
  | 9 => .array .int
  | 10 => .array .int
  | 11 => .array .int
  | 12 => .array .int
  | 13 => .array .int
  | 14 => .int
  | 15 => .int
  | 16 => .boolean
  | 17 => .int
  | _ => .int
theorem nmX4 : ∀ a, a < 19 → ∀ b, b < 19 → a ≠ b → (TX4 a).2.1 ≠ (TX4 b).2.1 := by decide +kernel
theorem tyX4_ok : ∀ k, k < 19 → parseFieldDescriptor (TX4 k).2.2.1 = some (tyX4 k) := by decide +kernel
def RX5 : String := "PaperHouse$Parser"
def TX5 : u_T := fun k => match k with
  | 0 => ("PaperHouse$Parser", "store", "LPaperHouse$Store;", true)
  | 1 => ("PaperHouse$Parser", "text", "[B", true)
  | 2 => ("PaperHouse$Parser", "bytes", "[B", false)
  | 3 => ("PaperHouse$Parser", "from", "I", false)
  | 4 => ("PaperHouse$Parser", "pos", "I", false)
  | 5 => ("PaperHouse$Parser", "end", "I", false)
  | 6 => ("PaperHouse$Parser", "fault", "I", false)
  | 7 => ("PaperHouse$Parser", "place", "I", false)
  | 8 => ("PaperHouse$Parser", "firstNode", "I", false)
  | 9 => ("PaperHouse$Parser", "firstText", "I", false)
  | 10 => ("PaperHouse$Parser", "references", "Z", false)
  | 11 => ("PaperHouse$Parser", "rowAt", "I", false)
  | 12 => ("PaperHouse$Parser", "rowEnd", "I", false)
  | 13 => ("PaperHouse$Parser", "rowKind", "I", false)
  | 14 => ("PaperHouse$Parser", "rowValue", "I", false)
  | 15 => ("PaperHouse$Parser", "rowBeyond", "Z", false)
  | 16 => ("PaperHouse$Parser", "rowSigned", "Z", false)
  | _ => ("PaperHouse$Parser", "scanned", "I", false)
def tyX5 : Nat → FieldType := fun k => match k with
  | 0 => .object "PaperHouse$Store"
  | 1 => .array .byte
  | 2 => .array .byte
  | 3 => .int
  | 4 => .int
  | 5 => .int
  | 6 => .int
  | 7 => .int
  | 8 => .int
  | 9 => .int
  | 10 => .boolean
  | 11 => .int
  | 12 => .int
  | 13 => .int
  | 14 => .int
  | 15 => .boolean
  | 16 => .boolean
  | _ => .int
theorem nmX5 : ∀ a, a < 18 → ∀ b, b < 18 → a ≠ b → (TX5 a).2.1 ≠ (TX5 b).2.1 := by decide +kernel
theorem tyX5_ok : ∀ k, k < 18 → parseFieldDescriptor (TX5 k).2.2.1 = some (tyX5 k) := by decide +kernel
def RX6 : String := "PaperHouse$Sections"
def TX6 : u_T := fun k => match k with
  | 0 => ("PaperHouse$Sections", "parser", "LPaperHouse$Parser;", true)
  | 1 => ("PaperHouse$Sections", "store", "LPaperHouse$Store;", true)
  | 2 => ("PaperHouse$Sections", "table", "LPaperHouse$Table;", true)
  | 3 => ("PaperHouse$Sections", "filters", "LPaperHouse$Filters;", true)
  | 4 => ("PaperHouse$Sections", "begins", "[I", true)
  | 5 => ("PaperHouse$Sections", "wide", "[I", true)
  | 6 => ("PaperHouse$Sections", "begun", "I", false)
  | 7 => ("PaperHouse$Sections", "trailer", "I", false)
  | 8 => ("PaperHouse$Sections", "trailerFrom", "I", false)
  | 9 => ("PaperHouse$Sections", "trailerTo", "I", false)
  | 10 => ("PaperHouse$Sections", "inRows", "Z", false)
  | 11 => ("PaperHouse$Sections", "highest", "I", false)
  | _ => ("PaperHouse$Sections", "at", "I", false)
def tyX6 : Nat → FieldType := fun k => match k with
  | 0 => .object "PaperHouse$Parser"
  | 1 => .object "PaperHouse$Store"
  | 2 => .object "PaperHouse$Table"
  | 3 => .object "PaperHouse$Filters"
  | 4 => .array .int
  | 5 => .array .int
  | 6 => .int
  | 7 => .int
  | 8 => .int
  | 9 => .int
  | 10 => .boolean
  | 11 => .int
  | _ => .int
theorem nmX6 : ∀ a, a < 13 → ∀ b, b < 13 → a ≠ b → (TX6 a).2.1 ≠ (TX6 b).2.1 := by decide +kernel
theorem tyX6_ok : ∀ k, k < 13 → parseFieldDescriptor (TX6 k).2.2.1 = some (tyX6 k) := by decide +kernel
def RX7 : String := "PaperHouse$Store"
def TX7 : u_T := fun k => match k with
  | 0 => ("PaperHouse$Store", "kind", "[I", true)
  | 1 => ("PaperHouse$Store", "one", "[I", true)
  | 2 => ("PaperHouse$Store", "two", "[I", true)
  | 3 => ("PaperHouse$Store", "next", "[I", true)
  | 4 => ("PaperHouse$Store", "key", "[I", true)
  | 5 => ("PaperHouse$Store", "text", "[B", true)
  | 6 => ("PaperHouse$Store", "nodes", "I", false)
  | 7 => ("PaperHouse$Store", "texts", "I", false)
  | _ => ("PaperHouse$Store", "known", "I", false)
def tyX7 : Nat → FieldType := fun k => match k with
  | 0 => .array .int
  | 1 => .array .int
  | 2 => .array .int
  | 3 => .array .int
  | 4 => .array .int
  | 5 => .array .byte
  | 6 => .int
  | 7 => .int
  | _ => .int
theorem nmX7 : ∀ a, a < 9 → ∀ b, b < 9 → a ≠ b → (TX7 a).2.1 ≠ (TX7 b).2.1 := by decide +kernel
theorem tyX7_ok : ∀ k, k < 9 → parseFieldDescriptor (TX7 k).2.2.1 = some (tyX7 k) := by decide +kernel
def RX8 : String := "PaperHouse$Table"
def TX8 : u_T := fun k => match k with
  | 0 => ("PaperHouse$Table", "store", "LPaperHouse$Store;", true)
  | 1 => ("PaperHouse$Table", "how", "[I", true)
  | 2 => ("PaperHouse$Table", "place", "[I", true)
  | 3 => ("PaperHouse$Table", "generation", "[I", true)
  | 4 => ("PaperHouse$Table", "root", "[I", true)
  | 5 => ("PaperHouse$Table", "begin", "[I", true)
  | 6 => ("PaperHouse$Table", "length", "[I", true)
  | 7 => ("PaperHouse$Table", "changed", "[Z", true)
  | 8 => ("PaperHouse$Table", "named", "[Z", true)
  | 9 => ("PaperHouse$Table", "bytes", "[B", true)
  | 10 => ("PaperHouse$Table", "used", "I", false)
  | 11 => ("PaperHouse$Table", "limit", "I", false)
  | 12 => ("PaperHouse$Table", "readLimit", "I", false)
  | 13 => ("PaperHouse$Table", "catalog", "I", false)
  | _ => ("PaperHouse$Table", "info", "I", false)
def tyX8 : Nat → FieldType := fun k => match k with
  | 0 => .object "PaperHouse$Store"
  | 1 => .array .int
  | 2 => .array .int
  | 3 => .array .int
  | 4 => .array .int
  | 5 => .array .int
  | 6 => .array .int
  | 7 => .array .boolean
  | 8 => .array .boolean
  | 9 => .array .byte
  | 10 => .int
  | 11 => .int
  | 12 => .int
  | 13 => .int
  | _ => .int
theorem nmX8 : ∀ a, a < 15 → ∀ b, b < 15 → a ≠ b → (TX8 a).2.1 ≠ (TX8 b).2.1 := by decide +kernel
theorem tyX8_ok : ∀ k, k < 15 → parseFieldDescriptor (TX8 k).2.2.1 = some (tyX8 k) := by decide +kernel
def RX9 : String := "PaperHouse$Tree"
def TX9 : u_T := fun k => match k with
  | 0 => ("PaperHouse$Tree", "parser", "LPaperHouse$Parser;", true)
  | 1 => ("PaperHouse$Tree", "table", "LPaperHouse$Table;", true)
  | 2 => ("PaperHouse$Tree", "store", "LPaperHouse$Store;", true)
  | 3 => ("PaperHouse$Tree", "leaf", "[I", true)
  | 4 => ("PaperHouse$Tree", "above", "[I", true)
  | 5 => ("PaperHouse$Tree", "met", "[Z", true)
  | 6 => ("PaperHouse$Tree", "nowhere", "[B", true)
  | 7 => ("PaperHouse$Tree", "leaves", "I", false)
  | _ => ("PaperHouse$Tree", "first", "I", false)
def tyX9 : Nat → FieldType := fun k => match k with
  | 0 => .object "PaperHouse$Parser"
  | 1 => .object "PaperHouse$Table"
  | 2 => .object "PaperHouse$Store"
  | 3 => .array .int
  | 4 => .array .int
  | 5 => .array .boolean
  | 6 => .array .byte
  | 7 => .int
  | _ => .int
theorem nmX9 : ∀ a, a < 9 → ∀ b, b < 9 → a ≠ b → (TX9 a).2.1 ≠ (TX9 b).2.1 := by decide +kernel
theorem tyX9_ok : ∀ k, k < 9 → parseFieldDescriptor (TX9 k).2.2.1 = some (tyX9 k) := by decide +kernel
def RX10 : String := "PaperHouse$Writer"
def TX10 : u_T := fun k => match k with
  | 0 => ("PaperHouse$Writer", "table", "LPaperHouse$Table;", true)
  | 1 => ("PaperHouse$Writer", "store", "LPaperHouse$Store;", true)
  | 2 => ("PaperHouse$Writer", "out", "[B", true)
  | 3 => ("PaperHouse$Writer", "written", "I", false)
  | 4 => ("PaperHouse$Writer", "over", "Z", false)
  | 5 => ("PaperHouse$Writer", "renumbers", "Z", false)
  | 6 => ("PaperHouse$Writer", "number", "[I", true)
  | 7 => ("PaperHouse$Writer", "queue", "[I", true)
  | 8 => ("PaperHouse$Writer", "place", "[I", true)
  | 9 => ("PaperHouse$Writer", "met", "I", false)
  | 10 => ("PaperHouse$Writer", "rows", "[B", true)
  | 11 => ("PaperHouse$Writer", "code", "[B", true)
  | 12 => ("PaperHouse$Writer", "coded", "I", false)
  | 13 => ("PaperHouse$Writer", "held", "I", false)
  | 14 => ("PaperHouse$Writer", "heldBits", "I", false)
  | 15 => ("PaperHouse$Writer", "newest", "[I", true)
  | 16 => ("PaperHouse$Writer", "older", "[I", true)
  | _ => ("PaperHouse$Writer", "distance", "I", false)
def tyX10 : Nat → FieldType := fun k => match k with
  | 0 => .object "PaperHouse$Table"
  | 1 => .object "PaperHouse$Store"
  | 2 => .array .byte
  | 3 => .int
  | 4 => .boolean
  | 5 => .boolean
  | 6 => .array .int
  | 7 => .array .int
  | 8 => .array .int
  | 9 => .int
  | 10 => .array .byte
  | 11 => .array .byte
  | 12 => .int
  | 13 => .int
  | 14 => .int
  | 15 => .array .int
  | 16 => .array .int
  | _ => .int
theorem nmX10 : ∀ a, a < 18 → ∀ b, b < 18 → a ≠ b → (TX10 a).2.1 ≠ (TX10 b).2.1 := by decide +kernel
theorem tyX10_ok : ∀ k, k < 18 → parseFieldDescriptor (TX10 k).2.2.1 = some (tyX10 k) := by decide +kernel
def RX11 : String := "PaperHouse"
def TX11 : u_T := fun k => match k with
  | 0 => ("PaperHouse", "tape", "[B", true)
  | 1 => ("PaperHouse", "taped", "I", false)
  | 2 => ("PaperHouse", "store", "LPaperHouse$Store;", true)
  | 3 => ("PaperHouse", "table", "LPaperHouse$Table;", true)
  | 4 => ("PaperHouse", "parser", "LPaperHouse$Parser;", true)
  | 5 => ("PaperHouse", "sections", "LPaperHouse$Sections;", true)
  | 6 => ("PaperHouse", "loader", "LPaperHouse$Loader;", true)
  | 7 => ("PaperHouse", "tree", "LPaperHouse$Tree;", true)
  | 8 => ("PaperHouse", "painter", "LPaperHouse$Painter;", true)
  | 9 => ("PaperHouse", "changes", "LPaperHouse$Changes;", true)
  | 10 => ("PaperHouse", "writer", "LPaperHouse$Writer;", true)
  | 11 => ("PaperHouse", "path", "[I", true)
  | 12 => ("PaperHouse", "steps", "I", false)
  | 13 => ("PaperHouse", "standing", "I", false)
  | 14 => ("PaperHouse", "open", "Z", false)
  | 15 => ("PaperHouse", "loadFault", "I", false)
  | 16 => ("PaperHouse", "loadPlace", "I", false)
  | 17 => ("PaperHouse", "showFault", "I", false)
  | _ => ("PaperHouse", "showPlace", "I", false)
def tyX11 : Nat → FieldType := fun k => match k with
  | 0 => .array .byte
  | 1 => .int
  | 2 => .object "PaperHouse$Store"
  | 3 => .object "PaperHouse$Table"
  | 4 => .object "PaperHouse$Parser"
  | 5 => .object "PaperHouse$Sections"
  | 6 => .object "PaperHouse$Loader"
  | 7 => .object "PaperHouse$Tree"
  | 8 => .object "PaperHouse$Painter"
  | 9 => .object "PaperHouse$Changes"
  | 10 => .object "PaperHouse$Writer"
  | 11 => .array .int
  | 12 => .int
  | 13 => .int
  | 14 => .boolean
  | 15 => .int
  | 16 => .int
  | 17 => .int
  | _ => .int
theorem nmX11 : ∀ a, a < 19 → ∀ b, b < 19 → a ≠ b → (TX11 a).2.1 ≠ (TX11 b).2.1 := by decide +kernel
theorem tyX11_ok : ∀ k, k < 19 → parseFieldDescriptor (TX11 k).2.2.1 = some (tyX11 k) := by decide +kernel
def RX12 : String := "PaperHouseModel"
def TX12 : u_T := fun k => match k with
  | 0 => ("PaperHouseModel", "tape", "[B", true)
  | 1 => ("PaperHouseModel", "tapeSize", "I", false)
  | 2 => ("PaperHouseModel", "file", "[B", true)
  | 3 => ("PaperHouseModel", "fileSize", "I", false)
  | 4 => ("PaperHouseModel", "out", "[B", true)
  | 5 => ("PaperHouseModel", "outSize", "I", false)
  | 6 => ("PaperHouseModel", "isThere", "Z", false)
  | 7 => ("PaperHouseModel", "kind", "[B", true)
  | 8 => ("PaperHouseModel", "val", "[I", true)
  | 9 => ("PaperHouseModel", "gen", "[I", true)
  | 10 => ("PaperHouseModel", "size", "[I", true)
  | 11 => ("PaperHouseModel", "first", "[I", true)
  | 12 => ("PaperHouseModel", "next", "[I", true)
  | 13 => ("PaperHouseModel", "keyFrom", "[I", true)
  | 14 => ("PaperHouseModel", "keySize", "[I", true)
  | 15 => ("PaperHouseModel", "nodes", "I", false)
  | 16 => ("PaperHouseModel", "pool", "[B", true)
  | 17 => ("PaperHouseModel", "pooled", "I", false)
  | 18 => ("PaperHouseModel", "bytes", "[B", false)
  | 19 => ("PaperHouseModel", "base", "I", false)
  | 20 => ("PaperHouseModel", "limit", "I", false)
  | 21 => ("PaperHouseModel", "at", "I", false)
  | 22 => ("PaperHouseModel", "tok", "I", false)
  | 23 => ("PaperHouseModel", "begin", "I", false)
  | 24 => ("PaperHouseModel", "tokValue", "I", false)
  | 25 => ("PaperHouseModel", "isSigned", "Z", false)
  | 26 => ("PaperHouseModel", "textSize", "I", false)
  | 27 => ("PaperHouseModel", "code", "I", false)
  | 28 => ("PaperHouseModel", "place", "I", false)
  | 29 => ("PaperHouseModel", "objects", "I", false)
  | 30 => ("PaperHouseModel", "mostObjects", "I", false)
  | 31 => ("PaperHouseModel", "texts", "I", false)
  | 32 => ("PaperHouseModel", "loads", "Z", false)
  | 33 => ("PaperHouseModel", "data", "[B", true)
  | 34 => ("PaperHouseModel", "dataTop", "I", false)
  | 35 => ("PaperHouseModel", "before", "[B", true)
  | 36 => ("PaperHouseModel", "behind", "[B", true)
  | 37 => ("PaperHouseModel", "coded", "I", false)
  | 38 => ("PaperHouseModel", "made", "I", false)
  | 39 => ("PaperHouseModel", "bitAt", "I", false)
  | 40 => ("PaperHouseModel", "isBroken", "Z", false)
  | 41 => ("PaperHouseModel", "lengths", "[I", true)
  | 42 => ("PaperHouseModel", "litCounts", "[I", true)
  | 43 => ("PaperHouseModel", "litSymbols", "[I", true)
  | 44 => ("PaperHouseModel", "distCounts", "[I", true)
  | 45 => ("PaperHouseModel", "distSymbols", "[I", true)
  | 46 => ("PaperHouseModel", "countsAt", "[I", true)
  | 47 => ("PaperHouseModel", "read", "[I", true)
  | 48 => ("PaperHouseModel", "stands", "[B", true)
  | 49 => ("PaperHouseModel", "placeOf", "[J", true)
  | 50 => ("PaperHouseModel", "third", "[J", true)
  | 51 => ("PaperHouseModel", "isTold", "[Z", true)
  | 52 => ("PaperHouseModel", "root", "[I", true)
  | 53 => ("PaperHouseModel", "state", "[B", true)
  | 54 => ("PaperHouseModel", "isStream", "[Z", true)
  | 55 => ("PaperHouseModel", "dataFrom", "[I", true)
  | 56 => ("PaperHouseModel", "dataSize", "[I", true)
  | 57 => ("PaperHouseModel", "isNew", "[Z", true)
  | 58 => ("PaperHouseModel", "isNamed", "[Z", true)
  | 59 => ("PaperHouseModel", "isPassed", "[Z", true)
  | 60 => ("PaperHouseModel", "all", "I", false)
  | 61 => ("PaperHouseModel", "sections", "I", false)
  | 62 => ("PaperHouseModel", "sectionAt", "[J", true)
  | 63 => ("PaperHouseModel", "isRow", "Z", false)
  | 64 => ("PaperHouseModel", "trailer", "I", false)
  | 65 => ("PaperHouseModel", "rootRef", "I", false)
  | 66 => ("PaperHouseModel", "infoRef", "I", false)
  | 67 => ("PaperHouseModel", "streamBytes", "I", false)
  | 68 => ("PaperHouseModel", "loadFault", "I", false)
  | 69 => ("PaperHouseModel", "loadPlace", "I", false)
  | 70 => ("PaperHouseModel", "showFault", "I", false)
  | 71 => ("PaperHouseModel", "showPlace", "I", false)
  | 72 => ("PaperHouseModel", "tells", "[B", true)
  | 73 => ("PaperHouseModel", "tellsPlace", "[J", true)
  | 74 => ("PaperHouseModel", "tellsThird", "[J", true)
  | 75 => ("PaperHouseModel", "greatest", "I", false)
  | 76 => ("PaperHouseModel", "widths", "[I", true)
  | 77 => ("PaperHouseModel", "headNumber", "I", false)
  | 78 => ("PaperHouseModel", "headGeneration", "J", false)
  | 79 => ("PaperHouseModel", "rawLength", "I", false)
  | 80 => ("PaperHouseModel", "lastNumber", "I", false)
  | 81 => ("PaperHouseModel", "rootNumber", "I", false)
  | 82 => ("PaperHouseModel", "infoNumber", "I", false)
  | 83 => ("PaperHouseModel", "firstNode", "I", false)
  | 84 => ("PaperHouseModel", "pageCount", "I", false)
  | 85 => ("PaperHouseModel", "pageOf", "[I", true)
  | 86 => ("PaperHouseModel", "above", "[I", true)
  | 87 => ("PaperHouseModel", "isMet", "[Z", true)
  | 88 => ("PaperHouseModel", "depth", "I", false)
  | 89 => ("PaperHouseModel", "cursorNumber", "I", false)
  | 90 => ("PaperHouseModel", "path", "[I", true)
  | 91 => ("PaperHouseModel", "contents", "[B", true)
  | 92 => ("PaperHouseModel", "contentsSize", "I", false)
  | 93 => ("PaperHouseModel", "operands", "[I", true)
  | 94 => ("PaperHouseModel", "waits", "I", false)
  | 95 => ("PaperHouseModel", "ctm", "[I", true)
  | 96 => ("PaperHouseModel", "tm", "[I", true)
  | 97 => ("PaperHouseModel", "line", "[I", true)
  | 98 => ("PaperHouseModel", "by", "[I", true)
  | 99 => ("PaperHouseModel", "sums", "[J", true)
  | 100 => ("PaperHouseModel", "ways", "[I", true)
  | 101 => ("PaperHouseModel", "keptWays", "[I", true)
  | 102 => ("PaperHouseModel", "keptMany", "I", false)
  | 103 => ("PaperHouseModel", "isText", "Z", false)
  | 104 => ("PaperHouseModel", "glyphs", "I", false)
  | 105 => ("PaperHouseModel", "glyphRows", "[I", true)
  | 106 => ("PaperHouseModel", "operatorAt", "I", false)
  | 107 => ("PaperHouseModel", "resources", "I", false)
  | 108 => ("PaperHouseModel", "operators", "[Ljava/lang/String;", true)
  | 109 => ("PaperHouseModel", "isAnew", "Z", false)
  | 110 => ("PaperHouseModel", "anew", "[I", true)
  | 111 => ("PaperHouseModel", "order", "[I", true)
  | 112 => ("PaperHouseModel", "ordered", "I", false)
  | 113 => ("PaperHouseModel", "written", "[I", true)
  | 114 => ("PaperHouseModel", "coder", "[B", true)
  | 115 => ("PaperHouseModel", "coderSize", "I", false)
  | 116 => ("PaperHouseModel", "coderBits", "I", false)
  | 117 => ("PaperHouseModel", "latest", "[I", true)
  | 118 => ("PaperHouseModel", "elder", "[I", true)
  | 119 => ("PaperHouseModel", "rows", "[B", true)
  | _ => ("PaperHouseModel", "rowsSize", "I", false)
def tyX12 : Nat → FieldType := fun k => match k with
  | 0 => .array .byte
  | 1 => .int
  | 2 => .array .byte
  | 3 => .int
  | 4 => .array .byte
  | 5 => .int
  | 6 => .boolean
  | 7 => .array .byte
  | 8 => .array .int
  | 9 => .array .int
  | 10 => .array .int
  | 11 => .array .int
  | 12 => .array .int
  | 13 => .array .int
  | 14 => .array .int
  | 15 => .int
  | 16 => .array .byte
  | 17 => .int
  | 18 => .array .byte
  | 19 => .int
  | 20 => .int
  | 21 => .int
  | 22 => .int
  | 23 => .int
  | 24 => .int
  | 25 => .boolean
  | 26 => .int
  | 27 => .int
  | 28 => .int
  | 29 => .int
  | 30 => .int
  | 31 => .int
  | 32 => .boolean
  | 33 => .array .byte
  | 34 => .int
  | 35 => .array .byte
  | 36 => .array .byte
  | 37 => .int
  | 38 => .int
  | 39 => .int
  | 40 => .boolean
  | 41 => .array .int
  | 42 => .array .int
  | 43 => .array .int
  | 44 => .array .int
  | 45 => .array .int
  | 46 => .array .int
  | 47 => .array .int
  | 48 => .array .byte
  | 49 => .array .long
  | 50 => .array .long
  | 51 => .array .boolean
  | 52 => .array .int
  | 53 => .array .byte
  | 54 => .array .boolean
  | 55 => .array .int
  | 56 => .array .int
  | 57 => .array .boolean
  | 58 => .array .boolean
  | 59 => .array .boolean
  | 60 => .int
  | 61 => .int
  | 62 => .array .long
  | 63 => .boolean
  | 64 => .int
  | 65 => .int
  | 66 => .int
  | 67 => .int
  | 68 => .int
  | 69 => .int
  | 70 => .int
  | 71 => .int
  | 72 => .array .byte
  | 73 => .array .long
  | 74 => .array .long
  | 75 => .int
  | 76 => .array .int
  | 77 => .int
  | 78 => .long
  | 79 => .int
  | 80 => .int
  | 81 => .int
  | 82 => .int
  | 83 => .int
  | 84 => .int
  | 85 => .array .int
  | 86 => .array .int
  | 87 => .array .boolean
  | 88 => .int
  | 89 => .int
  | 90 => .array .int
  | 91 => .array .byte
  | 92 => .int
  | 93 => .array .int
  | 94 => .int
  | 95 => .array .int
  | 96 => .array .int
  | 97 => .array .int
  | 98 => .array .int
  | 99 => .array .long
  | 100 => .array .int
  | 101 => .array .int
  | 102 => .int
  | 103 => .boolean
  | 104 => .int
  | 105 => .array .int
  | 106 => .int
  | 107 => .int
  | 108 => .array (.object "java/lang/String")
  | 109 => .boolean
  | 110 => .array .int
  | 111 => .array .int
  | 112 => .int
  | 113 => .array .int
  | 114 => .array .byte
  | 115 => .int
  | 116 => .int
  | 117 => .array .int
  | 118 => .array .int
  | 119 => .array .byte
  | _ => .int
theorem nmX12 : ∀ a, a < 121 → ∀ b, b < 121 → a ≠ b → (TX12 a).2.1 ≠ (TX12 b).2.1 := by decide +kernel
theorem tyX12_ok : ∀ k, k < 121 → parseFieldDescriptor (TX12 k).2.2.1 = some (tyX12 k) := by decide +kernel
/-- the classes, in this order everywhere; 13 is String -/
def ex_cl : List vw_C := [(RX0, TX0, 3), (RX1, TX1, 9), (RX2, TX2, 15), (RX3, TX3, 10), (RX4, TX4, 19), (RX5, TX5, 18), (RX6, TX6, 13), (RX7, TX7, 9), (RX8, TX8, 15), (RX9, TX9, 9), (RX10, TX10, 18), (RX11, TX11, 19), (RX12, TX12, 121)]
def ex_ftL : List (List FieldType) := [[.object "PaperHouse$Table", .object "PaperHouse$Store", .object "PaperHouse$Tree"],
  [.object "PaperHouse$Store", .object "PaperHouse$Inflate", .array .byte, .array .byte, .array .boolean, .array .int, .int, .array .byte, .int],
  [.array .int, .array .int, .array .int, .array .int, .array .int, .array .int, .array .byte, .int, .int, .array .byte, .int, .int, .int, .int, .int],
  [.array .byte, .int, .object "PaperHouse$Parser", .object "PaperHouse$Store", .object "PaperHouse$Table", .object "PaperHouse$Filters", .array .int, .array .int, .array .int, .int],
  [.object "PaperHouse$Table", .object "PaperHouse$Store", .object "PaperHouse$Tree", .object "PaperHouse$Parser", .array .byte, .array .int, .array .int, .array .int, .array .int, .array .int, .array .int, .array .int, .array .int, .array .int, .int, .int, .boolean, .int, .int],
  [.object "PaperHouse$Store", .array .byte, .array .byte, .int, .int, .int, .int, .int, .int, .int, .boolean, .int, .int, .int, .int, .boolean, .boolean, .int],
  [.object "PaperHouse$Parser", .object "PaperHouse$Store", .object "PaperHouse$Table", .object "PaperHouse$Filters", .array .int, .array .int, .int, .int, .int, .int, .boolean, .int, .int],
  [.array .int, .array .int, .array .int, .array .int, .array .int, .array .byte, .int, .int, .int],
  [.object "PaperHouse$Store", .array .int, .array .int, .array .int, .array .int, .array .int, .array .int, .array .boolean, .array .boolean, .array .byte, .int, .int, .int, .int, .int],
  [.object "PaperHouse$Parser", .object "PaperHouse$Table", .object "PaperHouse$Store", .array .int, .array .int, .array .boolean, .array .byte, .int, .int],
  [.object "PaperHouse$Table", .object "PaperHouse$Store", .array .byte, .int, .boolean, .boolean, .array .int, .array .int, .array .int, .int, .array .byte, .array .byte, .int, .int, .int, .array .int, .array .int, .int],
  [.array .byte, .int, .object "PaperHouse$Store", .object "PaperHouse$Table", .object "PaperHouse$Parser", .object "PaperHouse$Sections", .object "PaperHouse$Loader", .object "PaperHouse$Tree", .object "PaperHouse$Painter", .object "PaperHouse$Changes", .object "PaperHouse$Writer", .array .int, .int, .int, .boolean, .int, .int, .int, .int],
  [.array .byte, .int, .array .byte, .int, .array .byte, .int, .boolean, .array .byte, .array .int, .array .int, .array .int, .array .int, .array .int, .array .int, .array .int, .int, .array .byte, .int, .array .byte, .int, .int, .int, .int, .int, .int, .boolean, .int, .int, .int, .int, .int, .int, .boolean, .array .byte, .int, .array .byte, .array .byte, .int, .int, .int, .boolean, .array .int, .array .int, .array .int, .array .int, .array .int, .array .int, .array .int, .array .byte, .array .long, .array .long, .array .boolean, .array .int, .array .byte, .array .boolean, .array .int, .array .int, .array .boolean, .array .boolean, .array .boolean, .int, .int, .array .long, .boolean, .int, .int, .int, .int, .int, .int, .int, .int, .array .byte, .array .long, .array .long, .int, .array .int, .int, .long, .int, .int, .int, .int, .int, .int, .array .int, .array .int, .array .boolean, .int, .int, .array .int, .array .byte, .int, .array .int, .int, .array .int, .array .int, .array .int, .array .int, .array .long, .array .int, .array .int, .int, .boolean, .int, .array .int, .int, .int, .array (.object "java/lang/String"), .boolean, .array .int, .array .int, .int, .array .int, .array .byte, .int, .int, .array .int, .array .int, .array .byte, .int]]
def ex_ft (c : Nat) : List FieldType := ex_ftL.getD c []
end
section
/-! ===== AN INTERPRETER over clean data: references are places of a list of cells; nothing of the machine is in it ===== -/
/-- a cell: an object (its class's place, its fields) or an array (its type's place, length and contents) -/
abbrev ex_C : Type := (Nat × List Value) ⊕ (Nat × vp_A)
/-- the cells that were made, and how many slots they take -/
abbrev ex_H : Type := List ex_C × Nat
/-- an instruction, what it names (three numbers), the place behind it -/
abbrev ex_I : Type := Instr × Nat × Nat × Nat × Nat
abbrev ex_V : Type := List (Nat × Value)
/-- a frame: place, locals, stack; and the heap -/
abbrev ex_F : Type := Nat × ex_V × List Value × ex_H
/-- behind an instruction: it goes on; it returns; it calls (method, arguments, the frame behind) -/
abbrev ex_O : Type := ex_F ⊕ ((Option Value × ex_H) ⊕ (Nat × List Value × ex_F))
/-- what stood there before: how many cells, what they hold; the String constants (class, entry, place, text); the statics -/
abbrev ex_G : Type := Nat × (Nat → Option ex_C) × List (String × Nat × Nat × String) × List (String × String × String × Value)
/-- a method: name, bytes, locals, what it returns, its instructions by sixteens -/
abbrev ex_M : Type := MethodName × ByteArray × Nat × Option FieldType × List (List (Option ex_I))
/-- lists by their recursors: short roads for the kernel -/
noncomputable def ex_nth {α : Type} (l : List α) (i : Nat) : Option α := List.rec (motive := fun _ => Nat → Option α) (fun _ => none) (fun a _ ih n => Nat.rec (motive := fun _ => Option α) (some a) (fun m _ => ih m) n) l i
noncomputable def ex_lset {α : Type} (l : List α) (i : Nat) (c : α) : List α := List.rec (motive := fun _ => Nat → List α) (fun _ => []) (fun a t ih n => Nat.rec (motive := fun _ => List α) (c :: t) (fun m _ => a :: ih m) n) l i
theorem ex_nth_eq {α : Type} : ∀ (l : List α) (i : Nat), ex_nth l i = l[i]? := by
  intro l
  induction l with
  | nil => intro i; rfl
  | cons a t ih =>
    intro i
    cases i with
    | zero => rfl
    | succ i => exact ih i
theorem ex_lset_eq {α : Type} (c : α) : ∀ (l : List α) (i : Nat), ex_lset l i c = l.set i c := by
  intro l
  induction l with
  | nil => intro i; rfl
  | cons a t ih =>
    intro i
    cases i with
    | zero => rfl
    | succ i => exact congrArg (a :: ·) (ih i)
/-- ints by their numbers: what the kernel computes with large numbers at once -/
def ex_v (x : Int32) : Nat := x.toUInt32.toBitVec.toFin.val
def ex_mk (n : Nat) : Int32 := ⟨⟨⟨Nat.mod n 4294967296, Nat.mod_lt _ (by decide)⟩⟩⟩
def ex_add (x y : Int32) : Int32 := ex_mk (Nat.add (ex_v x) (ex_v y))
def ex_sub (x y : Int32) : Int32 := ex_mk (Nat.add (Nat.sub 4294967296 (ex_v y)) (ex_v x))
def ex_u (x : Int32) : Nat := Nat.mod (Nat.add (ex_v x) 2147483648) 4294967296
def ex_eq (x y : Int32) : Bool := Nat.beq (ex_v x) (ex_v y)
def ex_ne (x y : Int32) : Bool := !(Nat.beq (ex_v x) (ex_v y))
def ex_lt (x y : Int32) : Bool := Nat.blt (ex_u x) (ex_u y)
def ex_ge (x y : Int32) : Bool := Nat.ble (ex_u y) (ex_u x)
def ex_gt (x y : Int32) : Bool := Nat.blt (ex_u y) (ex_u x)
def ex_le (x y : Int32) : Bool := Nat.ble (ex_u x) (ex_u y)
def ex_eq0 (x : Int32) : Bool := Nat.beq (ex_v x) 0
def ex_ne0 (x : Int32) : Bool := !(Nat.beq (ex_v x) 0)
def ex_lt0 (x : Int32) : Bool := Nat.blt (ex_u x) 2147483648
def ex_ge0 (x : Int32) : Bool := Nat.ble 2147483648 (ex_u x)
def ex_gt0 (x : Int32) : Bool := Nat.blt 2147483648 (ex_u x)
def ex_le0 (x : Int32) : Bool := Nat.ble (ex_u x) 2147483648
theorem ex_add_eq (x y : Int32) : ex_add x y = x + y := rfl
theorem ex_sub_eq (x y : Int32) : ex_sub x y = x - y := rfl
theorem ex_v_lt (x : Int32) : ex_v x < 4294967296 := x.toUInt32.toBitVec.toFin.isLt
theorem ex_u_int (x : Int32) : (ex_u x : Int) = x.toInt + 2147483648 := by
  have h := x.toUInt32.toBitVec.isLt
  have e : x.toInt = x.toUInt32.toBitVec.toInt := rfl
  have e2 : ex_v x = x.toUInt32.toBitVec.toNat := rfl
  rw [e, BitVec.toInt_eq_toNat_cond]
  show (((ex_v x + 2147483648) % 4294967296 : Nat) : Int) = _
  rw [e2]
  split <;> omega
theorem ex_v_inj {x y : Int32} : ex_v x = ex_v y ↔ x = y := by
  constructor
  · intro h
    have hx := ex_u_int x
    have hy := ex_u_int y
    have e : ex_u x = ex_u y := by unfold ex_u; rw [h]
    exact Int32.toInt_inj.mp (by omega)
  · intro h
    rw [h]
theorem ex_beq {a b : Nat} : Nat.beq a b = true ↔ a = b := ⟨Nat.eq_of_beq_eq_true, fun h => by rw [h]; exact Nat.beq_refl b⟩
theorem ex_bF {b : Bool} {P : Prop} (h : b = true ↔ P) : b = false ↔ ¬ P := by
  rw [← h]
  cases b <;> simp
theorem ex_eq_t {x y : Int32} : ex_eq x y = true ↔ x = y := ex_beq.trans ex_v_inj
theorem ex_ne_t {x y : Int32} : ex_ne x y = true ↔ ¬ x = y := by
  have h : ex_ne x y = !(ex_eq x y) := rfl
  rw [h, ← ex_eq_t]
  cases ex_eq x y <;> simp
theorem ex_lt_t {x y : Int32} : ex_lt x y = true ↔ x < y := by
  have hx := ex_u_int x
  have hy := ex_u_int y
  rw [Int32.lt_iff_toInt_lt, ex_lt, Nat.blt_eq]
  omega
theorem ex_gt_t {x y : Int32} : ex_gt x y = true ↔ y < x := ex_lt_t
theorem ex_le_t {x y : Int32} : ex_le x y = true ↔ x ≤ y := by
  have hx := ex_u_int x
  have hy := ex_u_int y
  rw [Int32.le_iff_toInt_le, ex_le, Nat.ble_eq]
  omega
theorem ex_ge_t {x y : Int32} : ex_ge x y = true ↔ y ≤ x := ex_le_t
theorem ex_eq0_t {x : Int32} : ex_eq0 x = true ↔ x = 0 := ex_eq_t (y := 0)
theorem ex_ne0_t {x : Int32} : ex_ne0 x = true ↔ ¬ x = 0 := ex_ne_t (y := 0)
theorem ex_lt0_t {x : Int32} : ex_lt0 x = true ↔ x < 0 := ex_lt_t (y := 0)
theorem ex_ge0_t {x : Int32} : ex_ge0 x = true ↔ 0 ≤ x := ex_ge_t (y := 0)
theorem ex_gt0_t {x : Int32} : ex_gt0 x = true ↔ 0 < x := ex_gt_t (y := 0)
theorem ex_le0_t {x : Int32} : ex_le0 x = true ↔ x ≤ 0 := ex_le_t (y := 0)
theorem ex_u_nn {x : Int32} (h : ¬ x < 0) : ex_u x = x.toNatClampNeg + 2147483648 := by
  have hx := ex_u_int x
  have h1 : ¬ x.toInt < (0 : Int32).toInt := fun q => h (Int32.lt_iff_toInt_lt.mpr q)
  have h2 : ¬ x.toInt < 0 := h1
  have e : x.toNatClampNeg = x.toInt.toNat := rfl
  omega
noncomputable def ex_get (g : ex_G) (h : ex_H) (i : Nat) : Option ex_C := bif Nat.blt i g.1 then g.2.1 i else ex_nth h.1 (Nat.sub i g.1)
noncomputable def ex_set (g : ex_G) (h : ex_H) (i : Nat) (c : ex_C) : ex_H := (ex_lset h.1 (Nat.sub i g.1) c, h.2)
noncomputable def ex_own (g : ex_G) (h : ex_H) (i : Nat) : Option ex_C := bif Nat.blt i g.1 then none else ex_nth h.1 (Nat.sub i g.1)
def ex_go (pc : Nat) (lv : ex_V) (st : List Value) (h : ex_H) : Option ex_O := some (.inl (pc, lv, st, h))
noncomputable def ex_at (lv : ex_V) (i : Nat) : Option Value := List.rec none (fun q _ ih => bif Nat.beq q.1 i then some q.2 else ih) lv
/-- locals but i (and a two-word local that reaches it) -/
noncomputable def ex_del (lv : ex_V) (i : Nat) : ex_V := List.rec [] (fun q _ ih => bif !(Nat.beq q.1 i) && !(Nat.beq (Nat.succ q.1) i && Nat.beq q.2.category 2) then q :: ih else ih) lv
noncomputable def ex_del2 (lv : ex_V) (i : Nat) : ex_V := List.rec [] (fun q _ ih => bif !(Nat.beq q.1 i) && (!(Nat.beq q.1 (Nat.succ i)) && !(Nat.beq (Nat.succ q.1) i && Nat.beq q.2.category 2)) then q :: ih else ih) lv
noncomputable def ex_s1 (lv : ex_V) (i : Nat) (v : Value) : ex_V := (i, v) :: ex_del lv i
noncomputable def ex_s2 (lv : ex_V) (i : Nat) (v : Value) : ex_V := (i, v) :: ex_del2 lv i
theorem ex_beqb (a b : Nat) : (a == b) = Nat.beq a b := by
  by_cases h : a = b
  · subst h
    rw [Nat.beq_refl, beq_self_eq_true]
  · rw [beq_eq_false_iff_ne.mpr h]
    cases hb : Nat.beq a b with
    | false => rfl
    | true => exact absurd (Nat.eq_of_beq_eq_true hb) h
theorem ex_del_eq (lv : ex_V) (i : Nat) : ex_del lv i = lv.filter (fun q => !(q.1 == i) && !(q.1 + 1 == i && q.2.category == 2)) := by
  induction lv with
  | nil => rfl
  | cons q t ih =>
    have e : ex_del (q :: t) i = bif !(Nat.beq q.1 i) && !(Nat.beq (Nat.succ q.1) i && Nat.beq q.2.category 2) then q :: ex_del t i else ex_del t i := rfl
    rw [e, ih, List.filter_cons]
    simp only [ex_beqb]
    show _ = if (!(Nat.beq q.1 i) && !(Nat.beq (Nat.succ q.1) i && Nat.beq q.2.category 2)) = true then _ else _
    cases (!(Nat.beq q.1 i) && !(Nat.beq (Nat.succ q.1) i && Nat.beq q.2.category 2)) <;> rfl
theorem ex_del2_eq (lv : ex_V) (i : Nat) : ex_del2 lv i = lv.filter (fun q => !(q.1 == i) && (!(q.1 == i + 1) && !(q.1 + 1 == i && q.2.category == 2))) := by
  induction lv with
  | nil => rfl
  | cons q t ih =>
    have e : ex_del2 (q :: t) i = bif !(Nat.beq q.1 i) && (!(Nat.beq q.1 (Nat.succ i)) && !(Nat.beq (Nat.succ q.1) i && Nat.beq q.2.category 2)) then q :: ex_del2 t i else ex_del2 t i := rfl
    rw [e, ih, List.filter_cons]
    simp only [ex_beqb]
    show _ = if (!(Nat.beq q.1 i) && (!(Nat.beq q.1 (Nat.succ i)) && !(Nat.beq (Nat.succ q.1) i && Nat.beq q.2.category 2))) = true then _ else _
    cases (!(Nat.beq q.1 i) && (!(Nat.beq q.1 (Nat.succ i)) && !(Nat.beq (Nat.succ q.1) i && Nat.beq q.2.category 2))) <;> rfl
def ex_w (st : List Value) : Nat := (st.map fun v => v.category).sum
def ex_in (i : Int32) (n : Nat) : Bool := Nat.ble 2147483648 (ex_u i) && Nat.blt (ex_u i) (Nat.add n 2147483648)
noncomputable def ex_cd (cd : List (List (Option ex_I))) (pc : Nat) : Option ex_I := match ex_nth cd (Nat.div pc 16) with
  | some r => (match ex_nth r (Nat.mod pc 16) with | some q => q | none => none)
  | none => none
-- families of instructions
noncomputable def ex_ii (f : Int32 → Int32 → Int32) (nx : Nat) (lv : ex_V) (st : List Value) (h : ex_H) : Option ex_O := match st with
  | .int y :: .int x :: r => ex_go nx lv (.int (f x y) :: r) h
  | _ => none
noncomputable def ex_iid (f : Int32 → Int32 → Int32) (nx : Nat) (lv : ex_V) (st : List Value) (h : ex_H) : Option ex_O := match st with
  | .int y :: .int x :: r => bif decide (y = 0) then none else ex_go nx lv (.int (f x y) :: r) h
  | _ => none
noncomputable def ex_ll (f : Int64 → Int64 → Int64) (nx : Nat) (lv : ex_V) (st : List Value) (h : ex_H) : Option ex_O := match st with
  | .long y :: .long x :: r => ex_go nx lv (.long (f x y) :: r) h
  | _ => none
noncomputable def ex_lld (f : Int64 → Int64 → Int64) (nx : Nat) (lv : ex_V) (st : List Value) (h : ex_H) : Option ex_O := match st with
  | .long y :: .long x :: r => bif decide (y = 0) then none else ex_go nx lv (.long (f x y) :: r) h
  | _ => none
noncomputable def ex_li (f : Int64 → Int32 → Int64) (nx : Nat) (lv : ex_V) (st : List Value) (h : ex_H) : Option ex_O := match st with
  | .int y :: .long x :: r => ex_go nx lv (.long (f x y) :: r) h
  | _ => none
noncomputable def ex_i (f : Int32 → Value) (nx : Nat) (lv : ex_V) (st : List Value) (h : ex_H) : Option ex_O := match st with
  | .int x :: r => ex_go nx lv (f x :: r) h
  | _ => none
noncomputable def ex_l (f : Int64 → Value) (nx : Nat) (lv : ex_V) (st : List Value) (h : ex_H) : Option ex_O := match st with
  | .long x :: r => ex_go nx lv (f x :: r) h
  | _ => none
noncomputable def ex_lc (nx : Nat) (lv : ex_V) (st : List Value) (h : ex_H) : Option ex_O := match st with
  | .long y :: .long x :: r => ex_go nx lv (.int (lg_cmp x y) :: r) h
  | _ => none
noncomputable def ex_if (c : Int32 → Bool) (t nx : Nat) (lv : ex_V) (st : List Value) (h : ex_H) : Option ex_O := match st with
  | .int x :: r => bif c x then ex_go t lv r h else ex_go nx lv r h
  | _ => none
noncomputable def ex_ic (c : Int32 → Int32 → Bool) (t nx : Nat) (lv : ex_V) (st : List Value) (h : ex_H) : Option ex_O := match st with
  | .int y :: .int x :: r => bif c x y then ex_go t lv r h else ex_go nx lv r h
  | _ => none
noncomputable def ex_to (pc : Nat) (off : Int) (lv : ex_V) (st : List Value) (h : ex_H) : Option ex_O := bif decide (0 ≤ (pc : Int) + off) then ex_go ((pc : Int) + off).toNat lv st h else none
noncomputable def ex_tsw (d lo hi : Int) (offs : Array Int) (pc : Nat) (lv : ex_V) (st : List Value) (h : ex_H) : Option ex_O := match st with
  | .int x :: r => bif decide (x.toInt < lo ∨ hi < x.toInt) then ex_to pc d lv r h else (match offs[(x.toInt - lo).toNat]? with | some off => ex_to pc off lv r h | none => none)
  | _ => none
noncomputable def ex_lsw (d : Int) (ps : Array (Int × Int)) (pc : Nat) (lv : ex_V) (st : List Value) (h : ex_H) : Option ex_O := match st with
  | .int x :: r => ex_to pc (Op.lookupswitch.offset ps.toList d x.toInt) lv r h
  | _ => none
noncomputable def ex_ild (i nx : Nat) (lv : ex_V) (st : List Value) (h : ex_H) : Option ex_O := match ex_at lv i with
  | some (.int x) => ex_go nx lv (.int x :: st) h
  | _ => none
noncomputable def ex_lld1 (i nx : Nat) (lv : ex_V) (st : List Value) (h : ex_H) : Option ex_O := match ex_at lv i with
  | some (.long x) => ex_go nx lv (.long x :: st) h
  | _ => none
noncomputable def ex_ald (i nx : Nat) (lv : ex_V) (st : List Value) (h : ex_H) : Option ex_O := match ex_at lv i with
  | some (.ref x) => ex_go nx lv (.ref x :: st) h
  | _ => none
noncomputable def ex_ist (nL i nx : Nat) (lv : ex_V) (st : List Value) (h : ex_H) : Option ex_O := match st with
  | .int x :: r => bif Nat.blt i nL then ex_go nx (ex_s1 lv i (.int x)) r h else none
  | _ => none
noncomputable def ex_lst (nL i nx : Nat) (lv : ex_V) (st : List Value) (h : ex_H) : Option ex_O := match st with
  | .long x :: r => bif Nat.blt (i + 1) nL then ex_go nx (ex_s2 lv i (.long x)) r h else none
  | _ => none
noncomputable def ex_ast (nL i nx : Nat) (lv : ex_V) (st : List Value) (h : ex_H) : Option ex_O := match st with
  | .ref x :: r => bif Nat.blt i nL then ex_go nx (ex_s1 lv i (.ref x)) r h else none
  | _ => none
noncomputable def ex_inc (nL i : Nat) (n : Int) (nx : Nat) (lv : ex_V) (st : List Value) (h : ex_H) : Option ex_O := match ex_at lv i with
  | some (.int x) => bif Nat.blt i nL then ex_go nx (ex_s1 lv i (.int (ex_add x (Int32.ofInt n)))) st h else none
  | _ => none
noncomputable def ex_ldc (x y nx : Nat) (lv : ex_V) (st : List Value) (h : ex_H) : Option ex_O := bif Nat.beq y 0 then ex_go nx lv (.int (Int32.ofNat x) :: st) h else bif Nat.beq y 1 then ex_go nx lv (.ref x :: st) h else ex_go nx lv (.retAddr 0 :: st) h
noncomputable def ex_dup (nx : Nat) (lv : ex_V) (st : List Value) (h : ex_H) : Option ex_O := match st with
  | v :: r => bif Nat.beq v.category 1 then ex_go nx lv (v :: v :: r) h else none
  | _ => none
noncomputable def ex_pop (nx : Nat) (lv : ex_V) (st : List Value) (h : ex_H) : Option ex_O := match st with
  | v :: r => bif Nat.beq v.category 1 then ex_go nx lv r h else none
  | _ => none
noncomputable def ex_dup2 (nx : Nat) (lv : ex_V) (st : List Value) (h : ex_H) : Option ex_O := match st with
  | v :: u :: r => bif Nat.beq v.category 2 then ex_go nx lv (v :: v :: u :: r) h else bif Nat.beq v.category 1 && Nat.beq u.category 1 then ex_go nx lv (v :: u :: v :: u :: r) h else none
  | _ => none
noncomputable def ex_dupx1 (nx : Nat) (lv : ex_V) (st : List Value) (h : ex_H) : Option ex_O := match st with
  | v :: u :: r => bif Nat.beq v.category 1 && Nat.beq u.category 1 then ex_go nx lv (v :: u :: v :: r) h else none
  | _ => none
noncomputable def ex_gf (g : ex_G) (ci k nx : Nat) (lv : ex_V) (st : List Value) (h : ex_H) : Option ex_O := match st with
  | .ref i :: r => (match ex_get g h i with
    | some (.inl (cj, fs)) => bif Nat.beq ci cj then (match ex_nth fs k with | some v => ex_go nx lv (v :: r) h | none => none) else none
    | _ => none)
  | _ => none
/-- what a field of a type may be given -/
noncomputable def ex_fit : FieldType → Value → Bool
  | .boolean, .int v => v == 0 || v == 1
  | .int, .int _ => true
  | .long, .long _ => true
  | .object _, .ref _ => true
  | .array _, .ref _ => true
  | _, _ => false
noncomputable def ex_pf (g : ex_G) (tys : List FieldType) (ci k nx : Nat) (lv : ex_V) (st : List Value) (h : ex_H) : Option ex_O := match st with
  | v :: .ref i :: r => (match ex_own g h i with
    | some (.inl (cj, fs)) => bif Nat.beq ci cj && Nat.blt k fs.length then (match ex_nth tys k with
      | some ty => bif ex_fit ty v then ex_go nx lv r (ex_set g h i (.inl (cj, ex_lset fs k v))) else none
      | none => none) else none
    | _ => none)
  | _ => none
noncomputable def ex_len (g : ex_G) (nx : Nat) (lv : ex_V) (st : List Value) (h : ex_H) : Option ex_O := match st with
  | .ref i :: r => (match ex_get g h i with
    | some (.inr (t, n, _)) => bif Nat.blt t 5 then ex_go nx lv (.int (Int32.ofNat n) :: r) h else none
    | _ => none)
  | _ => none
/-- arrays of ints, bytes, booleans: read (types t and u) -/
noncomputable def ex_xld (g : ex_G) (t u nx : Nat) (lv : ex_V) (st : List Value) (h : ex_H) : Option ex_O := match st with
  | .int j :: .ref i :: r => (match ex_get g h i with
    | some (.inr (q, n, .inl f)) => bif (Nat.beq q t || Nat.beq q u) && ex_in j n then ex_go nx lv (.int (f j.toNatClampNeg) :: r) h else none
    | _ => none)
  | _ => none
noncomputable def ex_xlld (g : ex_G) (nx : Nat) (lv : ex_V) (st : List Value) (h : ex_H) : Option ex_O := match st with
  | .int j :: .ref i :: r => (match ex_own g h i with
    | some (.inr (q, n, .inr (.inl f))) => bif Nat.beq q 3 && ex_in j n then ex_go nx lv (.long (f j.toNatClampNeg) :: r) h else none
    | _ => none)
  | _ => none
noncomputable def ex_xst (g : ex_G) (nx : Nat) (lv : ex_V) (st : List Value) (h : ex_H) : Option ex_O := match st with
  | .int x :: .int j :: .ref i :: r => (match ex_own g h i with
    | some (.inr (q, n, .inl f)) => bif Nat.beq q 0 && ex_in j n then ex_go nx lv r (ex_set g h i (.inr (q, n, .inl (upd f j.toNatClampNeg x)))) else none
    | _ => none)
  | _ => none
noncomputable def ex_xbst (g : ex_G) (nx : Nat) (lv : ex_V) (st : List Value) (h : ex_H) : Option ex_O := match st with
  | .int x :: .int j :: .ref i :: r => (match ex_own g h i with
    | some (.inr (q, n, .inl f)) => bif Nat.beq q 1 && ex_in j n then ex_go nx lv r (ex_set g h i (.inr (q, n, .inl (upd f j.toNatClampNeg x.toInt8.toInt32))))
        else bif Nat.beq q 2 && ex_in j n then ex_go nx lv r (ex_set g h i (.inr (q, n, .inl (upd f j.toNatClampNeg (x &&& 1))))) else none
    | _ => none)
  | _ => none
noncomputable def ex_xlst (g : ex_G) (nx : Nat) (lv : ex_V) (st : List Value) (h : ex_H) : Option ex_O := match st with
  | .long x :: .int j :: .ref i :: r => (match ex_own g h i with
    | some (.inr (q, n, .inr (.inl f))) => bif Nat.beq q 3 && ex_in j n then ex_go nx lv r (ex_set g h i (.inr (q, n, .inr (.inl (vp_updL f j.toNatClampNeg x))))) else none
    | _ => none)
  | _ => none
/-- arrays of Strings: a constant is put in, a place is read -/
noncomputable def ex_xast (g : ex_G) (nx : Nat) (lv : ex_V) (st : List Value) (h : ex_H) : Option ex_O := match st with
  | .ref v :: .int j :: .ref i :: r => (match ex_own g h i with
    | some (.inr (q, n, .inr (.inr (.inr (.inr f))))) => bif Nat.beq q 4 && ex_in j n && Nat.blt v g.1 then (match g.2.1 v with
      | some (.inl (13, _)) => ex_go nx lv r (ex_set g h i (.inr (q, n, .inr (.inr (.inr (.inr (va_up f j.toNatClampNeg (some v))))))))
      | _ => none) else none
    | _ => none)
  | _ => none
noncomputable def ex_xald (g : ex_G) (nx : Nat) (lv : ex_V) (st : List Value) (h : ex_H) : Option ex_O := match st with
  | .int j :: .ref i :: r => (match ex_own g h i with
    | some (.inr (q, n, .inr (.inr (.inr (.inr f))))) => bif Nat.beq q 4 && ex_in j n then (match f j.toNatClampNeg with
      | some v => ex_go nx lv (.ref v :: r) h
      | none => none) else none
    | _ => none)
  | _ => none
noncomputable def ex_new (g : ex_G) (tys : List FieldType) (ci nx : Nat) (lv : ex_V) (st : List Value) (h : ex_H) : Option ex_O :=
  ex_go nx lv (.ref (g.1 + h.1.length) :: st) (h.1 ++ [.inl (ci, tys.map defaultValue)], h.2 + tys.length)
noncomputable def ex_nar (t : ArrayType) : Option (Nat × ((Nat → Int32) ⊕ (Nat → Int64) ⊕ (Nat → UInt32) ⊕ (Nat → UInt64) ⊕ (Nat → Option Nat))) := match t with
  | .int => some (0, .inl (fun _ => 0))
  | .byte => some (1, .inl (fun _ => 0))
  | .boolean => some (2, .inl (fun _ => 0))
  | .long => some (3, .inr (.inl (fun _ => 0)))
  | _ => none
noncomputable def ex_newa (g : ex_G) (t : ArrayType) (nx : Nat) (lv : ex_V) (st : List Value) (h : ex_H) : Option ex_O := match st with
  | .int n :: r => bif !(decide (n < 0)) && Nat.ble n.toNatClampNeg 1000000 then (match ex_nar t with
    | some (q, z) => ex_go nx lv (.ref (g.1 + h.1.length) :: r) (h.1 ++ [.inr (q, n.toNatClampNeg, z)], h.2 + n.toNatClampNeg)
    | none => none) else none
  | _ => none
noncomputable def ex_newq (g : ex_G) (nx : Nat) (lv : ex_V) (st : List Value) (h : ex_H) : Option ex_O := match st with
  | .int n :: r => bif !(decide (n < 0)) && Nat.ble n.toNatClampNeg 1000000 then
      ex_go nx lv (.ref (g.1 + h.1.length) :: r) (h.1 ++ [.inr (4, n.toNatClampNeg, .inr (.inr (.inr (.inr (fun _ => none)))))], h.2 + n.toNatClampNeg) else none
  | _ => none
noncomputable def ex_ret (rt : Option FieldType) (st : List Value) (h : ex_H) : Option ex_O := match rt, st with
  | some .int, [.int v] => some (.inr (.inl (some (.int v), h)))
  | some .boolean, [.int v] => bif v == 0 || v == 1 then some (.inr (.inl (some (.int v), h))) else none
  | some .char, [.int v] => bif decide (narrow .char (.int v) = .int v) then some (.inr (.inl (some (.int v), h))) else none
  | some .byte, [.int v] => bif decide (narrow .byte (.int v) = .int v) then some (.inr (.inl (some (.int v), h))) else none
  | _, _ => none
noncomputable def ex_lret (rt : Option FieldType) (st : List Value) (h : ex_H) : Option ex_O := match rt, st with
  | some .long, [.long v] => some (.inr (.inl (some (.long v), h)))
  | _, _ => none
noncomputable def ex_aret (rt : Option FieldType) (st : List Value) (h : ex_H) : Option ex_O := match rt, st with
  | some (.object _), [.ref v] => some (.inr (.inl (some (.ref v), h)))
  | _, _ => none
noncomputable def ex_vret (rt : Option FieldType) (st : List Value) (h : ex_H) : Option ex_O := match rt, st with
  | none, [] => some (.inr (.inl (none, h)))
  | _, _ => none
noncomputable def ex_callV (g : ex_G) (k n ci nx : Nat) (lv : ex_V) (st : List Value) (h : ex_H) : Option ex_O := match st.drop n with
  | .ref b :: r => (match ex_get g h b with
    | some (.inl (cj, _)) => bif Nat.beq ci cj && Nat.ble (ex_w r) 8 && Nat.beq (st.take n).length n then some (.inr (.inr (k, .ref b :: (st.take n).reverse, (nx, lv, r, h)))) else none
    | _ => none)
  | _ => none
noncomputable def ex_callI (k n nx : Nat) (lv : ex_V) (st : List Value) (h : ex_H) : Option ex_O := bif Nat.beq k 1000000 then
    (match st with | .ref _ :: r => bif Nat.ble (ex_w r) 8 then ex_go nx lv r h else none | _ => none) else match st.drop n with
  | .ref b :: r => bif Nat.ble (ex_w r) 8 && Nat.beq (st.take n).length n then some (.inr (.inr (k, .ref b :: (st.take n).reverse, (nx, lv, r, h)))) else none
  | _ => none
noncomputable def ex_cpy (g : ex_G) (nx : Nat) (lv : ex_V) (st : List Value) (h : ex_H) : Option ex_O := match st with
  | .int n :: .int dp :: .ref b :: .int sp :: .ref a :: r => (match ex_own g h a, ex_own g h b with
    | some (.inr (q, n0, .inl f)), some (.inr (u, n1, .inl k)) => bif Nat.beq q u && Nat.beq q 1 && Nat.beq n.toNatClampNeg 0 && !(decide (sp < 0)) && !(decide (dp < 0)) && !(decide (n < 0)) && Nat.ble sp.toNatClampNeg n0 && Nat.ble dp.toNatClampNeg n1 && Nat.ble (ex_w r) 8 then ex_go nx lv r h else none
    | _, _ => none)
  | _ => none
/-- Math's max and min of ints, by the kit's rows -/
noncomputable def ex_math (k nx : Nat) (lv : ex_V) (st : List Value) (h : ex_H) : Option ex_O := match st with
  | .int y :: .int x :: r => bif Nat.ble (ex_w r) 8 then (bif Nat.beq k 1000001 then ex_go nx lv (.int (bif ex_lt x y then y else x) :: r) h else bif Nat.beq k 1000002 then ex_go nx lv (.int (bif ex_lt y x then y else x) :: r) h else none) else none
  | _ => none
noncomputable def ex_callS (g : ex_G) (k n nx : Nat) (lv : ex_V) (st : List Value) (h : ex_H) : Option ex_O := bif Nat.beq k 1000000 then ex_cpy g nx lv st h else bif Nat.blt 1000000 k then ex_math k nx lv st h
  else bif Nat.ble (ex_w (st.drop n)) 8 && Nat.beq (st.take n).length n then some (.inr (.inr (k, (st.take n).reverse, (nx, lv, st.drop n, h)))) else none
/-- one instruction (the frame's number of locals, what the method returns, the instruction, its place) -/
noncomputable def ex_step (g : ex_G) (nL : Nat) (rt : Option FieldType) (e : ex_I) (pc : Nat) (lv : ex_V) (st : List Value) (h : ex_H) : Option ex_O := match e with
  | (ins, x, y, z, nx) => match ins with
    | .iconst n => ex_go nx lv (.int (Int32.ofInt n) :: st) h
    | .bipush n => ex_go nx lv (.int (Int8.ofInt n).toInt32 :: st) h
    | .sipush n => ex_go nx lv (.int (Int16.ofInt n).toInt32 :: st) h
    | .lconst n => ex_go nx lv (.long (Int64.ofNat (n : Nat)) :: st) h
    | .ldc _ => ex_ldc x y nx lv st h
    | .ldc_w _ => ex_ldc x y nx lv st h
    | .ldc2_w _ => ex_go nx lv (.long (Int64.ofNat x) :: st) h
    | .iload_n k => ex_ild k nx lv st h
    | .iload k => ex_ild k nx lv st h
    | .lload_n k => ex_lld1 k nx lv st h
    | .lload k => ex_lld1 k nx lv st h
    | .aload_n k => ex_ald k nx lv st h
    | .aload k => ex_ald k nx lv st h
    | .istore_n k => ex_ist nL k nx lv st h
    | .istore k => ex_ist nL k nx lv st h
    | .lstore_n k => ex_lst nL k nx lv st h
    | .lstore k => ex_lst nL k nx lv st h
    | .astore_n k => ex_ast nL k nx lv st h
    | .astore k => ex_ast nL k nx lv st h
    | .iinc k n => ex_inc nL k n nx lv st h
    | .iadd => ex_ii ex_add nx lv st h
    | .isub => ex_ii ex_sub nx lv st h
    | .imul => ex_ii (fun x y => x * y) nx lv st h
    | .iand => ex_ii (fun x y => x &&& y) nx lv st h
    | .ior => ex_ii (fun x y => x ||| y) nx lv st h
    | .ixor => ex_ii (fun x y => x ^^^ y) nx lv st h
    | .ishl => ex_ii (fun x y => x <<< (y &&& 31)) nx lv st h
    | .ishr => ex_ii (fun x y => x >>> (y &&& 31)) nx lv st h
    | .iushr => ex_ii (fun x y => (x.toUInt32 >>> (y.toUInt32 &&& Int32.toUInt32 31)).toInt32) nx lv st h
    | .idiv => ex_iid (fun x y => x / y) nx lv st h
    | .irem => ex_iid (fun x y => x - x / y * y) nx lv st h
    | .ladd => ex_ll (fun x y => x + y) nx lv st h
    | .lsub => ex_ll (fun x y => x - y) nx lv st h
    | .lmul => ex_ll (fun x y => x * y) nx lv st h
    | .land => ex_ll (fun x y => x &&& y) nx lv st h
    | .lor => ex_ll (fun x y => x ||| y) nx lv st h
    | .lxor => ex_ll (fun x y => x ^^^ y) nx lv st h
    | .ldiv => ex_lld (fun x y => x / y) nx lv st h
    | .lrem => ex_lld (fun x y => x - x / y * y) nx lv st h
    | .lshl => ex_li (fun x y => x <<< (y.toInt64 &&& 63)) nx lv st h
    | .lshr => ex_li (fun x y => x >>> (y.toInt64 &&& 63)) nx lv st h
    | .lushr => ex_li (fun x y => (x.toUInt64 >>> (y.toInt64.toUInt64 &&& Int64.toUInt64 63)).toInt64) nx lv st h
    | .ineg => ex_i (fun x => .int (-x)) nx lv st h
    | .i2l => ex_i (fun x => .long x.toInt64) nx lv st h
    | .i2b => ex_i (fun x => .int x.toInt8.toInt32) nx lv st h
    | .i2c => ex_i (fun x => .int (x.toUInt32 % 65536).toInt32) nx lv st h
    | .lneg => ex_l (fun x => .long (-x)) nx lv st h
    | .l2i => ex_l (fun x => .int x.toInt32) nx lv st h
    | .lcmp => ex_lc nx lv st h
    | .ifCond .eq _ => ex_if ex_eq0 x nx lv st h
    | .ifCond .ne _ => ex_if ex_ne0 x nx lv st h
    | .ifCond .lt _ => ex_if ex_lt0 x nx lv st h
    | .ifCond .ge _ => ex_if ex_ge0 x nx lv st h
    | .ifCond .gt _ => ex_if ex_gt0 x nx lv st h
    | .ifCond .le _ => ex_if ex_le0 x nx lv st h
    | .if_icmp .eq _ => ex_ic ex_eq x nx lv st h
    | .if_icmp .ne _ => ex_ic ex_ne x nx lv st h
    | .if_icmp .lt _ => ex_ic ex_lt x nx lv st h
    | .if_icmp .ge _ => ex_ic ex_ge x nx lv st h
    | .if_icmp .gt _ => ex_ic ex_gt x nx lv st h
    | .if_icmp .le _ => ex_ic ex_le x nx lv st h
    | .goto _ => ex_go x lv st h
    | .tableswitch d lo hi offs => ex_tsw d lo hi offs pc lv st h
    | .lookupswitch d ps => ex_lsw d ps pc lv st h
    | .dup => ex_dup nx lv st h
    | .dup2 => ex_dup2 nx lv st h
    | .dup_x1 => ex_dupx1 nx lv st h
    | .pop => ex_pop nx lv st h
    | .getfield _ => ex_gf g x y nx lv st h
    | .putfield _ => ex_pf g (ex_ft x) x y nx lv st h
    | .getstatic _ => ex_ldc x y nx lv st h
    | .arraylength => ex_len g nx lv st h
    | .iaload => ex_xld g 0 0 nx lv st h
    | .baload => ex_xld g 1 2 nx lv st h
    | .laload => ex_xlld g nx lv st h
    | .aaload => ex_xald g nx lv st h
    | .iastore => ex_xst g nx lv st h
    | .bastore => ex_xbst g nx lv st h
    | .lastore => ex_xlst g nx lv st h
    | .aastore => ex_xast g nx lv st h
    | .new _ => ex_new g (ex_ft x) x nx lv st h
    | .newarray t => ex_newa g t nx lv st h
    | .anewarray _ => ex_newq g nx lv st h
    | .ireturn => ex_ret rt st h
    | .lreturn => ex_lret rt st h
    | .areturn => ex_aret rt st h
    | .return_ => ex_vret rt st h
    | .invokevirtual _ => ex_callV g x y z nx lv st h
    | .invokespecial _ => ex_callI x y nx lv st h
    | .invokestatic _ => ex_callS g x y nx lv st h
    | _ => none
/-- a frame's run, with what its calls do; so many instructions at most -/
noncomputable def ex_loop (g : ex_G) (call : Nat → List Value → ex_H → Option (Option Value × ex_H)) (nL : Nat) (rt : Option FieldType) (cd : List (List (Option ex_I))) : Nat → ex_F → Option (Option Value × ex_H)
  | 0, _ => none
  | n + 1, f => match ex_cd cd f.1 with
    | none => none
    | some e => match ex_step g nL rt e f.1 f.2.1 f.2.2.1 f.2.2.2 with
      | none => none
      | some (.inl k) => ex_loop g call nL rt cd n k
      | some (.inr (.inl r)) => some r
      | some (.inr (.inr (k, as, b))) => match call k as b.2.2.2 with
        | none => none
        | some (none, h) => ex_loop g call nL rt cd n (b.1, b.2.1, b.2.2.1, h)
        | some (some v, h) => ex_loop g call nL rt cd n (b.1, b.2.1, v :: b.2.2.1, h)
/-- a call, so deep at most -/
noncomputable def ex_run (g : ex_G) (P : Nat → Option ex_M) (N : Nat) : Nat → Nat → List Value → ex_H → Option (Option Value × ex_H)
  | 0, _, _, _ => none
  | d + 1, k, as, h => match P k with
    | none => none
    | some M => bif Nat.ble (ex_w as) M.2.2.1 then ex_loop g (ex_run g P N d) M.2.2.1 M.2.2.2.1 M.2.2.2.2 N (0, lv_args 0 as, [], h) else none
end
section
/-! ===== what the interpreter's cells are on the machine's heap ===== -/
/-- the tables' words: the classes and their slots; the arrays' classes; where the cells are that stood there before; where the first new one comes -/
abbrev ex_P : Type := va_G × (Nat → ClassId) × (Nat → Nat) × Nat
def ex_ad (g : ex_G) (o : ex_P) (i : Nat) : Nat := if i < g.1 then o.2.2.1 i else o.2.2.2 + (i - g.1)
/-- a static of the JDK's of which no more is known than that it is a reference or null: its token is .retAddr 0 -/
def ex_z (o : ex_P) : Option Nat := match o.2.2.1 1000000 with
  | 0 => none
  | a + 1 => some a
def ex_cv (g : ex_G) (o : ex_P) (v : Value) : Value := match v with
  | .ref i => .ref (ex_ad g o i)
  | .retAddr _ => va_rf (ex_z o)
  | w => w
def ex_ca (g : ex_G) (o : ex_P) (f : (Nat → Int32) ⊕ (Nat → Int64) ⊕ (Nat → UInt32) ⊕ (Nat → UInt64) ⊕ (Nat → Option Nat)) : (Nat → Int32) ⊕ (Nat → Int64) ⊕ (Nat → UInt32) ⊕ (Nat → UInt64) ⊕ (Nat → Option Nat) := match f with
  | .inl f => .inl f
  | .inr (.inl f) => .inr (.inl f)
  | .inr (.inr (.inl f)) => .inr (.inr (.inl f))
  | .inr (.inr (.inr (.inl f))) => .inr (.inr (.inr (.inl f)))
  | .inr (.inr (.inr (.inr f))) => .inr (.inr (.inr (.inr (fun j => (f j).map (ex_ad g o)))))
def ex_ce (g : ex_G) (o : ex_P) (c : ex_C) : va_E := match c with
  | .inl (ci, fs) => .inr (ci, fs.map (ex_cv g o))
  | .inr (t, n, f) => .inl (o.2.1 t, n, ex_ca g o f)
def ex_tys (o : ex_P) : List (ClassId × FieldType) := [(o.2.1 0, .int), (o.2.1 1, .byte), (o.2.1 2, .boolean), (o.2.1 3, .long), (o.2.1 4, .object "java/lang/String")]
def ex_A (o : ex_P) : Nat → Prop := fun q => o.2.2.2 ≤ q
def ex_Wd (g : ex_G) (o : ex_P) (h : ex_H) (H : Heap) : Prop := H.size = o.2.2.2 + h.1.length ∧ ∀ (i : Nat) (c : ex_C), h.1[i]? = some c → va_at o.1 ex_cl (o.2.2.2 + i, ex_ce g o c) H
def ex_fdS : u_T := fun k => match k with
  | 0 => ("java/lang/String", "value", "[B", true)
  | _ => ("java/lang/String", "coder", "B", true)
def ex_fd (ci k : Nat) : String × String × String × Bool := match ex_cl[ci]? with
  | some r => r.2.1 k
  | none => ex_fdS k
def ex_cn (ci : Nat) : String := match ex_cl[ci]? with
  | some r => r.1
  | none => "java/lang/String"
/-- the element types of arrays that stood there before -/
def ex_xt (t : Nat) : FieldType := match t with
  | 0 => .int
  | _ => .byte
/-- a cell that stood there before -/
def ex_xc (g : ex_G) (o : ex_P) (c : ex_C) (a : Nat) (U : State) (H : Heap) : Prop := match c with
  | .inl (ci, fs) => ci = 13 ∧ va_O "java/lang/String" a (ex_A o) U H ∧ ∀ (k : Nat) (v : Value), fs[k]? = some v → va_OF (ex_fdS k).1 (ex_fdS k).2.1 (ex_fdS k).2.2.1 (ex_cv g o v) a (ex_A o) U H
  | .inr (t, n, .inl f) => (t = 0 ∨ t = 1) ∧ n < 2 ^ 31 ∧ va_T (ex_xt t) a n (fun j => .int (f j)) (ex_A o) U H
  | .inr _ => False
def ex_X (g : ex_G) (o : ex_P) (U : State) (H : Heap) : Prop :=
  (∀ (i : Nat) (c : ex_C), i < g.1 → g.2.1 i = some c → ex_xc g o c (o.2.2.1 i) U H) ∧
  (∀ q ∈ g.2.2.1, vk_R q.1 q.2.1 q.2.2.2 (ex_ad g o q.2.2.1) U) ∧
  (∀ q ∈ g.2.2.2, va_Z q.1 q.2.1 q.2.2.1 (ex_cv g o q.2.2.2) (ex_A o) U H) ∧ va_AO "java/lang/String" U
theorem ex_X.kept {g : ex_G} {o : ex_P} {U : State} {H H1 : Heap} (h : ex_X g o U H) (hq : ∀ a : Nat, a < H.size → ¬ ex_A o a → H1[a]? = H[a]?) : ex_X g o U H1 := by
  refine ⟨fun i c hi hc => ?_, h.2.1, fun q hm => ?_, h.2.2.2⟩
  · have h1 := h.1 i c hi hc
    match c, h1 with
    | .inl (ci, fs), h1 => exact ⟨h1.1, h1.2.1.kept hq, fun k v hv => (h1.2.2 k v hv).kept hq⟩
    | .inr (t, n, .inl f), h1 => exact ⟨h1.1, h1.2.1, h1.2.2.kept hq⟩
    | .inr (t, n, .inr f), h1 => exact False.elim h1
  · exact (h.2.2.1 q hm).kept hq
theorem ex_X.warm {g : ex_G} {o : ex_P} {s U : State} {H : Heap} (hW : s.WarmedH U.vm) (h : ex_X g o s H) : ex_X g o U H := by
  refine ⟨fun i c hi hc => ?_, fun q hm => vk_R.warm hW (h.2.1 q hm), fun q hm => va_Z.moved hW.alike (h.2.2.1 q hm), va_AO.moved hW.alike h.2.2.2⟩
  have h1 := h.1 i c hi hc
  match c, h1 with
  | .inl (ci, fs), h1 => exact ⟨h1.1, va_O.moved hW.alike h1.2.1, fun k v hv => va_OF.moved hW.alike (h1.2.2 k v hv)⟩
  | .inr (t, n, .inl f), h1 => exact ⟨h1.1, h1.2.1, va_T.moved hW.alike h1.2.2⟩
  | .inr (t, n, .inr f), h1 => exact False.elim h1
theorem ex_X.same {g : ex_G} {o : ex_P} {s U : State} {H : Heap} (hv : U.vm = s.vm) (h : ex_X g o s H) : ex_X g o U H := by
  have ha : s.vm.Alike U.vm := by rw [hv]; exact Vm.Alike.refl _
  refine ⟨fun i c hi hc => ?_, fun q hm => vk_R.same hv (h.2.1 q hm), fun q hm => va_Z.moved ha (h.2.2.1 q hm), va_AO.moved ha h.2.2.2⟩
  have h1 := h.1 i c hi hc
  match c, h1 with
  | .inl (ci, fs), h1 => exact ⟨h1.1, va_O.moved ha h1.2.1, fun k v hv => va_OF.moved ha (h1.2.2 k v hv)⟩
  | .inr (t, n, .inl f), h1 => exact ⟨h1.1, h1.2.1, va_T.moved ha h1.2.2⟩
  | .inr (t, n, .inr f), h1 => exact False.elim h1
-- the words
def ex_wall : List Cond := lw_tbl.filter goodWord
theorem ex_wall_good : ∀ w ∈ ex_wall, (w.onTables && w.keeps) = true ∨ ∃ ty, w = .arrayClass ty := fun w h => good_of_word (List.mem_filter.mp h).2
/-- the classes' rows: names apart, types, slots -/
def ex_clsOk : Prop := ∀ (ci : Nat) (r : vw_C), ex_cl[ci]? = some r → (∀ w ∈ u_ws r.1 r.2.1 r.2.2, w ∈ ex_wall) ∧ (∀ a, a < r.2.2 → ∀ b, b < r.2.2 → a ≠ b → (r.2.1 a).2.1 ≠ (r.2.1 b).2.1) ∧ (ex_ft ci).length = r.2.2 ∧ ∀ k, k < r.2.2 → parseFieldDescriptor (r.2.1 k).2.2.1 = some ((ex_ft ci).getD k .int)
-- cells
theorem ex_own_spec {g : ex_G} {h : ex_H} {i : Nat} {c : ex_C} (q : ex_own g h i = some c) : ¬ i < g.1 ∧ h.1[i - g.1]? = some c := by
  unfold ex_own at q
  by_cases hi : i < g.1
  · rw [show Nat.blt i g.1 = true from Nat.blt_eq.mpr hi] at q
    cases q
  · have hb : Nat.blt i g.1 = false := by
      cases hb : Nat.blt i g.1 with
      | false => rfl
      | true => exact absurd (Nat.blt_eq.mp hb) hi
    rw [hb] at q
    exact ⟨hi, (ex_nth_eq _ _).symm.trans q⟩
theorem ex_get_spec {g : ex_G} {h : ex_H} {i : Nat} {c : ex_C} (q : ex_get g h i = some c) : (i < g.1 ∧ g.2.1 i = some c) ∨ ex_own g h i = some c := by
  unfold ex_get at q
  unfold ex_own
  by_cases hi : i < g.1
  · rw [show Nat.blt i g.1 = true from Nat.blt_eq.mpr hi] at q
    exact Or.inl ⟨hi, q⟩
  · have hb : Nat.blt i g.1 = false := by
      cases hb : Nat.blt i g.1 with
      | false => rfl
      | true => exact absurd (Nat.blt_eq.mp hb) hi
    rw [hb] at q
    rw [hb]
    exact Or.inr q
theorem ex_Wd.at {g : ex_G} {o : ex_P} {h : ex_H} {H : Heap} (hW : ex_Wd g o h H) {i : Nat} {c : ex_C} (q : ex_own g h i = some c) : va_at o.1 ex_cl (ex_ad g o i, ex_ce g o c) H := by
  obtain ⟨h1, h2⟩ := ex_own_spec q
  have e : ex_ad g o i = o.2.2.2 + (i - g.1) := by unfold ex_ad; rw [if_neg h1]
  rw [e]
  exact hW.2 _ _ h2
theorem ex_one {D : va_G} {cl : List vw_C} {H : Heap} {a : Nat} {e : va_E} (h : va_at D cl (a, e) H) : va_P D cl [(a, e)] H := by
  intro k q hk
  match k, hk with
  | 0, hk => cases hk; exact h
  | k + 1, hk => simp at hk
theorem ex_Wd.set {g : ex_G} {o : ex_P} {h : ex_H} {H H1 : Heap} (hW : ex_Wd g o h H) {i : Nat} {c c' : ex_C} (q : ex_own g h i = some c) (hz : H1.size = H.size) (ha : va_at o.1 ex_cl (ex_ad g o i, ex_ce g o c') H1) (hq : ∀ a : Nat, a ≠ ex_ad g o i → H1[a]? = H[a]?) : ex_Wd g o (ex_set g h i c') H1 := by
  obtain ⟨h1, h2⟩ := ex_own_spec q
  have e : ex_ad g o i = o.2.2.2 + (i - g.1) := by unfold ex_ad; rw [if_neg h1]
  rw [e] at ha hq
  have hl : i - g.1 < h.1.length := (List.getElem?_eq_some_iff.mp h2).1
  refine ⟨by rw [hz, hW.1]; show _ = _ + (ex_lset h.1 _ _).length; rw [ex_lset_eq, List.length_set], fun k c1 hk => ?_⟩
  by_cases hki : k = i - g.1
  · subst hki
    rw [show (ex_set g h i c').1 = h.1.set (i - g.1) c' from ex_lset_eq _ _ _, List.getElem?_set_self hl] at hk
    cases hk
    exact ha
  · rw [show (ex_set g h i c').1 = h.1.set (i - g.1) c' from ex_lset_eq _ _ _, List.getElem?_set_ne (Ne.symm hki)] at hk
    exact (hW.2 k c1 hk).kept (hq _ (fun z => hki (by have z2 : o.2.2.2 + k = o.2.2.2 + (i - g.1) := z; omega)))
theorem ex_Wd.push {g : ex_G} {o : ex_P} {h : ex_H} {H H1 : Heap} (hW : ex_Wd g o h H) {c : ex_C} {n : Nat} (hz : H1.size = H.size + 1) (ha : va_at o.1 ex_cl (H.size, ex_ce g o c) H1) (hq : ∀ a : Nat, a < H.size → H1[a]? = H[a]?) : ex_Wd g o (h.1 ++ [c], n) H1 := by
  refine ⟨by rw [hz, hW.1]; show _ = _ + (h.1 ++ [c]).length; rw [List.length_append]; rfl, fun k c1 hk => ?_⟩
  have hk : (h.1 ++ [c])[k]? = some c1 := hk
  by_cases hl : k < h.1.length
  · rw [List.getElem?_append_left hl] at hk
    exact (hW.2 k c1 hk).kept (hq _ (by show o.2.2.2 + k < _; rw [hW.1]; omega))
  · rw [List.getElem?_append_right (by omega)] at hk
    have hz2 : k - h.1.length < 1 := (List.getElem?_eq_some_iff.mp hk).1
    rw [show k - h.1.length = 0 by omega] at hk
    cases hk
    rw [show o.2.2.2 + k = H.size by rw [hW.1]; omega]
    exact ha
theorem ex_ad_new {g : ex_G} {o : ex_P} {h : ex_H} {H : Heap} (hW : ex_Wd g o h H) : ex_ad g o (g.1 + h.1.length) = H.size := by
  unfold ex_ad
  rw [if_neg (by omega), hW.1]
  omega
theorem ex_in_spec {i : Int32} {n : Nat} (h : ex_in i n = true) : vp_in i n := by
  unfold ex_in at h
  rw [Bool.and_eq_true] at h
  obtain ⟨h1, h2⟩ := h
  have h3 : ¬ i < 0 := fun q => by
    have hx := ex_u_int i
    have hy := Int32.lt_iff_toInt_lt.mp q
    have h4 := Nat.le_of_ble_eq_true h1
    have h5 : (0 : Int32).toInt = 0 := rfl
    omega
  have h4 : ex_u i < n + 2147483648 := Nat.blt_eq.mp h2
  rw [ex_u_nn h3] at h4
  exact fun z => z.elim h3 (fun z => by omega)
theorem ex_cat (g : ex_G) (o : ex_P) (v : Value) : (ex_cv g o v).category = v.category := by
  cases v with
  | retAddr a =>
    show (va_rf (ex_z o)).category = 1
    cases ex_z o <;> rfl
  | _ => rfl
theorem ex_wm (g : ex_G) (o : ex_P) (st : List Value) : ((st.map (ex_cv g o)).map fun v => v.category).sum = ex_w st := by
  unfold ex_w
  rw [List.map_map]
  congr 1
  exact List.map_congr_left (fun v _ => ex_cat g o v)
-- locals
def ex_lm (g : ex_G) (o : ex_P) (lv : ex_V) : ex_V := lv.map (fun q => (q.1, ex_cv g o q.2))
theorem ex_at_mem : ∀ {lv : ex_V} {i : Nat} {v : Value}, ex_at lv i = some v → (i, v) ∈ lv := by
  intro lv
  induction lv with
  | nil => intro i v h; cases h
  | cons q t ih =>
    intro i v h
    have h : (bif Nat.beq q.1 i then some q.2 else ex_at t i) = some v := h
    cases hb : Nat.beq q.1 i with
    | true =>
      rw [hb] at h
      have e1 := Nat.eq_of_beq_eq_true hb
      cases h
      obtain ⟨a, b⟩ := q
      subst e1
      exact List.mem_cons_self
    | false =>
      rw [hb] at h
      exact List.mem_cons_of_mem _ (ih h)
theorem ex_ls {g : ex_G} {o : ex_P} {ls : Array Slot} {nL : Nat} {lv : ex_V} (h : lv_has ls nL (ex_lm g o lv)) {i : Nat} {v : Value} (q : ex_at lv i = some v) : ls[i]? = some (.val (ex_cv g o v)) :=
  h.2.2 (i, ex_cv g o v) (List.mem_map.mpr ⟨(i, v), ex_at_mem q, rfl⟩)
theorem ex_lm_s1 (g : ex_G) (o : ex_P) (lv : ex_V) (i : Nat) (v : Value) : (i, ex_cv g o v) :: (ex_lm g o lv).filter (fun q => !(q.1 == i) && !(q.1 + 1 == i && q.2.category == 2)) = ex_lm g o (ex_s1 lv i v) := by
  unfold ex_lm ex_s1
  rw [ex_del_eq, List.map_cons, List.filter_map]
  congr 2
  refine List.filter_congr (fun q _ => ?_)
  show (!(q.1 == i) && !(q.1 + 1 == i && (ex_cv g o q.2).category == 2)) = _
  rw [ex_cat]
theorem ex_lm_s2 (g : ex_G) (o : ex_P) (lv : ex_V) (i : Nat) (v : Value) : (i, ex_cv g o v) :: (ex_lm g o lv).filter (fun q => !(q.1 == i) && (!(q.1 == i + 1) && !(q.1 + 1 == i && q.2.category == 2))) = ex_lm g o (ex_s2 lv i v) := by
  unfold ex_lm ex_s2
  rw [ex_del2_eq, List.map_cons, List.filter_map]
  congr 2
  refine List.filter_congr (fun q _ => ?_)
  show (!(q.1 == i) && (!(q.1 == i + 1) && !(q.1 + 1 == i && (ex_cv g o q.2).category == 2))) = _
  rw [ex_cat]
theorem ex_lm_args (g : ex_G) (o : ex_P) : ∀ (as : List Value) (i : Nat), lv_args i (as.map (ex_cv g o)) = ex_lm g o (lv_args i as) := by
  intro as
  induction as with
  | nil => intro i; rfl
  | cons v t ih =>
    intro i
    show (i, ex_cv g o v) :: lv_args (if (ex_cv g o v).category = 2 then i + 2 else i + 1) (t.map (ex_cv g o)) = (i, ex_cv g o v) :: ex_lm g o (lv_args (if v.category = 2 then i + 2 else i + 1) t)
    rw [ex_cat, ih]
theorem ex_sl_len : ∀ (as : List Value), (lg_sl as).length = ex_w as := by
  intro as
  induction as with
  | nil => rfl
  | cons v t ih =>
    have e : lg_sl (v :: t) = (if v.category = 2 then [.val v, .second] else [.val v]) ++ lg_sl t := rfl
    have e2 : ex_w (v :: t) = v.category + ex_w t := rfl
    rw [e, List.length_append, ih, e2]
    rcases lv_cat v with h | h
    · rw [if_neg (by omega), h]; rfl
    · rw [if_pos h, h]; rfl
theorem ex_fit_spec {ty : FieldType} {v : Value} (g : ex_G) (o : ex_P) (h : ex_fit ty v = true) : narrow ty (ex_cv g o v) = ex_cv g o v ∧ fits ty (ex_cv g o v) = true := by
  unfold ex_fit at h
  split at h
  · rename_i v
    rw [Bool.or_eq_true] at h
    rcases h with h | h
    · have e : v = 0 := by simpa using h
      subst e
      exact ⟨rfl, rfl⟩
    · have e : v = 1 := by simpa using h
      subst e
      exact ⟨rfl, rfl⟩
  · exact ⟨rfl, rfl⟩
  · exact ⟨rfl, rfl⟩
  · exact ⟨rfl, rfl⟩
  · exact ⟨rfl, rfl⟩
  · cases h
end
section
/-! ===== one instruction: what the interpreter does, the machine does (by the kit's rows) ===== -/
def ex_ln (i : Instr) : Nat := match i with
  | .bipush _ | .ldc _ | .iload _ | .lload _ | .aload _ | .istore _ | .lstore _ | .astore _ | .newarray _ => 2
  | .sipush _ | .ldc_w _ | .ldc2_w _ | .iinc _ _ | .ifCond _ _ | .if_icmp _ _ | .goto _ | .getfield _ | .putfield _ | .getstatic _ | .new _ | .anewarray _ | .invokevirtual _ | .invokespecial _ | .invokestatic _ => 3
  | _ => 1
/-- the bytes at a place are this instruction -/
def ex_dec (cc : ByteArray) (pc : Nat) (e : ex_I) : Prop := match e with
  | (ins, _, _, _, nx) => match ins with
    | .tableswitch _ _ _ _ => ∃ len, decode cc pc = .ok (ins, len)
    | .lookupswitch _ ps => (∃ len, decode cc pc = .ok (ins, len)) ∧ (ps.toList.zip (ps.toList.drop 1)).all (fun (a, next) => a.1 < next.1) = true
    | _ => decode cc pc = .ok (ins, ex_ln ins) ∧ nx = pc + ex_ln ins
/-- what an instruction names is what its numbers say -/
def ex_lk (g : ex_G) (P : Nat → Option ex_M) (own mn : String) (pc : Nat) (e : ex_I) : Prop := match e with
  | (ins, x, y, z, _) => match ins with
    | .ldc i | .ldc_w i => (y = 0 ∧ Jvm.Cond.constant own i (Int32.ofNat x) ∈ ex_wall) ∨ (y = 1 ∧ ∃ tx, (own, i, x, tx) ∈ g.2.2.1)
    | .ldc2_w i => Jvm.Cond.constantLong own i (Int64.ofNat x) ∈ ex_wall
    | .ifCond _ off | .if_icmp _ off | .goto off => (pc : Int) + off = (x : Int)
    | .getfield i => (∀ r : vw_C, ex_cl[x]? = some r → y < r.2.2) ∧ Jvm.Cond.fieldLink own i (ex_fd x y).1 (ex_fd x y).2.1 (ex_fd x y).2.2.1 ∈ ex_wall
    | .putfield i => ∃ r : vw_C, ex_cl[x]? = some r ∧ y < r.2.2 ∧ Jvm.Cond.fieldLink own i (r.2.1 y).1 (r.2.1 y).2.1 (r.2.1 y).2.2.1 ∈ ex_wall ∧ ((r.2.1 y).2.2.2 = false ∨ ((r.2.1 y).2.2.2 = true ∧ mn = "<init>" ∧ (r.2.1 y).1 = own))
    | .getstatic i => ∃ q ∈ g.2.2.2, Jvm.Cond.fieldLink own i q.1 q.2.1 q.2.2.1 ∈ ex_wall ∧ q.2.2.2 = (bif Nat.beq y 0 then Value.int (Int32.ofNat x) else bif Nat.beq y 1 then Value.ref x else Value.retAddr 0)
    | .new i => ∃ r : vw_C, ex_cl[x]? = some r ∧ Jvm.Cond.classLink own i r.1 ∈ ex_wall ∧ Jvm.Cond.instantiable r.1 r.2.2 ∈ ex_wall ∧ Jvm.Cond.initialized r.1 ∈ ex_wall
    | .newarray t => Jvm.Cond.arrayClass (newarray.typeOf t) ∈ ex_wall
    | .anewarray i => Jvm.Cond.classLink own i "java/lang/String" ∈ ex_wall
    | .invokevirtual i => ∃ M : ex_M, P x = some M ∧ M.1.cls = ex_cn z ∧ Jvm.Cond.methodLink own i M.1 ∈ ex_wall ∧ Jvm.Cond.instanceMethod M.1 ∈ ex_wall ∧ Jvm.Cond.selects M.1.cls M.1 M.1 ∈ ex_wall ∧ (parseMethodDescriptor M.1.desc).map (fun d => d.parameters.length) = some y
    | .invokespecial i => (x = 1000000 ∧ Jvm.Cond.methodLink own i objectInit ∈ ex_wall ∧ Jvm.Cond.instanceMethod objectInit ∈ ex_wall ∧ Jvm.Cond.code objectInit ⟨#[0xb1]⟩ 1 none ∈ ex_wall) ∨
        (¬ x = 1000000 ∧ ∃ M : ex_M, P x = some M ∧ M.1.name = "<init>" ∧ M.2.2.2.1 = none ∧ Jvm.Cond.methodLink own i M.1 ∈ ex_wall ∧ Jvm.Cond.instanceMethod M.1 ∈ ex_wall ∧ (parseMethodDescriptor M.1.desc).map (fun d => d.parameters.length) = some y)
    | .invokestatic i => (x = 1000000 ∧ Jvm.Cond.methodLink own i arraycopyName ∈ ex_wall ∧ Jvm.Cond.native arraycopyName ∈ ex_wall ∧ Jvm.Cond.static arraycopyName ∈ ex_wall ∧ Jvm.Cond.initialized "java/lang/System" ∈ ex_wall) ∨
        (x = 1000001 ∧ Jvm.Cond.methodLink own i Lib.Math.max.name ∈ ex_wall ∧ Jvm.Cond.static Lib.Math.max.name ∈ ex_wall ∧ Jvm.Cond.initialized "java/lang/Math" ∈ ex_wall ∧ Jvm.Cond.code Lib.Math.max.name Lib.Math.max.code 2 (some .int) ∈ ex_wall) ∨ (x = 1000002 ∧ Jvm.Cond.methodLink own i Lib.Math.min.name ∈ ex_wall ∧ Jvm.Cond.static Lib.Math.min.name ∈ ex_wall ∧ Jvm.Cond.initialized "java/lang/Math" ∈ ex_wall ∧ Jvm.Cond.code Lib.Math.min.name Lib.Math.min.code 2 (some .int) ∈ ex_wall) ∨ (x < 1000000 ∧ ∃ M : ex_M, P x = some M ∧ Jvm.Cond.methodLink own i M.1 ∈ ex_wall ∧ Jvm.Cond.static M.1 ∈ ex_wall ∧ (parseMethodDescriptor M.1.desc).map (fun d => d.parameters.length) = some y)
    | _ => True
/-- a method's row is true of the tables -/
def ex_okM (g : ex_G) (P : Nat → Option ex_M) (M : ex_M) : Prop :=
  plainName M.1.cls = true ∧ (M.1.cls ≠ "java/lang/invoke/MethodHandle" ∧ M.1.cls ≠ "java/lang/invoke/VarHandle") ∧ Jvm.Cond.initialized M.1.cls ∈ ex_wall ∧ Jvm.Cond.code M.1 M.2.1 M.2.2.1 M.2.2.2.1 ∈ ex_wall ∧ M.2.2.1 ≤ 41 ∧
  ∀ (pc : Nat) (e : ex_I), ex_cd M.2.2.2.2 pc = some e → ex_dec M.2.1 pc e ∧ ex_lk g P M.1.cls M.1.name pc e
/-- what holds at a place of a frame -/
def ex_At (g : ex_G) (o : ex_P) (nL n0 s0 : Nat) (H0 : Heap) (f : ex_F) (H : Heap) (ls : Array Slot) (locs : List Loc) (cells slots : Nat) : Prop :=
  lv_has ls nL (ex_lm g o f.2.1) ∧ ex_Wd g o f.2.2.2 H ∧ va_S (ex_A o) H0 H locs ∧ cells + n0 = f.2.2.2.1.length ∧ slots + s0 = f.2.2.2.2
/-- what is fixed in a frame -/
def ex_Cx (g : ex_G) (o : ex_P) (p : Program) (s : State) (m : MethodId) (args : Array Value) (meth : Method) (c : Code) (cc : ByteArray) (nL : Nat) (rt : Option FieldType) (own mn : String) (R : Room) : Prop :=
  p.tables.exec = Jvm.exec ∧ c.code = cc ∧ c.maxLocals = nL ∧ s.vm.findClass own = some m.cls ∧ (∀ w ∈ ex_wall, w.before args s = true) ∧ va_K o.1 ex_cl (ex_tys o) s ∧ ex_X g o s s.heap ∧ meth.locks = false ∧ meth.sig.returnType = rt ∧ (mn = "<init>" → meth.name = "<init>") ∧ ex_clsOk ∧ o.2.2.2 ≤ s.heap.size ∧ 1 ≤ R.frames ∧ 60 ≤ R.locals

section EXINV
variable {nx : Nat} {lv : ex_V} {st : List Value} {h : ex_H} {o : ex_O}
theorem ex_ii_v {f : Int32 → Int32 → Int32} (q : ex_ii f nx lv st h = some o) : ∃ x y r, st = .int y :: .int x :: r ∧ o = .inl (nx, lv, .int (f x y) :: r, h) := by
  unfold ex_ii at q
  split at q
  · cases q
    exact ⟨_, _, _, rfl, rfl⟩
  · cases q
theorem ex_ll_v {f : Int64 → Int64 → Int64} (q : ex_ll f nx lv st h = some o) : ∃ x y r, st = .long y :: .long x :: r ∧ o = .inl (nx, lv, .long (f x y) :: r, h) := by
  unfold ex_ll at q
  split at q
  · cases q
    exact ⟨_, _, _, rfl, rfl⟩
  · cases q
theorem ex_li_v {f : Int64 → Int32 → Int64} (q : ex_li f nx lv st h = some o) : ∃ x y r, st = .int y :: .long x :: r ∧ o = .inl (nx, lv, .long (f x y) :: r, h) := by
  unfold ex_li at q
  split at q
  · cases q
    exact ⟨_, _, _, rfl, rfl⟩
  · cases q
theorem ex_i_v {f : Int32 → Value} (q : ex_i f nx lv st h = some o) : ∃ x r, st = .int x :: r ∧ o = .inl (nx, lv, f x :: r, h) := by
  unfold ex_i at q
  split at q
  · cases q
    exact ⟨_, _, rfl, rfl⟩
  · cases q
theorem ex_l_v {f : Int64 → Value} (q : ex_l f nx lv st h = some o) : ∃ x r, st = .long x :: r ∧ o = .inl (nx, lv, f x :: r, h) := by
  unfold ex_l at q
  split at q
  · cases q
    exact ⟨_, _, rfl, rfl⟩
  · cases q
theorem ex_lc_v  (q : ex_lc  nx lv st h = some o) : ∃ x y r, st = .long y :: .long x :: r ∧ o = .inl (nx, lv, .int (lg_cmp x y) :: r, h) := by
  unfold ex_lc at q
  split at q
  · cases q
    exact ⟨_, _, _, rfl, rfl⟩
  · cases q
theorem ex_iid_v {f : Int32 → Int32 → Int32} (q : ex_iid f nx lv st h = some o) : ∃ x y r, ¬ y = 0 ∧ st = .int y :: .int x :: r ∧ o = .inl (nx, lv, .int (f x y) :: r, h) := by
  unfold ex_iid at q
  split at q
  · rename_i y x r
    by_cases hy : y = 0
    · rw [show decide (y = 0) = true from decide_eq_true hy] at q
      cases q
    · rw [show decide (y = 0) = false from decide_eq_false hy] at q
      cases q
      exact ⟨x, y, r, hy, rfl, rfl⟩
  · cases q
theorem ex_lld_v {f : Int64 → Int64 → Int64} (q : ex_lld f nx lv st h = some o) : ∃ x y r, ¬ y = 0 ∧ st = .long y :: .long x :: r ∧ o = .inl (nx, lv, .long (f x y) :: r, h) := by
  unfold ex_lld at q
  split at q
  · rename_i y x r
    by_cases hy : y = 0
    · rw [show decide (y = 0) = true from decide_eq_true hy] at q
      cases q
    · rw [show decide (y = 0) = false from decide_eq_false hy] at q
      cases q
      exact ⟨x, y, r, hy, rfl, rfl⟩
  · cases q
theorem ex_if_v {f : Int32 → Bool} {t : Nat} (q : ex_if f t nx lv st h = some o) : ∃ x r, st = .int x :: r ∧ ((f x = true ∧ o = .inl (t, lv, r, h)) ∨ (f x = false ∧ o = .inl (nx, lv, r, h))) := by
  unfold ex_if at q
  split at q
  · rename_i x r
    refine ⟨x, r, rfl, ?_⟩
    cases hf : f x with
    | true =>
      rw [hf] at q
      cases q
      exact Or.inl ⟨rfl, rfl⟩
    | false =>
      rw [hf] at q
      cases q
      exact Or.inr ⟨rfl, rfl⟩
  · cases q
theorem ex_ic_v {f : Int32 → Int32 → Bool} {t : Nat} (q : ex_ic f t nx lv st h = some o) : ∃ x y r, st = .int y :: .int x :: r ∧ ((f x y = true ∧ o = .inl (t, lv, r, h)) ∨ (f x y = false ∧ o = .inl (nx, lv, r, h))) := by
  unfold ex_ic at q
  split at q
  · rename_i y x r
    refine ⟨x, y, r, rfl, ?_⟩
    cases hf : f x y with
    | true =>
      rw [hf] at q
      cases q
      exact Or.inl ⟨rfl, rfl⟩
    | false =>
      rw [hf] at q
      cases q
      exact Or.inr ⟨rfl, rfl⟩
  · cases q
theorem ex_to_v {pc : Nat} {off : Int} (q : ex_to pc off lv st h = some o) : ∃ t : Nat, (pc : Int) + off = (t : Int) ∧ o = .inl (t, lv, st, h) := by
  unfold ex_to at q
  by_cases hy : 0 ≤ (pc : Int) + off
  · rw [show decide (0 ≤ (pc : Int) + off) = true from decide_eq_true hy] at q
    cases q
    exact ⟨((pc : Int) + off).toNat, by omega, rfl⟩
  · rw [show decide (0 ≤ (pc : Int) + off) = false from decide_eq_false hy] at q
    cases q
theorem ex_ild_v {i : Nat} (q : ex_ild i nx lv st h = some o) : ∃ x, ex_at lv i = some (.int x) ∧ o = .inl (nx, lv, .int x :: st, h) := by
  unfold ex_ild at q
  split at q
  · cases q; exact ⟨_, by assumption, rfl⟩
  · cases q
theorem ex_lld1_v {i : Nat} (q : ex_lld1 i nx lv st h = some o) : ∃ x, ex_at lv i = some (.long x) ∧ o = .inl (nx, lv, .long x :: st, h) := by
  unfold ex_lld1 at q
  split at q
  · cases q; exact ⟨_, by assumption, rfl⟩
  · cases q
theorem ex_ald_v {i : Nat} (q : ex_ald i nx lv st h = some o) : ∃ x, ex_at lv i = some (.ref x) ∧ o = .inl (nx, lv, .ref x :: st, h) := by
  unfold ex_ald at q
  split at q
  · cases q; exact ⟨_, by assumption, rfl⟩
  · cases q
theorem ex_blt {a b : Nat} (h : ¬ a < b) : Nat.blt a b = false := by
  cases hb : Nat.blt a b with
  | false => rfl
  | true => exact absurd (Nat.blt_eq.mp hb) h

theorem ex_ist_v {nL i : Nat} (q : ex_ist nL i nx lv st h = some o) : ∃ x r, i < nL ∧ st = .int x :: r ∧ o = .inl (nx, ex_s1 lv i (.int x), r, h) := by
  unfold ex_ist at q
  split at q
  · rename_i x r
    by_cases hi : i < nL
    · rw [show Nat.blt (i) nL = true from Nat.blt_eq.mpr hi] at q
      cases q
      exact ⟨x, r, hi, rfl, rfl⟩
    · rw [ex_blt hi] at q
      cases q
  · cases q
theorem ex_lst_v {nL i : Nat} (q : ex_lst nL i nx lv st h = some o) : ∃ x r, i + 1 < nL ∧ st = .long x :: r ∧ o = .inl (nx, ex_s2 lv i (.long x), r, h) := by
  unfold ex_lst at q
  split at q
  · rename_i x r
    by_cases hi : i + 1 < nL
    · rw [show Nat.blt (i + 1) nL = true from Nat.blt_eq.mpr hi] at q
      cases q
      exact ⟨x, r, hi, rfl, rfl⟩
    · rw [ex_blt hi] at q
      cases q
  · cases q
theorem ex_ast_v {nL i : Nat} (q : ex_ast nL i nx lv st h = some o) : ∃ x r, i < nL ∧ st = .ref x :: r ∧ o = .inl (nx, ex_s1 lv i (.ref x), r, h) := by
  unfold ex_ast at q
  split at q
  · rename_i x r
    by_cases hi : i < nL
    · rw [show Nat.blt (i) nL = true from Nat.blt_eq.mpr hi] at q
      cases q
      exact ⟨x, r, hi, rfl, rfl⟩
    · rw [ex_blt hi] at q
      cases q
  · cases q
theorem ex_inc_v {nL i : Nat} {n : Int} (q : ex_inc nL i n nx lv st h = some o) : ∃ x, i < nL ∧ ex_at lv i = some (.int x) ∧ o = .inl (nx, ex_s1 lv i (.int (ex_add x (Int32.ofInt n))), st, h) := by
  unfold ex_inc at q
  split at q
  · rename_i x hx
    by_cases hi : i < nL
    · rw [show Nat.blt i nL = true from Nat.blt_eq.mpr hi] at q
      cases q
      exact ⟨x, hi, hx, rfl⟩
    · rw [ex_blt hi] at q
      cases q
  · cases q
theorem ex_dup_v (q : ex_dup nx lv st h = some o) : ∃ v r, v.category = 1 ∧ st = v :: r ∧ o = .inl (nx, lv, v :: v :: r, h) := by
  unfold ex_dup at q
  split at q
  · rename_i v r
    cases hb : Nat.beq v.category 1 with
    | true => rw [hb] at q; cases q; exact ⟨v, r, Nat.eq_of_beq_eq_true hb, rfl, rfl⟩
    | false => rw [hb] at q; cases q
  · cases q
theorem ex_pop_v (q : ex_pop nx lv st h = some o) : ∃ v r, v.category = 1 ∧ st = v :: r ∧ o = .inl (nx, lv, r, h) := by
  unfold ex_pop at q
  split at q
  · rename_i v r
    cases hb : Nat.beq v.category 1 with
    | true => rw [hb] at q; cases q; exact ⟨v, r, Nat.eq_of_beq_eq_true hb, rfl, rfl⟩
    | false => rw [hb] at q; cases q
  · cases q
theorem ex_dupx1_v (q : ex_dupx1 nx lv st h = some o) : ∃ v u r, v.category = 1 ∧ u.category = 1 ∧ st = v :: u :: r ∧ o = .inl (nx, lv, v :: u :: v :: r, h) := by
  unfold ex_dupx1 at q
  split at q
  · rename_i v u r
    cases hb : (Nat.beq v.category 1 && Nat.beq u.category 1) with
    | true =>
      rw [hb] at q
      cases q
      rw [Bool.and_eq_true] at hb
      exact ⟨v, u, r, Nat.eq_of_beq_eq_true hb.1, Nat.eq_of_beq_eq_true hb.2, rfl, rfl⟩
    | false => rw [hb] at q; cases q
  · cases q
theorem ex_dup2_v (q : ex_dup2 nx lv st h = some o) : ∃ v u r, st = v :: u :: r ∧ ((v.category = 2 ∧ o = .inl (nx, lv, v :: v :: u :: r, h)) ∨ (v.category = 1 ∧ u.category = 1 ∧ o = .inl (nx, lv, v :: u :: v :: u :: r, h))) := by
  unfold ex_dup2 at q
  split at q
  · rename_i v u r
    refine ⟨v, u, r, rfl, ?_⟩
    cases hb : Nat.beq v.category 2 with
    | true => rw [hb] at q; cases q; exact Or.inl ⟨Nat.eq_of_beq_eq_true hb, rfl⟩
    | false =>
      rw [hb] at q
      cases hc : (Nat.beq v.category 1 && Nat.beq u.category 1) with
      | true =>
        rw [hc] at q
        cases q
        rw [Bool.and_eq_true] at hc
        exact Or.inr ⟨Nat.eq_of_beq_eq_true hc.1, Nat.eq_of_beq_eq_true hc.2, rfl⟩
      | false => rw [hc] at q; cases q
  · cases q
theorem ex_gf_v {g : ex_G} {ci k : Nat} (q : ex_gf g ci k nx lv st h = some o) : ∃ i fs v r, ex_get g h i = some (.inl (ci, fs)) ∧ fs[k]? = some v ∧ st = .ref i :: r ∧ o = .inl (nx, lv, v :: r, h) := by
  unfold ex_gf at q
  split at q
  · rename_i i r
    split at q
    · rename_i cj fs hg
      cases hb : Nat.beq ci cj with
      | false => rw [hb] at q; cases q
      | true =>
        rw [hb] at q
        have e := Nat.eq_of_beq_eq_true hb
        subst e
        cases hv : ex_nth fs k with
        | none => simp only [hv, cond_true] at q; cases q
        | some v => simp only [hv, cond_true] at q; cases q; exact ⟨i, fs, v, r, hg, (ex_nth_eq _ _).symm.trans hv, rfl, rfl⟩
    · cases q
  · cases q
theorem ex_pf_v {g : ex_G} {tys : List FieldType} {ci k : Nat} (q : ex_pf g tys ci k nx lv st h = some o) : ∃ i fs v r ty, ex_own g h i = some (.inl (ci, fs)) ∧ k < fs.length ∧ tys[k]? = some ty ∧ ex_fit ty v = true ∧ st = v :: .ref i :: r ∧ o = .inl (nx, lv, r, ex_set g h i (.inl (ci, fs.set k v))) := by
  unfold ex_pf at q
  split at q
  · rename_i v i r
    split at q
    · rename_i cj fs hg
      cases hb : (Nat.beq ci cj && Nat.blt k fs.length) with
      | false => rw [hb] at q; cases q
      | true =>
        rw [hb] at q
        rw [Bool.and_eq_true] at hb
        have e := Nat.eq_of_beq_eq_true hb.1
        subst e
        cases hv : ex_nth tys k with
        | none => simp only [hv, cond_true] at q; cases q
        | some ty =>
          simp only [hv, cond_true] at q
          cases hf : ex_fit ty v with
          | false => rw [hf] at q; cases q
          | true => rw [hf] at q; cases q; exact ⟨i, fs, v, r, ty, hg, Nat.blt_eq.mp hb.2, (ex_nth_eq _ _).symm.trans hv, hf, rfl, by rw [ex_lset_eq]⟩
    · cases q
  · cases q
theorem ex_len_v {g : ex_G} (q : ex_len g nx lv st h = some o) : ∃ i t n f r, ex_get g h i = some (.inr (t, n, f)) ∧ t < 5 ∧ st = .ref i :: r ∧ o = .inl (nx, lv, .int (Int32.ofNat n) :: r, h) := by
  unfold ex_len at q
  split at q
  · rename_i i r
    split at q
    · rename_i t n f hg
      cases hb : Nat.blt t 5 with
      | false => rw [hb] at q; cases q
      | true => rw [hb] at q; cases q; exact ⟨i, t, n, f, r, hg, Nat.blt_eq.mp hb, rfl, rfl⟩
    · cases q
  · cases q
theorem ex_xld_v {g : ex_G} {t u : Nat} (q : ex_xld g t u nx lv st h = some o) : ∃ i j k n f r, ex_get g h i = some (.inr (k, n, .inl f)) ∧ (k = t ∨ k = u) ∧ vp_in j n ∧ st = .int j :: .ref i :: r ∧ o = .inl (nx, lv, .int (f j.toNatClampNeg) :: r, h) := by
  unfold ex_xld at q
  split at q
  · rename_i j i r
    split at q
    · rename_i k n f hg
      cases hb : ((Nat.beq k t || Nat.beq k u) && ex_in j n) with
      | false => rw [hb] at q; cases q
      | true =>
        rw [hb] at q
        cases q
        rw [Bool.and_eq_true, Bool.or_eq_true] at hb
        exact ⟨i, j, k, n, f, r, hg, hb.1.elim (fun h => Or.inl (Nat.eq_of_beq_eq_true h)) (fun h => Or.inr (Nat.eq_of_beq_eq_true h)), ex_in_spec hb.2, rfl, rfl⟩
    · cases q
  · cases q
theorem ex_xlld_v {g : ex_G} (q : ex_xlld g nx lv st h = some o) : ∃ i j n f r, ex_own g h i = some (.inr (3, n, .inr (.inl f))) ∧ vp_in j n ∧ st = .int j :: .ref i :: r ∧ o = .inl (nx, lv, .long (f j.toNatClampNeg) :: r, h) := by
  unfold ex_xlld at q
  split at q
  · rename_i j i r
    split at q
    · rename_i k n f hg
      cases hb : (Nat.beq k 3 && ex_in j n) with
      | false => rw [hb] at q; cases q
      | true =>
        rw [hb] at q
        cases q
        rw [Bool.and_eq_true] at hb
        have e := Nat.eq_of_beq_eq_true hb.1
        subst e
        exact ⟨i, j, n, f, r, hg, ex_in_spec hb.2, rfl, rfl⟩
    · cases q
  · cases q
theorem ex_xst_v {g : ex_G} (q : ex_xst g nx lv st h = some o) : ∃ i j n f x r, ex_own g h i = some (.inr (0, n, .inl f)) ∧ vp_in j n ∧ st = .int x :: .int j :: .ref i :: r ∧ o = .inl (nx, lv, r, ex_set g h i (.inr (0, n, .inl (upd f j.toNatClampNeg x)))) := by
  unfold ex_xst at q
  split at q
  · rename_i x j i r
    split at q
    · rename_i k n f hg
      cases hb : (Nat.beq k 0 && ex_in j n) with
      | false => rw [hb] at q; cases q
      | true =>
        rw [hb] at q
        cases q
        rw [Bool.and_eq_true] at hb
        have e := Nat.eq_of_beq_eq_true hb.1
        subst e
        exact ⟨i, j, n, f, x, r, hg, ex_in_spec hb.2, rfl, rfl⟩
    · cases q
  · cases q
theorem ex_xlst_v {g : ex_G} (q : ex_xlst g nx lv st h = some o) : ∃ i j n f x r, ex_own g h i = some (.inr (3, n, .inr (.inl f))) ∧ vp_in j n ∧ st = .long x :: .int j :: .ref i :: r ∧ o = .inl (nx, lv, r, ex_set g h i (.inr (3, n, .inr (.inl (vp_updL f j.toNatClampNeg x))))) := by
  unfold ex_xlst at q
  split at q
  · rename_i x j i r
    split at q
    · rename_i k n f hg
      cases hb : (Nat.beq k 3 && ex_in j n) with
      | false => rw [hb] at q; cases q
      | true =>
        rw [hb] at q
        cases q
        rw [Bool.and_eq_true] at hb
        have e := Nat.eq_of_beq_eq_true hb.1
        subst e
        exact ⟨i, j, n, f, x, r, hg, ex_in_spec hb.2, rfl, rfl⟩
    · cases q
  · cases q
theorem ex_xbst_v {g : ex_G} (q : ex_xbst g nx lv st h = some o) : ∃ i j n f x r, vp_in j n ∧ st = .int x :: .int j :: .ref i :: r ∧ ((ex_own g h i = some (.inr (1, n, .inl f)) ∧ o = .inl (nx, lv, r, ex_set g h i (.inr (1, n, .inl (upd f j.toNatClampNeg x.toInt8.toInt32))))) ∨ (ex_own g h i = some (.inr (2, n, .inl f)) ∧ o = .inl (nx, lv, r, ex_set g h i (.inr (2, n, .inl (upd f j.toNatClampNeg (x &&& 1))))))) := by
  unfold ex_xbst at q
  split at q
  · rename_i x j i r
    split at q
    · rename_i k n f hg
      cases hb : (Nat.beq k 1 && ex_in j n) with
      | true =>
        rw [hb] at q
        cases q
        rw [Bool.and_eq_true] at hb
        have e := Nat.eq_of_beq_eq_true hb.1
        subst e
        exact ⟨i, j, n, f, x, r, ex_in_spec hb.2, rfl, Or.inl ⟨hg, rfl⟩⟩
      | false =>
        rw [hb] at q
        cases hc : (Nat.beq k 2 && ex_in j n) with
        | true =>
          rw [hc] at q
          cases q
          rw [Bool.and_eq_true] at hc
          have e := Nat.eq_of_beq_eq_true hc.1
          subst e
          exact ⟨i, j, n, f, x, r, ex_in_spec hc.2, rfl, Or.inr ⟨hg, rfl⟩⟩
        | false => rw [hc] at q; cases q
    · cases q
  · cases q
theorem ex_xast_v {g : ex_G} (q : ex_xast g nx lv st h = some o) : ∃ i j n f v fs r, ex_own g h i = some (.inr (4, n, .inr (.inr (.inr (.inr f))))) ∧ vp_in j n ∧ v < g.1 ∧ g.2.1 v = some (.inl (13, fs)) ∧ st = .ref v :: .int j :: .ref i :: r ∧ o = .inl (nx, lv, r, ex_set g h i (.inr (4, n, .inr (.inr (.inr (.inr (va_up f j.toNatClampNeg (some v)))))))) := by
  unfold ex_xast at q
  split at q
  · rename_i v j i r
    split at q
    · rename_i k n f hg
      cases hb : (Nat.beq k 4 && ex_in j n && Nat.blt v g.1) with
      | false => rw [hb] at q; cases q
      | true =>
        rw [hb] at q
        rw [Bool.and_eq_true, Bool.and_eq_true] at hb
        have e := Nat.eq_of_beq_eq_true hb.1.1
        subst e
        simp only [cond_true] at q
        split at q
        · rename_i fs hv
          cases q
          exact ⟨i, j, n, f, v, fs, r, hg, ex_in_spec hb.1.2, Nat.blt_eq.mp hb.2, hv, rfl, rfl⟩
        · cases q
    · cases q
  · cases q
theorem ex_xald_v {g : ex_G} (q : ex_xald g nx lv st h = some o) : ∃ i j n f v r, ex_own g h i = some (.inr (4, n, .inr (.inr (.inr (.inr f))))) ∧ vp_in j n ∧ f j.toNatClampNeg = some v ∧ st = .int j :: .ref i :: r ∧ o = .inl (nx, lv, .ref v :: r, h) := by
  unfold ex_xald at q
  split at q
  · rename_i j i r
    split at q
    · rename_i k n f hg
      cases hb : (Nat.beq k 4 && ex_in j n) with
      | false => rw [hb] at q; cases q
      | true =>
        rw [hb] at q
        rw [Bool.and_eq_true] at hb
        have e := Nat.eq_of_beq_eq_true hb.1
        subst e
        simp only [cond_true] at q
        split at q
        · rename_i v hv
          cases q
          exact ⟨i, j, n, f, v, r, hg, ex_in_spec hb.2, hv, rfl, rfl⟩
        · cases q
    · cases q
  · cases q
theorem ex_newa_v {g : ex_G} {t : ArrayType} (q : ex_newa g t nx lv st h = some o) : ∃ n r k z, ¬ n < 0 ∧ n.toNatClampNeg ≤ 1000000 ∧ ex_nar t = some (k, z) ∧ st = .int n :: r ∧ o = .inl (nx, lv, .ref (g.1 + h.1.length) :: r, (h.1 ++ [.inr (k, n.toNatClampNeg, z)], h.2 + n.toNatClampNeg)) := by
  unfold ex_newa at q
  split at q
  · rename_i n r
    cases hb : (!(decide (n < 0)) && Nat.ble n.toNatClampNeg 1000000) with
    | false => rw [hb] at q; cases q
    | true =>
      rw [hb] at q
      rw [Bool.and_eq_true] at hb
      simp only [cond_true] at q
      split at q
      · rename_i k z hz
        cases q
        exact ⟨n, r, k, z, by simpa using hb.1, Nat.le_of_ble_eq_true hb.2, hz, rfl, rfl⟩
      · cases q
  · cases q
theorem ex_newq_v {g : ex_G} (q : ex_newq g nx lv st h = some o) : ∃ n r, ¬ n < 0 ∧ n.toNatClampNeg ≤ 1000000 ∧ st = .int n :: r ∧ o = .inl (nx, lv, .ref (g.1 + h.1.length) :: r, (h.1 ++ [.inr (4, n.toNatClampNeg, .inr (.inr (.inr (.inr (fun _ => none)))))], h.2 + n.toNatClampNeg)) := by
  unfold ex_newq at q
  split at q
  · rename_i n r
    cases hb : (!(decide (n < 0)) && Nat.ble n.toNatClampNeg 1000000) with
    | false => rw [hb] at q; cases q
    | true =>
      rw [hb] at q
      rw [Bool.and_eq_true] at hb
      cases q
      exact ⟨n, r, by simpa using hb.1, Nat.le_of_ble_eq_true hb.2, rfl, rfl⟩
  · cases q
theorem ex_cpy_v {g : ex_G} (q : ex_cpy g nx lv st h = some o) : ∃ n dp b sp a r n0 f n1 k, ex_own g h a = some (.inr (1, n0, .inl f)) ∧ ex_own g h b = some (.inr (1, n1, .inl k)) ∧ n.toNatClampNeg = 0 ∧ ¬ sp < 0 ∧ ¬ dp < 0 ∧ ¬ n < 0 ∧ sp.toNatClampNeg ≤ n0 ∧ dp.toNatClampNeg ≤ n1 ∧ ex_w r ≤ 8 ∧ st = .int n :: .int dp :: .ref b :: .int sp :: .ref a :: r ∧ o = .inl (nx, lv, r, h) := by
  unfold ex_cpy at q
  split at q
  · rename_i n dp b sp a r
    split at q
    · rename_i q1 n0 f u n1 k h1 h2
      cases hb : (Nat.beq q1 u && Nat.beq q1 1 && Nat.beq n.toNatClampNeg 0 && !(decide (sp < 0)) && !(decide (dp < 0)) && !(decide (n < 0)) && Nat.ble sp.toNatClampNeg n0 && Nat.ble dp.toNatClampNeg n1 && Nat.ble (ex_w r) 8) with
      | false => rw [hb] at q; cases q
      | true =>
        rw [hb] at q
        cases q
        simp only [Bool.and_eq_true] at hb
        obtain ⟨⟨⟨⟨⟨⟨⟨⟨c1, c2⟩, c3⟩, c4⟩, c5⟩, c6⟩, c7⟩, c8⟩, c9⟩ := hb
        have e1 := Nat.eq_of_beq_eq_true c1
        have e2 := Nat.eq_of_beq_eq_true c2
        subst e1
        subst e2
        exact ⟨n, dp, b, sp, a, r, n0, f, n1, k, h1, h2, Nat.eq_of_beq_eq_true c3, by simpa using c4, by simpa using c5, by simpa using c6, Nat.le_of_ble_eq_true c7, Nat.le_of_ble_eq_true c8, Nat.le_of_ble_eq_true c9, rfl, rfl⟩
    · cases q
  · cases q
theorem ex_math_v {k : Nat} (q : ex_math k nx lv st h = some o) : ∃ y x r, ex_w r ≤ 8 ∧ st = .int y :: .int x :: r ∧ ((k = 1000001 ∧ o = .inl (nx, lv, .int (if x < y then y else x) :: r, h)) ∨ (k = 1000002 ∧ o = .inl (nx, lv, .int (if y < x then y else x) :: r, h))) := by
  unfold ex_math at q
  split at q
  · rename_i y x r
    cases hw : Nat.ble (ex_w r) 8 with
    | false => rw [hw] at q; cases q
    | true =>
      rw [hw] at q
      refine ⟨y, x, r, Nat.le_of_ble_eq_true hw, rfl, ?_⟩
      simp only [cond_true] at q
      cases h1 : Nat.beq k 1000001 with
      | true =>
        rw [h1] at q
        have e : (bif ex_lt x y then y else x) = if x < y then y else x := by
          by_cases hxy : x < y
          · rw [ex_lt_t.mpr hxy, if_pos hxy]; rfl
          · rw [(ex_bF ex_lt_t).mpr hxy, if_neg hxy]; rfl
        cases q
        exact Or.inl ⟨Nat.eq_of_beq_eq_true h1, by rw [e]⟩
      | false =>
        rw [h1] at q
        simp only [cond_false] at q
        cases h2 : Nat.beq k 1000002 with
        | true =>
          rw [h2] at q
          have e : (bif ex_lt y x then y else x) = if y < x then y else x := by
            by_cases hxy : y < x
            · rw [ex_lt_t.mpr hxy, if_pos hxy]; rfl
            · rw [(ex_bF ex_lt_t).mpr hxy, if_neg hxy]; rfl
          cases q
          exact Or.inr ⟨Nat.eq_of_beq_eq_true h2, by rw [e]⟩
        | false => rw [h2] at q; cases q
  · cases q
end EXINV
end
section
/-! ===== the machine follows the interpreter: one instruction ===== -/
section EXS
variable {p : Program} {l : Launch} {e : Env} {R : Room} {s : State} {m : MethodId} {args : Array Value} {below : List Frame} {meth : Method} {c : Code} {H : Heap} {locs : List Loc} {cells slots : Nat} {Q : State → Prop}
variable {cc : ByteArray} {pc : Nat} {ls : Array Slot} {rest : List Value} {g : ex_G} {o : ex_P} {nL n0 s0 : Nat} {rt : Option FieldType} {own mn : String} {h : ex_H} {H0 : Heap}
theorem ex_fd_of {ci k : Nat} {r : vw_C} (hc : ex_cl[ci]? = some r) : ex_fd ci k = r.2.1 k := by
  unfold ex_fd
  rw [hc]
theorem ex_cn_of {ci : Nat} {r : vw_C} (hc : ex_cl[ci]? = some r) : ex_cn ci = r.1 := by
  unfold ex_cn
  rw [hc]
theorem ex_setV {N : Nat} {fs : List Value} {k : Nat} (hk : k < fs.length) (v : Value) (j : Nat) (_ : j < N) : updV (vp_V fs) k v j = vp_V (fs.set k v) j := vp_updV_set hk v j
/-- a field is read -/
theorem ex_kget (C : ex_Cx g o p s m args meth c cc nL rt own mn R) (hW : ex_Wd g o h H) (hS : va_S (ex_A o) s.heap H locs) {i ci k index : Nat} {fs : List Value} {v : Value} (hi : ex_get g h i = some (.inl (ci, fs))) (hv : fs[k]? = some v)
    (hlt : ∀ r : vw_C, ex_cl[ci]? = some r → k < r.2.2) (hlk : Jvm.Cond.fieldLink own index (ex_fd ci k).1 (ex_fd ci k).2.1 (ex_fd ci k).2.2.1 ∈ ex_wall) (hdg : decode cc pc = .ok (.getfield index, 3))
    (kk : W p l e R s m args below meth c H locs cells slots Q (F0 m (pc + 3) ls (ex_cv g o v :: rest))) : W p l e R s m args below meth c H locs cells slots Q (F0 m pc ls (.ref (ex_ad g o i) :: rest)) := by
  obtain ⟨hx, hb, hml, hown, hts, hK, hX, hlocks, hr, hmn, hco, hBs, hRf, hRl⟩ := C
  have hlink := hts _ hlk
  rcases ex_get_spec hi with ⟨hlo, hxt⟩ | hi
  · have e1 : ex_ad g o i = o.2.2.1 i := by unfold ex_ad; rw [if_pos hlo]
    rw [e1]
    obtain ⟨hci, hO, hF⟩ := hX.1 i _ hlo hxt
    subst hci
    exact vk_getf hx hb (hF k v hv) hS hown (show (Jvm.Cond.fieldLink own index (ex_fdS k).1 (ex_fdS k).2.1 (ex_fdS k).2.2.1).before args s = true from hlink) (fun _ q => q) hdg kk
  · have hat := hW.at hi
    obtain ⟨r, hc, -⟩ := id hat
    obtain ⟨C, T, N⟩ := r
    have hin := (hco ci _ hc).1
    rw [ex_fd_of hc] at hlink
    exact va_get hx hb hts hin hown hK (ex_one hat) 0 rfl hc k (hlt _ hc) hlink (fun _ q => q) (by rw [List.getElem?_map, hv]; rfl) hdg kk
/-- a field is written -/
theorem ex_kput (C : ex_Cx g o p s m args meth c cc nL rt own mn R) (hW : ex_Wd g o h H) (hS : va_S (ex_A o) s.heap H locs) {i ci k index : Nat} {fs : List Value} {v : Value} {ty : FieldType} {r : vw_C} (hi : ex_own g h i = some (.inl (ci, fs))) (hl : k < fs.length) (hty : (ex_ft ci)[k]? = some ty) (hfit : ex_fit ty v = true)
    (hc : ex_cl[ci]? = some r) (hk : k < r.2.2) (hlk : Jvm.Cond.fieldLink own index (r.2.1 k).1 (r.2.1 k).2.1 (r.2.1 k).2.2.1 ∈ ex_wall) (hfin : (r.2.1 k).2.2.2 = false ∨ ((r.2.1 k).2.2.2 = true ∧ mn = "<init>" ∧ (r.2.1 k).1 = own)) (hdg : decode cc pc = .ok (.putfield index, 3))
    (kk : ∀ (H1 : Heap) (locs1 : List Loc), ex_Wd g o (ex_set g h i (.inl (ci, fs.set k v))) H1 → va_S (ex_A o) s.heap H1 locs1 → W p l e R s m args below meth c H1 locs1 cells slots Q (F0 m (pc + 3) ls rest)) : W p l e R s m args below meth c H locs cells slots Q (F0 m pc ls (ex_cv g o v :: .ref (ex_ad g o i) :: rest)) := by
  obtain ⟨hx, hb, hml, hown, hts, hK, hX, hlocks, hr, hmn, hco, hBs, hRf, hRl⟩ := C
  have hlink := hts _ hlk
  have hat := hW.at hi
  obtain ⟨r', h1, cell, q1, q2, q3, q4⟩ := id hat
  cases h1.symm.trans hc
  obtain ⟨hin, hnm, hlen, htys⟩ := hco ci _ hc
  have hap := va_apart (own := own) hts hin (fun k => (ex_ft ci).getD k .int) htys hnm hK hc
  obtain ⟨hSl, hfc, kC, hkC, hkind⟩ := hK.1 ci _ hc
  obtain ⟨cf, kf, fi, f, hif, hsl⟩ := hSl k hk
  have hd : parseFieldDescriptor (r.2.1 k).2.2.1 = some ty := by
    rw [htys k hk, List.getD_eq_getElem?_getD, hty]
    rfl
  obtain ⟨hn, hf2⟩ := ex_fit_spec g o hfit
  have hlay := hts _ (hin _ (u_in_lay hk))
  have hst := (u_facts hfc hkC (u_lays hts hin hk) hif).1
  have hA : ex_A o (ex_ad g o i) := by
    have := (ex_own_spec hi).1
    unfold ex_ad ex_A
    rw [if_neg this]
    omega
  have hl2 : k < (fs.map (ex_cv g o)).length := by rw [List.length_map]; exact hl
  have fin : ∀ (H1 : Heap), H1[ex_ad g o i]? = some (cell.setSlot (o.1.2 ci k) (ex_cv g o v)) → H1.size = H.size → (∀ q, q ≠ ex_ad g o i → H1[q]? = H[q]?) → W p l e R s m args below meth c H1 (locs ++ [⟨ex_ad g o i, o.1.2 ci k⟩]) cells slots Q (F0 m (pc + 3) ls rest) := by
    intro H1 e1 e2 e3
    refine kk H1 _ (hW.set hi e2 ?_ e3) (hS.put e2 e3 hA)
    refine ⟨_, hc, t_OB.to (V := updV (vp_V (fs.map (ex_cv g o))) k (ex_cv g o v)) ⟨_, e1, q2, q3, t_set q4 hap hk _⟩ (fun j _ => ?_)⟩
    rw [vp_updV_set hl2, List.map_set]
  rcases hfin with hfin | ⟨hfin, hin2, hdecl⟩
  · unfold u_lay at hlay
    rw [if_neg (by rw [hfin]; decide)] at hlay
    have h6 := u_store hfc hkC hkind hlay hif hd hn hf2
    refine W.putK hx hb (f := f) ⟨hown, hlink, ⟨_, _, _, hif⟩, hst⟩ (by rw [q2]; exact h6) q1 q3 (by rw [hsl]; exact k2_hasslot (q4 k hk)) rfl rfl hdg fun H' e1 e2 e3 => ?_
    rw [hsl] at e1 ⊢
    exact fin H' e1 e2 e3
  · unfold u_lay at hlay
    rw [if_pos hfin] at hlay
    have hcf : m.cls = cf := by
      obtain ⟨_, _, c', _, _, _, -, -, hf', -, -, -, hown2, -⟩ := Cond.laysFinal_spec hlay
      have e1 : c' = cf := by have := hif.symm.trans hf'; simp at this; exact this.1.symm
      rw [hdecl] at hown2
      rw [← e1]; exact Option.some.inj (hown.symm.trans hown2)
    have h6 := u_fits hfc hkC hkind (Or.inr hlay) hif hd hn hf2
    refine W.putFinK hx hb hown hlink hif hst hcf (hmn hin2) (by rw [q2]; exact h6) q1 q3 (by rw [hsl]; exact k2_hasslot (q4 k hk)) rfl rfl hdg fun H' e1 e2 e3 => ?_
    rw [hsl] at e1 ⊢
    exact fin H' e1 e2 e3
theorem ex_own_A {i : Nat} {x : ex_C} (hi : ex_own g h i = some x) : ex_A o (ex_ad g o i) := by
  have := (ex_own_spec hi).1
  unfold ex_ad ex_A
  rw [if_neg this]
  omega
theorem ex_get_own {i : Nat} {x : ex_C} (hi : ex_own g h i = some x) : ex_get g h i = some x := by
  have h1 := (ex_own_spec hi).1
  unfold ex_get
  rw [ex_blt h1]
  exact (ex_nth_eq _ _).trans (ex_own_spec hi).2

theorem ex_kiast (C : ex_Cx g o p s m args meth c cc nL rt own mn R) (hW : ex_Wd g o h H) (hS : va_S (ex_A o) s.heap H locs) {i n : Nat} {j : Int32} {f : Nat → Int32} {x : Int32} (hi : ex_own g h i = some (.inr (0, n, .inl f))) (hin : vp_in j n) (hdg : decode cc pc = .ok (.iastore, 1))
    (kk : ∀ (H1 : Heap) (locs1 : List Loc), ex_Wd g o (ex_set g h i (.inr (0, n, .inl (upd f j.toNatClampNeg x)))) H1 → va_S (ex_A o) s.heap H1 locs1 → W p l e R s m args below meth c H1 locs1 cells slots Q (F0 m (pc + 1) ls rest)) : W p l e R s m args below meth c H locs cells slots Q (F0 m pc ls (.int x :: .int j :: .ref (ex_ad g o i) :: rest)) := by
  obtain ⟨hx, hb, hml, hown, hts, hK, hX, hlocks, hr, hmn, hco, hBs, hRf, hRl⟩ := C
  have hat : H[ex_ad g o i]? = some (arrV (o.2.1 0) n (fun j => .int (f j))) := hW.at hi
  refine W.iast hx hb hat ((hK.2 0 _ rfl).1 n (fun j => .int (f j))) (fun q => by cases q) (by rw [arrV_size]; exact hin) rfl rfl hdg fun H1 e1 e2 e3 => ?_
  refine kk H1 _ (hW.set hi e2 ?_ e3) (hS.put e2 e3 (ex_own_A hi))
  show H1[ex_ad g o i]? = some (arrV (o.2.1 0) n (fun q => .int ((upd f j.toNatClampNeg x) q)))
  rw [e1, arrV_store]
  congr 2
  funext q
  by_cases hq : q = j.toNatClampNeg
  · subst hq
    simp [updV, upd]
  · simp [updV, upd, hq]
theorem ex_kbast (C : ex_Cx g o p s m args meth c cc nL rt own mn R) (hW : ex_Wd g o h H) (hS : va_S (ex_A o) s.heap H locs) {i n : Nat} {j : Int32} {f : Nat → Int32} {x : Int32} (hi : ex_own g h i = some (.inr (1, n, .inl f))) (hin : vp_in j n) (hdg : decode cc pc = .ok (.bastore, 1))
    (kk : ∀ (H1 : Heap) (locs1 : List Loc), ex_Wd g o (ex_set g h i (.inr (1, n, .inl (upd f j.toNatClampNeg x.toInt8.toInt32)))) H1 → va_S (ex_A o) s.heap H1 locs1 → W p l e R s m args below meth c H1 locs1 cells slots Q (F0 m (pc + 1) ls rest)) : W p l e R s m args below meth c H locs cells slots Q (F0 m pc ls (.int x :: .int j :: .ref (ex_ad g o i) :: rest)) := by
  obtain ⟨hx, hb, hml, hown, hts, hK, hX, hlocks, hr, hmn, hco, hBs, hRf, hRl⟩ := C
  have hat : H[ex_ad g o i]? = some (arrV (o.2.1 1) n (fun j => .int (f j))) := hW.at hi
  refine W.bast hx hb hat ((hK.2 1 _ rfl).1 n (fun j => .int (f j))) (fun q => by cases q) (by rw [arrV_size]; exact hin) rfl rfl hdg fun H1 e1 e2 e3 => ?_
  refine kk H1 _ (hW.set hi e2 ?_ e3) (hS.put e2 e3 (ex_own_A hi))
  show H1[ex_ad g o i]? = some (arrV (o.2.1 1) n (fun q => .int ((upd f j.toNatClampNeg x.toInt8.toInt32) q)))
  rw [e1, arrV_store]
  congr 2
  funext q
  by_cases hq : q = j.toNatClampNeg
  · subst hq
    simp [updV, upd, narrow]
  · simp [updV, upd, narrow, hq]
theorem ex_kzast (C : ex_Cx g o p s m args meth c cc nL rt own mn R) (hW : ex_Wd g o h H) (hS : va_S (ex_A o) s.heap H locs) {i n : Nat} {j : Int32} {f : Nat → Int32} {x : Int32} (hi : ex_own g h i = some (.inr (2, n, .inl f))) (hin : vp_in j n) (hdg : decode cc pc = .ok (.bastore, 1))
    (kk : ∀ (H1 : Heap) (locs1 : List Loc), ex_Wd g o (ex_set g h i (.inr (2, n, .inl (upd f j.toNatClampNeg (x &&& 1))))) H1 → va_S (ex_A o) s.heap H1 locs1 → W p l e R s m args below meth c H1 locs1 cells slots Q (F0 m (pc + 1) ls rest)) : W p l e R s m args below meth c H locs cells slots Q (F0 m pc ls (.int x :: .int j :: .ref (ex_ad g o i) :: rest)) := by
  obtain ⟨hx, hb, hml, hown, hts, hK, hX, hlocks, hr, hmn, hco, hBs, hRf, hRl⟩ := C
  have hat : H[ex_ad g o i]? = some (arrV (o.2.1 2) n (fun j => .int (f j))) := hW.at hi
  refine W.zast hx hb hat ((hK.2 2 _ rfl).1 n (fun j => .int (f j))) (fun q => by cases q) (by rw [arrV_size]; exact hin) rfl rfl hdg fun H1 e1 e2 e3 => ?_
  refine kk H1 _ (hW.set hi e2 ?_ e3) (hS.put e2 e3 (ex_own_A hi))
  show H1[ex_ad g o i]? = some (arrV (o.2.1 2) n (fun q => .int ((upd f j.toNatClampNeg (x &&& 1)) q)))
  rw [e1, arrV_store]
  congr 2
  funext q
  by_cases hq : q = j.toNatClampNeg
  · subst hq
    simp [updV, upd, narrow]
  · simp [updV, upd, narrow, hq]
theorem ex_klast (C : ex_Cx g o p s m args meth c cc nL rt own mn R) (hW : ex_Wd g o h H) (hS : va_S (ex_A o) s.heap H locs) {i n : Nat} {j : Int32} {f : Nat → Int64} {x : Int64} (hi : ex_own g h i = some (.inr (3, n, .inr (.inl f)))) (hin : vp_in j n) (hdg : decode cc pc = .ok (.lastore, 1))
    (kk : ∀ (H1 : Heap) (locs1 : List Loc), ex_Wd g o (ex_set g h i (.inr (3, n, .inr (.inl (vp_updL f j.toNatClampNeg x))))) H1 → va_S (ex_A o) s.heap H1 locs1 → W p l e R s m args below meth c H1 locs1 cells slots Q (F0 m (pc + 1) ls rest)) : W p l e R s m args below meth c H locs cells slots Q (F0 m pc ls (.long x :: .int j :: .ref (ex_ad g o i) :: rest)) := by
  obtain ⟨hx, hb, hml, hown, hts, hK, hX, hlocks, hr, hmn, hco, hBs, hRf, hRl⟩ := C
  have hat : H[ex_ad g o i]? = some (arrV (o.2.1 3) n (fun j => .long (f j))) := hW.at hi
  refine W.last hx hb hat ((hK.2 3 _ rfl).1 n (fun j => .long (f j))) (fun q => by cases q) (by rw [arrV_size]; exact hin) rfl rfl hdg fun H1 e1 e2 e3 => ?_
  refine kk H1 _ (hW.set hi e2 ?_ e3) (hS.put e2 e3 (ex_own_A hi))
  show H1[ex_ad g o i]? = some (arrV (o.2.1 3) n (fun q => .long ((vp_updL f j.toNatClampNeg x) q)))
  rw [e1, arrV_store]
  congr 2
  funext q
  by_cases hq : q = j.toNatClampNeg
  · subst hq
    simp [updV, vp_updL]
  · simp [updV, vp_updL, hq]
theorem ex_kaast (C : ex_Cx g o p s m args meth c cc nL rt own mn R) (hW : ex_Wd g o h H) (hS : va_S (ex_A o) s.heap H locs) {i n v : Nat} {j : Int32} {f : Nat → Option Nat} {fs : List Value} (hi : ex_own g h i = some (.inr (4, n, .inr (.inr (.inr (.inr f)))))) (hv : v < g.1) (hxt : g.2.1 v = some (.inl (13, fs))) (hin : vp_in j n) (hdg : decode cc pc = .ok (.aastore, 1))
    (kk : ∀ (H1 : Heap) (locs1 : List Loc), ex_Wd g o (ex_set g h i (.inr (4, n, .inr (.inr (.inr (.inr (va_up f j.toNatClampNeg (some v)))))))) H1 → va_S (ex_A o) s.heap H1 locs1 → W p l e R s m args below meth c H1 locs1 cells slots Q (F0 m (pc + 1) ls rest)) : W p l e R s m args below meth c H locs cells slots Q (F0 m pc ls (.ref (ex_ad g o v) :: .int j :: .ref (ex_ad g o i) :: rest)) := by
  obtain ⟨hx, hb, hml, hown, hts, hK, hX, hlocks, hr, hmn, hco, hBs, hRf, hRl⟩ := C
  have hat : H[ex_ad g o i]? = some (arrV (o.2.1 4) n (fun j => va_rf ((f j).map (ex_ad g o)))) := hW.at hi
  obtain ⟨-, hO, -⟩ := hX.1 v _ hv hxt
  have ev : ex_ad g o v = o.2.2.1 v := by unfold ex_ad; rw [if_pos hv]
  obtain ⟨cellV, g1, g3, g4, -⟩ := hO.kept hS.2.1
  obtain ⟨kC, hkC, -⟩ := Vm.findClass_spec g4
  obtain ⟨kA, comp, k1, k2, k3, -⟩ := (hK.2 4 _ rfl).2
  obtain ⟨kE, hkE, -⟩ := Vm.findClass_spec k3
  have hcc : comp = cellV.cls := Option.some.inj (k3.symm.trans g4)
  have h0 : ¬ j < 0 := fun q => hin (Or.inl q)
  have hlt : j.toNatClampNeg < n := Nat.not_le.mp fun q => hin (Or.inr q)
  rw [ev]
  refine W.aast hx hb hat (fun q h => by cases h) (fun h => by cases h) k1 k2 rfl hkE ⟨h0, by rw [arrV_size]; exact hlt⟩ g1 (fun q h => by rw [h] at g3; cases g3) hkC (by rw [hcc]; exact va_asg _ _) rfl rfl hdg fun H1 e1 e2 e3 => ?_
  refine kk H1 _ (hW.set hi e2 ?_ e3) (hS.put e2 e3 (ex_own_A hi))
  show H1[ex_ad g o i]? = some (arrV (o.2.1 4) n (fun q => va_rf ((va_up f j.toNatClampNeg (some v) q).map (ex_ad g o))))
  rw [e1, arrV_store]
  congr 2
  funext q
  by_cases hq : q = j.toNatClampNeg
  · subst hq
    simp [updV, va_up, va_rf, ev]
  · simp [updV, va_up, hq]
theorem ex_dflt (t : FieldType) : ex_cv g o (defaultValue t) = defaultValue t := by cases t <;> rfl
theorem ex_knew (C : ex_Cx g o p s m args meth c cc nL rt own mn R) (hW : ex_Wd g o h H) (hS : va_S (ex_A o) s.heap H locs) {ci index : Nat} {r : vw_C} (hc : ex_cl[ci]? = some r) (h1 : Jvm.Cond.classLink own index r.1 ∈ ex_wall) (h2 : Jvm.Cond.instantiable r.1 r.2.2 ∈ ex_wall) (h3 : Jvm.Cond.initialized r.1 ∈ ex_wall) (hcells : cells + 1 ≤ R.cells) (hslots : slots + (ex_ft ci).length ≤ R.slots) (hdg : decode cc pc = .ok (.new index, 3))
    (kk : ∀ (H1 : Heap), ex_Wd g o (h.1 ++ [.inl (ci, (ex_ft ci).map defaultValue)], h.2 + (ex_ft ci).length) H1 → va_S (ex_A o) s.heap H1 locs → W p l e R s m args below meth c H1 locs (cells + 1) (slots + (ex_ft ci).length) Q (F0 m (pc + 3) ls (.ref (ex_ad g o (g.1 + h.1.length)) :: rest))) : W p l e R s m args below meth c H locs cells slots Q (F0 m pc ls rest) := by
  obtain ⟨hx, hb, hml, hown, hts, hK, hX, hlocks, hr, hmn, hco, hBs, hRf, hRl⟩ := C
  obtain ⟨hin, hnm, hlen, htys⟩ := hco ci _ hc
  have hKn := hK.1 ci _ hc
  have e0 := ex_ad_new hW
  refine W.newcK hx hb hown (hts _ h1) (hts _ h2) (hts _ h3) rfl hdg hcells (by rw [← hlen]; exact hslots) hKn.2.1 rfl fun H1 kC hkC e1 e2 e3 => ?_
  rw [e0] at kk
  rw [← hlen]
  refine kk H1 (hW.push e2 ?_ e3) ⟨Nat.le_trans hS.1 (by omega), fun x q1 q2 => (e3 x (Nat.lt_of_lt_of_le q1 hS.1)).trans (hS.2.1 x q1 q2), hS.2.2⟩
  refine ⟨_, hc, (u_born (fun k => (ex_ft ci).getD k .int) hts hin hKn hkC e1 htys).to (fun j hj => ?_)⟩
  have hj2 : j < (ex_ft ci).length := by rw [hlen]; exact hj
  show _ = (((ex_ft ci).map defaultValue).map (ex_cv g o)).getD j .null
  rw [List.getD_eq_getElem?_getD, List.getD_eq_getElem?_getD, List.getElem?_map, List.getElem?_map, List.getElem?_eq_getElem hj2]
  show defaultValue _ = ex_cv g o (defaultValue _)
  rw [ex_dflt]
  rfl
theorem ex_knewa (C : ex_Cx g o p s m args meth c cc nL rt own mn R) (hW : ex_Wd g o h H) (hS : va_S (ex_A o) s.heap H locs) {t : ArrayType} {n : Int32} {k : Nat} {z} (hz : ex_nar t = some (k, z)) (hn : ¬ n < 0) (hN : n.toNatClampNeg ≤ 1000000) (hlk : Jvm.Cond.arrayClass (newarray.typeOf t) ∈ ex_wall) (hcells : cells + 1 ≤ R.cells) (hslots : slots + n.toNatClampNeg ≤ R.slots) (hdg : decode cc pc = .ok (.newarray t, 2))
    (kk : ∀ (H1 : Heap), ex_Wd g o (h.1 ++ [.inr (k, n.toNatClampNeg, z)], h.2 + n.toNatClampNeg) H1 → va_S (ex_A o) s.heap H1 locs → W p l e R s m args below meth c H1 locs (cells + 1) (slots + n.toNatClampNeg) Q (F0 m (pc + 2) ls (.ref (ex_ad g o (g.1 + h.1.length)) :: rest))) : W p l e R s m args below meth c H locs cells slots Q (F0 m pc ls (.int n :: rest)) := by
  obtain ⟨hx, hb, hml, hown, hts, hK, hX, hlocks, hr, hmn, hco, hBs, hRf, hRl⟩ := C
  have e0 := ex_ad_new hW
  rw [e0] at kk
  have hbytes : n.toNatClampNeg * componentBytes (newarray.typeOf t) ≤ 536870912 := by
    have hb8 : componentBytes (newarray.typeOf t) ≤ 8 := by cases t <;> decide
    exact Nat.le_trans (Nat.mul_le_mul hN hb8) (Nat.le_of_ble_eq_true rfl)
  refine va_newaK hx hb (hts _ hlk) rfl hdg rfl hn rfl hbytes hcells hslots rfl fun H1 cA e1 e2 e3 hAr hNm => ?_
  refine kk H1 (hW.push e2 ?_ e3) ⟨Nat.le_trans hS.1 (by omega), fun x q1 q2 => (e3 x (Nat.lt_of_lt_of_le q1 hS.1)).trans (hS.2.1 x q1 q2), hS.2.2⟩
  cases t with
  | int =>
    cases hz
    have e5 : cA = o.2.1 0 := Option.some.inj (hNm.symm.trans (hK.2 0 _ rfl).2)
    subst e5
    exact e1
  | byte =>
    cases hz
    have e5 : cA = o.2.1 1 := Option.some.inj (hNm.symm.trans (hK.2 1 _ rfl).2)
    subst e5
    exact e1
  | boolean =>
    cases hz
    have e5 : cA = o.2.1 2 := Option.some.inj (hNm.symm.trans (hK.2 2 _ rfl).2)
    subst e5
    exact e1
  | long =>
    cases hz
    have e5 : cA = o.2.1 3 := Option.some.inj (hNm.symm.trans (hK.2 3 _ rfl).2)
    subst e5
    exact e1
  | _ => cases hz
theorem ex_knewq (C : ex_Cx g o p s m args meth c cc nL rt own mn R) (hW : ex_Wd g o h H) (hS : va_S (ex_A o) s.heap H locs) {n : Int32} {index : Nat} (hn : ¬ n < 0) (hN : n.toNatClampNeg ≤ 1000000) (h1 : Jvm.Cond.classLink own index "java/lang/String" ∈ ex_wall) (hcells : cells + 1 ≤ R.cells) (hslots : slots + n.toNatClampNeg ≤ R.slots) (hdg : decode cc pc = .ok (.anewarray index, 3))
    (kk : ∀ (H1 : Heap), ex_Wd g o (h.1 ++ [.inr (4, n.toNatClampNeg, .inr (.inr (.inr (.inr (fun _ => none)))))], h.2 + n.toNatClampNeg) H1 → va_S (ex_A o) s.heap H1 locs → W p l e R s m args below meth c H1 locs (cells + 1) (slots + n.toNatClampNeg) Q (F0 m (pc + 3) ls (.ref (ex_ad g o (g.1 + h.1.length)) :: rest))) : W p l e R s m args below meth c H locs cells slots Q (F0 m pc ls (.int n :: rest)) := by
  obtain ⟨hx, hb, hml, hown, hts, hK, hX, hlocks, hr, hmn, hco, hBs, hRf, hRl⟩ := C
  have e0 := ex_ad_new hW
  rw [e0] at kk
  refine W.anew hx hb hown (hts _ h1) (va_AO.use hX.2.2.2) rfl hdg rfl hn (by omega) hcells hslots fun cA kA comp f1 f2 f3 f4 => ?_
  obtain ⟨kA', comp', k1, k2, k3, k4⟩ := (hK.2 4 _ rfl).2
  have e5 : cA = o.2.1 4 := Option.some.inj (f1.symm.trans k4)
  subst e5
  have e3 : ∀ q : Nat, q < H.size → (H.push ({ cls := o.2.1 4, slots := Array.replicate n.toNatClampNeg .null, vm := .none } : Cell))[q]? = H[q]? := fun q hq => by rw [Array.getElem?_push, if_neg (Nat.ne_of_lt hq)]
  refine kk _ (hW.push (by rw [Array.size_push]) ?_ e3) ⟨Nat.le_trans hS.1 (by rw [Array.size_push]; omega), fun x q1 q2 => (e3 x (Nat.lt_of_lt_of_le q1 hS.1)).trans (hS.2.1 x q1 q2), hS.2.2⟩
  show (H.push ({ cls := o.2.1 4, slots := Array.replicate n.toNatClampNeg .null, vm := .none } : Cell))[H.size]? = some (arrV (o.2.1 4) n.toNatClampNeg (fun _ => va_rf none))
  rw [Array.getElem?_push_size, ← arrV_new]
  rfl
theorem ex_kcpy (C : ex_Cx g o p s m args meth c cc nL rt own mn R) (hW : ex_Wd g o h H) (hS : va_S (ex_A o) s.heap H locs) (hls : ls.size = nL) {n dp sp : Int32} {a b n1 n2 index : Nat} {f k : Nat → Int32} (ha : ex_own g h a = some (.inr (1, n1, .inl f))) (hb2 : ex_own g h b = some (.inr (1, n2, .inl k))) (hn0 : n.toNatClampNeg = 0) (h1 : ¬ sp < 0) (h2 : ¬ dp < 0) (h3 : ¬ n < 0) (h4 : sp.toNatClampNeg ≤ n1) (h5 : dp.toNatClampNeg ≤ n2) (hw : (rest.map fun v => v.category).sum ≤ 8)
    (q1 : Jvm.Cond.methodLink own index arraycopyName ∈ ex_wall) (q2 : Jvm.Cond.native arraycopyName ∈ ex_wall) (q3 : Jvm.Cond.static arraycopyName ∈ ex_wall) (q4 : Jvm.Cond.initialized "java/lang/System" ∈ ex_wall) (hdg : decode cc pc = .ok (.invokestatic index, 3))
    (kk : ∀ (H1 : Heap) (locs1 : List Loc), ex_Wd g o h H1 → va_S (ex_A o) s.heap H1 locs1 → W p l e R s m args below meth c H1 locs1 cells slots Q (F0 m (pc + 3) ls rest)) : W p l e R s m args below meth c H locs cells slots Q (F0 m pc ls (.int n :: .int dp :: .ref (ex_ad g o b) :: .int sp :: .ref (ex_ad g o a) :: rest)) := by
  obtain ⟨hx, hb, hml, hown, hts, hK, hX, hlocks, hr, hmn, hco, hBs, hRf, hRl⟩ := C
  have nn : ∀ z : Int32, ¬ z < 0 → z.toInt = (z.toNatClampNeg : Int) := by
    intro z hz
    have hz0 : (0 : Int) ≤ z.toInt := by
      have := Int32.not_lt.mp hz
      simpa using Int32.le_iff_toInt_le.mp this
    show z.toInt = ((z.toInt.toNat : Nat) : Int)
    omega
  intro T hT X
  have hc0 : H[ex_ad g o a]? = some (vp_cell (o.2.1 1) (n1, .inl f)) := hW.at ha
  have hc1 : H[ex_ad g o b]? = some (vp_cell (o.2.1 1) (n2, .inl k)) := hW.at hb2
  obtain ⟨-, k0, hk0, cm0, hkk0⟩ := (hK.2 1 _ rfl).1 n1 (fun j => .int (f j))
  obtain ⟨vm', X', step⟩ := X.arraycopy hx hown (hts _ q1) (hts _ q2) (hts _ q3) (hts _ q4) (src := ex_ad g o a) (dst := ex_ad g o b) (cs := vp_cell (o.2.1 1) (n1, .inl f)) (cd := vp_cell (o.2.1 1) (n2, .inl k)) (srcPos := sp) (destPos := dp) (n := n) (by rw [hT]; exact hc0) (by rw [hT]; exact hc1)
    (fun _ h => by cases h) (fun _ h => by cases h) (fun h => by cases h) (fun h => by cases h) hk0 hk0 hkk0 hkk0 (by rfl) h1 h2 h3
    (by rw [nn sp h1, nn n h3]; show ¬ _ > ((arrV (o.2.1 1) n1 (fun j => .int (f j))).slots.size : Int); rw [arrV_size]; omega)
    (by rw [nn dp h2, nn n h3]; show ¬ _ > ((arrV (o.2.1 1) n2 (fun j => .int (k j))).slots.size : Int); rw [arrV_size]; omega)
    (fun vm₁ _ i hi => by omega)
    (g := F0 m pc ls (.int n :: .int dp :: .ref (ex_ad g o b) :: .int sp :: .ref (ex_ad g o a) :: rest)) rfl (by rw [hml]; exact hls) (rest := rest) rfl (by rw [hb]; exact hdg) hRf (by
      show 2 * 0 + _ + (nativeFrameWords "java/lang/System" "arraycopy" 5 + 11) ≤ _
      have : nativeFrameWords "java/lang/System" "arraycopy" 5 + 11 ≤ 50 := by decide +kernel
      omega)
  have e1 : copied (vp_cell (o.2.1 1) (n1, .inl f)) (vp_cell (o.2.1 1) (n2, .inl k)) sp dp n = vp_cell (o.2.1 1) (n2, .inl (va_cpy f k sp.toNatClampNeg dp.toNatClampNeg n.toNatClampNeg)) := va_copied (fun z => .int z) (o.2.1 1) (o.2.1 1) f k (by omega)
  have e2 : va_cpy f k sp.toNatClampNeg dp.toNatClampNeg n.toNatClampNeg = k := by
    funext q
    unfold va_cpy
    rw [hn0]
    first | (rw [if_neg (by omega)]) | (simp; omega) | simp
  rw [e1, e2] at X' step
  have hl : ex_ad g o b < H.size := (Array.getElem?_eq_some_iff.mp hc1).1
  have hheap : ((T.setVm vm').setCell (ex_ad g o b) (vp_cell (o.2.1 1) (n2, .inl k))).heap = H := by
    have e3 : ((T.setVm vm').setCell (ex_ad g o b) (vp_cell (o.2.1 1) (n2, .inl k))).heap = H.setIfInBounds (ex_ad g o b) (vp_cell (o.2.1 1) (n2, .inl k)) := by rw [← hT]; rfl
    rw [e3]
    apply Array.ext_getElem?
    intro q
    rw [Array.getElem?_setIfInBounds]
    by_cases hq : ex_ad g o b = q
    · subst hq
      rw [if_pos rfl, if_pos hl]
      exact hc1.symm
    · rw [if_neg hq]
  obtain ⟨t, a1, b1⟩ := kk H _ hW ⟨hS.1, hS.2.1, fun q hq => by
    rcases List.mem_append.mp hq with h | h
    · exact hS.2.2 q h
    · obtain ⟨y, -, rfl⟩ := List.mem_map.mp h
      exact ex_own_A hb2⟩ _ hheap X'
  exact ⟨t, step t a1, b1⟩
end EXS
end
section
/-! ===== the machine follows the interpreter: an instruction that goes on, one that returns ===== -/
section EXN
variable {p : Program} {l : Launch} {e : Env} {R : Room} {s : State} {m : MethodId} {args : Array Value} {below : List Frame} {meth : Method} {c : Code} {H : Heap} {locs : List Loc} {cells slots : Nat} {Q : State → Prop}
variable {cc : ByteArray} {pc : Nat} {ls : Array Slot} {rest : List Value} {g : ex_G} {o : ex_P} {nL n0 s0 : Nat} {rt : Option FieldType} {own mn : String} {h : ex_H}
theorem va_ldcSW (hexec : p.tables.exec = Jvm.exec) (hb : c.code = cc) {tx : String} {index q : Nat} (hown : s.vm.findClass own = some m.cls) (hZ : vk_R own index tx q s) (hdg : decode cc pc = .ok (.ldc_w index, 3))
    (k : W p l e R s m args below meth c H locs cells slots Q (F0 m (pc + 3) ls (.ref q :: rest))) : W p l e R s m args below meth c H locs cells slots Q (F0 m pc ls rest) := by
  intro T hT X
  obtain ⟨t, a1, b1⟩ := k T hT X
  exact ⟨t, X.ldcStringW hexec hown (text := tx) (a := q) hZ.1 hZ.2 (g := F0 m pc ls rest) rfl (by rw [hb]; exact hdg) t a1, b1⟩
theorem ex_tsw_v {d lo hi : Int} {offs : Array Int} {lv : ex_V} {st : List Value} {q : ex_O} (hq : ex_tsw d lo hi offs pc lv st h = some q) : ∃ x r, st = .int x :: r ∧ (((x.toInt < lo ∨ hi < x.toInt) ∧ ∃ t : Nat, (pc : Int) + d = (t : Int) ∧ q = .inl (t, lv, r, h)) ∨ (¬ (x.toInt < lo ∨ hi < x.toInt) ∧ ∃ (off : Int) (t : Nat), offs[(x.toInt - lo).toNat]? = some off ∧ (pc : Int) + off = (t : Int) ∧ q = .inl (t, lv, r, h))) := by
  unfold ex_tsw at hq
  split at hq
  · rename_i x r
    refine ⟨x, r, rfl, ?_⟩
    by_cases hx : x.toInt < lo ∨ hi < x.toInt
    · rw [show decide (x.toInt < lo ∨ hi < x.toInt) = true from decide_eq_true hx] at hq
      exact Or.inl ⟨hx, ex_to_v hq⟩
    · rw [show decide (x.toInt < lo ∨ hi < x.toInt) = false from decide_eq_false hx] at hq
      simp only [cond_false] at hq
      split at hq
      · rename_i off hoff
        obtain ⟨t, h1, h2⟩ := ex_to_v hq
        exact Or.inr ⟨hx, off, t, hoff, h1, h2⟩
      · cases hq
  · cases hq
theorem ex_lsw_v {d : Int} {ps : Array (Int × Int)} {lv : ex_V} {st : List Value} {q : ex_O} (hq : ex_lsw d ps pc lv st h = some q) : ∃ (x : Int32) (r : List Value) (t : Nat), st = .int x :: r ∧ (pc : Int) + Op.lookupswitch.offset ps.toList d x.toInt = (t : Int) ∧ q = .inl (t, lv, r, h) := by
  unfold ex_lsw at hq
  split at hq
  · rename_i x r
    obtain ⟨t, h1, h2⟩ := ex_to_v hq
    exact ⟨x, r, t, rfl, h1, h2⟩
  · cases hq
theorem ex_kxld (C : ex_Cx g o p s m args meth c cc nL rt own mn R) (hW : ex_Wd g o h H) (hS : va_S (ex_A o) s.heap H locs) {i n : Nat} {j : Int32} {f : Nat → Int32} (hi : ex_get g h i = some (.inr (0, n, .inl f))) (hin : vp_in j n) (hdg : decode cc pc = .ok (.iaload, 1))
    (kk : W p l e R s m args below meth c H locs cells slots Q (F0 m (pc + 1) ls (.int (f j.toNatClampNeg) :: rest))) : W p l e R s m args below meth c H locs cells slots Q (F0 m pc ls (.int j :: .ref (ex_ad g o i) :: rest)) := by
  obtain ⟨hx, hb, hml, hown, hts, hK, hX, hlocks, hr, hmn, hco, hBs, hRf, hRl⟩ := C
  rcases ex_get_spec hi with ⟨hlo, hxt⟩ | hi
  · have e1 : ex_ad g o i = o.2.2.1 i := by unfold ex_ad; rw [if_pos hlo]
    rw [e1]
    obtain ⟨-, -, hT⟩ := hX.1 i _ hlo hxt
    exact va_ti hx hb hT hS hin rfl hdg kk
  · exact va_iald hx hb hK (ex_one (hW.at hi)) 0 0 rfl rfl hin hdg kk
theorem ex_kbld (C : ex_Cx g o p s m args meth c cc nL rt own mn R) (hW : ex_Wd g o h H) (hS : va_S (ex_A o) s.heap H locs) {i n t : Nat} {j : Int32} {f : Nat → Int32} (hi : ex_get g h i = some (.inr (t, n, .inl f))) (ht : t = 1 ∨ t = 2) (hin : vp_in j n) (hdg : decode cc pc = .ok (.baload, 1))
    (kk : W p l e R s m args below meth c H locs cells slots Q (F0 m (pc + 1) ls (.int (f j.toNatClampNeg) :: rest))) : W p l e R s m args below meth c H locs cells slots Q (F0 m pc ls (.int j :: .ref (ex_ad g o i) :: rest)) := by
  obtain ⟨hx, hb, hml, hown, hts, hK, hX, hlocks, hr, hmn, hco, hBs, hRf, hRl⟩ := C
  rcases ex_get_spec hi with ⟨hlo, hxt⟩ | hi
  · have e1 : ex_ad g o i = o.2.2.1 i := by unfold ex_ad; rw [if_pos hlo]
    rw [e1]
    obtain ⟨h01, -, hT⟩ := hX.1 i _ hlo hxt
    have e2 : t = 1 := by omega
    subst e2
    exact va_tb hx hb hT hS hin rfl hdg kk
  · rcases ht with rfl | rfl
    · exact va_bald hx hb hK (ex_one (hW.at hi)) 0 1 rfl rfl hin hdg kk
    · exact va_zald hx hb hK (ex_one (hW.at hi)) 0 2 rfl rfl hin hdg kk
theorem ex_klen (C : ex_Cx g o p s m args meth c cc nL rt own mn R) (hW : ex_Wd g o h H) (hS : va_S (ex_A o) s.heap H locs) {i n t : Nat} {f} (hi : ex_get g h i = some (.inr (t, n, f))) (ht : t < 5) (hdg : decode cc pc = .ok (.arraylength, 1))
    (kk : W p l e R s m args below meth c H locs cells slots Q (F0 m (pc + 1) ls (.int (Int32.ofNat n) :: rest))) : W p l e R s m args below meth c H locs cells slots Q (F0 m pc ls (.ref (ex_ad g o i) :: rest)) := by
  obtain ⟨hx, hb, hml, hown, hts, hK, hX, hlocks, hr, hmn, hco, hBs, hRf, hRl⟩ := C
  rcases ex_get_spec hi with ⟨hlo, hxt⟩ | hi
  · have e1 : ex_ad g o i = o.2.2.1 i := by unfold ex_ad; rw [if_pos hlo]
    rw [e1]
    have h1 := hX.1 i _ hlo hxt
    match f, h1 with
    | .inl f, h1 => exact va_tlen hx hb h1.2.2 hS rfl hdg kk
    | .inr f, h1 => exact False.elim h1
  · have ha := ex_one (hW.at hi)
    match t, ht with
    | 0, _ => exact va_alen hx hb hK ha 0 0 rfl rfl rfl hdg kk
    | 1, _ => exact va_alen hx hb hK ha 0 1 rfl rfl rfl hdg kk
    | 2, _ => exact va_alen hx hb hK ha 0 2 rfl rfl rfl hdg kk
    | 3, _ => exact va_alen hx hb hK ha 0 3 rfl rfl rfl hdg kk
    | 4, _ => exact va_alen hx hb hK ha 0 4 rfl rfl rfl hdg kk
set_option maxHeartbeats 4000000 in
/-- an instruction that goes on -/
theorem ex_next {P : Nat → Option ex_M} (C : ex_Cx g o p s m args meth c cc nL rt own mn R) {ins : Instr} {x y z nx : Nat} {lv : ex_V} {st : List Value} {f : ex_F} (hd : ex_dec cc pc (ins, x, y, z, nx)) (hk : ex_lk g P own mn pc (ins, x, y, z, nx)) (hs : ex_step g nL rt (ins, x, y, z, nx) pc lv st h = some (.inl f))
    (hA : ex_At g o nL n0 s0 s.heap (pc, lv, st, h) H ls locs cells slots) (hm1 : f.2.2.2.1.length ≤ R.cells + n0) (hm2 : f.2.2.2.2 ≤ R.slots + s0)
    (kk : ∀ (H1 : Heap) (ls1 : Array Slot) (locs1 : List Loc) (cells1 slots1 : Nat), ex_At g o nL n0 s0 s.heap f H1 ls1 locs1 cells1 slots1 → W p l e R s m args below meth c H1 locs1 cells1 slots1 Q (F0 m f.1 ls1 (f.2.2.1.map (ex_cv g o)))) :
    W p l e R s m args below meth c H locs cells slots Q (F0 m pc ls (st.map (ex_cv g o))) := by
  have C0 := C
  obtain ⟨hx, hb, hml, hown, hts, hK, hX, hlocks, hr, hmn, hco, hBs, hRf, hRl⟩ := C
  obtain ⟨hl, hW, hS, hc, hsl⟩ := id hA
  cases ins with
  | iconst n =>
    obtain ⟨hdg, hnx⟩ : decode cc pc = .ok (.iconst n, 1) ∧ nx = pc + 1 := hd
    subst hnx
    cases (show ex_go (pc + 1) lv (.int (Int32.ofInt n) :: st) h = some (.inl f) from hs)
    exact lv_iconst (v := Int32.ofInt n) hx hb hdg rfl (kk H ls locs cells slots hA)
  | bipush n =>
    obtain ⟨hdg, hnx⟩ : decode cc pc = .ok (.bipush n, 2) ∧ nx = pc + 2 := hd
    subst hnx
    cases (show ex_go (pc + 2) lv (.int (Int8.ofInt n).toInt32 :: st) h = some (.inl f) from hs)
    exact lv_bipush (v := (Int8.ofInt n).toInt32) hx hb hdg rfl (kk H ls locs cells slots hA)
  | sipush n =>
    obtain ⟨hdg, hnx⟩ : decode cc pc = .ok (.sipush n, 3) ∧ nx = pc + 3 := hd
    subst hnx
    cases (show ex_go (pc + 3) lv (.int (Int16.ofInt n).toInt32 :: st) h = some (.inl f) from hs)
    exact lv_sipush (v := (Int16.ofInt n).toInt32) hx hb hdg rfl (kk H ls locs cells slots hA)
  | lconst n =>
    obtain ⟨hdg, hnx⟩ : decode cc pc = .ok (.lconst n, 1) ∧ nx = pc + 1 := hd
    subst hnx
    cases (show ex_go (pc + 1) lv (.long (Int64.ofNat (n : Nat)) :: st) h = some (.inl f) from hs)
    exact lv_lconst (v := Int64.ofNat (n : Nat)) hx hb hdg rfl (kk H ls locs cells slots hA)
  | ldc i =>
    obtain ⟨hdg, hnx⟩ : decode cc pc = .ok (.ldc i, 2) ∧ nx = pc + 2 := hd
    subst hnx
    have hs : ex_ldc x y (pc + 2) lv st h = some (.inl f) := hs
    rcases (show (y = 0 ∧ Jvm.Cond.constant own i (Int32.ofNat x) ∈ ex_wall) ∨ (y = 1 ∧ ∃ tx, (own, i, x, tx) ∈ g.2.2.1) from hk) with ⟨hy, hw⟩ | ⟨hy, tx, hw⟩
    · subst hy
      cases (show some (Sum.inl (pc + 2, lv, .int (Int32.ofNat x) :: st, h)) = some (Sum.inl f) from hs)
      exact lv_ldc hx hb hown (hts _ hw) hdg (kk H ls locs cells slots hA)
    · subst hy
      cases (show some (Sum.inl (pc + 2, lv, .ref x :: st, h)) = some (Sum.inl f) from hs)
      exact va_ldcS hx hb hown (hX.2.1 _ hw) hdg (kk H ls locs cells slots hA)
  | ldc_w i =>
    obtain ⟨hdg, hnx⟩ : decode cc pc = .ok (.ldc_w i, 3) ∧ nx = pc + 3 := hd
    subst hnx
    have hs : ex_ldc x y (pc + 3) lv st h = some (.inl f) := hs
    rcases (show (y = 0 ∧ Jvm.Cond.constant own i (Int32.ofNat x) ∈ ex_wall) ∨ (y = 1 ∧ ∃ tx, (own, i, x, tx) ∈ g.2.2.1) from hk) with ⟨hy, hw⟩ | ⟨hy, tx, hw⟩
    · subst hy
      cases (show some (Sum.inl (pc + 3, lv, .int (Int32.ofNat x) :: st, h)) = some (Sum.inl f) from hs)
      exact lv_ldcw hx hb hown (hts _ hw) hdg (kk H ls locs cells slots hA)
    · subst hy
      cases (show some (Sum.inl (pc + 3, lv, .ref x :: st, h)) = some (Sum.inl f) from hs)
      exact va_ldcSW hx hb hown (hX.2.1 _ hw) hdg (kk H ls locs cells slots hA)
  | getstatic i =>
    obtain ⟨hdg, hnx⟩ : decode cc pc = .ok (.getstatic i, 3) ∧ nx = pc + 3 := hd
    subst hnx
    have hs : ex_ldc x y (pc + 3) lv st h = some (.inl f) := hs
    obtain ⟨q, hq, hw, hv⟩ : ∃ q ∈ g.2.2.2, Jvm.Cond.fieldLink own i q.1 q.2.1 q.2.2.1 ∈ ex_wall ∧ q.2.2.2 = (bif Nat.beq y 0 then Value.int (Int32.ofNat x) else bif Nat.beq y 1 then Value.ref x else Value.retAddr 0) := hk
    have hZ := hX.2.2.1 q hq
    rw [hv] at hZ
    unfold ex_ldc at hs
    cases hb0 : Nat.beq y 0 with
    | true =>
      rw [hb0] at hs hZ
      cases (show some (Sum.inl (pc + 3, lv, .int (Int32.ofNat x) :: st, h)) = some (Sum.inl f) from hs)
      exact va_gets hx hb hZ hS hown (hts _ hw) (fun _ q => q) hdg (kk H ls locs cells slots hA)
    | false =>
      rw [hb0] at hs hZ
      simp only [cond_false] at hs hZ
      cases hb1 : Nat.beq y 1 with
      | true =>
        rw [hb1] at hs hZ
        cases (show some (Sum.inl (pc + 3, lv, .ref x :: st, h)) = some (Sum.inl f) from hs)
        exact va_gets hx hb hZ hS hown (hts _ hw) (fun _ q => q) hdg (kk H ls locs cells slots hA)
      | false =>
        rw [hb1] at hs hZ
        cases (show some (Sum.inl (pc + 3, lv, .retAddr 0 :: st, h)) = some (Sum.inl f) from hs)
        exact va_gets hx hb hZ hS hown (hts _ hw) (fun _ q => q) hdg (kk H ls locs cells slots hA)
  | ldc2_w i =>
    obtain ⟨hdg, hnx⟩ : decode cc pc = .ok (.ldc2_w i, 3) ∧ nx = pc + 3 := hd
    subst hnx
    cases (show ex_go (pc + 3) lv (.long (Int64.ofNat x) :: st) h = some (.inl f) from hs)
    exact lv_ldc2 hx hb hown (hts _ (show Jvm.Cond.constantLong own i (Int64.ofNat x) ∈ ex_wall from hk)) hdg (kk H ls locs cells slots hA)
  | iload_n k =>
    obtain ⟨hdg, hnx⟩ : decode cc pc = .ok (.iload_n k, 1) ∧ nx = pc + 1 := hd
    subst hnx
    obtain ⟨v, hv, e1⟩ := ex_ild_v (show ex_ild k (pc + 1) lv st h = some (.inl f) from hs)
    cases e1
    exact lv_iload_n hx hb hdg rfl (ex_ls hl hv) (kk H ls locs cells slots hA)
  | iload k =>
    obtain ⟨hdg, hnx⟩ : decode cc pc = .ok (.iload k, 2) ∧ nx = pc + 2 := hd
    subst hnx
    obtain ⟨v, hv, e1⟩ := ex_ild_v (show ex_ild k (pc + 2) lv st h = some (.inl f) from hs)
    cases e1
    exact lv_iload hx hb hdg (ex_ls hl hv) (kk H ls locs cells slots hA)
  | lload_n k =>
    obtain ⟨hdg, hnx⟩ : decode cc pc = .ok (.lload_n k, 1) ∧ nx = pc + 1 := hd
    subst hnx
    obtain ⟨v, hv, e1⟩ := ex_lld1_v (show ex_lld1 k (pc + 1) lv st h = some (.inl f) from hs)
    cases e1
    exact lv_lload_n hx hb hdg rfl (ex_ls hl hv) (kk H ls locs cells slots hA)
  | lload k =>
    obtain ⟨hdg, hnx⟩ : decode cc pc = .ok (.lload k, 2) ∧ nx = pc + 2 := hd
    subst hnx
    obtain ⟨v, hv, e1⟩ := ex_lld1_v (show ex_lld1 k (pc + 2) lv st h = some (.inl f) from hs)
    cases e1
    exact lv_lload hx hb hdg (ex_ls hl hv) (kk H ls locs cells slots hA)
  | aload_n k =>
    obtain ⟨hdg, hnx⟩ : decode cc pc = .ok (.aload_n k, 1) ∧ nx = pc + 1 := hd
    subst hnx
    obtain ⟨v, hv, e1⟩ := ex_ald_v (show ex_ald k (pc + 1) lv st h = some (.inl f) from hs)
    cases e1
    exact lv_aload_n hx hb hdg rfl (ex_ls hl hv) (kk H ls locs cells slots hA)
  | aload k =>
    obtain ⟨hdg, hnx⟩ : decode cc pc = .ok (.aload k, 2) ∧ nx = pc + 2 := hd
    subst hnx
    obtain ⟨v, hv, e1⟩ := ex_ald_v (show ex_ald k (pc + 2) lv st h = some (.inl f) from hs)
    cases e1
    exact lv_aload hx hb hdg (ex_ls hl hv) (kk H ls locs cells slots hA)
  | istore_n k =>
    obtain ⟨hdg, hnx⟩ : decode cc pc = .ok (.istore_n k, 1) ∧ nx = pc + 1 := hd
    subst hnx
    obtain ⟨v, r, hlt, rfl, e1⟩ := ex_ist_v (show ex_ist nL k (pc + 1) lv st h = some (.inl f) from hs)
    cases e1
    exact lv_istore_n (lv' := ex_lm g o (ex_s1 lv k (.int v))) hx hb hdg rfl hl hlt (ex_lm_s1 g o lv k (.int v)) (fun ls1 hl1 => kk H ls1 locs cells slots ⟨hl1, hW, hS, hc, hsl⟩)
  | istore k =>
    obtain ⟨hdg, hnx⟩ : decode cc pc = .ok (.istore k, 2) ∧ nx = pc + 2 := hd
    subst hnx
    obtain ⟨v, r, hlt, rfl, e1⟩ := ex_ist_v (show ex_ist nL k (pc + 2) lv st h = some (.inl f) from hs)
    cases e1
    exact lv_istore (lv' := ex_lm g o (ex_s1 lv k (.int v))) hx hb hdg hl hlt (ex_lm_s1 g o lv k (.int v)) (fun ls1 hl1 => kk H ls1 locs cells slots ⟨hl1, hW, hS, hc, hsl⟩)
  | lstore_n k =>
    obtain ⟨hdg, hnx⟩ : decode cc pc = .ok (.lstore_n k, 1) ∧ nx = pc + 1 := hd
    subst hnx
    obtain ⟨v, r, hlt, rfl, e1⟩ := ex_lst_v (show ex_lst nL k (pc + 1) lv st h = some (.inl f) from hs)
    cases e1
    exact lv_lstore_n (lv' := ex_lm g o (ex_s2 lv k (.long v))) hx hb hdg rfl hl hlt (ex_lm_s2 g o lv k (.long v)) (fun ls1 hl1 => kk H ls1 locs cells slots ⟨hl1, hW, hS, hc, hsl⟩)
  | lstore k =>
    obtain ⟨hdg, hnx⟩ : decode cc pc = .ok (.lstore k, 2) ∧ nx = pc + 2 := hd
    subst hnx
    obtain ⟨v, r, hlt, rfl, e1⟩ := ex_lst_v (show ex_lst nL k (pc + 2) lv st h = some (.inl f) from hs)
    cases e1
    exact lv_lstore (lv' := ex_lm g o (ex_s2 lv k (.long v))) hx hb hdg hl hlt (ex_lm_s2 g o lv k (.long v)) (fun ls1 hl1 => kk H ls1 locs cells slots ⟨hl1, hW, hS, hc, hsl⟩)
  | astore_n k =>
    obtain ⟨hdg, hnx⟩ : decode cc pc = .ok (.astore_n k, 1) ∧ nx = pc + 1 := hd
    subst hnx
    obtain ⟨v, r, hlt, rfl, e1⟩ := ex_ast_v (show ex_ast nL k (pc + 1) lv st h = some (.inl f) from hs)
    cases e1
    exact lv_astore_n (lv' := ex_lm g o (ex_s1 lv k (.ref v))) hx hb hdg rfl hl hlt (ex_lm_s1 g o lv k (.ref v)) (fun ls1 hl1 => kk H ls1 locs cells slots ⟨hl1, hW, hS, hc, hsl⟩)
  | astore k =>
    obtain ⟨hdg, hnx⟩ : decode cc pc = .ok (.astore k, 2) ∧ nx = pc + 2 := hd
    subst hnx
    obtain ⟨v, r, hlt, rfl, e1⟩ := ex_ast_v (show ex_ast nL k (pc + 2) lv st h = some (.inl f) from hs)
    cases e1
    exact lv_astore (lv' := ex_lm g o (ex_s1 lv k (.ref v))) hx hb hdg hl hlt (ex_lm_s1 g o lv k (.ref v)) (fun ls1 hl1 => kk H ls1 locs cells slots ⟨hl1, hW, hS, hc, hsl⟩)
  | iinc k n =>
    obtain ⟨hdg, hnx⟩ : decode cc pc = .ok (.iinc k n, 3) ∧ nx = pc + 3 := hd
    subst hnx
    obtain ⟨v, hlt, hv, e1⟩ := ex_inc_v (show ex_inc nL k n (pc + 3) lv st h = some (.inl f) from hs)
    cases e1
    obtain ⟨kx, hkx⟩ := List.getElem?_of_mem (show (k, Value.int v) ∈ ex_lm g o lv from List.mem_map.mpr ⟨(k, .int v), ex_at_mem hv, rfl⟩)
    exact lv_iinc (v := v + Int32.ofInt n) (lv' := ex_lm g o (ex_s1 lv k (.int (ex_add v (Int32.ofInt n))))) hx hb hdg hl hkx rfl hlt (ex_lm_s1 g o lv k (.int (ex_add v (Int32.ofInt n)))) (fun ls1 hl1 => kk H ls1 locs cells slots ⟨hl1, hW, hS, hc, hsl⟩)
  | iadd =>
    obtain ⟨hdg, hnx⟩ : decode cc pc = .ok (.iadd, 1) ∧ nx = pc + 1 := hd
    subst hnx
    obtain ⟨a, b, r, rfl, e1⟩ := ex_ii_v (show ex_ii ex_add (pc + 1) lv st h = some (.inl f) from hs)
    cases e1
    exact lv_iadd hx hb hdg (kk H ls locs cells slots hA)
  | isub =>
    obtain ⟨hdg, hnx⟩ : decode cc pc = .ok (.isub, 1) ∧ nx = pc + 1 := hd
    subst hnx
    obtain ⟨a, b, r, rfl, e1⟩ := ex_ii_v (show ex_ii ex_sub (pc + 1) lv st h = some (.inl f) from hs)
    cases e1
    exact lv_isub hx hb hdg (kk H ls locs cells slots hA)
  | imul =>
    obtain ⟨hdg, hnx⟩ : decode cc pc = .ok (.imul, 1) ∧ nx = pc + 1 := hd
    subst hnx
    obtain ⟨a, b, r, rfl, e1⟩ := ex_ii_v (show ex_ii (fun x y => x * y) (pc + 1) lv st h = some (.inl f) from hs)
    cases e1
    exact lv_imul hx hb hdg (kk H ls locs cells slots hA)
  | iand =>
    obtain ⟨hdg, hnx⟩ : decode cc pc = .ok (.iand, 1) ∧ nx = pc + 1 := hd
    subst hnx
    obtain ⟨a, b, r, rfl, e1⟩ := ex_ii_v (show ex_ii (fun x y => x &&& y) (pc + 1) lv st h = some (.inl f) from hs)
    cases e1
    exact lv_iand hx hb hdg (kk H ls locs cells slots hA)
  | ior =>
    obtain ⟨hdg, hnx⟩ : decode cc pc = .ok (.ior, 1) ∧ nx = pc + 1 := hd
    subst hnx
    obtain ⟨a, b, r, rfl, e1⟩ := ex_ii_v (show ex_ii (fun x y => x ||| y) (pc + 1) lv st h = some (.inl f) from hs)
    cases e1
    exact lv_ior hx hb hdg (kk H ls locs cells slots hA)
  | ixor =>
    obtain ⟨hdg, hnx⟩ : decode cc pc = .ok (.ixor, 1) ∧ nx = pc + 1 := hd
    subst hnx
    obtain ⟨a, b, r, rfl, e1⟩ := ex_ii_v (show ex_ii (fun x y => x ^^^ y) (pc + 1) lv st h = some (.inl f) from hs)
    cases e1
    exact lv_ixor hx hb hdg (kk H ls locs cells slots hA)
  | ishl =>
    obtain ⟨hdg, hnx⟩ : decode cc pc = .ok (.ishl, 1) ∧ nx = pc + 1 := hd
    subst hnx
    obtain ⟨a, b, r, rfl, e1⟩ := ex_ii_v (show ex_ii (fun x y => x <<< (y &&& 31)) (pc + 1) lv st h = some (.inl f) from hs)
    cases e1
    exact lv_ishl hx hb hdg (kk H ls locs cells slots hA)
  | ishr =>
    obtain ⟨hdg, hnx⟩ : decode cc pc = .ok (.ishr, 1) ∧ nx = pc + 1 := hd
    subst hnx
    obtain ⟨a, b, r, rfl, e1⟩ := ex_ii_v (show ex_ii (fun x y => x >>> (y &&& 31)) (pc + 1) lv st h = some (.inl f) from hs)
    cases e1
    exact lv_ishr hx hb hdg (kk H ls locs cells slots hA)
  | iushr =>
    obtain ⟨hdg, hnx⟩ : decode cc pc = .ok (.iushr, 1) ∧ nx = pc + 1 := hd
    subst hnx
    obtain ⟨a, b, r, rfl, e1⟩ := ex_ii_v (show ex_ii (fun x y => (x.toUInt32 >>> (y.toUInt32 &&& Int32.toUInt32 31)).toInt32) (pc + 1) lv st h = some (.inl f) from hs)
    cases e1
    exact lv_iushr hx hb hdg rfl (kk H ls locs cells slots hA)
  | idiv =>
    obtain ⟨hdg, hnx⟩ : decode cc pc = .ok (.idiv, 1) ∧ nx = pc + 1 := hd
    subst hnx
    obtain ⟨a, b, r, hne, rfl, e1⟩ := ex_iid_v (show ex_iid (fun x y => x / y) (pc + 1) lv st h = some (.inl f) from hs)
    cases e1
    exact lv_idiv hx hb hdg hne (kk H ls locs cells slots hA)
  | irem =>
    obtain ⟨hdg, hnx⟩ : decode cc pc = .ok (.irem, 1) ∧ nx = pc + 1 := hd
    subst hnx
    obtain ⟨a, b, r, hne, rfl, e1⟩ := ex_iid_v (show ex_iid (fun x y => x - x / y * y) (pc + 1) lv st h = some (.inl f) from hs)
    cases e1
    exact lv_irem hx hb hdg hne (kk H ls locs cells slots hA)
  | ladd =>
    obtain ⟨hdg, hnx⟩ : decode cc pc = .ok (.ladd, 1) ∧ nx = pc + 1 := hd
    subst hnx
    obtain ⟨a, b, r, rfl, e1⟩ := ex_ll_v (show ex_ll (fun x y => x + y) (pc + 1) lv st h = some (.inl f) from hs)
    cases e1
    exact lv_ladd hx hb hdg (kk H ls locs cells slots hA)
  | lsub =>
    obtain ⟨hdg, hnx⟩ : decode cc pc = .ok (.lsub, 1) ∧ nx = pc + 1 := hd
    subst hnx
    obtain ⟨a, b, r, rfl, e1⟩ := ex_ll_v (show ex_ll (fun x y => x - y) (pc + 1) lv st h = some (.inl f) from hs)
    cases e1
    exact lv_lsub hx hb hdg (kk H ls locs cells slots hA)
  | lmul =>
    obtain ⟨hdg, hnx⟩ : decode cc pc = .ok (.lmul, 1) ∧ nx = pc + 1 := hd
    subst hnx
    obtain ⟨a, b, r, rfl, e1⟩ := ex_ll_v (show ex_ll (fun x y => x * y) (pc + 1) lv st h = some (.inl f) from hs)
    cases e1
    exact lv_lmul hx hb hdg (kk H ls locs cells slots hA)
  | land =>
    obtain ⟨hdg, hnx⟩ : decode cc pc = .ok (.land, 1) ∧ nx = pc + 1 := hd
    subst hnx
    obtain ⟨a, b, r, rfl, e1⟩ := ex_ll_v (show ex_ll (fun x y => x &&& y) (pc + 1) lv st h = some (.inl f) from hs)
    cases e1
    exact lv_land hx hb hdg (kk H ls locs cells slots hA)
  | lor =>
    obtain ⟨hdg, hnx⟩ : decode cc pc = .ok (.lor, 1) ∧ nx = pc + 1 := hd
    subst hnx
    obtain ⟨a, b, r, rfl, e1⟩ := ex_ll_v (show ex_ll (fun x y => x ||| y) (pc + 1) lv st h = some (.inl f) from hs)
    cases e1
    exact lv_lor hx hb hdg (kk H ls locs cells slots hA)
  | lxor =>
    obtain ⟨hdg, hnx⟩ : decode cc pc = .ok (.lxor, 1) ∧ nx = pc + 1 := hd
    subst hnx
    obtain ⟨a, b, r, rfl, e1⟩ := ex_ll_v (show ex_ll (fun x y => x ^^^ y) (pc + 1) lv st h = some (.inl f) from hs)
    cases e1
    exact lv_lxor hx hb hdg (kk H ls locs cells slots hA)
  | ldiv =>
    obtain ⟨hdg, hnx⟩ : decode cc pc = .ok (.ldiv, 1) ∧ nx = pc + 1 := hd
    subst hnx
    obtain ⟨a, b, r, hne, rfl, e1⟩ := ex_lld_v (show ex_lld (fun x y => x / y) (pc + 1) lv st h = some (.inl f) from hs)
    cases e1
    exact lv_ldiv hx hb hdg hne (kk H ls locs cells slots hA)
  | lrem =>
    obtain ⟨hdg, hnx⟩ : decode cc pc = .ok (.lrem, 1) ∧ nx = pc + 1 := hd
    subst hnx
    obtain ⟨a, b, r, hne, rfl, e1⟩ := ex_lld_v (show ex_lld (fun x y => x - x / y * y) (pc + 1) lv st h = some (.inl f) from hs)
    cases e1
    exact lv_lrem hx hb hdg hne (kk H ls locs cells slots hA)
  | lshl =>
    obtain ⟨hdg, hnx⟩ : decode cc pc = .ok (.lshl, 1) ∧ nx = pc + 1 := hd
    subst hnx
    obtain ⟨a, b, r, rfl, e1⟩ := ex_li_v (show ex_li (fun x y => x <<< (y.toInt64 &&& 63)) (pc + 1) lv st h = some (.inl f) from hs)
    cases e1
    exact lv_lshl hx hb hdg rfl (kk H ls locs cells slots hA)
  | lshr =>
    obtain ⟨hdg, hnx⟩ : decode cc pc = .ok (.lshr, 1) ∧ nx = pc + 1 := hd
    subst hnx
    obtain ⟨a, b, r, rfl, e1⟩ := ex_li_v (show ex_li (fun x y => x >>> (y.toInt64 &&& 63)) (pc + 1) lv st h = some (.inl f) from hs)
    cases e1
    exact lv_lshr hx hb hdg rfl (kk H ls locs cells slots hA)
  | lushr =>
    obtain ⟨hdg, hnx⟩ : decode cc pc = .ok (.lushr, 1) ∧ nx = pc + 1 := hd
    subst hnx
    obtain ⟨a, b, r, rfl, e1⟩ := ex_li_v (show ex_li (fun x y => (x.toUInt64 >>> (y.toInt64.toUInt64 &&& Int64.toUInt64 63)).toInt64) (pc + 1) lv st h = some (.inl f) from hs)
    cases e1
    exact lv_lushr hx hb hdg rfl (kk H ls locs cells slots hA)
  | ineg =>
    obtain ⟨hdg, hnx⟩ : decode cc pc = .ok (.ineg, 1) ∧ nx = pc + 1 := hd
    subst hnx
    obtain ⟨a, r, rfl, e1⟩ := ex_i_v (show ex_i (fun x => .int (-x)) (pc + 1) lv st h = some (.inl f) from hs)
    cases e1
    exact lv_ineg hx hb hdg (kk H ls locs cells slots hA)
  | i2l =>
    obtain ⟨hdg, hnx⟩ : decode cc pc = .ok (.i2l, 1) ∧ nx = pc + 1 := hd
    subst hnx
    obtain ⟨a, r, rfl, e1⟩ := ex_i_v (show ex_i (fun x => .long x.toInt64) (pc + 1) lv st h = some (.inl f) from hs)
    cases e1
    exact lv_i2l hx hb hdg rfl (kk H ls locs cells slots hA)
  | i2b =>
    obtain ⟨hdg, hnx⟩ : decode cc pc = .ok (.i2b, 1) ∧ nx = pc + 1 := hd
    subst hnx
    obtain ⟨a, r, rfl, e1⟩ := ex_i_v (show ex_i (fun x => .int x.toInt8.toInt32) (pc + 1) lv st h = some (.inl f) from hs)
    cases e1
    exact lv_i2b hx hb hdg rfl (kk H ls locs cells slots hA)
  | i2c =>
    obtain ⟨hdg, hnx⟩ : decode cc pc = .ok (.i2c, 1) ∧ nx = pc + 1 := hd
    subst hnx
    obtain ⟨a, r, rfl, e1⟩ := ex_i_v (show ex_i (fun x => .int (x.toUInt32 % 65536).toInt32) (pc + 1) lv st h = some (.inl f) from hs)
    cases e1
    exact lv_i2c hx hb hdg rfl (kk H ls locs cells slots hA)
  | lneg =>
    obtain ⟨hdg, hnx⟩ : decode cc pc = .ok (.lneg, 1) ∧ nx = pc + 1 := hd
    subst hnx
    obtain ⟨a, r, rfl, e1⟩ := ex_l_v (show ex_l (fun x => .long (-x)) (pc + 1) lv st h = some (.inl f) from hs)
    cases e1
    exact lv_lneg hx hb hdg (kk H ls locs cells slots hA)
  | l2i =>
    obtain ⟨hdg, hnx⟩ : decode cc pc = .ok (.l2i, 1) ∧ nx = pc + 1 := hd
    subst hnx
    obtain ⟨a, r, rfl, e1⟩ := ex_l_v (show ex_l (fun x => .int x.toInt32) (pc + 1) lv st h = some (.inl f) from hs)
    cases e1
    exact lv_l2i hx hb hdg rfl (kk H ls locs cells slots hA)
  | lcmp =>
    obtain ⟨hdg, hnx⟩ : decode cc pc = .ok (.lcmp, 1) ∧ nx = pc + 1 := hd
    subst hnx
    obtain ⟨a, b, r, rfl, e1⟩ := ex_lc_v (show ex_lc (pc + 1) lv st h = some (.inl f) from hs)
    cases e1
    exact W.lcmp hx hb hdg (kk H ls locs cells slots hA)
  | ifCond cnd off =>
    cases cnd with
    | eq =>
      obtain ⟨hdg, hnx⟩ : decode cc pc = .ok (.ifCond .eq off, 3) ∧ nx = pc + 3 := hd
      subst hnx
      obtain ⟨a, r, rfl, ⟨hc1, e1⟩ | ⟨hc1, e1⟩⟩ := ex_if_v (show ex_if ex_eq0 x (pc + 3) lv st h = some (.inl f) from hs)
      · cases e1
        exact lv_if_eq hx hb hdg (show (pc : Int) + off = (x : Int) from hk) (fun _ => kk H ls locs cells slots hA) (fun q => absurd (ex_eq0_t.mp hc1) q)
      · cases e1
        exact lv_if_eq hx hb hdg (show (pc : Int) + off = (x : Int) from hk) (fun q => absurd q ((ex_bF ex_eq0_t).mp hc1)) (fun _ => kk H ls locs cells slots hA)
    | ne =>
      obtain ⟨hdg, hnx⟩ : decode cc pc = .ok (.ifCond .ne off, 3) ∧ nx = pc + 3 := hd
      subst hnx
      obtain ⟨a, r, rfl, ⟨hc1, e1⟩ | ⟨hc1, e1⟩⟩ := ex_if_v (show ex_if ex_ne0 x (pc + 3) lv st h = some (.inl f) from hs)
      · cases e1
        exact lv_if_ne hx hb hdg (show (pc : Int) + off = (x : Int) from hk) (fun _ => kk H ls locs cells slots hA) (fun q => absurd q (ex_ne0_t.mp hc1))
      · cases e1
        exact lv_if_ne hx hb hdg (show (pc : Int) + off = (x : Int) from hk) (fun q => absurd q ((ex_bF ex_ne0_t).mp hc1)) (fun _ => kk H ls locs cells slots hA)
    | lt =>
      obtain ⟨hdg, hnx⟩ : decode cc pc = .ok (.ifCond .lt off, 3) ∧ nx = pc + 3 := hd
      subst hnx
      obtain ⟨a, r, rfl, ⟨hc1, e1⟩ | ⟨hc1, e1⟩⟩ := ex_if_v (show ex_if ex_lt0 x (pc + 3) lv st h = some (.inl f) from hs)
      · cases e1
        exact lv_if_lt hx hb hdg (show (pc : Int) + off = (x : Int) from hk) (fun _ => kk H ls locs cells slots hA) (fun q => absurd (ex_lt0_t.mp hc1) q)
      · cases e1
        exact lv_if_lt hx hb hdg (show (pc : Int) + off = (x : Int) from hk) (fun q => absurd q ((ex_bF ex_lt0_t).mp hc1)) (fun _ => kk H ls locs cells slots hA)
    | ge =>
      obtain ⟨hdg, hnx⟩ : decode cc pc = .ok (.ifCond .ge off, 3) ∧ nx = pc + 3 := hd
      subst hnx
      obtain ⟨a, r, rfl, ⟨hc1, e1⟩ | ⟨hc1, e1⟩⟩ := ex_if_v (show ex_if ex_ge0 x (pc + 3) lv st h = some (.inl f) from hs)
      · cases e1
        exact lv_if_ge hx hb hdg (show (pc : Int) + off = (x : Int) from hk) (fun _ => kk H ls locs cells slots hA) (fun q => absurd (ex_ge0_t.mp hc1) q)
      · cases e1
        exact lv_if_ge hx hb hdg (show (pc : Int) + off = (x : Int) from hk) (fun q => absurd q ((ex_bF ex_ge0_t).mp hc1)) (fun _ => kk H ls locs cells slots hA)
    | gt =>
      obtain ⟨hdg, hnx⟩ : decode cc pc = .ok (.ifCond .gt off, 3) ∧ nx = pc + 3 := hd
      subst hnx
      obtain ⟨a, r, rfl, ⟨hc1, e1⟩ | ⟨hc1, e1⟩⟩ := ex_if_v (show ex_if ex_gt0 x (pc + 3) lv st h = some (.inl f) from hs)
      · cases e1
        exact lv_if_gt hx hb hdg (show (pc : Int) + off = (x : Int) from hk) (fun _ => kk H ls locs cells slots hA) (fun q => absurd (ex_gt0_t.mp hc1) q)
      · cases e1
        exact lv_if_gt hx hb hdg (show (pc : Int) + off = (x : Int) from hk) (fun q => absurd q ((ex_bF ex_gt0_t).mp hc1)) (fun _ => kk H ls locs cells slots hA)
    | le =>
      obtain ⟨hdg, hnx⟩ : decode cc pc = .ok (.ifCond .le off, 3) ∧ nx = pc + 3 := hd
      subst hnx
      obtain ⟨a, r, rfl, ⟨hc1, e1⟩ | ⟨hc1, e1⟩⟩ := ex_if_v (show ex_if ex_le0 x (pc + 3) lv st h = some (.inl f) from hs)
      · cases e1
        exact lv_if_le hx hb hdg (show (pc : Int) + off = (x : Int) from hk) (fun _ => kk H ls locs cells slots hA) (fun q => absurd (ex_le0_t.mp hc1) q)
      · cases e1
        exact lv_if_le hx hb hdg (show (pc : Int) + off = (x : Int) from hk) (fun q => absurd q ((ex_bF ex_le0_t).mp hc1)) (fun _ => kk H ls locs cells slots hA)
  | if_icmp cnd off =>
    cases cnd with
    | eq =>
      obtain ⟨hdg, hnx⟩ : decode cc pc = .ok (.if_icmp .eq off, 3) ∧ nx = pc + 3 := hd
      subst hnx
      obtain ⟨a, b, r, rfl, ⟨hc1, e1⟩ | ⟨hc1, e1⟩⟩ := ex_ic_v (show ex_ic ex_eq x (pc + 3) lv st h = some (.inl f) from hs)
      · cases e1
        exact lv_icmp_eq hx hb hdg (show (pc : Int) + off = (x : Int) from hk) (fun _ => kk H ls locs cells slots hA) (fun q => absurd (ex_eq_t.mp hc1) q)
      · cases e1
        exact lv_icmp_eq hx hb hdg (show (pc : Int) + off = (x : Int) from hk) (fun q => absurd q ((ex_bF ex_eq_t).mp hc1)) (fun _ => kk H ls locs cells slots hA)
    | ne =>
      obtain ⟨hdg, hnx⟩ : decode cc pc = .ok (.if_icmp .ne off, 3) ∧ nx = pc + 3 := hd
      subst hnx
      obtain ⟨a, b, r, rfl, ⟨hc1, e1⟩ | ⟨hc1, e1⟩⟩ := ex_ic_v (show ex_ic ex_ne x (pc + 3) lv st h = some (.inl f) from hs)
      · cases e1
        exact lv_icmp_ne hx hb hdg (show (pc : Int) + off = (x : Int) from hk) (fun _ => kk H ls locs cells slots hA) (fun q => absurd q (ex_ne_t.mp hc1))
      · cases e1
        exact lv_icmp_ne hx hb hdg (show (pc : Int) + off = (x : Int) from hk) (fun q => absurd q ((ex_bF ex_ne_t).mp hc1)) (fun _ => kk H ls locs cells slots hA)
    | lt =>
      obtain ⟨hdg, hnx⟩ : decode cc pc = .ok (.if_icmp .lt off, 3) ∧ nx = pc + 3 := hd
      subst hnx
      obtain ⟨a, b, r, rfl, ⟨hc1, e1⟩ | ⟨hc1, e1⟩⟩ := ex_ic_v (show ex_ic ex_lt x (pc + 3) lv st h = some (.inl f) from hs)
      · cases e1
        exact lv_icmp_lt hx hb hdg (show (pc : Int) + off = (x : Int) from hk) (fun _ => kk H ls locs cells slots hA) (fun q => absurd (ex_lt_t.mp hc1) q)
      · cases e1
        exact lv_icmp_lt hx hb hdg (show (pc : Int) + off = (x : Int) from hk) (fun q => absurd q ((ex_bF ex_lt_t).mp hc1)) (fun _ => kk H ls locs cells slots hA)
    | ge =>
      obtain ⟨hdg, hnx⟩ : decode cc pc = .ok (.if_icmp .ge off, 3) ∧ nx = pc + 3 := hd
      subst hnx
      obtain ⟨a, b, r, rfl, ⟨hc1, e1⟩ | ⟨hc1, e1⟩⟩ := ex_ic_v (show ex_ic ex_ge x (pc + 3) lv st h = some (.inl f) from hs)
      · cases e1
        exact lv_icmp_ge hx hb hdg (show (pc : Int) + off = (x : Int) from hk) (fun _ => kk H ls locs cells slots hA) (fun q => absurd (ex_ge_t.mp hc1) q)
      · cases e1
        exact lv_icmp_ge hx hb hdg (show (pc : Int) + off = (x : Int) from hk) (fun q => absurd q ((ex_bF ex_ge_t).mp hc1)) (fun _ => kk H ls locs cells slots hA)
    | gt =>
      obtain ⟨hdg, hnx⟩ : decode cc pc = .ok (.if_icmp .gt off, 3) ∧ nx = pc + 3 := hd
      subst hnx
      obtain ⟨a, b, r, rfl, ⟨hc1, e1⟩ | ⟨hc1, e1⟩⟩ := ex_ic_v (show ex_ic ex_gt x (pc + 3) lv st h = some (.inl f) from hs)
      · cases e1
        exact lv_icmp_gt hx hb hdg (show (pc : Int) + off = (x : Int) from hk) (fun _ => kk H ls locs cells slots hA) (fun q => absurd (ex_gt_t.mp hc1) q)
      · cases e1
        exact lv_icmp_gt hx hb hdg (show (pc : Int) + off = (x : Int) from hk) (fun q => absurd q ((ex_bF ex_gt_t).mp hc1)) (fun _ => kk H ls locs cells slots hA)
    | le =>
      obtain ⟨hdg, hnx⟩ : decode cc pc = .ok (.if_icmp .le off, 3) ∧ nx = pc + 3 := hd
      subst hnx
      obtain ⟨a, b, r, rfl, ⟨hc1, e1⟩ | ⟨hc1, e1⟩⟩ := ex_ic_v (show ex_ic ex_le x (pc + 3) lv st h = some (.inl f) from hs)
      · cases e1
        exact lv_icmp_le hx hb hdg (show (pc : Int) + off = (x : Int) from hk) (fun _ => kk H ls locs cells slots hA) (fun q => absurd (ex_le_t.mp hc1) q)
      · cases e1
        exact lv_icmp_le hx hb hdg (show (pc : Int) + off = (x : Int) from hk) (fun q => absurd q ((ex_bF ex_le_t).mp hc1)) (fun _ => kk H ls locs cells slots hA)
  | goto off =>
    obtain ⟨hdg, hnx⟩ : decode cc pc = .ok (.goto off, 3) ∧ nx = pc + 3 := hd
    subst hnx
    cases (show ex_go x lv st h = some (.inl f) from hs)
    exact lv_goto hx hb hdg (show (pc : Int) + off = (x : Int) from hk) (kk H ls locs cells slots hA)
  | tableswitch d lo hi offs =>
    obtain ⟨len, hdg⟩ : ∃ len, decode cc pc = .ok (.tableswitch d lo hi offs, len) := hd
    obtain ⟨a, r, rfl, ⟨hc1, t, ht, e1⟩ | ⟨hc1, off, t, ho, ht, e1⟩⟩ := ex_tsw_v (show ex_tsw d lo hi offs pc lv st h = some (.inl f) from hs)
    · cases e1
      exact lv_tableOut hx hb hdg hc1 ht (kk H ls locs cells slots hA)
    · cases e1
      exact lv_tableIn hx hb hdg (fun q => hc1 (Or.inl q)) (fun q => hc1 (Or.inr q)) ho ht (kk H ls locs cells slots hA)
  | lookupswitch d ps =>
    obtain ⟨⟨len, hdg⟩, hps⟩ : (∃ len, decode cc pc = .ok (.lookupswitch d ps, len)) ∧ (ps.toList.zip (ps.toList.drop 1)).all (fun (a, next) => a.1 < next.1) = true := hd
    obtain ⟨a, r, t, rfl, ht, e1⟩ := ex_lsw_v (show ex_lsw d ps pc lv st h = some (.inl f) from hs)
    cases e1
    exact lv_lookup hx hb hdg hps rfl ht (kk H ls locs cells slots hA)
  | dup =>
    obtain ⟨hdg, hnx⟩ : decode cc pc = .ok (.dup, 1) ∧ nx = pc + 1 := hd
    subst hnx
    obtain ⟨v, r, hv, rfl, e1⟩ := ex_dup_v (show ex_dup (pc + 1) lv st h = some (.inl f) from hs)
    cases e1
    exact lv_dup hx hb hdg (by rw [ex_cat]; exact hv) (kk H ls locs cells slots hA)
  | pop =>
    obtain ⟨hdg, hnx⟩ : decode cc pc = .ok (.pop, 1) ∧ nx = pc + 1 := hd
    subst hnx
    obtain ⟨v, r, hv, rfl, e1⟩ := ex_pop_v (show ex_pop (pc + 1) lv st h = some (.inl f) from hs)
    cases e1
    exact lv_pop hx hb hdg (by rw [ex_cat]; exact hv) (kk H ls locs cells slots hA)
  | dup_x1 =>
    obtain ⟨hdg, hnx⟩ : decode cc pc = .ok (.dup_x1, 1) ∧ nx = pc + 1 := hd
    subst hnx
    obtain ⟨v, u, r, hv, hu, rfl, e1⟩ := ex_dupx1_v (show ex_dupx1 (pc + 1) lv st h = some (.inl f) from hs)
    cases e1
    exact lv_dup_x1 hx hb hdg (by rw [ex_cat]; exact hv) (by rw [ex_cat]; exact hu) (kk H ls locs cells slots hA)
  | dup2 =>
    obtain ⟨hdg, hnx⟩ : decode cc pc = .ok (.dup2, 1) ∧ nx = pc + 1 := hd
    subst hnx
    obtain ⟨v, u, r, rfl, ⟨hv, e1⟩ | ⟨hv, hu, e1⟩⟩ := ex_dup2_v (show ex_dup2 (pc + 1) lv st h = some (.inl f) from hs)
    · cases e1
      exact lv_dup2_2 hx hb hdg (by rw [ex_cat]; exact hv) (kk H ls locs cells slots hA)
    · cases e1
      exact lv_dup2_11 hx hb hdg (by rw [ex_cat]; exact hv) (by rw [ex_cat]; exact hu) (kk H ls locs cells slots hA)
  | getfield i =>
    obtain ⟨hdg, hnx⟩ : decode cc pc = .ok (.getfield i, 3) ∧ nx = pc + 3 := hd
    subst hnx
    obtain ⟨j, fs, v, r, hj, hv, rfl, e1⟩ := ex_gf_v (show ex_gf g x y (pc + 3) lv st h = some (.inl f) from hs)
    cases e1
    obtain ⟨k1, k2⟩ : (∀ r : vw_C, ex_cl[x]? = some r → y < r.2.2) ∧ Jvm.Cond.fieldLink own i (ex_fd x y).1 (ex_fd x y).2.1 (ex_fd x y).2.2.1 ∈ ex_wall := hk
    exact ex_kget C0 hW hS hj hv k1 k2 hdg (kk H ls locs cells slots hA)
  | putfield i =>
    obtain ⟨hdg, hnx⟩ : decode cc pc = .ok (.putfield i, 3) ∧ nx = pc + 3 := hd
    subst hnx
    obtain ⟨j, fs, v, r, ty, hj, hlt, hty, hfit, rfl, e1⟩ := ex_pf_v (show ex_pf g (ex_ft x) x y (pc + 3) lv st h = some (.inl f) from hs)
    cases e1
    obtain ⟨r0, k1, k2, k3, k4⟩ : ∃ r : vw_C, ex_cl[x]? = some r ∧ y < r.2.2 ∧ Jvm.Cond.fieldLink own i (r.2.1 y).1 (r.2.1 y).2.1 (r.2.1 y).2.2.1 ∈ ex_wall ∧ ((r.2.1 y).2.2.2 = false ∨ ((r.2.1 y).2.2.2 = true ∧ mn = "<init>" ∧ (r.2.1 y).1 = own)) := hk
    refine ex_kput C0 hW hS hj hlt hty hfit k1 k2 k3 k4 hdg (fun H1 locs1 hW1 hS1 => kk H1 ls locs1 cells slots ⟨hl, hW1, hS1, ?_, hsl⟩)
    show cells + n0 = (ex_lset h.1 _ _).length
    rw [ex_lset_eq, List.length_set]; exact hc
  | arraylength =>
    obtain ⟨hdg, hnx⟩ : decode cc pc = .ok (.arraylength, 1) ∧ nx = pc + 1 := hd
    subst hnx
    obtain ⟨j, t, n, q, r, hj, ht, rfl, e1⟩ := ex_len_v (show ex_len g (pc + 1) lv st h = some (.inl f) from hs)
    cases e1
    exact ex_klen C0 hW hS hj ht hdg (kk H ls locs cells slots hA)
  | iaload =>
    obtain ⟨hdg, hnx⟩ : decode cc pc = .ok (.iaload, 1) ∧ nx = pc + 1 := hd
    subst hnx
    obtain ⟨i, j, k, n, q, r, hj, hk1, hin, rfl, e1⟩ := ex_xld_v (show ex_xld g 0 0 (pc + 1) lv st h = some (.inl f) from hs)
    cases e1
    have hk2 : k = 0 := hk1.elim id id
    subst hk2
    exact ex_kxld C0 hW hS hj hin hdg (kk H ls locs cells slots hA)
  | baload =>
    obtain ⟨hdg, hnx⟩ : decode cc pc = .ok (.baload, 1) ∧ nx = pc + 1 := hd
    subst hnx
    obtain ⟨i, j, k, n, q, r, hj, hk1, hin, rfl, e1⟩ := ex_xld_v (show ex_xld g 1 2 (pc + 1) lv st h = some (.inl f) from hs)
    cases e1
    exact ex_kbld C0 hW hS hj hk1 hin hdg (kk H ls locs cells slots hA)
  | laload =>
    obtain ⟨hdg, hnx⟩ : decode cc pc = .ok (.laload, 1) ∧ nx = pc + 1 := hd
    subst hnx
    obtain ⟨i, j, n, q, r, hj, hin, rfl, e1⟩ := ex_xlld_v (show ex_xlld g (pc + 1) lv st h = some (.inl f) from hs)
    cases e1
    exact va_lald hx hb hK (ex_one (hW.at hj)) 0 3 rfl rfl hin hdg (kk H ls locs cells slots hA)
  | aaload =>
    obtain ⟨hdg, hnx⟩ : decode cc pc = .ok (.aaload, 1) ∧ nx = pc + 1 := hd
    subst hnx
    obtain ⟨i, j, n, q, v, r, hj, hin, hv, rfl, e1⟩ := ex_xald_v (show ex_xald g (pc + 1) lv st h = some (.inl f) from hs)
    cases e1
    refine va_aldq hx hb hK (ex_one (hW.at hj)) 0 4 rfl rfl hin hdg ?_
    rw [show ((q j.toNatClampNeg).map (ex_ad g o)) = some (ex_ad g o v) by rw [hv]; rfl]
    exact kk H ls locs cells slots hA
  | iastore =>
    obtain ⟨hdg, hnx⟩ : decode cc pc = .ok (.iastore, 1) ∧ nx = pc + 1 := hd
    subst hnx
    obtain ⟨i, j, n, q, v, r, hj, hin, rfl, e1⟩ := ex_xst_v (show ex_xst g (pc + 1) lv st h = some (.inl f) from hs)
    cases e1
    refine ex_kiast C0 hW hS hj hin hdg (fun H1 locs1 hW1 hS1 => kk H1 ls locs1 cells slots ⟨hl, hW1, hS1, ?_, hsl⟩)
    show cells + n0 = (ex_lset h.1 _ _).length
    rw [ex_lset_eq, List.length_set]; exact hc
  | lastore =>
    obtain ⟨hdg, hnx⟩ : decode cc pc = .ok (.lastore, 1) ∧ nx = pc + 1 := hd
    subst hnx
    obtain ⟨i, j, n, q, v, r, hj, hin, rfl, e1⟩ := ex_xlst_v (show ex_xlst g (pc + 1) lv st h = some (.inl f) from hs)
    cases e1
    refine ex_klast C0 hW hS hj hin hdg (fun H1 locs1 hW1 hS1 => kk H1 ls locs1 cells slots ⟨hl, hW1, hS1, ?_, hsl⟩)
    show cells + n0 = (ex_lset h.1 _ _).length
    rw [ex_lset_eq, List.length_set]; exact hc
  | bastore =>
    obtain ⟨hdg, hnx⟩ : decode cc pc = .ok (.bastore, 1) ∧ nx = pc + 1 := hd
    subst hnx
    obtain ⟨i, j, n, q, v, r, hin, rfl, ⟨hj, e1⟩ | ⟨hj, e1⟩⟩ := ex_xbst_v (show ex_xbst g (pc + 1) lv st h = some (.inl f) from hs)
    · cases e1
      refine ex_kbast C0 hW hS hj hin hdg (fun H1 locs1 hW1 hS1 => kk H1 ls locs1 cells slots ⟨hl, hW1, hS1, ?_, hsl⟩)
      show cells + n0 = (ex_lset h.1 _ _).length
      rw [ex_lset_eq, List.length_set]; exact hc
    · cases e1
      refine ex_kzast C0 hW hS hj hin hdg (fun H1 locs1 hW1 hS1 => kk H1 ls locs1 cells slots ⟨hl, hW1, hS1, ?_, hsl⟩)
      show cells + n0 = (ex_lset h.1 _ _).length
      rw [ex_lset_eq, List.length_set]; exact hc
  | aastore =>
    obtain ⟨hdg, hnx⟩ : decode cc pc = .ok (.aastore, 1) ∧ nx = pc + 1 := hd
    subst hnx
    obtain ⟨i, j, n, q, v, fs, r, hj, hin, hv1, hv2, rfl, e1⟩ := ex_xast_v (show ex_xast g (pc + 1) lv st h = some (.inl f) from hs)
    cases e1
    refine ex_kaast C0 hW hS hj hv1 hv2 hin hdg (fun H1 locs1 hW1 hS1 => kk H1 ls locs1 cells slots ⟨hl, hW1, hS1, ?_, hsl⟩)
    show cells + n0 = (ex_lset h.1 _ _).length
    rw [ex_lset_eq, List.length_set]; exact hc
  | new i =>
    obtain ⟨hdg, hnx⟩ : decode cc pc = .ok (.new i, 3) ∧ nx = pc + 3 := hd
    subst hnx
    cases (show ex_go (pc + 3) lv (.ref (g.1 + h.1.length) :: st) (h.1 ++ [.inl (x, (ex_ft x).map defaultValue)], h.2 + (ex_ft x).length) = some (.inl f) from hs)
    obtain ⟨r, k1, k2, k3, k4⟩ : ∃ r : vw_C, ex_cl[x]? = some r ∧ Jvm.Cond.classLink own i r.1 ∈ ex_wall ∧ Jvm.Cond.instantiable r.1 r.2.2 ∈ ex_wall ∧ Jvm.Cond.initialized r.1 ∈ ex_wall := hk
    have hm1 : (h.1 ++ [Sum.inl (x, (ex_ft x).map defaultValue)]).length ≤ R.cells + n0 := hm1
    have hm2 : h.2 + (ex_ft x).length ≤ R.slots + s0 := hm2
    rw [List.length_append, List.length_singleton] at hm1
    have hc : cells + n0 = h.1.length := hc
    have hsl : slots + s0 = h.2 := hsl
    refine ex_knew C0 hW hS k1 k2 k3 k4 (by omega) (by omega) hdg (fun H1 hW1 hS1 => kk H1 ls locs (cells + 1) (slots + (ex_ft x).length) ⟨hl, hW1, hS1, ?_, ?_⟩)
    · show cells + 1 + n0 = (h.1 ++ [Sum.inl (x, (ex_ft x).map defaultValue)]).length
      rw [List.length_append, List.length_singleton]; omega
    · show slots + (ex_ft x).length + s0 = h.2 + (ex_ft x).length
      omega
  | newarray t =>
    obtain ⟨hdg, hnx⟩ : decode cc pc = .ok (.newarray t, 2) ∧ nx = pc + 2 := hd
    subst hnx
    obtain ⟨n, r, k, zz, hn, hN, hz, rfl, e1⟩ := ex_newa_v (show ex_newa g t (pc + 2) lv st h = some (.inl f) from hs)
    cases e1
    have hm1 : (h.1 ++ [(Sum.inr (k, n.toNatClampNeg, zz) : ex_C)]).length ≤ R.cells + n0 := hm1
    have hm2 : h.2 + n.toNatClampNeg ≤ R.slots + s0 := hm2
    rw [List.length_append, List.length_singleton] at hm1
    have hc : cells + n0 = h.1.length := hc
    have hsl : slots + s0 = h.2 := hsl
    refine ex_knewa C0 hW hS hz hn hN (show Jvm.Cond.arrayClass (newarray.typeOf t) ∈ ex_wall from hk) (by omega) (by omega) hdg (fun H1 hW1 hS1 => kk H1 ls locs (cells + 1) (slots + n.toNatClampNeg) ⟨hl, hW1, hS1, ?_, ?_⟩)
    · show cells + 1 + n0 = (h.1 ++ [(Sum.inr (k, n.toNatClampNeg, zz) : ex_C)]).length
      rw [List.length_append, List.length_singleton]; omega
    · show slots + n.toNatClampNeg + s0 = h.2 + n.toNatClampNeg
      omega
  | anewarray i =>
    obtain ⟨hdg, hnx⟩ : decode cc pc = .ok (.anewarray i, 3) ∧ nx = pc + 3 := hd
    subst hnx
    obtain ⟨n, r, hn, hN, rfl, e1⟩ := ex_newq_v (show ex_newq g (pc + 3) lv st h = some (.inl f) from hs)
    cases e1
    have hm1 : (h.1 ++ [(Sum.inr (4, n.toNatClampNeg, .inr (.inr (.inr (.inr (fun _ => none))))) : ex_C)]).length ≤ R.cells + n0 := hm1
    have hm2 : h.2 + n.toNatClampNeg ≤ R.slots + s0 := hm2
    rw [List.length_append, List.length_singleton] at hm1
    have hc : cells + n0 = h.1.length := hc
    have hsl : slots + s0 = h.2 := hsl
    refine ex_knewq C0 hW hS hn hN hk (by omega) (by omega) hdg (fun H1 hW1 hS1 => kk H1 ls locs (cells + 1) (slots + n.toNatClampNeg) ⟨hl, hW1, hS1, ?_, ?_⟩)
    · show cells + 1 + n0 = (h.1 ++ [(Sum.inr (4, n.toNatClampNeg, .inr (.inr (.inr (.inr (fun _ => none))))) : ex_C)]).length
      rw [List.length_append, List.length_singleton]; omega
    · show slots + n.toNatClampNeg + s0 = h.2 + n.toNatClampNeg
      omega
  | invokespecial i =>
    obtain ⟨hdg, hnx⟩ : decode cc pc = .ok (.invokespecial i, 3) ∧ nx = pc + 3 := hd
    subst hnx
    replace hs : ex_callI x y (pc + 3) lv st h = some (.inl f) := hs
    unfold ex_callI at hs
    rcases (show (x = 1000000 ∧ Jvm.Cond.methodLink own i objectInit ∈ ex_wall ∧ Jvm.Cond.instanceMethod objectInit ∈ ex_wall ∧ Jvm.Cond.code objectInit ⟨#[0xb1]⟩ 1 none ∈ ex_wall) ∨ (¬ x = 1000000 ∧ ∃ M : ex_M, P x = some M ∧ M.1.name = "<init>" ∧ M.2.2.2.1 = none ∧ Jvm.Cond.methodLink own i M.1 ∈ ex_wall ∧ Jvm.Cond.instanceMethod M.1 ∈ ex_wall ∧ (parseMethodDescriptor M.1.desc).map (fun d => d.parameters.length) = some y) from hk) with ⟨hx0, k1, k2, k3⟩ | ⟨hx0, -⟩
    · subst hx0
      rw [show Nat.beq 1000000 1000000 = true from rfl] at hs
      simp only [cond_true] at hs
      split at hs
      · rename_i b r
        cases hw : Nat.ble (ex_w r) 8 with
        | false => rw [hw] at hs; cases hs
        | true =>
          rw [hw] at hs
          cases (show some (Sum.inl (pc + 3, lv, r, h)) = some (Sum.inl f) from hs)
          refine W.objInit hx hb hown (hts _ k1) (hts _ k2) (hts _ k3) (g := F0 m pc ls ((Value.ref b :: r).map (ex_cv g o))) rfl (hl.1.trans hml.symm) (a := ex_ad g o b) (rest := r.map (ex_cv g o)) rfl hdg hRf ?_ (kk H ls locs cells slots hA)
          show 2 * 0 + _ + 12 ≤ _
          rw [ex_wm]
          have := Nat.le_of_ble_eq_true hw
          omega
      · cases hs
    · have hb0 : Nat.beq x 1000000 = false := by
        cases hq : Nat.beq x 1000000 with
        | false => rfl
        | true => exact absurd (Nat.eq_of_beq_eq_true hq) hx0
      rw [hb0] at hs
      simp only [cond_false] at hs
      split at hs
      · rename_i b r hdr
        cases hq : (Nat.ble (ex_w r) 8 && Nat.beq (st.take y).length y) with
        | false => rw [hq] at hs; cases hs
        | true => rw [hq] at hs; cases hs
      · cases hs
  | invokestatic i =>
    obtain ⟨hdg, hnx⟩ : decode cc pc = .ok (.invokestatic i, 3) ∧ nx = pc + 3 := hd
    subst hnx
    replace hs : ex_callS g x y (pc + 3) lv st h = some (.inl f) := hs
    unfold ex_callS at hs
    rcases (show (x = 1000000 ∧ Jvm.Cond.methodLink own i arraycopyName ∈ ex_wall ∧ Jvm.Cond.native arraycopyName ∈ ex_wall ∧ Jvm.Cond.static arraycopyName ∈ ex_wall ∧ Jvm.Cond.initialized "java/lang/System" ∈ ex_wall) ∨ (x = 1000001 ∧ Jvm.Cond.methodLink own i Lib.Math.max.name ∈ ex_wall ∧ Jvm.Cond.static Lib.Math.max.name ∈ ex_wall ∧ Jvm.Cond.initialized "java/lang/Math" ∈ ex_wall ∧ Jvm.Cond.code Lib.Math.max.name Lib.Math.max.code 2 (some .int) ∈ ex_wall) ∨ (x = 1000002 ∧ Jvm.Cond.methodLink own i Lib.Math.min.name ∈ ex_wall ∧ Jvm.Cond.static Lib.Math.min.name ∈ ex_wall ∧ Jvm.Cond.initialized "java/lang/Math" ∈ ex_wall ∧ Jvm.Cond.code Lib.Math.min.name Lib.Math.min.code 2 (some .int) ∈ ex_wall) ∨ (x < 1000000 ∧ ∃ M : ex_M, P x = some M ∧ Jvm.Cond.methodLink own i M.1 ∈ ex_wall ∧ Jvm.Cond.static M.1 ∈ ex_wall ∧ (parseMethodDescriptor M.1.desc).map (fun d => d.parameters.length) = some y) from hk) with ⟨hx0, k1, k2, k3, k4⟩ | ⟨hx0, k1, k2, k3, k4⟩ | ⟨hx0, k1, k2, k3, k4⟩ | ⟨hx0, -⟩
    · subst hx0
      rw [show Nat.beq 1000000 1000000 = true from rfl] at hs
      simp only [cond_true] at hs
      obtain ⟨n, dp, b, sp, a, r, n1, q1, n2, q2, ha, hb2, hn0, h1, h2, h3, h4, h5, hw, rfl, e1⟩ := ex_cpy_v hs
      cases e1
      exact ex_kcpy C0 hW hS hl.1 ha hb2 hn0 h1 h2 h3 h4 h5 (by rw [ex_wm]; exact hw) k1 k2 k3 k4 hdg (fun H1 locs1 hW1 hS1 => kk H1 ls locs1 cells slots ⟨hl, hW1, hS1, hc, hsl⟩)
    · subst hx0
      rw [show Nat.beq 1000001 1000000 = false from rfl, show Nat.blt 1000000 1000001 = true from rfl] at hs
      simp only [cond_false, cond_true] at hs
      obtain ⟨b, a, r, hw, rfl, ⟨hk1, e1⟩ | ⟨hk1, e1⟩⟩ := ex_math_v hs
      · cases e1
        exact va_mmax hx hb (hml.trans hl.1.symm) hown (hts _ k1) (hts _ k2) (hts _ k3) (hts _ k4) hRf (by rw [ex_wm]; omega) (by have : h.1.length ≤ R.cells + n0 := hm1; have : cells + n0 = h.1.length := hc; omega) (by have : h.2 ≤ R.slots + s0 := hm2; have : slots + s0 = h.2 := hsl; omega) hdg (kk H ls locs cells slots hA)
      · cases hk1
    · subst hx0
      rw [show Nat.beq 1000002 1000000 = false from rfl, show Nat.blt 1000000 1000002 = true from rfl] at hs
      simp only [cond_false, cond_true] at hs
      obtain ⟨b, a, r, hw, rfl, ⟨hk1, e1⟩ | ⟨hk1, e1⟩⟩ := ex_math_v hs
      · cases hk1
      · cases e1
        exact va_mmin hx hb (hml.trans hl.1.symm) hown (hts _ k1) (hts _ k2) (hts _ k3) (hts _ k4) hRf (by rw [ex_wm]; omega) (by have : h.1.length ≤ R.cells + n0 := hm1; have : cells + n0 = h.1.length := hc; omega) (by have : h.2 ≤ R.slots + s0 := hm2; have : slots + s0 = h.2 := hsl; omega) hdg (kk H ls locs cells slots hA)
    · rw [show Nat.beq x 1000000 = false by cases hq : Nat.beq x 1000000 with | false => rfl | true => exact absurd (Nat.eq_of_beq_eq_true hq) (by omega), ex_blt (show ¬ 1000000 < x by omega)] at hs
      simp only [cond_false] at hs
      cases hq : (Nat.ble (ex_w (st.drop y)) 8 && Nat.beq (st.take y).length y) with
      | false => rw [hq] at hs; cases hs
      | true => rw [hq] at hs; cases hs
  | invokevirtual i =>
    obtain ⟨hdg, hnx⟩ : decode cc pc = .ok (.invokevirtual i, 3) ∧ nx = pc + 3 := hd
    subst hnx
    replace hs : ex_callV g x y z (pc + 3) lv st h = some (.inl f) := hs
    unfold ex_callV at hs
    split at hs
    · split at hs
      · rename_i b r hdr _ cj fs hg
        cases hq : (Nat.beq z cj && Nat.ble (ex_w r) 8 && Nat.beq (st.take y).length y) with
        | false => rw [hq] at hs; cases hs
        | true => rw [hq] at hs; cases hs
      · cases hs
    · cases hs
  | ireturn =>
    replace hs : ex_ret rt st h = some (.inl f) := hs
    unfold ex_ret at hs
    split at hs
    · cases hs
    · rename_i v
      cases hq : (v == 0 || v == 1) with
      | false => rw [hq] at hs; cases hs
      | true => rw [hq] at hs; cases hs
    · rename_i v
      cases hq : decide (narrow .char (.int v) = .int v) with
      | false => rw [hq] at hs; cases hs
      | true => rw [hq] at hs; cases hs
    · rename_i v
      cases hq : decide (narrow .byte (.int v) = .int v) with
      | false => rw [hq] at hs; cases hs
      | true => rw [hq] at hs; cases hs
    · cases hs
  | lreturn =>
    replace hs : ex_lret rt st h = some (.inl f) := hs
    unfold ex_lret at hs
    split at hs
    · cases hs
    · cases hs
  | areturn =>
    replace hs : ex_aret rt st h = some (.inl f) := hs
    unfold ex_aret at hs
    split at hs
    · cases hs
    · cases hs
  | return_ =>
    replace hs : ex_vret rt st h = some (.inl f) := hs
    unfold ex_vret at hs
    split at hs
    · cases hs
    · cases hs
  | _ => cases (show (none : Option ex_O) = some (.inl f) from hs)
end EXN
end
section
/-! ===== returns, calls, the loop: what the interpreter runs, the machine runs ===== -/
def ex_isR (i : Instr) : Nat := match i with
  | .ireturn => 1
  | .lreturn => 2
  | .areturn => 3
  | .return_ => 4
  | _ => 0
def ex_isC (i : Instr) : Nat := match i with
  | .invokevirtual _ => 1
  | .invokespecial _ => 2
  | .invokestatic _ => 3
  | _ => 0
section EXR
variable {g : ex_G} {nL : Nat} {rt : Option FieldType} {pc nx x y z : Nat} {lv : ex_V} {st : List Value} {h : ex_H} {q : ex_O}
def ex_kd (ins : Instr) (h : ex_H) (q : ex_O) : Prop :=
  (∃ f : ex_F, q = .inl f ∧ h.1.length ≤ f.2.2.2.1.length ∧ h.2 ≤ f.2.2.2.2) ∨ (∃ r : Option Value, q = .inr (.inl (r, h)) ∧ ¬ ex_isR ins = 0) ∨ (∃ (k : Nat) (as : List Value) (f : ex_F), q = .inr (.inr (k, as, f)) ∧ f.2.2.2 = h ∧ ¬ ex_isC ins = 0)
theorem ex_kd_go {ins : Instr} {f : ex_F} (e : q = .inl f) (h1 : f.2.2.2 = h) : ex_kd ins h q := Or.inl ⟨f, e, by rw [h1]; exact Nat.le_refl _, by rw [h1]; exact Nat.le_refl _⟩
theorem ex_kd_set {ins : Instr} {a : Nat} {v : ex_V} {r : List Value} {i : Nat} {c : ex_C} (e : q = .inl (a, v, r, ex_set g h i c)) : ex_kd ins h q := Or.inl ⟨_, e, by show h.1.length ≤ (ex_lset h.1 _ _).length; rw [ex_lset_eq, List.length_set]; exact Nat.le_refl _, Nat.le_refl _⟩
theorem ex_kd_new {ins : Instr} {a n : Nat} {v : ex_V} {r : List Value} {c : ex_C} (e : q = .inl (a, v, r, (h.1 ++ [c], h.2 + n))) : ex_kd ins h q := Or.inl ⟨_, e, by show h.1.length ≤ (h.1 ++ [c]).length; rw [List.length_append]; exact Nat.le_add_right _ _, Nat.le_add_right _ _⟩
theorem ex_callV_v {k n ci : Nat} (hq : ex_callV g k n ci nx lv st h = some q) : ∃ (A : List Value) (b : Nat) (r fs : List Value), st = A ++ .ref b :: r ∧ A.length = n ∧ ex_get g h b = some (.inl (ci, fs)) ∧ ex_w r ≤ 8 ∧ q = .inr (.inr (k, .ref b :: A.reverse, (nx, lv, r, h))) := by
  unfold ex_callV at hq
  split at hq
  · rename_i b r hdr
    split at hq
    · rename_i cj fs hg
      cases hb : (Nat.beq ci cj && Nat.ble (ex_w r) 8 && Nat.beq (st.take n).length n) with
      | false => rw [hb] at hq; cases hq
      | true =>
        rw [hb] at hq
        cases hq
        rw [Bool.and_eq_true, Bool.and_eq_true] at hb
        have e := Nat.eq_of_beq_eq_true hb.1.1
        subst e
        exact ⟨st.take n, b, r, fs, by rw [← hdr, List.take_append_drop], Nat.eq_of_beq_eq_true hb.2, hg, Nat.le_of_ble_eq_true hb.1.2, rfl⟩
    · cases hq
  · cases hq
theorem ex_callI_v {k n : Nat} (hk : ¬ k = 1000000) (hq : ex_callI k n nx lv st h = some q) : ∃ (A : List Value) (b : Nat) (r : List Value), st = A ++ .ref b :: r ∧ A.length = n ∧ ex_w r ≤ 8 ∧ q = .inr (.inr (k, .ref b :: A.reverse, (nx, lv, r, h))) := by
  unfold ex_callI at hq
  have hb0 : Nat.beq k 1000000 = false := by
    cases hb : Nat.beq k 1000000 with
    | false => rfl
    | true => exact absurd (Nat.eq_of_beq_eq_true hb) hk
  rw [hb0] at hq
  simp only [cond_false] at hq
  split at hq
  · rename_i b r hdr
    cases hb : (Nat.ble (ex_w r) 8 && Nat.beq (st.take n).length n) with
    | false => rw [hb] at hq; cases hq
    | true =>
      rw [hb] at hq
      cases hq
      rw [Bool.and_eq_true] at hb
      exact ⟨st.take n, b, r, by rw [← hdr, List.take_append_drop], Nat.eq_of_beq_eq_true hb.2, Nat.le_of_ble_eq_true hb.1, rfl⟩
  · cases hq
theorem ex_callI_go {n : Nat} (hq : ex_callI 1000000 n nx lv st h = some q) : ∃ (a : Nat) (r : List Value), st = .ref a :: r ∧ ex_w r ≤ 8 ∧ q = .inl (nx, lv, r, h) := by
  unfold ex_callI at hq
  rw [show Nat.beq 1000000 1000000 = true from rfl] at hq
  simp only [cond_true] at hq
  split at hq
  · rename_i a r
    cases hb : Nat.ble (ex_w r) 8 with
    | false => rw [hb] at hq; cases hq
    | true => rw [hb] at hq; cases hq; exact ⟨a, r, rfl, Nat.le_of_ble_eq_true hb, rfl⟩
  · cases hq
theorem ex_callS_v {k n : Nat} (hk : k < 1000000) (hq : ex_callS g k n nx lv st h = some q) : ∃ (A r : List Value), st = A ++ r ∧ A.length = n ∧ ex_w r ≤ 8 ∧ q = .inr (.inr (k, A.reverse, (nx, lv, r, h))) := by
  unfold ex_callS at hq
  have hb0 : Nat.beq k 1000000 = false := by
    cases hb : Nat.beq k 1000000 with
    | false => rfl
    | true => exact absurd (Nat.eq_of_beq_eq_true hb) (by omega)
  rw [hb0, ex_blt (show ¬ 1000000 < k by omega)] at hq
  simp only [cond_false] at hq
  cases hb : (Nat.ble (ex_w (st.drop n)) 8 && Nat.beq (st.take n).length n) with
  | false => rw [hb] at hq; cases hq
  | true =>
    rw [hb] at hq
    cases hq
    rw [Bool.and_eq_true] at hb
    exact ⟨st.take n, st.drop n, (List.take_append_drop n st).symm, Nat.eq_of_beq_eq_true hb.2, Nat.le_of_ble_eq_true hb.1, rfl⟩
theorem ex_callS_go {n : Nat} (hq : ex_callS g 1000000 n nx lv st h = some q) : ex_cpy g nx lv st h = some q := hq
theorem ex_callS_math {k n : Nat} (hk : 1000000 < k) (hq : ex_callS g k n nx lv st h = some q) : ex_math k nx lv st h = some q := by
  unfold ex_callS at hq
  have hb0 : Nat.beq k 1000000 = false := by
    cases hb : Nat.beq k 1000000 with
    | false => rfl
    | true => exact absurd (Nat.eq_of_beq_eq_true hb) (by omega)
  rw [hb0, Nat.blt_eq.mpr hk] at hq
  exact hq
theorem ex_ret_v (hq : ex_ret rt st h = some q) : ∃ (v : Int32) (ty : FieldType), rt = some ty ∧ st = [.int v] ∧ narrow ty (.int v) = .int v ∧ q = .inr (.inl (some (.int v), h)) := by
  unfold ex_ret at hq
  split at hq
  · rename_i v
    cases hq
    exact ⟨v, _, rfl, rfl, rfl, rfl⟩
  · rename_i v
    cases hb : (v == 0 || v == 1) with
    | false => rw [hb] at hq; cases hq
    | true =>
      rw [hb] at hq
      cases hq
      refine ⟨v, _, rfl, rfl, ?_, rfl⟩
      rw [Bool.or_eq_true] at hb
      rcases hb with hb | hb
      · have e : v = 0 := by simpa using hb
        subst e
        rfl
      · have e : v = 1 := by simpa using hb
        subst e
        rfl
  · rename_i v
    cases hb : decide (narrow .char (.int v) = .int v) with
    | false => rw [hb] at hq; cases hq
    | true => rw [hb] at hq; cases hq; exact ⟨v, _, rfl, rfl, of_decide_eq_true hb, rfl⟩
  · rename_i v
    cases hb : decide (narrow .byte (.int v) = .int v) with
    | false => rw [hb] at hq; cases hq
    | true => rw [hb] at hq; cases hq; exact ⟨v, _, rfl, rfl, of_decide_eq_true hb, rfl⟩
  · cases hq
theorem ex_lret_v (hq : ex_lret rt st h = some q) : ∃ v : Int64, rt = some .long ∧ st = [.long v] ∧ q = .inr (.inl (some (.long v), h)) := by
  unfold ex_lret at hq
  split at hq
  · cases hq; exact ⟨_, rfl, rfl, rfl⟩
  · cases hq
theorem ex_aret_v (hq : ex_aret rt st h = some q) : ∃ (v : Nat) (C : String), rt = some (.object C) ∧ st = [.ref v] ∧ q = .inr (.inl (some (.ref v), h)) := by
  unfold ex_aret at hq
  split at hq
  · cases hq; exact ⟨_, _, rfl, rfl, rfl⟩
  · cases hq
theorem ex_vret_v (hq : ex_vret rt st h = some q) : rt = none ∧ st = [] ∧ q = .inr (.inl (none, h)) := by
  unfold ex_vret at hq
  split at hq
  · cases hq; exact ⟨rfl, rfl, rfl⟩
  · cases hq
set_option maxHeartbeats 4000000 in
/-- an instruction goes on, or returns, or calls; the heap doesn't shrink -/
theorem ex_kind {ins : Instr} (hs : ex_step g nL rt (ins, x, y, z, nx) pc lv st h = some q) : ex_kd ins h q := by
  cases ins with
  | iconst n =>
    cases (show ex_go nx lv (.int (Int32.ofInt n) :: st) h = some q from hs)
    exact ex_kd_go rfl rfl
  | bipush n =>
    cases (show ex_go nx lv (.int (Int8.ofInt n).toInt32 :: st) h = some q from hs)
    exact ex_kd_go rfl rfl
  | sipush n =>
    cases (show ex_go nx lv (.int (Int16.ofInt n).toInt32 :: st) h = some q from hs)
    exact ex_kd_go rfl rfl
  | lconst n =>
    cases (show ex_go nx lv (.long (Int64.ofNat (n : Nat)) :: st) h = some q from hs)
    exact ex_kd_go rfl rfl
  | ldc2_w i =>
    cases (show ex_go nx lv (.long (Int64.ofNat x) :: st) h = some q from hs)
    exact ex_kd_go rfl rfl
  | ldc i =>
    have hs : ex_ldc x y nx lv st h = some q := hs
    unfold ex_ldc at hs
    cases hb : Nat.beq y 0 with
    | true => rw [hb] at hs; cases (show some _ = some q from hs); exact ex_kd_go rfl rfl
    | false =>
      rw [hb] at hs
      simp only [cond_false] at hs
      cases hb1 : Nat.beq y 1 with
      | true => rw [hb1] at hs; cases (show some _ = some q from hs); exact ex_kd_go rfl rfl
      | false => rw [hb1] at hs; cases (show some _ = some q from hs); exact ex_kd_go rfl rfl
  | ldc_w i =>
    have hs : ex_ldc x y nx lv st h = some q := hs
    unfold ex_ldc at hs
    cases hb : Nat.beq y 0 with
    | true => rw [hb] at hs; cases (show some _ = some q from hs); exact ex_kd_go rfl rfl
    | false =>
      rw [hb] at hs
      simp only [cond_false] at hs
      cases hb1 : Nat.beq y 1 with
      | true => rw [hb1] at hs; cases (show some _ = some q from hs); exact ex_kd_go rfl rfl
      | false => rw [hb1] at hs; cases (show some _ = some q from hs); exact ex_kd_go rfl rfl
  | getstatic i =>
    have hs : ex_ldc x y nx lv st h = some q := hs
    unfold ex_ldc at hs
    cases hb : Nat.beq y 0 with
    | true => rw [hb] at hs; cases (show some _ = some q from hs); exact ex_kd_go rfl rfl
    | false =>
      rw [hb] at hs
      simp only [cond_false] at hs
      cases hb1 : Nat.beq y 1 with
      | true => rw [hb1] at hs; cases (show some _ = some q from hs); exact ex_kd_go rfl rfl
      | false => rw [hb1] at hs; cases (show some _ = some q from hs); exact ex_kd_go rfl rfl
  | iload_n k =>
    obtain ⟨_, _, e1⟩ := ex_ild_v (show ex_ild k nx lv st h = some q from hs)
    exact ex_kd_go e1 rfl
  | iload k =>
    obtain ⟨_, _, e1⟩ := ex_ild_v (show ex_ild k nx lv st h = some q from hs)
    exact ex_kd_go e1 rfl
  | lload_n k =>
    obtain ⟨_, _, e1⟩ := ex_lld1_v (show ex_lld1 k nx lv st h = some q from hs)
    exact ex_kd_go e1 rfl
  | lload k =>
    obtain ⟨_, _, e1⟩ := ex_lld1_v (show ex_lld1 k nx lv st h = some q from hs)
    exact ex_kd_go e1 rfl
  | aload_n k =>
    obtain ⟨_, _, e1⟩ := ex_ald_v (show ex_ald k nx lv st h = some q from hs)
    exact ex_kd_go e1 rfl
  | aload k =>
    obtain ⟨_, _, e1⟩ := ex_ald_v (show ex_ald k nx lv st h = some q from hs)
    exact ex_kd_go e1 rfl
  | istore_n k =>
    obtain ⟨_, _, _, _, e1⟩ := ex_ist_v (show ex_ist nL k nx lv st h = some q from hs)
    exact ex_kd_go e1 rfl
  | istore k =>
    obtain ⟨_, _, _, _, e1⟩ := ex_ist_v (show ex_ist nL k nx lv st h = some q from hs)
    exact ex_kd_go e1 rfl
  | lstore_n k =>
    obtain ⟨_, _, _, _, e1⟩ := ex_lst_v (show ex_lst nL k nx lv st h = some q from hs)
    exact ex_kd_go e1 rfl
  | lstore k =>
    obtain ⟨_, _, _, _, e1⟩ := ex_lst_v (show ex_lst nL k nx lv st h = some q from hs)
    exact ex_kd_go e1 rfl
  | astore_n k =>
    obtain ⟨_, _, _, _, e1⟩ := ex_ast_v (show ex_ast nL k nx lv st h = some q from hs)
    exact ex_kd_go e1 rfl
  | astore k =>
    obtain ⟨_, _, _, _, e1⟩ := ex_ast_v (show ex_ast nL k nx lv st h = some q from hs)
    exact ex_kd_go e1 rfl
  | iinc k n =>
    obtain ⟨_, _, _, e1⟩ := ex_inc_v (show ex_inc nL k n nx lv st h = some q from hs)
    exact ex_kd_go e1 rfl
  | iadd =>
    obtain ⟨_, _, _, _, e1⟩ := ex_ii_v (show ex_ii ex_add nx lv st h = some q from hs)
    exact ex_kd_go e1 rfl
  | isub =>
    obtain ⟨_, _, _, _, e1⟩ := ex_ii_v (show ex_ii ex_sub nx lv st h = some q from hs)
    exact ex_kd_go e1 rfl
  | imul =>
    obtain ⟨_, _, _, _, e1⟩ := ex_ii_v (show ex_ii (fun x y => x * y) nx lv st h = some q from hs)
    exact ex_kd_go e1 rfl
  | iand =>
    obtain ⟨_, _, _, _, e1⟩ := ex_ii_v (show ex_ii (fun x y => x &&& y) nx lv st h = some q from hs)
    exact ex_kd_go e1 rfl
  | ior =>
    obtain ⟨_, _, _, _, e1⟩ := ex_ii_v (show ex_ii (fun x y => x ||| y) nx lv st h = some q from hs)
    exact ex_kd_go e1 rfl
  | ixor =>
    obtain ⟨_, _, _, _, e1⟩ := ex_ii_v (show ex_ii (fun x y => x ^^^ y) nx lv st h = some q from hs)
    exact ex_kd_go e1 rfl
  | ishl =>
    obtain ⟨_, _, _, _, e1⟩ := ex_ii_v (show ex_ii (fun x y => x <<< (y &&& 31)) nx lv st h = some q from hs)
    exact ex_kd_go e1 rfl
  | ishr =>
    obtain ⟨_, _, _, _, e1⟩ := ex_ii_v (show ex_ii (fun x y => x >>> (y &&& 31)) nx lv st h = some q from hs)
    exact ex_kd_go e1 rfl
  | iushr =>
    obtain ⟨_, _, _, _, e1⟩ := ex_ii_v (show ex_ii (fun x y => (x.toUInt32 >>> (y.toUInt32 &&& Int32.toUInt32 31)).toInt32) nx lv st h = some q from hs)
    exact ex_kd_go e1 rfl
  | idiv =>
    obtain ⟨_, _, _, _, _, e1⟩ := ex_iid_v (show ex_iid (fun x y => x / y) nx lv st h = some q from hs)
    exact ex_kd_go e1 rfl
  | irem =>
    obtain ⟨_, _, _, _, _, e1⟩ := ex_iid_v (show ex_iid (fun x y => x - x / y * y) nx lv st h = some q from hs)
    exact ex_kd_go e1 rfl
  | ladd =>
    obtain ⟨_, _, _, _, e1⟩ := ex_ll_v (show ex_ll (fun x y => x + y) nx lv st h = some q from hs)
    exact ex_kd_go e1 rfl
  | lsub =>
    obtain ⟨_, _, _, _, e1⟩ := ex_ll_v (show ex_ll (fun x y => x - y) nx lv st h = some q from hs)
    exact ex_kd_go e1 rfl
  | lmul =>
    obtain ⟨_, _, _, _, e1⟩ := ex_ll_v (show ex_ll (fun x y => x * y) nx lv st h = some q from hs)
    exact ex_kd_go e1 rfl
  | land =>
    obtain ⟨_, _, _, _, e1⟩ := ex_ll_v (show ex_ll (fun x y => x &&& y) nx lv st h = some q from hs)
    exact ex_kd_go e1 rfl
  | lor =>
    obtain ⟨_, _, _, _, e1⟩ := ex_ll_v (show ex_ll (fun x y => x ||| y) nx lv st h = some q from hs)
    exact ex_kd_go e1 rfl
  | lxor =>
    obtain ⟨_, _, _, _, e1⟩ := ex_ll_v (show ex_ll (fun x y => x ^^^ y) nx lv st h = some q from hs)
    exact ex_kd_go e1 rfl
  | ldiv =>
    obtain ⟨_, _, _, _, _, e1⟩ := ex_lld_v (show ex_lld (fun x y => x / y) nx lv st h = some q from hs)
    exact ex_kd_go e1 rfl
  | lrem =>
    obtain ⟨_, _, _, _, _, e1⟩ := ex_lld_v (show ex_lld (fun x y => x - x / y * y) nx lv st h = some q from hs)
    exact ex_kd_go e1 rfl
  | lshl =>
    obtain ⟨_, _, _, _, e1⟩ := ex_li_v (show ex_li (fun x y => x <<< (y.toInt64 &&& 63)) nx lv st h = some q from hs)
    exact ex_kd_go e1 rfl
  | lshr =>
    obtain ⟨_, _, _, _, e1⟩ := ex_li_v (show ex_li (fun x y => x >>> (y.toInt64 &&& 63)) nx lv st h = some q from hs)
    exact ex_kd_go e1 rfl
  | lushr =>
    obtain ⟨_, _, _, _, e1⟩ := ex_li_v (show ex_li (fun x y => (x.toUInt64 >>> (y.toInt64.toUInt64 &&& Int64.toUInt64 63)).toInt64) nx lv st h = some q from hs)
    exact ex_kd_go e1 rfl
  | ineg =>
    obtain ⟨_, _, _, e1⟩ := ex_i_v (show ex_i (fun x => .int (-x)) nx lv st h = some q from hs)
    exact ex_kd_go e1 rfl
  | i2l =>
    obtain ⟨_, _, _, e1⟩ := ex_i_v (show ex_i (fun x => .long x.toInt64) nx lv st h = some q from hs)
    exact ex_kd_go e1 rfl
  | i2b =>
    obtain ⟨_, _, _, e1⟩ := ex_i_v (show ex_i (fun x => .int x.toInt8.toInt32) nx lv st h = some q from hs)
    exact ex_kd_go e1 rfl
  | i2c =>
    obtain ⟨_, _, _, e1⟩ := ex_i_v (show ex_i (fun x => .int (x.toUInt32 % 65536).toInt32) nx lv st h = some q from hs)
    exact ex_kd_go e1 rfl
  | lneg =>
    obtain ⟨_, _, _, e1⟩ := ex_l_v (show ex_l (fun x => .long (-x)) nx lv st h = some q from hs)
    exact ex_kd_go e1 rfl
  | l2i =>
    obtain ⟨_, _, _, e1⟩ := ex_l_v (show ex_l (fun x => .int x.toInt32) nx lv st h = some q from hs)
    exact ex_kd_go e1 rfl
  | lcmp =>
    obtain ⟨_, _, _, _, e1⟩ := ex_lc_v (show ex_lc nx lv st h = some q from hs)
    exact ex_kd_go e1 rfl
  | ifCond cnd off =>
    cases cnd with
    | eq =>
      obtain ⟨_, _, _, ⟨_, e1⟩ | ⟨_, e1⟩⟩ := ex_if_v (show ex_if ex_eq0 x nx lv st h = some q from hs) <;> exact ex_kd_go e1 rfl
    | ne =>
      obtain ⟨_, _, _, ⟨_, e1⟩ | ⟨_, e1⟩⟩ := ex_if_v (show ex_if ex_ne0 x nx lv st h = some q from hs) <;> exact ex_kd_go e1 rfl
    | lt =>
      obtain ⟨_, _, _, ⟨_, e1⟩ | ⟨_, e1⟩⟩ := ex_if_v (show ex_if ex_lt0 x nx lv st h = some q from hs) <;> exact ex_kd_go e1 rfl
    | ge =>
      obtain ⟨_, _, _, ⟨_, e1⟩ | ⟨_, e1⟩⟩ := ex_if_v (show ex_if ex_ge0 x nx lv st h = some q from hs) <;> exact ex_kd_go e1 rfl
    | gt =>
      obtain ⟨_, _, _, ⟨_, e1⟩ | ⟨_, e1⟩⟩ := ex_if_v (show ex_if ex_gt0 x nx lv st h = some q from hs) <;> exact ex_kd_go e1 rfl
    | le =>
      obtain ⟨_, _, _, ⟨_, e1⟩ | ⟨_, e1⟩⟩ := ex_if_v (show ex_if ex_le0 x nx lv st h = some q from hs) <;> exact ex_kd_go e1 rfl
  | if_icmp cnd off =>
    cases cnd with
    | eq =>
      obtain ⟨_, _, _, _, ⟨_, e1⟩ | ⟨_, e1⟩⟩ := ex_ic_v (show ex_ic ex_eq x nx lv st h = some q from hs) <;> exact ex_kd_go e1 rfl
    | ne =>
      obtain ⟨_, _, _, _, ⟨_, e1⟩ | ⟨_, e1⟩⟩ := ex_ic_v (show ex_ic ex_ne x nx lv st h = some q from hs) <;> exact ex_kd_go e1 rfl
    | lt =>
      obtain ⟨_, _, _, _, ⟨_, e1⟩ | ⟨_, e1⟩⟩ := ex_ic_v (show ex_ic ex_lt x nx lv st h = some q from hs) <;> exact ex_kd_go e1 rfl
    | ge =>
      obtain ⟨_, _, _, _, ⟨_, e1⟩ | ⟨_, e1⟩⟩ := ex_ic_v (show ex_ic ex_ge x nx lv st h = some q from hs) <;> exact ex_kd_go e1 rfl
    | gt =>
      obtain ⟨_, _, _, _, ⟨_, e1⟩ | ⟨_, e1⟩⟩ := ex_ic_v (show ex_ic ex_gt x nx lv st h = some q from hs) <;> exact ex_kd_go e1 rfl
    | le =>
      obtain ⟨_, _, _, _, ⟨_, e1⟩ | ⟨_, e1⟩⟩ := ex_ic_v (show ex_ic ex_le x nx lv st h = some q from hs) <;> exact ex_kd_go e1 rfl
  | goto off =>
    cases (show ex_go x lv st h = some q from hs)
    exact ex_kd_go rfl rfl
  | tableswitch d lo hi offs =>
    obtain ⟨_, _, _, ⟨_, _, _, e1⟩ | ⟨_, _, _, _, _, e1⟩⟩ := ex_tsw_v (show ex_tsw d lo hi offs pc lv st h = some q from hs) <;> exact ex_kd_go e1 rfl
  | lookupswitch d ps =>
    obtain ⟨_, _, _, _, _, e1⟩ := ex_lsw_v (show ex_lsw d ps pc lv st h = some q from hs)
    exact ex_kd_go e1 rfl
  | dup =>
    obtain ⟨_, _, _, _, e1⟩ := ex_dup_v (show ex_dup nx lv st h = some q from hs)
    exact ex_kd_go e1 rfl
  | pop =>
    obtain ⟨_, _, _, _, e1⟩ := ex_pop_v (show ex_pop nx lv st h = some q from hs)
    exact ex_kd_go e1 rfl
  | dup_x1 =>
    obtain ⟨_, _, _, _, _, _, e1⟩ := ex_dupx1_v (show ex_dupx1 nx lv st h = some q from hs)
    exact ex_kd_go e1 rfl
  | dup2 =>
    obtain ⟨_, _, _, _, ⟨_, e1⟩ | ⟨_, _, e1⟩⟩ := ex_dup2_v (show ex_dup2 nx lv st h = some q from hs) <;> exact ex_kd_go e1 rfl
  | getfield i =>
    obtain ⟨_, _, _, _, _, _, _, e1⟩ := ex_gf_v (show ex_gf g x y nx lv st h = some q from hs)
    exact ex_kd_go e1 rfl
  | putfield i =>
    obtain ⟨_, _, _, _, _, _, _, _, _, _, e1⟩ := ex_pf_v (show ex_pf g (ex_ft x) x y nx lv st h = some q from hs)
    exact ex_kd_set e1
  | arraylength =>
    obtain ⟨_, _, _, _, _, _, _, _, e1⟩ := ex_len_v (show ex_len g nx lv st h = some q from hs)
    exact ex_kd_go e1 rfl
  | iaload =>
    obtain ⟨_, _, _, _, _, _, _, _, _, _, e1⟩ := ex_xld_v (show ex_xld g 0 0 nx lv st h = some q from hs)
    exact ex_kd_go e1 rfl
  | baload =>
    obtain ⟨_, _, _, _, _, _, _, _, _, _, e1⟩ := ex_xld_v (show ex_xld g 1 2 nx lv st h = some q from hs)
    exact ex_kd_go e1 rfl
  | laload =>
    obtain ⟨_, _, _, _, _, _, _, _, e1⟩ := ex_xlld_v (show ex_xlld g nx lv st h = some q from hs)
    exact ex_kd_go e1 rfl
  | aaload =>
    obtain ⟨_, _, _, _, _, _, _, _, _, _, e1⟩ := ex_xald_v (show ex_xald g nx lv st h = some q from hs)
    exact ex_kd_go e1 rfl
  | iastore =>
    obtain ⟨_, _, _, _, _, _, _, _, _, e1⟩ := ex_xst_v (show ex_xst g nx lv st h = some q from hs)
    exact ex_kd_set e1
  | lastore =>
    obtain ⟨_, _, _, _, _, _, _, _, _, e1⟩ := ex_xlst_v (show ex_xlst g nx lv st h = some q from hs)
    exact ex_kd_set e1
  | bastore =>
    obtain ⟨_, _, _, _, _, _, _, _, ⟨_, e1⟩ | ⟨_, e1⟩⟩ := ex_xbst_v (show ex_xbst g nx lv st h = some q from hs) <;> exact ex_kd_set e1
  | aastore =>
    obtain ⟨_, _, _, _, _, _, _, _, _, _, _, _, e1⟩ := ex_xast_v (show ex_xast g nx lv st h = some q from hs)
    exact ex_kd_set e1
  | new i =>
    cases (show ex_go nx lv (.ref (g.1 + h.1.length) :: st) (h.1 ++ [.inl (x, (ex_ft x).map defaultValue)], h.2 + (ex_ft x).length) = some q from hs)
    exact ex_kd_new rfl
  | newarray t =>
    obtain ⟨_, _, _, _, _, _, _, _, e1⟩ := ex_newa_v (show ex_newa g t nx lv st h = some q from hs)
    exact ex_kd_new e1
  | anewarray i =>
    obtain ⟨_, _, _, _, _, e1⟩ := ex_newq_v (show ex_newq g nx lv st h = some q from hs)
    exact ex_kd_new e1
  | ireturn =>
    obtain ⟨_, _, _, _, _, e1⟩ := ex_ret_v (show ex_ret rt st h = some q from hs)
    exact Or.inr (Or.inl ⟨_, e1, by decide⟩)
  | lreturn =>
    obtain ⟨_, _, _, e1⟩ := ex_lret_v (show ex_lret rt st h = some q from hs)
    exact Or.inr (Or.inl ⟨_, e1, by decide⟩)
  | areturn =>
    obtain ⟨_, _, _, _, e1⟩ := ex_aret_v (show ex_aret rt st h = some q from hs)
    exact Or.inr (Or.inl ⟨_, e1, by decide⟩)
  | return_ =>
    obtain ⟨_, _, e1⟩ := ex_vret_v (show ex_vret rt st h = some q from hs)
    exact Or.inr (Or.inl ⟨_, e1, by decide⟩)
  | invokevirtual i =>
    obtain ⟨_, _, _, _, _, _, _, _, e1⟩ := ex_callV_v (show ex_callV g x y z nx lv st h = some q from hs)
    exact Or.inr (Or.inr ⟨_, _, _, e1, rfl, by show ¬ 1 = 0; decide⟩)
  | invokespecial i =>
    by_cases hx : x = 1000000
    · subst hx
      obtain ⟨_, _, _, _, e1⟩ := ex_callI_go (show ex_callI 1000000 y nx lv st h = some q from hs)
      exact ex_kd_go e1 rfl
    · obtain ⟨_, _, _, _, _, _, e1⟩ := ex_callI_v hx (show ex_callI x y nx lv st h = some q from hs)
      exact Or.inr (Or.inr ⟨_, _, _, e1, rfl, by show ¬ 2 = 0; decide⟩)
  | invokestatic i =>
    by_cases hx : x = 1000000
    · subst hx
      obtain ⟨_, _, _, _, _, _, _, _, _, _, _, _, _, _, _, _, _, _, _, _, e1⟩ := ex_cpy_v (ex_callS_go (show ex_callS g 1000000 y nx lv st h = some q from hs))
      exact ex_kd_go e1 rfl
    · by_cases hx2 : 1000000 < x
      · obtain ⟨_, _, _, _, _, ⟨_, e1⟩ | ⟨_, e1⟩⟩ := ex_math_v (ex_callS_math hx2 (show ex_callS g x y nx lv st h = some q from hs)) <;> exact ex_kd_go e1 rfl
      · obtain ⟨_, _, _, _, _, e1⟩ := ex_callS_v (by omega) (show ex_callS g x y nx lv st h = some q from hs)
        exact Or.inr (Or.inr ⟨_, _, _, e1, rfl, by show ¬ 3 = 0; decide⟩)
  | _ => cases (show (none : Option ex_O) = some q from hs)
end EXR
/-- what a run leaves: its answer, its cells, all else as it was -/
def ex_Qc (g : ex_G) (o : ex_P) (r : Option Value) (h : ex_H) : Array Value → State → Outcome → State → Prop := fun _ st oc t => oc = .returned (r.map (ex_cv g o)) ∧ ex_Wd g o h t.heap ∧ va_F (ex_A o) st t
/-- what a run begins with -/
def ex_St (g : ex_G) (o : ex_P) (h : ex_H) (U : State) : Prop := va_K o.1 ex_cl (ex_tys o) U ∧ ex_X g o U U.heap ∧ ex_Wd g o h U.heap
def ex_ws (M : ex_M) : List Cond := Jvm.Cond.code M.1 M.2.1 M.2.2.1 M.2.2.2.1 :: ex_wall
def ex_rm (d mc ms : Nat) : Room := { frames := d, cells := mc, slots := ms, locals := 60 * d }
theorem ex_blind {g : ex_G} {o : ex_P} {h : ex_H} {av : List Value} : FrameBlind (va_Pc av (ex_St g o h)) := fun a U gf mk q =>
  ⟨q.1, va_K.moved (u := U) (U := U.calling gf mk a) (Vm.Alike.refl U.vm) q.2.1, ex_X.same (s := U) (U := U.calling gf mk a) rfl q.2.2.1, q.2.2.2⟩
theorem ex_gi {ws : List Cond} (h : ∀ w ∈ ws, w ∈ ex_wall) : GoodIn ex_wall ws := fun w hw => ⟨h w hw, ex_wall_good w (h w hw)⟩
section EXC
variable {p : Program} {l : Launch} {e : Env} {R : Room} {s : State} {m : MethodId} {args : Array Value} {below : List Frame} {meth : Method} {c : Code} {H : Heap} {locs : List Loc} {cells slots : Nat} {Q : State → Prop}
variable {cc : ByteArray} {pc : Nat} {ls : Array Slot} {rest : List Value} {g : ex_G} {o : ex_P} {nL n0 s0 : Nat} {rt : Option FieldType} {own mn : String} {h : ex_H}
/-- an instruction that returns -/
theorem ex_returns (C : ex_Cx g o p s m args meth c cc nL rt own mn R) {ins : Instr} {x y z nx : Nat} {lv : ex_V} {st : List Value} {r : Option Value} {h' : ex_H} (hd : ex_dec cc pc (ins, x, y, z, nx)) (hs : ex_step g nL rt (ins, x, y, z, nx) pc lv st h = some (.inr (.inl (r, h'))))
    (hA : ex_At g o nL n0 s0 s.heap (pc, lv, st, h) H ls locs cells slots) : h' = h ∧ W p l e R s m args below meth c H locs cells slots (MQ below (ex_Qc g o r h') args s cells slots (ex_A o)) (F0 m pc ls (st.map (ex_cv g o))) := by
  obtain ⟨hx, hb, hml, hown, hts, hK, hX, hlocks, hr, hmn, hco, hBs, hRf, hRl⟩ := C
  obtain ⟨hl, hW, hS, hc, hsl⟩ := id hA
  rcases ex_kind hs with ⟨f, e1, -⟩ | ⟨r1, e1, hR⟩ | ⟨k, as, f, e1, -⟩
  · cases e1
  · cases e1
    refine ⟨rfl, ?_⟩
    cases ins with
    | ireturn =>
      obtain ⟨v, ty, hty, rfl, hn, e1⟩ := ex_ret_v (show ex_ret rt st h = some (.inr (.inl (r, h))) from hs)
      cases e1
      subst hty
      exact W.zret hx hb hr hn (fun t ht _ => ⟨rfl, by rw [ht]; exact hW, hS.F ht⟩) hS.2.2 hd.1 hlocks
    | lreturn =>
      obtain ⟨v, hty, rfl, e1⟩ := ex_lret_v (show ex_lret rt st h = some (.inr (.inl (r, h))) from hs)
      cases e1
      subst hty
      exact W.lret hx hb hr (fun t ht _ => ⟨rfl, by rw [ht]; exact hW, hS.F ht⟩) hS.2.2 hd.1 hlocks
    | areturn =>
      obtain ⟨v, Cn, hty, rfl, e1⟩ := ex_aret_v (show ex_aret rt st h = some (.inr (.inl (r, h))) from hs)
      cases e1
      subst hty
      exact W.aret hx hb hr (Or.inl ⟨_, rfl⟩) (Or.inr ⟨_, rfl⟩) (fun t ht _ => ⟨rfl, by rw [ht]; exact hW, hS.F ht⟩) hS.2.2 hd.1 hlocks
    | return_ =>
      obtain ⟨hty, rfl, e1⟩ := ex_vret_v (show ex_vret rt st h = some (.inr (.inl (r, h))) from hs)
      cases e1
      subst hty
      exact W.vret hx hb hr (fun t ht _ => ⟨rfl, by rw [ht]; exact hW, hS.F ht⟩) hS.2.2 hd.1 hlocks
    | _ => exact absurd rfl hR
  · cases e1
theorem ex_back {mc ms : Nat} {r : Option Value} {h' : ex_H} {st0 : List Value} {a : Array Value} (hr : va_Run p l e R s m args below meth c H locs cells slots mc ms (F0 m pc ls st0) rest (ex_Qc g o r h' a) (ex_A o)) (hS : va_S (ex_A o) s.heap H locs)
    (kk : ∀ (H1 : Heap) (locs1 : List Loc), ex_Wd g o h' H1 → va_S (ex_A o) s.heap H1 locs1 → W p l e R s m args below meth c H1 locs1 (cells + mc) (slots + ms) Q (F0 m (pc + 3) ls ((r.map (ex_cv g o)).toList ++ rest))) : W p l e R s m args below meth c H locs cells slots Q (F0 m pc ls st0) := by
  intro T hT X
  obtain ⟨v, st₀, t, T', L, h0, X', hL, e1, e2, ⟨hv, hWd, hz, hk⟩, st⟩ := hr T hT X
  cases hv
  rw [h0] at hz hk
  obtain ⟨t2, a1, b1⟩ := kk T'.heap (locs ++ L) (by rw [e1]; exact hWd) ⟨Nat.le_trans hS.1 (by rw [e1]; exact hz), fun q h1 h2 => by rw [e1, hk q (Nat.lt_of_lt_of_le h1 hS.1) h2]; exact hS.2.1 q h1 h2, fun q hq => by
      rcases List.mem_append.mp hq with h | h
      · exact hS.2.2 q h
      · exact hL q h⟩ T' rfl X'
  exact ⟨t2, st t2 a1, b1⟩
theorem ex_pre (C : ex_Cx g o p s m args meth c cc nL rt own mn R) (hW : ex_Wd g o h H) (hS : va_S (ex_A o) s.heap H locs) (av : List Value) : ∀ U : State, U.heap = H → s.WarmedH U.vm → va_Pc av (ex_St g o h) av.toArray U := by
  obtain ⟨hx, hb, hml, hown, hts, hK, hX, hlocks, hr, hmn, hco, hBs, hRf, hRl⟩ := C
  intro U hU hWm
  exact ⟨rfl, va_K.moved hWm.alike hK, by rw [hU]; exact (hX.kept hS.2.1).warm hWm, by rw [hU]; exact hW⟩
theorem ex_stk (A : List Value) (b : Nat) (r : List Value) : (A ++ Value.ref b :: r).map (ex_cv g o) = ((A.reverse).map (ex_cv g o)).reverse ++ Value.ref (ex_ad g o b) :: r.map (ex_cv g o) := by
  rw [List.map_append, List.map_cons, List.map_reverse, List.reverse_reverse]
  rfl
theorem ex_stk0 (A r : List Value) : (A ++ r).map (ex_cv g o) = ((A.reverse).map (ex_cv g o)).reverse ++ r.map (ex_cv g o) := by
  rw [List.map_append, List.map_reverse, List.reverse_reverse]
/-- an instruction that calls -/
theorem ex_calls {P : Nat → Option ex_M} {d : Nat} (C : ex_Cx g o p s m args meth c cc nL rt own mn R) {ins : Instr} {x y z nx k : Nat} {lv : ex_V} {st as : List Value} {f : ex_F} {r : Option Value} {h' : ex_H} (hP : ∀ k M, P k = some M → ex_okM g P M) (hd : ex_dec cc pc (ins, x, y, z, nx)) (hk : ex_lk g P own mn pc (ins, x, y, z, nx)) (hs : ex_step g nL rt (ins, x, y, z, nx) pc lv st h = some (.inr (.inr (k, as, f))))
    (hA : ex_At g o nL n0 s0 s.heap (pc, lv, st, h) H ls locs cells slots) (hf : d + 1 ≤ R.frames) (hlo : 60 * (d + 1) ≤ R.locals) (hmc : h.1.length ≤ h'.1.length) (hms : h.2 ≤ h'.2) (hm1 : h'.1.length ≤ R.cells + n0) (hm2 : h'.2 ≤ R.slots + s0)
    (hM : ∀ M, P k = some M → Met l M.1 (ex_ws M) (ex_rm d (h'.1.length - h.1.length) (h'.2 - h.2)) (va_Pc (as.map (ex_cv g o)) (ex_St g o h)) (ex_Qc g o r h') (h'.1.length - h.1.length) (h'.2 - h.2) (ex_A o))
    (kk : ∀ (H1 : Heap) (locs1 : List Loc) (cells1 slots1 : Nat), ex_At g o nL n0 s0 s.heap (f.1, f.2.1, r.toList ++ f.2.2.1, h') H1 ls locs1 cells1 slots1 → W p l e R s m args below meth c H1 locs1 cells1 slots1 Q (F0 m f.1 ls ((r.toList ++ f.2.2.1).map (ex_cv g o)))) :
    W p l e R s m args below meth c H locs cells slots Q (F0 m pc ls (st.map (ex_cv g o))) := by
  have C0 := C
  obtain ⟨hx, hb, hml, hown, hts, hK, hX, hlocks, hr, hmn, hco, hBs, hRf, hRl⟩ := C
  obtain ⟨hl, hW, hS, hc, hsl⟩ := id hA
  have hc : cells + n0 = h.1.length := hc
  have hsl : slots + s0 = h.2 := hsl
  have hcells : cells + (h'.1.length - h.1.length) ≤ R.cells ∧ slots + (h'.2 - h.2) ≤ R.slots := ⟨by omega, by omega⟩
  have fin : f.1 = pc + 3 → f.2.1 = lv → ∀ (H1 : Heap) (locs1 : List Loc), ex_Wd g o h' H1 → va_S (ex_A o) s.heap H1 locs1 → W p l e R s m args below meth c H1 locs1 (cells + (h'.1.length - h.1.length)) (slots + (h'.2 - h.2)) Q (F0 m (pc + 3) ls ((r.map (ex_cv g o)).toList ++ f.2.2.1.map (ex_cv g o))) := by
    intro e1 e2 H1 locs1 hW1 hS1
    have h1 := kk H1 locs1 (cells + (h'.1.length - h.1.length)) (slots + (h'.2 - h.2)) ⟨by rw [e2]; exact hl, hW1, hS1, by show _ + _ + n0 = h'.1.length; omega, by show _ + _ + s0 = h'.2; omega⟩
    rw [e1, List.map_append] at h1
    cases r <;> exact h1
  have hrm : (ex_rm d (h'.1.length - h.1.length) (h'.2 - h.2)).frames + 1 ≤ R.frames := hf
  have S : CallFix p m c cc nL s args ex_wall own := ⟨hx, hb, hml, hown, hts⟩
  rcases ex_kind hs with ⟨f1, e1, -⟩ | ⟨r1, e1, -⟩ | ⟨k1, as1, f1, e1, -, hC⟩
  · cases e1
  · cases e1
  cases e1
  cases ins with
  | invokevirtual i =>
    obtain ⟨hdg, hnx⟩ : decode cc pc = .ok (.invokevirtual i, 3) ∧ nx = pc + 3 := hd
    subst hnx
    obtain ⟨A, b, rr, fs, rfl, hn, hg, hw, e1⟩ := ex_callV_v (show ex_callV g x y z (pc + 3) lv st h = some (.inr (.inr (k, as, f))) from hs)
    cases e1
    obtain ⟨M, hPM, hcls, k1, k2, k3, k4⟩ : ∃ M : ex_M, P x = some M ∧ M.1.cls = ex_cn z ∧ Jvm.Cond.methodLink own i M.1 ∈ ex_wall ∧ Jvm.Cond.instanceMethod M.1 ∈ ex_wall ∧ Jvm.Cond.selects M.1.cls M.1 M.1 ∈ ex_wall ∧ (parseMethodDescriptor M.1.desc).map (fun d => d.parameters.length) = some y := hk
    obtain ⟨-, m2, m3, m4, m5, -⟩ := hP x M hPM
    have hrecv : ∃ cellB : Cell, H[ex_ad g o b]? = some cellB ∧ cellB.vm.isStatics = false ∧ s.vm.findClass M.1.cls = some cellB.cls := by
      rw [hcls]
      rcases ex_get_spec hg with ⟨hlo1, hxt⟩ | hg
      · have e1 : ex_ad g o b = o.2.2.1 b := by unfold ex_ad; rw [if_pos hlo1]
        rw [e1]
        obtain ⟨hci, hO, -⟩ := hX.1 b _ hlo1 hxt
        obtain ⟨cell, g1, g2, g3, -⟩ := hO.kept hS.2.1
        subst hci
        exact ⟨cell, g1, g2, g3⟩
      · have hat := hW.at hg
        obtain ⟨r0, hc0, -⟩ := id hat
        rw [ex_cn_of hc0]
        exact va_recv hK (ex_one hat) hc0 (q0 := 0) rfl
    rw [ex_stk]
    exact ex_back (va_runV (As := (A.reverse).map (ex_cv g o)) (rest := rr.map (ex_cv g o)) S (hM M hPM)
      (cwV (C := M.1.cls) y hts (ex_gi (fun w hw => by
        unfold wsV ex_ws at hw
        simp only [List.mem_append, List.mem_cons, List.not_mem_nil, or_false] at hw
        rcases hw with (rfl | rfl | rfl | rfl) | rfl | hw
        · exact k1
        · exact k2
        · exact k3
        · exact m3
        · exact m4
        · exact hw)) rfl rfl rfl ⟨rfl, m2.1, m2.2, k4⟩ ⟨hrm, by show 8 + (M.2.2.1 + 11) + 60 * d ≤ R.locals; omega⟩)
      ⟨ex_blind, hrecv, ex_pre C0 hW hS _⟩ rfl (by rw [List.length_map, List.length_reverse]; exact hn) hl.1 rfl (lv_room (by rw [ex_wm]; exact hw)) hdg hcells) hS (fin rfl rfl)
  | invokespecial i =>
    obtain ⟨hdg, hnx⟩ : decode cc pc = .ok (.invokespecial i, 3) ∧ nx = pc + 3 := hd
    subst hnx
    rcases (show (x = 1000000 ∧ Jvm.Cond.methodLink own i objectInit ∈ ex_wall ∧ Jvm.Cond.instanceMethod objectInit ∈ ex_wall ∧ Jvm.Cond.code objectInit ⟨#[0xb1]⟩ 1 none ∈ ex_wall) ∨ (¬ x = 1000000 ∧ ∃ M : ex_M, P x = some M ∧ M.1.name = "<init>" ∧ M.2.2.2.1 = none ∧ Jvm.Cond.methodLink own i M.1 ∈ ex_wall ∧ Jvm.Cond.instanceMethod M.1 ∈ ex_wall ∧ (parseMethodDescriptor M.1.desc).map (fun d => d.parameters.length) = some y) from hk) with ⟨hx0, -⟩ | ⟨hx0, M, hPM, k0, k5, k1, k2, k4⟩
    · subst hx0
      obtain ⟨_, _, _, _, e1⟩ := ex_callI_go (show ex_callI 1000000 y (pc + 3) lv st h = some (.inr (.inr (k, as, f))) from hs)
      cases e1
    · obtain ⟨A, b, rr, rfl, hn, hw, e1⟩ := ex_callI_v hx0 (show ex_callI x y (pc + 3) lv st h = some (.inr (.inr (k, as, f))) from hs)
      cases e1
      obtain ⟨-, m2, m3, m4, m5, -⟩ := hP x M hPM
      rw [ex_stk]
      refine ex_back (va_runI (As := (A.reverse).map (ex_cv g o)) (rest := rr.map (ex_cv g o)) S (hM M hPM)
        (cwI (maxL := M.2.2.1) (bytes := M.2.1) (ws' := ex_wall) y hts (ex_gi (fun w hw => by
          unfold ex_ws at hw
          rcases List.mem_cons.mp hw with rfl | hw
          · exact m4
          · exact hw)) (by unfold ex_ws; rw [k5]) rfl rfl (hts _ m3) (hts _ k1) (hts _ k2) k0 ⟨m2.1, m2.2, k4⟩ ⟨hrm, by show 8 + (M.2.2.1 + 11) + 60 * d ≤ R.locals; omega⟩)
        ⟨ex_blind, ex_pre C0 hW hS _⟩ rfl (by rw [List.length_map, List.length_reverse]; exact hn) hl.1 rfl (lv_room (by rw [ex_wm]; exact hw)) hdg hcells) hS (fin rfl rfl)
  | invokestatic i =>
    obtain ⟨hdg, hnx⟩ : decode cc pc = .ok (.invokestatic i, 3) ∧ nx = pc + 3 := hd
    subst hnx
    rcases (show (x = 1000000 ∧ Jvm.Cond.methodLink own i arraycopyName ∈ ex_wall ∧ Jvm.Cond.native arraycopyName ∈ ex_wall ∧ Jvm.Cond.static arraycopyName ∈ ex_wall ∧ Jvm.Cond.initialized "java/lang/System" ∈ ex_wall) ∨ (x = 1000001 ∧ Jvm.Cond.methodLink own i Lib.Math.max.name ∈ ex_wall ∧ Jvm.Cond.static Lib.Math.max.name ∈ ex_wall ∧ Jvm.Cond.initialized "java/lang/Math" ∈ ex_wall ∧ Jvm.Cond.code Lib.Math.max.name Lib.Math.max.code 2 (some .int) ∈ ex_wall) ∨ (x = 1000002 ∧ Jvm.Cond.methodLink own i Lib.Math.min.name ∈ ex_wall ∧ Jvm.Cond.static Lib.Math.min.name ∈ ex_wall ∧ Jvm.Cond.initialized "java/lang/Math" ∈ ex_wall ∧ Jvm.Cond.code Lib.Math.min.name Lib.Math.min.code 2 (some .int) ∈ ex_wall) ∨ (x < 1000000 ∧ ∃ M : ex_M, P x = some M ∧ Jvm.Cond.methodLink own i M.1 ∈ ex_wall ∧ Jvm.Cond.static M.1 ∈ ex_wall ∧ (parseMethodDescriptor M.1.desc).map (fun d => d.parameters.length) = some y) from hk) with ⟨hx0, -⟩ | ⟨hx0, -⟩ | ⟨hx0, -⟩ | ⟨hx0, M, hPM, k1, k2, k4⟩
    · subst hx0
      obtain ⟨_, _, _, _, _, _, _, _, _, _, _, _, _, _, _, _, _, _, _, _, e1⟩ := ex_cpy_v (ex_callS_go (show ex_callS g 1000000 y (pc + 3) lv st h = some (.inr (.inr (k, as, f))) from hs))
      cases e1
    · subst hx0
      obtain ⟨_, _, _, _, _, ⟨_, e1⟩ | ⟨_, e1⟩⟩ := ex_math_v (ex_callS_math (by decide) (show ex_callS g 1000001 y (pc + 3) lv st h = some (.inr (.inr (k, as, f))) from hs)) <;> cases e1
    · subst hx0
      obtain ⟨_, _, _, _, _, ⟨_, e1⟩ | ⟨_, e1⟩⟩ := ex_math_v (ex_callS_math (by decide) (show ex_callS g 1000002 y (pc + 3) lv st h = some (.inr (.inr (k, as, f))) from hs)) <;> cases e1
    · obtain ⟨A, rr, rfl, hn, hw, e1⟩ := ex_callS_v hx0 (show ex_callS g x y (pc + 3) lv st h = some (.inr (.inr (k, as, f))) from hs)
      cases e1
      obtain ⟨-, m2, m3, m4, m5, -⟩ := hP x M hPM
      rw [ex_stk0]
      exact ex_back (va_runS (As := (A.reverse).map (ex_cv g o)) (rest := rr.map (ex_cv g o)) S (hM M hPM)
        (va_cwS y hts (ex_gi (fun w hw => by
          unfold va_wsS ex_ws at hw
          simp only [List.mem_append, List.mem_cons, List.not_mem_nil, or_false] at hw
          rcases hw with (rfl | rfl | rfl) | rfl | hw
          · exact k1
          · exact k2
          · exact m3
          · exact m4
          · exact hw)) rfl rfl rfl ⟨m2.1, m2.2, k4⟩ ⟨hrm, by show 8 + (M.2.2.1 + 11) + 60 * d ≤ R.locals; omega⟩)
        ⟨ex_blind, ex_pre C0 hW hS _⟩ rfl (by rw [List.length_map, List.length_reverse]; exact hn) hl.1 rfl (lv_room (by rw [ex_wm]; exact hw)) hdg hcells) hS (fin rfl rfl)
  | _ => exact absurd rfl hC
end EXC
/-- what is known of calls: they don't shrink the heap, and they are contracts -/
def ex_callOk (g : ex_G) (o : ex_P) (P : Nat → Option ex_M) (l : Launch) (d : Nat) (call : Nat → List Value → ex_H → Option (Option Value × ex_H)) : Prop :=
  ∀ k as h r h', call k as h = some (r, h') → (h.1.length ≤ h'.1.length ∧ h.2 ≤ h'.2) ∧
    ∀ M, P k = some M → Met l M.1 (ex_ws M) (ex_rm d (h'.1.length - h.1.length) (h'.2 - h.2)) (va_Pc (as.map (ex_cv g o)) (ex_St g o h)) (ex_Qc g o r h') (h'.1.length - h.1.length) (h'.2 - h.2) (ex_A o)
theorem ex_loop_mono {g : ex_G} {call : Nat → List Value → ex_H → Option (Option Value × ex_H)} (hcall : ∀ k as h r h', call k as h = some (r, h') → h.1.length ≤ h'.1.length ∧ h.2 ≤ h'.2) {nL : Nat} {rt : Option FieldType} {cd : List (List (Option ex_I))} :
    ∀ (n : Nat) (f : ex_F) (r : Option Value) (h' : ex_H), ex_loop g call nL rt cd n f = some (r, h') → f.2.2.2.1.length ≤ h'.1.length ∧ f.2.2.2.2 ≤ h'.2 := by
  intro n
  induction n with
  | zero => intro f r h' hq; cases hq
  | succ n ih =>
    intro f r h' hq
    unfold ex_loop at hq
    cases he : ex_cd cd f.1 with
    | none => rw [he] at hq; cases hq
    | some ei =>
      rw [he] at hq
      simp only at hq
      obtain ⟨ins, x, y, z, nx⟩ := ei
      cases hs : ex_step g nL rt (ins, x, y, z, nx) f.1 f.2.1 f.2.2.1 f.2.2.2 with
      | none => rw [hs] at hq; cases hq
      | some q =>
        rw [hs] at hq
        rcases ex_kind hs with ⟨f1, rfl, h1, h2⟩ | ⟨r1, rfl, -⟩ | ⟨k, as, f1, rfl, h1, -⟩
        · obtain ⟨h3, h4⟩ := ih f1 r h' hq
          exact ⟨Nat.le_trans h1 h3, Nat.le_trans h2 h4⟩
        · cases hq
          exact ⟨Nat.le_refl _, Nat.le_refl _⟩
        · simp only at hq
          rw [h1] at hq
          cases hcl : call k as f.2.2.2 with
          | none => rw [hcl] at hq; cases hq
          | some rh =>
            obtain ⟨rv, h2⟩ := rh
            rw [hcl] at hq
            obtain ⟨g1, g2⟩ := hcall _ _ _ _ _ hcl
            cases rv with
            | none =>
              obtain ⟨h3, h4⟩ := ih _ r h' hq
              exact ⟨Nat.le_trans g1 h3, Nat.le_trans g2 h4⟩
            | some v =>
              obtain ⟨h3, h4⟩ := ih _ r h' hq
              exact ⟨Nat.le_trans g1 h3, Nat.le_trans g2 h4⟩
theorem ex_loop_ok {p : Program} {l : Launch} {e : Env} {R : Room} {s : State} {m : MethodId} {args : Array Value} {below : List Frame} {meth : Method} {c : Code} {cc : ByteArray} {g : ex_G} {o : ex_P} {nL n0 s0 : Nat} {rt : Option FieldType} {own mn : String} {P : Nat → Option ex_M} {d : Nat} {call : Nat → List Value → ex_H → Option (Option Value × ex_H)} {cd : List (List (Option ex_I))} {r : Option Value} {h' : ex_H}
    (C : ex_Cx g o p s m args meth c cc nL rt own mn R) (hP : ∀ k M, P k = some M → ex_okM g P M) (hcd : ∀ (pc : Nat) (e : ex_I), ex_cd cd pc = some e → ex_dec cc pc e ∧ ex_lk g P own mn pc e) (hcall : ex_callOk g o P l d call) (hf : d + 1 ≤ R.frames) (hlo : 60 * (d + 1) ≤ R.locals) (hRc : R.cells + n0 = h'.1.length) (hRs : R.slots + s0 = h'.2) :
    ∀ (n : Nat) (f : ex_F), ex_loop g call nL rt cd n f = some (r, h') → ∀ (H : Heap) (ls : Array Slot) (locs : List Loc) (cells slots : Nat), ex_At g o nL n0 s0 s.heap f H ls locs cells slots →
      W p l e R s m args below meth c H locs cells slots (MQ below (ex_Qc g o r h') args s R.cells R.slots (ex_A o)) (F0 m f.1 ls (f.2.2.1.map (ex_cv g o))) := by
  have hmono := ex_loop_mono (g := g) (nL := nL) (rt := rt) (cd := cd) (fun k as h r h' q => (hcall k as h r h' q).1)
  intro n
  induction n with
  | zero => intro f hq; cases hq
  | succ n ih =>
    intro f hq H ls locs cells slots hA
    unfold ex_loop at hq
    cases he : ex_cd cd f.1 with
    | none => rw [he] at hq; cases hq
    | some ei =>
      rw [he] at hq
      simp only at hq
      obtain ⟨hd, hk⟩ := hcd _ _ he
      obtain ⟨ins, x, y, z, nx⟩ := ei
      cases hs : ex_step g nL rt (ins, x, y, z, nx) f.1 f.2.1 f.2.2.1 f.2.2.2 with
      | none => rw [hs] at hq; cases hq
      | some q =>
        rw [hs] at hq
        rcases ex_kind hs with ⟨f1, rfl, h1, h2⟩ | ⟨r1, rfl, -⟩ | ⟨k, as, f1, rfl, h1, -⟩
        · obtain ⟨h3, h4⟩ := hmono n f1 r h' hq
          exact ex_next C hd hk hs hA (by omega) (by omega) (fun H1 ls1 locs1 cells1 slots1 hA1 => ih f1 hq H1 ls1 locs1 cells1 slots1 hA1)
        · obtain ⟨e1, hw⟩ := ex_returns (l := l) (e := e) (below := below) C hd hs hA
          cases hq
          obtain ⟨-, -, -, hc, hsl⟩ := hA
          rw [show R.cells = cells by omega, show R.slots = slots by omega]
          exact hw
        · simp only at hq
          rw [h1] at hq
          cases hcl : call k as f.2.2.2 with
          | none => rw [hcl] at hq; cases hq
          | some rh =>
            obtain ⟨rv, h2⟩ := rh
            rw [hcl] at hq
            obtain ⟨⟨g1, g2⟩, hM⟩ := hcall _ _ _ _ _ hcl
            cases rv with
            | none =>
              obtain ⟨h3, h4⟩ := hmono n _ r h' hq
              have h3 : h2.1.length ≤ h'.1.length := h3
              have h4 : h2.2 ≤ h'.2 := h4
              exact ex_calls C hP hd hk hs hA hf hlo g1 g2 (by omega) (by omega) hM (fun H1 locs1 cells1 slots1 hA1 => ih _ hq H1 ls locs1 cells1 slots1 hA1)
            | some v =>
              obtain ⟨h3, h4⟩ := hmono n _ r h' hq
              have h3 : h2.1.length ≤ h'.1.length := h3
              have h4 : h2.2 ≤ h'.2 := h4
              exact ex_calls C hP hd hk hs hA hf hlo g1 g2 (by omega) (by omega) hM (fun H1 locs1 cells1 slots1 hA1 => ih _ hq H1 ls locs1 cells1 slots1 hA1)
/-- THE CONTRACT OF A RUN: whatever the interpreter's run of a method ends with, the machine's does -/
theorem ex_run_ok {g : ex_G} {o : ex_P} {P : Nat → Option ex_M} {N : Nat} (hP : ∀ k M, P k = some M → ex_okM g P M) (hco : ex_clsOk) (l : Launch) : ∀ d : Nat, ex_callOk g o P l d (ex_run g P N d) := by
  intro d
  induction d with
  | zero => intro k as h r h' hq; cases hq
  | succ d ih =>
    intro k as h r h' hq
    unfold ex_run at hq
    cases hk : P k with
    | none => rw [hk] at hq; cases hq
    | some M =>
      rw [hk] at hq
      simp only at hq
      cases hw : Nat.ble (ex_w as) M.2.2.1 with
      | false => rw [hw] at hq; cases hq
      | true =>
        rw [hw] at hq
        simp only [cond_true] at hq
        have hmono := ex_loop_mono (fun k as h r h' q => (ih k as h r h' q).1) N _ r h' hq
        refine ⟨hmono, fun M' hM' => ?_⟩
        cases hM'
        obtain ⟨m1, m2, m3, m4, m5, m6⟩ := hP k M hk
        have h3 : h.1.length ≤ h'.1.length := hmono.1
        have h4 : h.2 ≤ h'.2 := hmono.2
        refine Met.ofW (cc := M.2.1) (maxL := M.2.2.1) (ret := M.2.2.2.1) m1 rfl ?_
        intro p e s m args below meth c s₁ B hml hv
        obtain ⟨rfl, hK, hX, hWd⟩ := hv
        have hts := atoms_spec (ws := ex_ws M) B.pre
        have hown : s.vm.findClass M.1.cls = some m.cls := findClass_of_methodNamed B.named
        rw [lg_entry_eq]
        have hl := lv_entry (as.map (ex_cv g o)) (n := M.2.2.1) (by rw [ex_sl_len]; show ((as.map (ex_cv g o)).map fun v => v.category).sum ≤ _; rw [ex_wm]; exact Nat.le_of_ble_eq_true hw)
        generalize (lg_sl (as.map (ex_cv g o)) ++ List.replicate (M.2.2.1 - (lg_sl (as.map (ex_cv g o))).length) Slot.unset).toArray = ls at hl ⊢
        rw [ex_lm_args] at hl
        have C : ex_Cx g o p s m (as.map (ex_cv g o)).toArray meth c M.2.1 M.2.2.1 M.2.2.2.1 M.1.cls M.1.name (ex_rm (d + 1) (h'.1.length - h.1.length) (h'.2 - h.2)) :=
          ⟨B.exec, B.bytes, hml, hown, fun w hw => hts w (List.mem_cons_of_mem _ hw), hK, hX, B.notSynchronized, B.returns, fun q => (name_of_methodNamed B.named B.method).1.trans q, hco, by rw [hWd.1]; exact Nat.le_add_right _ _, Nat.succ_le_succ (Nat.zero_le _), by show 60 ≤ 60 * (d + 1); omega⟩
        exact ex_loop_ok (n0 := h.1.length) (s0 := h.2) C hP m6 ih (Nat.le_refl _) (Nat.le_refl _) (by show (h'.1.length - h.1.length) + _ = _; omega) (by show (h'.2 - h.2) + _ = _; omega) N (0, lv_args 0 as, [], h) hq s.heap ls [] 0 0
          ⟨hl, hWd, va_S.rf, Nat.zero_add _, Nat.zero_add _⟩
end
section
/-! ===== a run stays when more is known, with more fuel, with more depth ===== -/
def ex_more (a b : ex_G) : Prop := b.1 = a.1 ∧ ∀ i c, a.2.1 i = some c → b.2.1 i = some c
section EXM
variable {a b : ex_G} {nL : Nat} {rt : Option FieldType} {pc nx x y z : Nat} {lv : ex_V} {st : List Value} {h : ex_H} {q : ex_O}
theorem ex_get_more (hm : ex_more a b) {i : Nat} {c : ex_C} (hg : ex_get a h i = some c) : ex_get b h i = some c := by
  unfold ex_get at hg ⊢
  rw [hm.1]
  cases hb : Nat.blt i a.1 with
  | true => rw [hb] at hg; exact hm.2 i c hg
  | false => rw [hb] at hg; exact hg
theorem ex_own_more (hm : ex_more a b) (i : Nat) : ex_own b h i = ex_own a h i := by
  unfold ex_own
  rw [hm.1]
theorem ex_gf_more (hm : ex_more a b) {ci k : Nat} (hs : ex_gf a ci k nx lv st h = some q) : ex_gf b ci k nx lv st h = some q := by
  unfold ex_gf at hs ⊢
  split at hs
  · split at hs
    · rename_i cj fs hg
      simp only [ex_get_more hm hg]
      exact hs
    · cases hs
  · cases hs
theorem ex_len_more (hm : ex_more a b) (hs : ex_len a nx lv st h = some q) : ex_len b nx lv st h = some q := by
  unfold ex_len at hs ⊢
  split at hs
  · split at hs
    · rename_i t n f hg
      simp only [ex_get_more hm hg]
      exact hs
    · cases hs
  · cases hs
theorem ex_xld_more (hm : ex_more a b) {t u : Nat} (hs : ex_xld a t u nx lv st h = some q) : ex_xld b t u nx lv st h = some q := by
  unfold ex_xld at hs ⊢
  split at hs
  · split at hs
    · rename_i k n f hg
      simp only [ex_get_more hm hg]
      exact hs
    · cases hs
  · cases hs
theorem ex_callV_more (hm : ex_more a b) {k n ci : Nat} (hs : ex_callV a k n ci nx lv st h = some q) : ex_callV b k n ci nx lv st h = some q := by
  unfold ex_callV at hs ⊢
  split at hs
  · split at hs
    · rename_i cj fs hg
      simp only [ex_get_more hm hg]
      exact hs
    · cases hs
  · cases hs
theorem ex_xast_more (hm : ex_more a b) (hs : ex_xast a nx lv st h = some q) : ex_xast b nx lv st h = some q := by
  obtain ⟨i, j, n, f, v, fs, r, h1, h2, h3, h4, rfl, rfl⟩ := ex_xast_v hs
  unfold ex_xast at hs ⊢
  simp only [ex_own_more hm, h1, hm.1, hm.2 _ _ h4] at hs ⊢
  simp only [h4] at hs
  have e : ex_set b h i = ex_set a h i := by funext c; unfold ex_set; rw [hm.1]
  rw [e]
  exact hs
theorem ex_cpy_more (hm : ex_more a b) (hs : ex_cpy a nx lv st h = some q) : ex_cpy b nx lv st h = some q := by
  unfold ex_cpy at hs ⊢
  simp only [ex_own_more hm]
  exact hs
theorem ex_set_more (hm : ex_more a b) : ex_set b h = ex_set a h := by
  funext i c
  unfold ex_set
  rw [hm.1]
set_option maxHeartbeats 4000000 in
theorem ex_step_more (hm : ex_more a b) {ins : Instr} (hs : ex_step a nL rt (ins, x, y, z, nx) pc lv st h = some q) : ex_step b nL rt (ins, x, y, z, nx) pc lv st h = some q := by
  cases ins with
  | getfield i => exact ex_gf_more hm hs
  | arraylength => exact ex_len_more hm hs
  | iaload => exact ex_xld_more hm hs
  | baload => exact ex_xld_more hm hs
  | invokevirtual i => exact ex_callV_more hm hs
  | aastore => exact ex_xast_more hm hs
  | putfield i =>
    have hs : ex_pf a (ex_ft x) x y nx lv st h = some q := hs
    show ex_pf b (ex_ft x) x y nx lv st h = some q
    unfold ex_pf at hs ⊢
    simp only [ex_own_more hm, ex_set_more hm]
    exact hs
  | laload =>
    have hs : ex_xlld a nx lv st h = some q := hs
    show ex_xlld b nx lv st h = some q
    unfold ex_xlld at hs ⊢
    simp only [ex_own_more hm]
    exact hs
  | aaload =>
    have hs : ex_xald a nx lv st h = some q := hs
    show ex_xald b nx lv st h = some q
    unfold ex_xald at hs ⊢
    simp only [ex_own_more hm]
    exact hs
  | iastore =>
    have hs : ex_xst a nx lv st h = some q := hs
    show ex_xst b nx lv st h = some q
    unfold ex_xst at hs ⊢
    simp only [ex_own_more hm, ex_set_more hm]
    exact hs
  | bastore =>
    have hs : ex_xbst a nx lv st h = some q := hs
    show ex_xbst b nx lv st h = some q
    unfold ex_xbst at hs ⊢
    simp only [ex_own_more hm, ex_set_more hm]
    exact hs
  | lastore =>
    have hs : ex_xlst a nx lv st h = some q := hs
    show ex_xlst b nx lv st h = some q
    unfold ex_xlst at hs ⊢
    simp only [ex_own_more hm, ex_set_more hm]
    exact hs
  | new i =>
    have hs : ex_new a (ex_ft x) x nx lv st h = some q := hs
    show ex_new b (ex_ft x) x nx lv st h = some q
    unfold ex_new at hs ⊢
    rw [hm.1]
    exact hs
  | newarray t =>
    have hs : ex_newa a t nx lv st h = some q := hs
    show ex_newa b t nx lv st h = some q
    unfold ex_newa at hs ⊢
    simp only [hm.1]
    exact hs
  | anewarray t =>
    have hs : ex_newq a nx lv st h = some q := hs
    show ex_newq b nx lv st h = some q
    unfold ex_newq at hs ⊢
    simp only [hm.1]
    exact hs
  | invokestatic i =>
    have hs : ex_callS a x y nx lv st h = some q := hs
    show ex_callS b x y nx lv st h = some q
    unfold ex_callS at hs ⊢
    cases hx : Nat.beq x 1000000 with
    | true => rw [hx] at hs; exact ex_cpy_more hm hs
    | false => rw [hx] at hs; exact hs
  | ifCond c off => cases c <;> exact hs
  | if_icmp c off => cases c <;> exact hs
  | _ => first | exact hs | cases (show (none : Option ex_O) = some q from hs)
end EXM
theorem ex_loop_more {a b : ex_G} (hm : ex_more a b) {ca cb : Nat → List Value → ex_H → Option (Option Value × ex_H)} (hc : ∀ k as h r, ca k as h = some r → cb k as h = some r) {nL : Nat} {rt : Option FieldType} {cd : List (List (Option ex_I))} :
    ∀ (n m : Nat) (f : ex_F) (r : Option Value × ex_H), n ≤ m → ex_loop a ca nL rt cd n f = some r → ex_loop b cb nL rt cd m f = some r := by
  intro n
  induction n with
  | zero => intro m f r _ hq; cases hq
  | succ n ih =>
    intro m f r hnm hq
    obtain ⟨m, rfl⟩ : ∃ k, m = k + 1 := ⟨m - 1, by omega⟩
    unfold ex_loop at hq ⊢
    cases he : ex_cd cd f.1 with
    | none => rw [he] at hq; cases hq
    | some ei =>
      rw [he] at hq
      simp only at hq ⊢
      obtain ⟨ins, x, y, z, nx⟩ := ei
      cases hs : ex_step a nL rt (ins, x, y, z, nx) f.1 f.2.1 f.2.2.1 f.2.2.2 with
      | none => rw [hs] at hq; cases hq
      | some q =>
        rw [hs] at hq
        rw [ex_step_more hm hs]
        rcases q with k | r1 | ⟨k, as, f1⟩
        · exact ih m k r (by omega) hq
        · exact hq
        · simp only at hq ⊢
          cases hcl : ca k as f1.2.2.2 with
          | none => rw [hcl] at hq; cases hq
          | some rh =>
            rw [hcl] at hq
            rw [hc _ _ _ _ hcl]
            obtain ⟨rv, h2⟩ := rh
            cases rv with
            | none => exact ih m _ r (by omega) hq
            | some v => exact ih m _ r (by omega) hq
/-- more known, more fuel, more depth, more methods: the same run -/
theorem ex_run_more {a b : ex_G} (hm : ex_more a b) {P P' : Nat → Option ex_M} (hP : ∀ k M, P k = some M → P' k = some M) {N N' : Nat} (hN : N ≤ N') : ∀ (d d' k : Nat) (as : List Value) (h : ex_H) (r : Option Value × ex_H), d ≤ d' → ex_run a P N d k as h = some r → ex_run b P' N' d' k as h = some r := by
  intro d
  induction d with
  | zero => intro d' k as h r _ hq; cases hq
  | succ d ih =>
    intro d' k as h r hd hq
    obtain ⟨d', rfl⟩ : ∃ k, d' = k + 1 := ⟨d' - 1, by omega⟩
    unfold ex_run at hq ⊢
    cases hk : P k with
    | none => rw [hk] at hq; cases hq
    | some M =>
      rw [hk] at hq
      rw [hP k M hk]
      simp only at hq ⊢
      cases hw : Nat.ble (ex_w as) M.2.2.1 with
      | false => rw [hw] at hq; cases hq
      | true =>
        rw [hw] at hq
        exact ex_loop_more hm (fun k as h r hc => ih d' k as h r (by omega) hc) N N' _ r hN hq
end
section
/-! ===== the methods that are reached: their instructions, with what each names (printed by program out of the tables) ===== -/
def ex_m0 : ex_M := (⟨"PaperHouse$Changes", "<init>", "(LPaperHouse$Table;LPaperHouse$Tree;)V"⟩, prog_2_method_1_code, 3, none, [[some (.aload_n 0, 0, 0, 0, 1), some (.invokespecial 3, 1000000, 0, 0, 4), none, none, some (.aload_n 0, 0, 0, 0, 5), some (.aload_n 1, 0, 0, 0, 6), some (.putfield 9, 0, 0, 0, 9), none, none, some (.aload_n 0, 0, 0, 0, 10), some (.aload_n 2, 0, 0, 0, 11), some (.putfield 15, 0, 2, 0, 14), none, none, some (.aload_n 0, 0, 0, 0, 15), some (.aload_n 1, 0, 0, 0, 16)],
  [some (.getfield 19, 8, 0, 0, 19), none, none, some (.putfield 25, 0, 1, 0, 22), none, none, some (.return_, 0, 0, 0, 23), none, none, none, none, none, none, none, none, none]])
def ex_m1 : ex_M := (⟨"PaperHouse$Filters", "<init>", "(LPaperHouse$Store;)V"⟩, prog_3_method_1_code, 2, none, [[some (.aload_n 0, 0, 0, 0, 1), some (.invokespecial 3, 1000000, 0, 0, 4), none, none, some (.aload_n 0, 0, 0, 0, 5), some (.aload_n 1, 0, 0, 0, 6), some (.putfield 9, 1, 0, 0, 9), none, none, some (.aload_n 0, 0, 0, 0, 10), some (.new 15, 2, 0, 0, 13), none, none, some (.dup, 0, 0, 0, 14), some (.invokespecial 17, 2, 0, 0, 17), none],
  [none, some (.putfield 18, 1, 1, 0, 20), none, none, some (.aload_n 0, 0, 0, 0, 21), some (.sipush 8000, 0, 0, 0, 24), none, none, some (.newarray .byte, 0, 0, 0, 26), none, some (.putfield 22, 1, 2, 0, 29), none, none, some (.aload_n 0, 0, 0, 0, 30), some (.sipush 8000, 0, 0, 0, 33), none],
  [none, some (.newarray .byte, 0, 0, 0, 35), none, some (.putfield 26, 1, 3, 0, 38), none, none, some (.aload_n 0, 0, 0, 0, 39), some (.iconst 3, 0, 0, 0, 40), some (.newarray .boolean, 0, 0, 0, 42), none, some (.putfield 29, 1, 4, 0, 45), none, none, some (.aload_n 0, 0, 0, 0, 46), some (.iconst 3, 0, 0, 0, 47), some (.newarray .int, 0, 0, 0, 49)],
  [none, some (.putfield 33, 1, 5, 0, 52), none, none, some (.aload_n 0, 0, 0, 0, 53), some (.aload_n 0, 0, 0, 0, 54), some (.getfield 22, 1, 2, 0, 57), none, none, some (.putfield 37, 1, 7, 0, 60), none, none, some (.return_, 0, 0, 0, 61), none, none, none]])
def ex_m2 : ex_M := (⟨"PaperHouse$Inflate", "<init>", "()V"⟩, prog_4_method_1_code, 1, none, [[some (.aload_n 0, 0, 0, 0, 1), some (.invokespecial 3, 1000000, 0, 0, 4), none, none, some (.aload_n 0, 0, 0, 0, 5), some (.sipush 320, 0, 0, 0, 8), none, none, some (.newarray .int, 0, 0, 0, 10), none, some (.putfield 9, 2, 0, 0, 13), none, none, some (.aload_n 0, 0, 0, 0, 14), some (.bipush 16, 0, 0, 0, 16), none],
  [some (.newarray .int, 0, 0, 0, 18), none, some (.putfield 15, 2, 1, 0, 21), none, none, some (.aload_n 0, 0, 0, 0, 22), some (.sipush 288, 0, 0, 0, 25), none, none, some (.newarray .int, 0, 0, 0, 27), none, some (.putfield 18, 2, 2, 0, 30), none, none, some (.aload_n 0, 0, 0, 0, 31), some (.bipush 16, 0, 0, 0, 33)],
  [none, some (.newarray .int, 0, 0, 0, 35), none, some (.putfield 21, 2, 3, 0, 38), none, none, some (.aload_n 0, 0, 0, 0, 39), some (.bipush 32, 0, 0, 0, 41), none, some (.newarray .int, 0, 0, 0, 43), none, some (.putfield 24, 2, 4, 0, 46), none, none, some (.aload_n 0, 0, 0, 0, 47), some (.bipush 16, 0, 0, 0, 49)],
  [none, some (.newarray .int, 0, 0, 0, 51), none, some (.putfield 27, 2, 5, 0, 54), none, none, some (.aload_n 0, 0, 0, 0, 55), some (.iconst 0, 0, 0, 0, 56), some (.newarray .byte, 0, 0, 0, 58), none, some (.putfield 30, 2, 6, 0, 61), none, none, some (.aload_n 0, 0, 0, 0, 62), some (.aload_n 0, 0, 0, 0, 63), some (.getfield 30, 2, 6, 0, 66)],
  [none, none, some (.putfield 34, 2, 9, 0, 69), none, none, some (.return_, 0, 0, 0, 70), none, none, none, none, none, none, none, none, none, none]])
def ex_m3 : ex_M := (⟨"PaperHouse$Loader", "<init>", "(LPaperHouse$Parser;LPaperHouse$Table;LPaperHouse$Filters;)V"⟩, prog_5_method_1_code, 4, none, [[some (.aload_n 0, 0, 0, 0, 1), some (.invokespecial 3, 1000000, 0, 0, 4), none, none, some (.aload_n 0, 0, 0, 0, 5), some (.aload_n 1, 0, 0, 0, 6), some (.putfield 9, 3, 2, 0, 9), none, none, some (.aload_n 0, 0, 0, 0, 10), some (.aload_n 2, 0, 0, 0, 11), some (.putfield 15, 3, 4, 0, 14), none, none, some (.aload_n 0, 0, 0, 0, 15), some (.aload_n 3, 0, 0, 0, 16)],
  [some (.putfield 19, 3, 5, 0, 19), none, none, some (.aload_n 0, 0, 0, 0, 20), some (.aload_n 2, 0, 0, 0, 21), some (.getfield 23, 8, 0, 0, 24), none, none, some (.putfield 29, 3, 3, 0, 27), none, none, some (.aload_n 0, 0, 0, 0, 28), some (.sipush 8000, 0, 0, 0, 31), none, none, some (.newarray .byte, 0, 0, 0, 33)],
  [none, some (.putfield 30, 3, 0, 0, 36), none, none, some (.aload_n 0, 0, 0, 0, 37), some (.sipush 200, 0, 0, 0, 40), none, none, some (.newarray .int, 0, 0, 0, 42), none, some (.putfield 34, 3, 6, 0, 45), none, none, some (.aload_n 0, 0, 0, 0, 46), some (.sipush 200, 0, 0, 0, 49), none],
  [none, some (.newarray .int, 0, 0, 0, 51), none, some (.putfield 38, 3, 7, 0, 54), none, none, some (.aload_n 0, 0, 0, 0, 55), some (.sipush 200, 0, 0, 0, 58), none, none, some (.newarray .int, 0, 0, 0, 60), none, some (.putfield 41, 3, 8, 0, 63), none, none, some (.return_, 0, 0, 0, 64)]])
def ex_m4 : ex_M := (⟨"PaperHouse$Loader", "begin", "([BI)I"⟩, prog_5_method_2_code, 5, some (Jvm.ClassFile.FieldType.int), [[some (.aload_n 0, 0, 0, 0, 1), some (.iconst 0, 0, 0, 0, 2), some (.iload_n 2, 0, 0, 0, 3), some (.aload_n 1, 0, 0, 0, 4), some (.arraylength, 0, 0, 0, 5), some (.aload_n 0, 0, 0, 0, 6), some (.getfield 30, 3, 0, 0, 9), none, none, some (.arraylength, 0, 0, 0, 10), some (.invokestatic 44, 1000002, 2, 0, 13), none, none, some (.invokestatic 44, 1000002, 2, 0, 16), none, none],
  [some (.invokestatic 50, 1000001, 2, 0, 19), none, none, some (.putfield 53, 3, 1, 0, 22), none, none, some (.aload_n 1, 0, 0, 0, 23), some (.iconst 0, 0, 0, 0, 24), some (.aload_n 0, 0, 0, 0, 25), some (.getfield 30, 3, 0, 0, 28), none, none, some (.iconst 0, 0, 0, 0, 29), some (.aload_n 0, 0, 0, 0, 30), some (.getfield 53, 3, 1, 0, 33), none],
  [none, some (.invokestatic 57, 1000000, 5, 0, 36), none, none, some (.aload_n 0, 0, 0, 0, 37), some (.getfield 29, 3, 3, 0, 40), none, none, some (.invokevirtual 63, 18, 0, 7, 43), none, none, some (.aload_n 0, 0, 0, 0, 44), some (.getfield 15, 3, 4, 0, 47), none, none, some (.invokevirtual 68, 20, 0, 8, 50)],
  [none, none, some (.aload_n 0, 0, 0, 0, 51), some (.iconst 0, 0, 0, 0, 52), some (.putfield 69, 3, 9, 0, 55), none, none, some (.aload_n 0, 0, 0, 0, 56), some (.getfield 9, 3, 2, 0, 59), none, none, some (.iconst 1, 0, 0, 0, 60), some (.invokevirtual 72, 13, 1, 5, 63), none, none, some (.aload_n 0, 0, 0, 0, 64)],
  [some (.getfield 9, 3, 2, 0, 67), none, none, some (.aload_n 0, 0, 0, 0, 68), some (.getfield 30, 3, 0, 0, 71), none, none, some (.iconst 0, 0, 0, 0, 72), some (.aload_n 0, 0, 0, 0, 73), some (.getfield 53, 3, 1, 0, 76), none, none, some (.invokevirtual 78, 12, 3, 5, 79), none, none, some (.aload_n 0, 0, 0, 0, 80)],
  [some (.ldc 82, 0, 1, 0, 82), none, some (.iconst 1, 0, 0, 0, 83), some (.invokevirtual 84, 5, 2, 3, 86), none, none, some (.ifCond .ne 5, 91, 0, 0, 89), none, none, some (.iconst (-1), 0, 0, 0, 90), some (.ireturn, 0, 0, 0, 91), some (.aload_n 0, 0, 0, 0, 92), some (.getfield 9, 3, 2, 0, 95), none, none, some (.aload_n 0, 0, 0, 0, 96)],
  [some (.getfield 9, 3, 2, 0, 99), none, none, some (.getfield 88, 5, 4, 0, 102), none, none, some (.invokevirtual 91, 9, 1, 5, 105), none, none, some (.istore_n 3, 0, 0, 0, 106), some (.iload_n 3, 0, 0, 0, 107), some (.bipush 48, 0, 0, 0, 109), none, some (.if_icmp .lt 9, 118, 0, 0, 112), none, none],
  [some (.iload_n 3, 0, 0, 0, 113), some (.bipush 55, 0, 0, 0, 115), none, some (.if_icmp .le 19, 134, 0, 0, 118), none, none, some (.aload_n 0, 0, 0, 0, 119), some (.getfield 9, 3, 2, 0, 122), none, none, some (.iconst 1, 0, 0, 0, 123), some (.aload_n 0, 0, 0, 0, 124), some (.getfield 9, 3, 2, 0, 127), none, none, some (.getfield 88, 5, 4, 0, 130)],
  [none, none, some (.invokevirtual 95, 11, 2, 5, 133), none, none, some (.ireturn, 0, 0, 0, 134), some (.aload_n 0, 0, 0, 0, 135), none, none, none, some (.istore 4, 0, 0, 0, 140), none, some (.iload 4, 0, 0, 0, 142), none, some (.ifCond .ge 16, 158, 0, 0, 145), none],
  [none, some (.aload_n 0, 0, 0, 0, 146), some (.getfield 9, 3, 2, 0, 149), none, none, some (.iconst 2, 0, 0, 0, 150), some (.aload_n 0, 0, 0, 0, 151), some (.getfield 53, 3, 1, 0, 154), none, none, some (.invokevirtual 95, 11, 2, 5, 157), none, none, some (.ireturn, 0, 0, 0, 158), some (.aload_n 0, 0, 0, 0, 159), some (.getfield 9, 3, 2, 0, 162)],
  [none, none, some (.iload 4, 0, 0, 0, 164), none, some (.ldc 102, 2, 1, 0, 166), none, some (.invokevirtual 104, 100, 0, 13, 169), none, none, some (.iadd, 0, 0, 0, 170), some (.putfield 88, 5, 4, 0, 173), none, none, some (.aload_n 0, 0, 0, 0, 174), none, none],
  [none, some (.ireturn, 0, 0, 0, 178), none, none, none, none, none, none, none, none, none, none, none, none, none, none]])
def ex_m5 : ex_M := (⟨"PaperHouse$Loader", "passes", "(Ljava/lang/String;I)Z"⟩, prog_5_method_4_code, 4, some (Jvm.ClassFile.FieldType.boolean), [[some (.iconst 0, 0, 0, 0, 1), some (.istore_n 3, 0, 0, 0, 2), some (.iload_n 3, 0, 0, 0, 3), some (.aload_n 1, 0, 0, 0, 4), some (.invokevirtual 104, 100, 0, 13, 7), none, none, some (.if_icmp .ge 62, 69, 0, 0, 10), none, none, some (.aload_n 0, 0, 0, 0, 11), some (.getfield 9, 3, 2, 0, 14), none, none, some (.aload_n 0, 0, 0, 0, 15), some (.getfield 9, 3, 2, 0, 18)],
  [none, none, some (.getfield 88, 5, 4, 0, 21), none, none, some (.invokevirtual 91, 9, 1, 5, 24), none, none, some (.aload_n 1, 0, 0, 0, 25), some (.iload_n 3, 0, 0, 0, 26), some (.invokevirtual 126, 96, 1, 13, 29), none, none, some (.if_icmp .eq 21, 50, 0, 0, 32), none, none],
  [some (.aload_n 0, 0, 0, 0, 33), some (.getfield 9, 3, 2, 0, 36), none, none, some (.iload_n 2, 0, 0, 0, 37), some (.aload_n 0, 0, 0, 0, 38), some (.getfield 9, 3, 2, 0, 41), none, none, some (.getfield 88, 5, 4, 0, 44), none, none, some (.invokevirtual 95, 11, 2, 5, 47), none, none, some (.pop, 0, 0, 0, 48)],
  [some (.iconst 0, 0, 0, 0, 49), some (.ireturn, 0, 0, 0, 50), some (.aload_n 0, 0, 0, 0, 51), some (.getfield 9, 3, 2, 0, 54), none, none, some (.dup, 0, 0, 0, 55), some (.getfield 88, 5, 4, 0, 58), none, none, some (.iconst 1, 0, 0, 0, 59), some (.iadd, 0, 0, 0, 60), some (.putfield 88, 5, 4, 0, 63), none, none, some (.iinc 3 1, 0, 0, 0, 66)],
  [none, none, some (.goto (-64), 2, 0, 0, 69), none, none, some (.iconst 1, 0, 0, 0, 70), some (.ireturn, 0, 0, 0, 71), none, none, none, none, none, none, none, none, none]])
def ex_m6 : ex_M := (⟨"PaperHouse$Painter", "<init>", "(LPaperHouse$Table;LPaperHouse$Tree;)V"⟩, prog_6_method_1_code, 3, none, [[some (.aload_n 0, 0, 0, 0, 1), some (.invokespecial 3, 1000000, 0, 0, 4), none, none, some (.aload_n 0, 0, 0, 0, 5), some (.aload_n 1, 0, 0, 0, 6), some (.putfield 9, 4, 0, 0, 9), none, none, some (.aload_n 0, 0, 0, 0, 10), some (.aload_n 2, 0, 0, 0, 11), some (.putfield 15, 4, 2, 0, 14), none, none, some (.aload_n 0, 0, 0, 0, 15), some (.aload_n 1, 0, 0, 0, 16)],
  [some (.getfield 19, 8, 0, 0, 19), none, none, some (.putfield 25, 4, 1, 0, 22), none, none, some (.aload_n 0, 0, 0, 0, 23), some (.new 26, 5, 0, 0, 26), none, none, some (.dup, 0, 0, 0, 27), some (.aload_n 0, 0, 0, 0, 28), some (.getfield 25, 4, 1, 0, 31), none, none, some (.invokespecial 28, 8, 1, 0, 34)],
  [none, none, some (.putfield 31, 4, 3, 0, 37), none, none, some (.aload_n 0, 0, 0, 0, 38), some (.ldc 37, 40000, 0, 0, 40), none, some (.newarray .byte, 0, 0, 0, 42), none, some (.putfield 38, 4, 4, 0, 45), none, none, some (.aload_n 0, 0, 0, 0, 46), some (.bipush 12, 0, 0, 0, 48), none],
  [some (.newarray .int, 0, 0, 0, 50), none, some (.putfield 42, 4, 5, 0, 53), none, none, some (.aload_n 0, 0, 0, 0, 54), some (.sipush 240, 0, 0, 0, 57), none, none, some (.newarray .int, 0, 0, 0, 59), none, some (.putfield 46, 4, 6, 0, 62), none, none, some (.aload_n 0, 0, 0, 0, 63), some (.bipush 6, 0, 0, 0, 65)],
  [none, some (.newarray .int, 0, 0, 0, 67), none, some (.putfield 49, 4, 7, 0, 70), none, none, some (.aload_n 0, 0, 0, 0, 71), some (.bipush 6, 0, 0, 0, 73), none, some (.newarray .int, 0, 0, 0, 75), none, some (.putfield 52, 4, 8, 0, 78), none, none, some (.aload_n 0, 0, 0, 0, 79), some (.bipush 6, 0, 0, 0, 81)],
  [none, some (.newarray .int, 0, 0, 0, 83), none, some (.putfield 55, 4, 9, 0, 86), none, none, some (.aload_n 0, 0, 0, 0, 87), some (.bipush 6, 0, 0, 0, 89), none, some (.newarray .int, 0, 0, 0, 91), none, some (.putfield 58, 4, 10, 0, 94), none, none, some (.aload_n 0, 0, 0, 0, 95), some (.sipush 256, 0, 0, 0, 98)],
  [none, none, some (.newarray .int, 0, 0, 0, 100), none, some (.putfield 61, 4, 11, 0, 103), none, none, some (.aload_n 0, 0, 0, 0, 104), some (.bipush 40, 0, 0, 0, 106), none, some (.newarray .int, 0, 0, 0, 108), none, some (.putfield 64, 4, 12, 0, 111), none, none, some (.aload_n 0, 0, 0, 0, 112)],
  [some (.sipush 7500, 0, 0, 0, 115), none, none, some (.newarray .int, 0, 0, 0, 117), none, some (.putfield 67, 4, 13, 0, 120), none, none, some (.return_, 0, 0, 0, 121), none, none, none, none, none, none, none]])
def ex_m7 : ex_M := (⟨"PaperHouse$Painter", "forget", "()V"⟩, prog_6_method_2_code, 1, none, [[some (.aload_n 0, 0, 0, 0, 1), some (.iconst 0, 0, 0, 0, 2), some (.putfield 70, 4, 18, 0, 5), none, none, some (.return_, 0, 0, 0, 6), none, none, none, none, none, none, none, none, none, none]])
def ex_m8 : ex_M := (⟨"PaperHouse$Parser", "<init>", "(LPaperHouse$Store;)V"⟩, prog_7_method_1_code, 2, none, [[some (.aload_n 0, 0, 0, 0, 1), some (.invokespecial 3, 1000000, 0, 0, 4), none, none, some (.aload_n 0, 0, 0, 0, 5), some (.aload_n 1, 0, 0, 0, 6), some (.putfield 9, 5, 0, 0, 9), none, none, some (.aload_n 0, 0, 0, 0, 10), some (.aload_n 1, 0, 0, 0, 11), some (.getfield 15, 7, 5, 0, 14), none, none, some (.putfield 21, 5, 1, 0, 17), none],
  [none, some (.aload_n 0, 0, 0, 0, 18), some (.iconst 0, 0, 0, 0, 19), some (.newarray .byte, 0, 0, 0, 21), none, some (.putfield 22, 5, 2, 0, 24), none, none, some (.return_, 0, 0, 0, 25), none, none, none, none, none, none, none]])
def ex_m9 : ex_M := (⟨"PaperHouse$Parser", "at", "(I)I"⟩, prog_7_method_7_code, 2, some (Jvm.ClassFile.FieldType.int), [[some (.iload_n 1, 0, 0, 0, 1), some (.aload_n 0, 0, 0, 0, 2), some (.getfield 63, 5, 3, 0, 5), none, none, some (.if_icmp .lt 33, 38, 0, 0, 8), none, none, some (.iload_n 1, 0, 0, 0, 9), some (.aload_n 0, 0, 0, 0, 10), some (.getfield 60, 5, 5, 0, 13), none, none, some (.if_icmp .ge 25, 38, 0, 0, 16), none, none],
  [some (.iload_n 1, 0, 0, 0, 17), some (.aload_n 0, 0, 0, 0, 18), some (.getfield 22, 5, 2, 0, 21), none, none, some (.arraylength, 0, 0, 0, 22), some (.if_icmp .ge 16, 38, 0, 0, 25), none, none, some (.aload_n 0, 0, 0, 0, 26), some (.getfield 22, 5, 2, 0, 29), none, none, some (.iload_n 1, 0, 0, 0, 30), some (.baload, 0, 0, 0, 31), some (.sipush 255, 0, 0, 0, 34)],
  [none, none, some (.iand, 0, 0, 0, 35), some (.goto 4, 39, 0, 0, 38), none, none, some (.iconst (-1), 0, 0, 0, 39), some (.ireturn, 0, 0, 0, 40), none, none, none, none, none, none, none, none]])
def ex_m10 : ex_M := (⟨"PaperHouse$Parser", "countAnew", "()V"⟩, prog_7_method_3_code, 1, none, [[some (.aload_n 0, 0, 0, 0, 1), some (.aload_n 0, 0, 0, 0, 2), some (.getfield 9, 5, 0, 0, 5), none, none, some (.getfield 39, 7, 6, 0, 8), none, none, some (.putfield 42, 5, 8, 0, 11), none, none, some (.aload_n 0, 0, 0, 0, 12), some (.aload_n 0, 0, 0, 0, 13), some (.getfield 9, 5, 0, 0, 16), none, none],
  [some (.getfield 45, 7, 7, 0, 19), none, none, some (.putfield 48, 5, 9, 0, 22), none, none, some (.return_, 0, 0, 0, 23), none, none, none, none, none, none, none, none, none]])
def ex_m11 : ex_M := (⟨"PaperHouse$Parser", "fail", "(II)I"⟩, prog_7_method_5_code, 3, some (Jvm.ClassFile.FieldType.int), [[some (.aload_n 0, 0, 0, 0, 1), some (.getfield 25, 5, 6, 0, 4), none, none, some (.ifCond .ne 13, 17, 0, 0, 7), none, none, some (.aload_n 0, 0, 0, 0, 8), some (.iload_n 1, 0, 0, 0, 9), some (.putfield 25, 5, 6, 0, 12), none, none, some (.aload_n 0, 0, 0, 0, 13), some (.iload_n 2, 0, 0, 0, 14), some (.putfield 29, 5, 7, 0, 17), none],
  [none, some (.iconst (-1), 0, 0, 0, 18), some (.ireturn, 0, 0, 0, 19), none, none, none, none, none, none, none, none, none, none, none, none, none]])
def ex_m12 : ex_M := (⟨"PaperHouse$Parser", "open", "([BII)V"⟩, prog_7_method_4_code, 4, none, [[some (.aload_n 0, 0, 0, 0, 1), some (.aload_n 1, 0, 0, 0, 2), some (.putfield 22, 5, 2, 0, 5), none, none, some (.aload_n 0, 0, 0, 0, 6), some (.iconst 0, 0, 0, 0, 7), some (.iload_n 3, 0, 0, 0, 8), some (.aload_n 1, 0, 0, 0, 9), some (.arraylength, 0, 0, 0, 10), some (.invokestatic 51, 1000002, 2, 0, 13), none, none, some (.invokestatic 57, 1000001, 2, 0, 16), none, none],
  [some (.putfield 60, 5, 5, 0, 19), none, none, some (.aload_n 0, 0, 0, 0, 20), some (.iconst 0, 0, 0, 0, 21), some (.iload_n 2, 0, 0, 0, 22), some (.aload_n 0, 0, 0, 0, 23), some (.getfield 60, 5, 5, 0, 26), none, none, some (.invokestatic 51, 1000002, 2, 0, 29), none, none, some (.invokestatic 57, 1000001, 2, 0, 32), none, none],
  [some (.putfield 63, 5, 3, 0, 35), none, none, some (.aload_n 0, 0, 0, 0, 36), some (.aload_n 0, 0, 0, 0, 37), some (.getfield 63, 5, 3, 0, 40), none, none, some (.putfield 66, 5, 4, 0, 43), none, none, some (.aload_n 0, 0, 0, 0, 44), some (.iconst (-1), 0, 0, 0, 45), some (.putfield 69, 5, 11, 0, 48), none, none],
  [some (.return_, 0, 0, 0, 49), none, none, none, none, none, none, none, none, none, none, none, none, none, none, none]])
def ex_m13 : ex_M := (⟨"PaperHouse$Parser", "restart", "(Z)V"⟩, prog_7_method_2_code, 2, none, [[some (.aload_n 0, 0, 0, 0, 1), some (.iconst 0, 0, 0, 0, 2), some (.putfield 25, 5, 6, 0, 5), none, none, some (.aload_n 0, 0, 0, 0, 6), some (.iconst (-1), 0, 0, 0, 7), some (.putfield 29, 5, 7, 0, 10), none, none, some (.aload_n 0, 0, 0, 0, 11), some (.iload_n 1, 0, 0, 0, 12), some (.putfield 32, 5, 10, 0, 15), none, none, some (.aload_n 0, 0, 0, 0, 16)],
  [some (.invokevirtual 36, 10, 0, 5, 19), none, none, some (.return_, 0, 0, 0, 20), none, none, none, none, none, none, none, none, none, none, none, none]])
def ex_m14 : ex_M := (⟨"PaperHouse$Sections", "<init>", "(LPaperHouse$Parser;LPaperHouse$Table;LPaperHouse$Filters;)V"⟩, prog_8_method_1_code, 4, none, [[some (.aload_n 0, 0, 0, 0, 1), some (.invokespecial 3, 1000000, 0, 0, 4), none, none, some (.aload_n 0, 0, 0, 0, 5), some (.aload_n 1, 0, 0, 0, 6), some (.putfield 9, 6, 0, 0, 9), none, none, some (.aload_n 0, 0, 0, 0, 10), some (.aload_n 2, 0, 0, 0, 11), some (.putfield 15, 6, 2, 0, 14), none, none, some (.aload_n 0, 0, 0, 0, 15), some (.aload_n 3, 0, 0, 0, 16)],
  [some (.putfield 19, 6, 3, 0, 19), none, none, some (.aload_n 0, 0, 0, 0, 20), some (.aload_n 2, 0, 0, 0, 21), some (.getfield 23, 8, 0, 0, 24), none, none, some (.putfield 29, 6, 1, 0, 27), none, none, some (.aload_n 0, 0, 0, 0, 28), some (.bipush 10, 0, 0, 0, 30), none, some (.newarray .int, 0, 0, 0, 32), none],
  [some (.putfield 30, 6, 4, 0, 35), none, none, some (.aload_n 0, 0, 0, 0, 36), some (.iconst 3, 0, 0, 0, 37), some (.newarray .int, 0, 0, 0, 39), none, some (.putfield 34, 6, 5, 0, 42), none, none, some (.return_, 0, 0, 0, 43), none, none, none, none, none]])
def ex_m15 : ex_M := (⟨"PaperHouse$Sections", "clear", "()V"⟩, prog_8_method_2_code, 1, none, [[some (.aload_n 0, 0, 0, 0, 1), some (.iconst 0, 0, 0, 0, 2), some (.putfield 37, 6, 6, 0, 5), none, none, some (.aload_n 0, 0, 0, 0, 6), some (.iconst (-1), 0, 0, 0, 7), some (.putfield 41, 6, 7, 0, 10), none, none, some (.aload_n 0, 0, 0, 0, 11), some (.iconst 0, 0, 0, 0, 12), some (.putfield 44, 6, 10, 0, 15), none, none, some (.return_, 0, 0, 0, 16)]])
def ex_m16 : ex_M := (⟨"PaperHouse$Store", "<init>", "()V"⟩, prog_9_method_1_code, 4, none, [[some (.aload_n 0, 0, 0, 0, 1), some (.invokespecial 5, 1000000, 0, 0, 4), none, none, some (.aload_n 0, 0, 0, 0, 5), some (.sipush 16564, 0, 0, 0, 8), none, none, some (.newarray .int, 0, 0, 0, 10), none, some (.putfield 11, 7, 0, 0, 13), none, none, some (.aload_n 0, 0, 0, 0, 14), some (.sipush 16564, 0, 0, 0, 17), none],
  [none, some (.newarray .int, 0, 0, 0, 19), none, some (.putfield 15, 7, 1, 0, 22), none, none, some (.aload_n 0, 0, 0, 0, 23), some (.sipush 16564, 0, 0, 0, 26), none, none, some (.newarray .int, 0, 0, 0, 28), none, some (.putfield 18, 7, 2, 0, 31), none, none, some (.aload_n 0, 0, 0, 0, 32)],
  [some (.sipush 16564, 0, 0, 0, 35), none, none, some (.newarray .int, 0, 0, 0, 37), none, some (.putfield 21, 7, 3, 0, 40), none, none, some (.aload_n 0, 0, 0, 0, 41), some (.sipush 16564, 0, 0, 0, 44), none, none, some (.newarray .int, 0, 0, 0, 46), none, some (.putfield 24, 7, 4, 0, 49), none],
  [none, some (.aload_n 0, 0, 0, 0, 50), some (.ldc 27, 108612, 0, 0, 52), none, some (.newarray .byte, 0, 0, 0, 54), none, some (.putfield 28, 7, 5, 0, 57), none, none, some (.aload_n 0, 0, 0, 0, 58), some (.sipush 8512, 0, 0, 0, 61), none, none, some (.putfield 32, 7, 7, 0, 64), none, none],
  [some (.aload_n 0, 0, 0, 0, 65), some (.iconst 0, 0, 0, 0, 66), some (.iconst 0, 0, 0, 0, 67), some (.iconst 0, 0, 0, 0, 68), some (.invokevirtual 36, 17, 3, 7, 71), none, none, some (.pop, 0, 0, 0, 72), some (.iconst 0, 0, 0, 0, 73), some (.istore_n 1, 0, 0, 0, 74), some (.iconst 0, 0, 0, 0, 75), some (.istore_n 2, 0, 0, 0, 76), some (.iload_n 2, 0, 0, 0, 77), some (.ldc 40, 4, 1, 0, 79), none, some (.invokevirtual 42, 100, 0, 13, 82)],
  [none, none, some (.if_icmp .ge 51, 133, 0, 0, 85), none, none, some (.iload_n 2, 0, 0, 0, 86), some (.sipush 512, 0, 0, 0, 89), none, none, some (.if_icmp .ge 44, 133, 0, 0, 92), none, none, some (.ldc 40, 4, 1, 0, 94), none, some (.iload_n 2, 0, 0, 0, 95), some (.invokevirtual 48, 96, 1, 13, 98)],
  [none, none, some (.istore_n 3, 0, 0, 0, 99), some (.aload_n 0, 0, 0, 0, 100), some (.getfield 28, 7, 5, 0, 103), none, none, some (.iload_n 2, 0, 0, 0, 104), some (.iload_n 3, 0, 0, 0, 105), some (.i2b, 0, 0, 0, 106), some (.bastore, 0, 0, 0, 107), some (.iload_n 3, 0, 0, 0, 108), some (.bipush 32, 0, 0, 0, 110), none, some (.if_icmp .ne 17, 127, 0, 0, 113), none],
  [none, some (.aload_n 0, 0, 0, 0, 114), some (.iconst 4, 0, 0, 0, 115), some (.iload_n 1, 0, 0, 0, 116), some (.iload_n 2, 0, 0, 0, 117), some (.iload_n 1, 0, 0, 0, 118), some (.isub, 0, 0, 0, 119), some (.invokevirtual 36, 17, 3, 7, 122), none, none, some (.pop, 0, 0, 0, 123), some (.iload_n 2, 0, 0, 0, 124), some (.iconst 1, 0, 0, 0, 125), some (.iadd, 0, 0, 0, 126), some (.istore_n 1, 0, 0, 0, 127), some (.iinc 2 1, 0, 0, 0, 130)],
  [none, none, some (.goto (-54), 76, 0, 0, 133), none, none, some (.aload_n 0, 0, 0, 0, 134), some (.aload_n 0, 0, 0, 0, 135), some (.getfield 52, 7, 6, 0, 138), none, none, some (.putfield 55, 7, 8, 0, 141), none, none, some (.return_, 0, 0, 0, 142), none, none]])
def ex_m17 : ex_M := (⟨"PaperHouse$Store", "add", "(III)I"⟩, prog_9_method_5_code, 5, some (Jvm.ClassFile.FieldType.int), [[some (.aload_n 0, 0, 0, 0, 1), some (.getfield 52, 7, 6, 0, 4), none, none, some (.ifCond .lt 15, 19, 0, 0, 7), none, none, some (.aload_n 0, 0, 0, 0, 8), some (.getfield 52, 7, 6, 0, 11), none, none, some (.aload_n 0, 0, 0, 0, 12), some (.getfield 11, 7, 0, 0, 15), none, none, some (.arraylength, 0, 0, 0, 16)],
  [some (.if_icmp .lt 5, 21, 0, 0, 19), none, none, some (.iconst (-1), 0, 0, 0, 20), some (.ireturn, 0, 0, 0, 21), some (.aload_n 0, 0, 0, 0, 22), some (.getfield 52, 7, 6, 0, 25), none, none, some (.istore 4, 0, 0, 0, 27), none, some (.aload_n 0, 0, 0, 0, 28), some (.dup, 0, 0, 0, 29), some (.getfield 52, 7, 6, 0, 32), none, none],
  [some (.iconst 1, 0, 0, 0, 33), some (.iadd, 0, 0, 0, 34), some (.putfield 52, 7, 6, 0, 37), none, none, some (.aload_n 0, 0, 0, 0, 38), some (.getfield 11, 7, 0, 0, 41), none, none, some (.iload 4, 0, 0, 0, 43), none, some (.iload_n 1, 0, 0, 0, 44), some (.iastore, 0, 0, 0, 45), some (.aload_n 0, 0, 0, 0, 46), some (.getfield 15, 7, 1, 0, 49), none],
  [none, some (.iload 4, 0, 0, 0, 51), none, some (.iload_n 2, 0, 0, 0, 52), some (.iastore, 0, 0, 0, 53), some (.aload_n 0, 0, 0, 0, 54), some (.getfield 18, 7, 2, 0, 57), none, none, some (.iload 4, 0, 0, 0, 59), none, some (.iload_n 3, 0, 0, 0, 60), some (.iastore, 0, 0, 0, 61), some (.aload_n 0, 0, 0, 0, 62), some (.getfield 21, 7, 3, 0, 65), none],
  [none, some (.iload 4, 0, 0, 0, 67), none, some (.iconst (-1), 0, 0, 0, 68), some (.iastore, 0, 0, 0, 69), some (.aload_n 0, 0, 0, 0, 70), some (.getfield 24, 7, 4, 0, 73), none, none, some (.iload 4, 0, 0, 0, 75), none, some (.iconst (-1), 0, 0, 0, 76), some (.iastore, 0, 0, 0, 77), some (.iload 4, 0, 0, 0, 79), none, some (.ireturn, 0, 0, 0, 80)]])
def ex_m18 : ex_M := (⟨"PaperHouse$Store", "clear", "()V"⟩, prog_9_method_2_code, 1, none, [[some (.aload_n 0, 0, 0, 0, 1), some (.aload_n 0, 0, 0, 0, 2), some (.getfield 55, 7, 8, 0, 5), none, none, some (.putfield 52, 7, 6, 0, 8), none, none, some (.aload_n 0, 0, 0, 0, 9), some (.sipush 8512, 0, 0, 0, 12), none, none, some (.putfield 32, 7, 7, 0, 15), none, none, some (.return_, 0, 0, 0, 16)]])
def ex_m19 : ex_M := (⟨"PaperHouse$Table", "<init>", "(LPaperHouse$Store;)V"⟩, prog_10_method_1_code, 2, none, [[some (.aload_n 0, 0, 0, 0, 1), some (.invokespecial 3, 1000000, 0, 0, 4), none, none, some (.aload_n 0, 0, 0, 0, 5), some (.aload_n 1, 0, 0, 0, 6), some (.putfield 9, 8, 0, 0, 9), none, none, some (.aload_n 0, 0, 0, 0, 10), some (.sipush 200, 0, 0, 0, 13), none, none, some (.newarray .int, 0, 0, 0, 15), none, some (.putfield 15, 8, 1, 0, 18)],
  [none, none, some (.aload_n 0, 0, 0, 0, 19), some (.sipush 200, 0, 0, 0, 22), none, none, some (.newarray .int, 0, 0, 0, 24), none, some (.putfield 19, 8, 2, 0, 27), none, none, some (.aload_n 0, 0, 0, 0, 28), some (.sipush 200, 0, 0, 0, 31), none, none, some (.newarray .int, 0, 0, 0, 33)],
  [none, some (.putfield 22, 8, 3, 0, 36), none, none, some (.aload_n 0, 0, 0, 0, 37), some (.sipush 200, 0, 0, 0, 40), none, none, some (.newarray .int, 0, 0, 0, 42), none, some (.putfield 25, 8, 4, 0, 45), none, none, some (.aload_n 0, 0, 0, 0, 46), some (.sipush 200, 0, 0, 0, 49), none],
  [none, some (.newarray .int, 0, 0, 0, 51), none, some (.putfield 28, 8, 5, 0, 54), none, none, some (.aload_n 0, 0, 0, 0, 55), some (.sipush 200, 0, 0, 0, 58), none, none, some (.newarray .int, 0, 0, 0, 60), none, some (.putfield 31, 8, 6, 0, 63), none, none, some (.aload_n 0, 0, 0, 0, 64)],
  [some (.sipush 200, 0, 0, 0, 67), none, none, some (.newarray .boolean, 0, 0, 0, 69), none, some (.putfield 34, 8, 7, 0, 72), none, none, some (.aload_n 0, 0, 0, 0, 73), some (.sipush 200, 0, 0, 0, 76), none, none, some (.newarray .boolean, 0, 0, 0, 78), none, some (.putfield 38, 8, 8, 0, 81), none],
  [none, some (.aload_n 0, 0, 0, 0, 82), some (.ldc 41, 40000, 0, 0, 84), none, some (.newarray .byte, 0, 0, 0, 86), none, some (.putfield 42, 8, 9, 0, 89), none, none, some (.return_, 0, 0, 0, 90), none, none, none, none, none, none]])
def ex_m20 : ex_M := (⟨"PaperHouse$Table", "clear", "()V"⟩, prog_10_method_2_code, 2, none, [[some (.iconst 0, 0, 0, 0, 1), some (.istore_n 1, 0, 0, 0, 2), some (.iload_n 1, 0, 0, 0, 3), some (.sipush 200, 0, 0, 0, 6), none, none, some (.if_icmp .ge 51, 57, 0, 0, 9), none, none, some (.aload_n 0, 0, 0, 0, 10), some (.getfield 15, 8, 1, 0, 13), none, none, some (.iload_n 1, 0, 0, 0, 14), some (.iconst 0, 0, 0, 0, 15), some (.iastore, 0, 0, 0, 16)],
  [some (.aload_n 0, 0, 0, 0, 17), some (.getfield 25, 8, 4, 0, 20), none, none, some (.iload_n 1, 0, 0, 0, 21), some (.iconst (-1), 0, 0, 0, 22), some (.iastore, 0, 0, 0, 23), some (.aload_n 0, 0, 0, 0, 24), some (.getfield 28, 8, 5, 0, 27), none, none, some (.iload_n 1, 0, 0, 0, 28), some (.iconst (-1), 0, 0, 0, 29), some (.iastore, 0, 0, 0, 30), some (.aload_n 0, 0, 0, 0, 31), some (.getfield 31, 8, 6, 0, 34)],
  [none, none, some (.iload_n 1, 0, 0, 0, 35), some (.iconst 0, 0, 0, 0, 36), some (.iastore, 0, 0, 0, 37), some (.aload_n 0, 0, 0, 0, 38), some (.getfield 34, 8, 7, 0, 41), none, none, some (.iload_n 1, 0, 0, 0, 42), some (.iconst 0, 0, 0, 0, 43), some (.bastore, 0, 0, 0, 44), some (.aload_n 0, 0, 0, 0, 45), some (.getfield 38, 8, 8, 0, 48), none, none],
  [some (.iload_n 1, 0, 0, 0, 49), some (.iconst 0, 0, 0, 0, 50), some (.bastore, 0, 0, 0, 51), some (.iinc 1 1, 0, 0, 0, 54), none, none, some (.goto (-52), 2, 0, 0, 57), none, none, some (.aload_n 0, 0, 0, 0, 58), some (.getfield 15, 8, 1, 0, 61), none, none, some (.iconst 0, 0, 0, 0, 62), some (.iconst 1, 0, 0, 0, 63), some (.iastore, 0, 0, 0, 64)],
  [some (.aload_n 0, 0, 0, 0, 65), some (.iconst 0, 0, 0, 0, 66), some (.putfield 46, 8, 10, 0, 69), none, none, some (.aload_n 0, 0, 0, 0, 70), some (.sipush 200, 0, 0, 0, 73), none, none, some (.putfield 50, 8, 11, 0, 76), none, none, some (.aload_n 0, 0, 0, 0, 77), some (.iconst 0, 0, 0, 0, 78), some (.putfield 53, 8, 13, 0, 81), none],
  [none, some (.aload_n 0, 0, 0, 0, 82), some (.iconst 0, 0, 0, 0, 83), some (.putfield 56, 8, 14, 0, 86), none, none, some (.return_, 0, 0, 0, 87), none, none, none, none, none, none, none, none, none]])
def ex_m21 : ex_M := (⟨"PaperHouse$Tree", "<init>", "(LPaperHouse$Parser;LPaperHouse$Table;)V"⟩, prog_11_method_1_code, 3, none, [[some (.aload_n 0, 0, 0, 0, 1), some (.invokespecial 3, 1000000, 0, 0, 4), none, none, some (.aload_n 0, 0, 0, 0, 5), some (.aload_n 1, 0, 0, 0, 6), some (.putfield 9, 9, 0, 0, 9), none, none, some (.aload_n 0, 0, 0, 0, 10), some (.aload_n 2, 0, 0, 0, 11), some (.putfield 15, 9, 1, 0, 14), none, none, some (.aload_n 0, 0, 0, 0, 15), some (.aload_n 2, 0, 0, 0, 16)],
  [some (.getfield 19, 8, 0, 0, 19), none, none, some (.putfield 25, 9, 2, 0, 22), none, none, some (.aload_n 0, 0, 0, 0, 23), some (.bipush 60, 0, 0, 0, 25), none, some (.newarray .int, 0, 0, 0, 27), none, some (.putfield 26, 9, 3, 0, 30), none, none, some (.aload_n 0, 0, 0, 0, 31), some (.sipush 200, 0, 0, 0, 34)],
  [none, none, some (.newarray .int, 0, 0, 0, 36), none, some (.putfield 30, 9, 4, 0, 39), none, none, some (.aload_n 0, 0, 0, 0, 40), some (.sipush 200, 0, 0, 0, 43), none, none, some (.newarray .boolean, 0, 0, 0, 45), none, some (.putfield 33, 9, 5, 0, 48), none, none],
  [some (.aload_n 0, 0, 0, 0, 49), some (.iconst 0, 0, 0, 0, 50), some (.newarray .byte, 0, 0, 0, 52), none, some (.putfield 37, 9, 6, 0, 55), none, none, some (.return_, 0, 0, 0, 56), none, none, none, none, none, none, none, none]])
def ex_m22 : ex_M := (⟨"PaperHouse$Writer", "<init>", "(LPaperHouse$Table;)V"⟩, prog_12_method_1_code, 2, none, [[some (.aload_n 0, 0, 0, 0, 1), some (.invokespecial 3, 1000000, 0, 0, 4), none, none, some (.aload_n 0, 0, 0, 0, 5), some (.aload_n 1, 0, 0, 0, 6), some (.putfield 9, 10, 0, 0, 9), none, none, some (.aload_n 0, 0, 0, 0, 10), some (.aload_n 1, 0, 0, 0, 11), some (.getfield 15, 8, 0, 0, 14), none, none, some (.putfield 21, 10, 1, 0, 17), none],
  [none, some (.aload_n 0, 0, 0, 0, 18), some (.sipush 30000, 0, 0, 0, 21), none, none, some (.newarray .byte, 0, 0, 0, 23), none, some (.putfield 22, 10, 2, 0, 26), none, none, some (.aload_n 0, 0, 0, 0, 27), some (.sipush 200, 0, 0, 0, 30), none, none, some (.newarray .int, 0, 0, 0, 32), none],
  [some (.putfield 26, 10, 6, 0, 35), none, none, some (.aload_n 0, 0, 0, 0, 36), some (.sipush 200, 0, 0, 0, 39), none, none, some (.newarray .int, 0, 0, 0, 41), none, some (.putfield 30, 10, 7, 0, 44), none, none, some (.aload_n 0, 0, 0, 0, 45), some (.sipush 200, 0, 0, 0, 48), none, none],
  [some (.newarray .int, 0, 0, 0, 50), none, some (.putfield 33, 10, 8, 0, 53), none, none, some (.aload_n 0, 0, 0, 0, 54), some (.sipush 1400, 0, 0, 0, 57), none, none, some (.newarray .byte, 0, 0, 0, 59), none, some (.putfield 36, 10, 10, 0, 62), none, none, some (.aload_n 0, 0, 0, 0, 63), some (.sipush 9216, 0, 0, 0, 66)],
  [none, none, some (.newarray .byte, 0, 0, 0, 68), none, some (.putfield 39, 10, 11, 0, 71), none, none, some (.aload_n 0, 0, 0, 0, 72), some (.sipush 4096, 0, 0, 0, 75), none, none, some (.newarray .int, 0, 0, 0, 77), none, some (.putfield 42, 10, 15, 0, 80), none, none],
  [some (.aload_n 0, 0, 0, 0, 81), some (.sipush 8000, 0, 0, 0, 84), none, none, some (.newarray .int, 0, 0, 0, 86), none, some (.putfield 45, 10, 16, 0, 89), none, none, some (.aload_n 0, 0, 0, 0, 90), some (.getfield 42, 10, 15, 0, 93), none, none, some (.iconst (-1), 0, 0, 0, 94), some (.invokestatic 48, 102, 2, 0, 97), none],
  [none, some (.return_, 0, 0, 0, 98), none, none, none, none, none, none, none, none, none, none, none, none, none, none]])
def ex_m23 : ex_M := (⟨"PaperHouse$Writer", "adler", "([BII)I"⟩, prog_12_method_4_code, 6, some (Jvm.ClassFile.FieldType.int), [[some (.iconst 1, 0, 0, 0, 1), some (.istore_n 3, 0, 0, 0, 2), some (.iconst 0, 0, 0, 0, 3), some (.istore 4, 0, 0, 0, 5), none, some (.iconst 0, 0, 0, 0, 6), some (.iload_n 1, 0, 0, 0, 7), some (.invokestatic 62, 1000001, 2, 0, 10), none, none, some (.istore 5, 0, 0, 0, 12), none, some (.iload 5, 0, 0, 0, 14), none, some (.iload_n 1, 0, 0, 0, 15), some (.iload_n 2, 0, 0, 0, 16)],
  [some (.iadd, 0, 0, 0, 17), some (.if_icmp .ge 39, 56, 0, 0, 20), none, none, some (.iload 5, 0, 0, 0, 22), none, some (.aload_n 0, 0, 0, 0, 23), some (.arraylength, 0, 0, 0, 24), some (.if_icmp .ge 32, 56, 0, 0, 27), none, none, some (.iload_n 3, 0, 0, 0, 28), some (.aload_n 0, 0, 0, 0, 29), some (.iload 5, 0, 0, 0, 31), none, some (.baload, 0, 0, 0, 32)],
  [some (.sipush 255, 0, 0, 0, 35), none, none, some (.iand, 0, 0, 0, 36), some (.iadd, 0, 0, 0, 37), some (.ldc 68, 65521, 0, 0, 39), none, some (.irem, 0, 0, 0, 40), some (.istore_n 3, 0, 0, 0, 41), some (.iload 4, 0, 0, 0, 43), none, some (.iload_n 3, 0, 0, 0, 44), some (.iadd, 0, 0, 0, 45), some (.ldc 68, 65521, 0, 0, 47), none, some (.irem, 0, 0, 0, 48)],
  [some (.istore 4, 0, 0, 0, 50), none, some (.iinc 5 1, 0, 0, 0, 53), none, none, some (.goto (-41), 12, 0, 0, 56), none, none, some (.iload 4, 0, 0, 0, 58), none, some (.bipush 16, 0, 0, 0, 60), none, some (.ishl, 0, 0, 0, 61), some (.iload_n 3, 0, 0, 0, 62), some (.ior, 0, 0, 0, 63), some (.ireturn, 0, 0, 0, 64)]])
def ex_m24 : ex_M := (⟨"PaperHouse$Writer", "byteAt", "(I)I"⟩, prog_12_method_3_code, 2, some (Jvm.ClassFile.FieldType.int), [[some (.iload_n 1, 0, 0, 0, 1), some (.ifCond .lt 33, 34, 0, 0, 4), none, none, some (.iload_n 1, 0, 0, 0, 5), some (.aload_n 0, 0, 0, 0, 6), some (.getfield 54, 10, 3, 0, 9), none, none, some (.if_icmp .ge 25, 34, 0, 0, 12), none, none, some (.iload_n 1, 0, 0, 0, 13), some (.aload_n 0, 0, 0, 0, 14), some (.getfield 22, 10, 2, 0, 17), none],
  [none, some (.arraylength, 0, 0, 0, 18), some (.if_icmp .ge 16, 34, 0, 0, 21), none, none, some (.aload_n 0, 0, 0, 0, 22), some (.getfield 22, 10, 2, 0, 25), none, none, some (.iload_n 1, 0, 0, 0, 26), some (.baload, 0, 0, 0, 27), some (.sipush 255, 0, 0, 0, 30), none, none, some (.iand, 0, 0, 0, 31), some (.goto 4, 35, 0, 0, 34)],
  [none, none, some (.iconst (-1), 0, 0, 0, 35), some (.ireturn, 0, 0, 0, 36), none, none, none, none, none, none, none, none, none, none, none, none]])
def ex_m25 : ex_M := (⟨"PaperHouse$Writer", "clear", "()V"⟩, prog_12_method_2_code, 1, none, [[some (.aload_n 0, 0, 0, 0, 1), some (.iconst 0, 0, 0, 0, 2), some (.putfield 54, 10, 3, 0, 5), none, none, some (.aload_n 0, 0, 0, 0, 6), some (.iconst 0, 0, 0, 0, 7), some (.putfield 58, 10, 4, 0, 10), none, none, some (.return_, 0, 0, 0, 11), none, none, none, none, none]])
def ex_m26 : ex_M := (⟨"PaperHouse", "<init>", "()V"⟩, prog_1_method_1_code, 2, none, [[some (.aload_n 0, 0, 0, 0, 1), some (.invokespecial 1, 1000000, 0, 0, 4), none, none, some (.aload_n 0, 0, 0, 0, 5), some (.sipush 8000, 0, 0, 0, 8), none, none, some (.newarray .byte, 0, 0, 0, 10), none, some (.putfield 9, 11, 0, 0, 13), none, none, some (.aload_n 0, 0, 0, 0, 14), some (.new 13, 7, 0, 0, 17), none],
  [none, some (.dup, 0, 0, 0, 18), some (.invokespecial 15, 16, 0, 0, 21), none, none, some (.putfield 16, 11, 2, 0, 24), none, none, some (.aload_n 0, 0, 0, 0, 25), some (.new 20, 8, 0, 0, 28), none, none, some (.dup, 0, 0, 0, 29), some (.aload_n 0, 0, 0, 0, 30), some (.getfield 16, 11, 2, 0, 33), none],
  [none, some (.invokespecial 22, 19, 1, 0, 36), none, none, some (.putfield 25, 11, 3, 0, 39), none, none, some (.aload_n 0, 0, 0, 0, 40), some (.new 29, 5, 0, 0, 43), none, none, some (.dup, 0, 0, 0, 44), some (.aload_n 0, 0, 0, 0, 45), some (.getfield 16, 11, 2, 0, 48), none, none],
  [some (.invokespecial 31, 8, 1, 0, 51), none, none, some (.putfield 32, 11, 4, 0, 54), none, none, some (.new 36, 1, 0, 0, 57), none, none, some (.dup, 0, 0, 0, 58), some (.aload_n 0, 0, 0, 0, 59), some (.getfield 16, 11, 2, 0, 62), none, none, some (.invokespecial 38, 1, 1, 0, 65), none],
  [none, some (.astore_n 1, 0, 0, 0, 66), some (.aload_n 0, 0, 0, 0, 67), some (.new 39, 6, 0, 0, 70), none, none, some (.dup, 0, 0, 0, 71), some (.aload_n 0, 0, 0, 0, 72), some (.getfield 32, 11, 4, 0, 75), none, none, some (.aload_n 0, 0, 0, 0, 76), some (.getfield 25, 11, 3, 0, 79), none, none, some (.aload_n 1, 0, 0, 0, 80)],
  [some (.invokespecial 41, 14, 3, 0, 83), none, none, some (.putfield 44, 11, 5, 0, 86), none, none, some (.aload_n 0, 0, 0, 0, 87), some (.new 48, 3, 0, 0, 90), none, none, some (.dup, 0, 0, 0, 91), some (.aload_n 0, 0, 0, 0, 92), some (.getfield 32, 11, 4, 0, 95), none, none, some (.aload_n 0, 0, 0, 0, 96)],
  [some (.getfield 25, 11, 3, 0, 99), none, none, some (.aload_n 1, 0, 0, 0, 100), some (.invokespecial 50, 3, 3, 0, 103), none, none, some (.putfield 51, 11, 6, 0, 106), none, none, some (.aload_n 0, 0, 0, 0, 107), some (.new 55, 9, 0, 0, 110), none, none, some (.dup, 0, 0, 0, 111), some (.aload_n 0, 0, 0, 0, 112)],
  [some (.getfield 32, 11, 4, 0, 115), none, none, some (.aload_n 0, 0, 0, 0, 116), some (.getfield 25, 11, 3, 0, 119), none, none, some (.invokespecial 57, 21, 2, 0, 122), none, none, some (.putfield 60, 11, 7, 0, 125), none, none, some (.aload_n 0, 0, 0, 0, 126), some (.new 64, 4, 0, 0, 129), none],
  [none, some (.dup, 0, 0, 0, 130), some (.aload_n 0, 0, 0, 0, 131), some (.getfield 25, 11, 3, 0, 134), none, none, some (.aload_n 0, 0, 0, 0, 135), some (.getfield 60, 11, 7, 0, 138), none, none, some (.invokespecial 66, 6, 2, 0, 141), none, none, some (.putfield 69, 11, 8, 0, 144), none, none],
  [some (.aload_n 0, 0, 0, 0, 145), some (.new 73, 0, 0, 0, 148), none, none, some (.dup, 0, 0, 0, 149), some (.aload_n 0, 0, 0, 0, 150), some (.getfield 25, 11, 3, 0, 153), none, none, some (.aload_n 0, 0, 0, 0, 154), some (.getfield 60, 11, 7, 0, 157), none, none, some (.invokespecial 75, 0, 2, 0, 160), none, none],
  [some (.putfield 76, 11, 9, 0, 163), none, none, some (.aload_n 0, 0, 0, 0, 164), some (.new 80, 10, 0, 0, 167), none, none, some (.dup, 0, 0, 0, 168), some (.aload_n 0, 0, 0, 0, 169), some (.getfield 25, 11, 3, 0, 172), none, none, some (.invokespecial 82, 22, 1, 0, 175), none, none, some (.putfield 85, 11, 10, 0, 178)],
  [none, none, some (.aload_n 0, 0, 0, 0, 179), some (.bipush 25, 0, 0, 0, 181), none, some (.newarray .int, 0, 0, 0, 183), none, some (.putfield 89, 11, 11, 0, 186), none, none, some (.aload_n 0, 0, 0, 0, 187), some (.iconst (-1), 0, 0, 0, 188), some (.putfield 93, 11, 12, 0, 191), none, none, some (.aload_n 0, 0, 0, 0, 192)],
  [some (.iconst (-1), 0, 0, 0, 193), some (.putfield 97, 11, 16, 0, 196), none, none, some (.aload_n 0, 0, 0, 0, 197), some (.iconst (-1), 0, 0, 0, 198), some (.putfield 100, 11, 18, 0, 201), none, none, some (.return_, 0, 0, 0, 202), none, none, none, none, none, none]])
def ex_m27 : ex_M := (⟨"PaperHouse", "contents", "(I)I"⟩, prog_1_method_28_code, 3, some (Jvm.ClassFile.FieldType.int), [[some (.aload_n 0, 0, 0, 0, 1), some (.getfield 103, 11, 1, 0, 4), none, none, some (.istore_n 2, 0, 0, 0, 5), some (.aload_n 0, 0, 0, 0, 6), some (.iconst 0, 0, 0, 0, 7), some (.putfield 103, 11, 1, 0, 10), none, none, some (.aload_n 0, 0, 0, 0, 11), some (.getfield 175, 11, 14, 0, 14), none, none, some (.ifCond .eq 23, 37, 0, 0, 17), none],
  [none, some (.aload_n 0, 0, 0, 0, 18), some (.aload_n 0, 0, 0, 0, 19), some (.getfield 76, 11, 9, 0, 22), none, none, some (.iload_n 1, 0, 0, 0, 23), some (.aload_n 0, 0, 0, 0, 24), some (.getfield 9, 11, 0, 0, 27), none, none, some (.iload_n 2, 0, 0, 0, 28), none, none, none, none],
  [none, none, some (.goto 4, 38, 0, 0, 37), none, none, some (.iconst (-1), 0, 0, 0, 38), some (.ireturn, 0, 0, 0, 39), none, none, none, none, none, none, none, none, none]])
def ex_m28 : ex_M := (⟨"PaperHouse", "count", "(I)I"⟩, prog_1_method_19_code, 2, some (Jvm.ClassFile.FieldType.int), [[some (.aload_n 0, 0, 0, 0, 1), some (.getfield 175, 11, 14, 0, 4), none, none, some (.ifCond .ne 5, 9, 0, 0, 7), none, none, some (.iconst (-1), 0, 0, 0, 8), some (.ireturn, 0, 0, 0, 9), some (.iload_n 1, 0, 0, 0, 10), some (.tableswitch 106 0 6 #[42, 50, 58, 66, 74, 90, 98], 0, 0, 0, 52), none, none, none, none, none],
  [none, none, none, none, none, none, none, none, none, none, none, none, none, none, none, none],
  [none, none, none, none, none, none, none, none, none, none, none, none, none, none, none, none],
  [none, none, none, none, some (.aload_n 0, 0, 0, 0, 53), some (.getfield 25, 11, 3, 0, 56), none, none, some (.getfield 185, 8, 11, 0, 59), none, none, some (.ireturn, 0, 0, 0, 60), some (.aload_n 0, 0, 0, 0, 61), some (.getfield 25, 11, 3, 0, 64), none, none],
  [some (.getfield 246, 8, 13, 0, 67), none, none, some (.ireturn, 0, 0, 0, 68), some (.aload_n 0, 0, 0, 0, 69), some (.getfield 25, 11, 3, 0, 72), none, none, some (.getfield 249, 8, 14, 0, 75), none, none, some (.ireturn, 0, 0, 0, 76), some (.aload_n 0, 0, 0, 0, 77), some (.getfield 44, 11, 5, 0, 80), none, none],
  [some (.getfield 252, 6, 6, 0, 83), none, none, some (.ireturn, 0, 0, 0, 84), some (.aload_n 0, 0, 0, 0, 85), some (.getfield 44, 11, 5, 0, 88), none, none, some (.getfield 255, 6, 10, 0, 91), none, none, some (.ifCond .eq 7, 98, 0, 0, 94), none, none, some (.iconst 1, 0, 0, 0, 95), some (.goto 4, 99, 0, 0, 98)],
  [none, none, some (.iconst 0, 0, 0, 0, 99), some (.ireturn, 0, 0, 0, 100), some (.aload_n 0, 0, 0, 0, 101), some (.getfield 44, 11, 5, 0, 104), none, none, none, none, none, some (.ireturn, 0, 0, 0, 108), some (.aload_n 0, 0, 0, 0, 109), some (.getfield 25, 11, 3, 0, 112), none, none],
  [none, none, none, some (.ireturn, 0, 0, 0, 116), some (.iconst (-1), 0, 0, 0, 117), some (.ireturn, 0, 0, 0, 118), none, none, none, none, none, none, none, none, none, none]])
def ex_m29 : ex_M := (⟨"PaperHouse", "cut", "(I)I"⟩, prog_1_method_4_code, 3, some (Jvm.ClassFile.FieldType.int), [[some (.iload_n 1, 0, 0, 0, 1), some (.ifCond .lt 11, 12, 0, 0, 4), none, none, some (.iload_n 1, 0, 0, 0, 5), some (.aload_n 0, 0, 0, 0, 6), some (.getfield 103, 11, 1, 0, 9), none, none, some (.if_icmp .le 5, 14, 0, 0, 12), none, none, some (.iconst (-1), 0, 0, 0, 13), some (.ireturn, 0, 0, 0, 14), some (.aload_n 0, 0, 0, 0, 15), some (.getfield 103, 11, 1, 0, 18)],
  [none, none, some (.iload_n 1, 0, 0, 0, 19), some (.isub, 0, 0, 0, 20), some (.istore_n 2, 0, 0, 0, 21), some (.aload_n 0, 0, 0, 0, 22), some (.iload_n 1, 0, 0, 0, 23), some (.putfield 103, 11, 1, 0, 26), none, none, some (.iload_n 2, 0, 0, 0, 27), some (.ireturn, 0, 0, 0, 28), none, none, none, none]])
def ex_m30 : ex_M := (⟨"PaperHouse", "data", "(II)I"⟩, prog_1_method_18_code, 3, some (Jvm.ClassFile.FieldType.int), [[some (.aload_n 0, 0, 0, 0, 1), some (.getfield 175, 11, 14, 0, 4), none, none, some (.ifCond .eq 15, 19, 0, 0, 7), none, none, some (.aload_n 0, 0, 0, 0, 8), some (.getfield 25, 11, 3, 0, 11), none, none, some (.iload_n 1, 0, 0, 0, 12), some (.iload_n 2, 0, 0, 0, 13), none, none, none],
  [some (.goto 4, 20, 0, 0, 19), none, none, some (.iconst (-1), 0, 0, 0, 20), some (.ireturn, 0, 0, 0, 21), none, none, none, none, none, none, none, none, none, none, none]])
def ex_m31 : ex_M := (⟨"PaperHouse", "delete", "(I)I"⟩, prog_1_method_25_code, 2, some (Jvm.ClassFile.FieldType.int), [[some (.aload_n 0, 0, 0, 0, 1), some (.getfield 175, 11, 14, 0, 4), none, none, some (.ifCond .eq 18, 22, 0, 0, 7), none, none, some (.aload_n 0, 0, 0, 0, 8), some (.aload_n 0, 0, 0, 0, 9), some (.getfield 76, 11, 9, 0, 12), none, none, some (.iload_n 1, 0, 0, 0, 13), none, none, none],
  [none, none, none, some (.goto 4, 23, 0, 0, 22), none, none, some (.iconst (-1), 0, 0, 0, 23), some (.ireturn, 0, 0, 0, 24), none, none, none, none, none, none, none, none]])
def ex_m32 : ex_M := (⟨"PaperHouse", "down", "(I)I"⟩, prog_1_method_13_code, 3, some (Jvm.ClassFile.FieldType.int), [[some (.aload_n 0, 0, 0, 0, 1), some (.invokevirtual 202, 40, 0, 11, 4), none, none, some (.ifCond .ne 12, 16, 0, 0, 7), none, none, some (.aload_n 0, 0, 0, 0, 8), some (.getfield 93, 11, 12, 0, 11), none, none, some (.bipush 24, 0, 0, 0, 13), none, some (.if_icmp .lt 5, 18, 0, 0, 16), none, none],
  [some (.iconst (-1), 0, 0, 0, 17), some (.ireturn, 0, 0, 0, 18), some (.aload_n 0, 0, 0, 0, 19), some (.getfield 16, 11, 2, 0, 22), none, none, some (.aload_n 0, 0, 0, 0, 23), some (.getfield 89, 11, 11, 0, 26), none, none, some (.aload_n 0, 0, 0, 0, 27), some (.getfield 93, 11, 12, 0, 30), none, none, some (.iaload, 0, 0, 0, 31), some (.iload_n 1, 0, 0, 0, 32)],
  [none, none, none, some (.istore_n 2, 0, 0, 0, 36), some (.iload_n 2, 0, 0, 0, 37), some (.ifCond .ge 5, 42, 0, 0, 40), none, none, some (.iconst (-1), 0, 0, 0, 41), some (.ireturn, 0, 0, 0, 42), some (.aload_n 0, 0, 0, 0, 43), some (.dup, 0, 0, 0, 44), some (.getfield 93, 11, 12, 0, 47), none, none, some (.iconst 1, 0, 0, 0, 48)],
  [some (.iadd, 0, 0, 0, 49), some (.putfield 93, 11, 12, 0, 52), none, none, some (.aload_n 0, 0, 0, 0, 53), some (.getfield 89, 11, 11, 0, 56), none, none, some (.aload_n 0, 0, 0, 0, 57), some (.getfield 93, 11, 12, 0, 60), none, none, some (.iload_n 2, 0, 0, 0, 61), some (.iastore, 0, 0, 0, 62), some (.aload_n 0, 0, 0, 0, 63), none],
  [none, none, some (.ireturn, 0, 0, 0, 67), none, none, none, none, none, none, none, none, none, none, none, none, none]])
def ex_m33 : ex_M := (⟨"PaperHouse", "fault", "(I)I"⟩, prog_1_method_6_code, 2, some (Jvm.ClassFile.FieldType.int), [[some (.iload_n 1, 0, 0, 0, 1), some (.tableswitch 51 0 3 #[31, 36, 41, 46], 0, 0, 0, 32), none, none, none, none, none, none, none, none, none, none, none, none, none, none],
  [none, none, none, none, none, none, none, none, none, none, none, none, none, none, none, none],
  [some (.aload_n 0, 0, 0, 0, 33), some (.getfield 172, 11, 15, 0, 36), none, none, some (.ireturn, 0, 0, 0, 37), some (.aload_n 0, 0, 0, 0, 38), some (.getfield 97, 11, 16, 0, 41), none, none, some (.ireturn, 0, 0, 0, 42), some (.aload_n 0, 0, 0, 0, 43), some (.getfield 110, 11, 17, 0, 46), none, none, some (.ireturn, 0, 0, 0, 47), some (.aload_n 0, 0, 0, 0, 48)],
  [some (.getfield 100, 11, 18, 0, 51), none, none, some (.ireturn, 0, 0, 0, 52), some (.iconst (-1), 0, 0, 0, 53), some (.ireturn, 0, 0, 0, 54), none, none, none, none, none, none, none, none, none, none]])
def ex_m34 : ex_M := (⟨"PaperHouse", "feed", "(IIIII)I"⟩, prog_1_method_2_code, 6, some (Jvm.ClassFile.FieldType.int), [[some (.aload_n 0, 0, 0, 0, 1), some (.getfield 103, 11, 1, 0, 4), none, none, some (.bipush 20, 0, 0, 0, 6), none, some (.iadd, 0, 0, 0, 7), some (.sipush 8000, 0, 0, 0, 10), none, none, some (.if_icmp .le 5, 15, 0, 0, 13), none, none, some (.iconst (-1), 0, 0, 0, 14), some (.ireturn, 0, 0, 0, 15), some (.aload_n 0, 0, 0, 0, 16)],
  [some (.iload_n 1, 0, 0, 0, 17), some (.invokevirtual 106, 41, 1, 11, 20), none, none, some (.aload_n 0, 0, 0, 0, 21), some (.iload_n 2, 0, 0, 0, 22), some (.invokevirtual 106, 41, 1, 11, 25), none, none, some (.aload_n 0, 0, 0, 0, 26), some (.iload_n 3, 0, 0, 0, 27), some (.invokevirtual 106, 41, 1, 11, 30), none, none, some (.aload_n 0, 0, 0, 0, 31), some (.iload 4, 0, 0, 0, 33)],
  [none, some (.invokevirtual 106, 41, 1, 11, 36), none, none, some (.aload_n 0, 0, 0, 0, 37), some (.iload 5, 0, 0, 0, 39), none, some (.invokevirtual 106, 41, 1, 11, 42), none, none, some (.aload_n 0, 0, 0, 0, 43), some (.getfield 103, 11, 1, 0, 46), none, none, some (.ireturn, 0, 0, 0, 47), none]])
def ex_m35 : ex_M := (⟨"PaperHouse", "glyph", "(II)I"⟩, prog_1_method_23_code, 3, some (Jvm.ClassFile.FieldType.int), [[some (.aload_n 0, 0, 0, 0, 1), some (.getfield 175, 11, 14, 0, 4), none, none, some (.ifCond .eq 15, 19, 0, 0, 7), none, none, some (.aload_n 0, 0, 0, 0, 8), some (.getfield 69, 11, 8, 0, 11), none, none, some (.iload_n 1, 0, 0, 0, 12), some (.iload_n 2, 0, 0, 0, 13), none, none, none],
  [some (.goto 4, 20, 0, 0, 19), none, none, some (.iconst (-1), 0, 0, 0, 20), some (.ireturn, 0, 0, 0, 21), none, none, none, none, none, none, none, none, none, none, none]])
def ex_m36 : ex_M := (⟨"PaperHouse", "go", "(I)I"⟩, prog_1_method_8_code, 2, some (Jvm.ClassFile.FieldType.int), [[some (.aload_n 0, 0, 0, 0, 1), some (.iconst (-1), 0, 0, 0, 2), some (.putfield 93, 11, 12, 0, 5), none, none, some (.aload_n 0, 0, 0, 0, 6), some (.getfield 175, 11, 14, 0, 9), none, none, some (.ifCond .eq 14, 23, 0, 0, 12), none, none, some (.aload_n 0, 0, 0, 0, 13), some (.getfield 25, 11, 3, 0, 16), none, none],
  [some (.iload_n 1, 0, 0, 0, 17), none, none, none, some (.ifCond .eq 5, 25, 0, 0, 23), none, none, some (.iconst (-1), 0, 0, 0, 24), some (.ireturn, 0, 0, 0, 25), some (.aload_n 0, 0, 0, 0, 26), some (.iconst 0, 0, 0, 0, 27), some (.putfield 93, 11, 12, 0, 30), none, none, some (.aload_n 0, 0, 0, 0, 31), some (.iload_n 1, 0, 0, 0, 32)],
  [some (.putfield 192, 11, 13, 0, 35), none, none, some (.aload_n 0, 0, 0, 0, 36), some (.getfield 89, 11, 11, 0, 39), none, none, some (.iconst 0, 0, 0, 0, 40), some (.aload_n 0, 0, 0, 0, 41), some (.getfield 25, 11, 3, 0, 44), none, none, some (.iload_n 1, 0, 0, 0, 45), none, none, none],
  [some (.iastore, 0, 0, 0, 49), some (.aload_n 0, 0, 0, 0, 50), none, none, none, some (.ireturn, 0, 0, 0, 54), none, none, none, none, none, none, none, none, none, none]])
def ex_m37 : ex_M := (⟨"PaperHouse", "here", "(I)I"⟩, prog_1_method_15_code, 4, some (Jvm.ClassFile.FieldType.int), [[some (.aload_n 0, 0, 0, 0, 1), some (.invokevirtual 202, 40, 0, 11, 4), none, none, some (.ifCond .ne 12, 16, 0, 0, 7), none, none, some (.iload_n 1, 0, 0, 0, 8), some (.ifCond .lt 8, 16, 0, 0, 11), none, none, some (.iload_n 1, 0, 0, 0, 12), some (.iconst 4, 0, 0, 0, 13), some (.if_icmp .le 5, 18, 0, 0, 16), none, none],
  [some (.iconst (-1), 0, 0, 0, 17), some (.ireturn, 0, 0, 0, 18), some (.aload_n 0, 0, 0, 0, 19), none, none, none, some (.istore_n 2, 0, 0, 0, 23), some (.aload_n 0, 0, 0, 0, 24), none, none, none, some (.istore_n 3, 0, 0, 0, 28), some (.iload_n 1, 0, 0, 0, 29), some (.tableswitch 116 0 3 #[31, 33, 67, 97], 0, 0, 0, 60), none, none],
  [none, none, none, none, none, none, none, none, none, none, none, none, none, none, none, none],
  [none, none, none, none, none, none, none, none, none, none, none, none, some (.iload_n 2, 0, 0, 0, 61), some (.ireturn, 0, 0, 0, 62), some (.iload_n 2, 0, 0, 0, 63), some (.iconst 1, 0, 0, 0, 64)],
  [some (.if_icmp .eq 19, 83, 0, 0, 67), none, none, some (.iload_n 2, 0, 0, 0, 68), some (.iconst 2, 0, 0, 0, 69), some (.if_icmp .eq 14, 83, 0, 0, 72), none, none, some (.iload_n 2, 0, 0, 0, 73), some (.iconst 3, 0, 0, 0, 74), some (.if_icmp .eq 9, 83, 0, 0, 77), none, none, some (.iload_n 2, 0, 0, 0, 78), some (.bipush 8, 0, 0, 0, 80), none],
  [some (.if_icmp .ne 14, 94, 0, 0, 83), none, none, some (.aload_n 0, 0, 0, 0, 84), some (.getfield 16, 11, 2, 0, 87), none, none, some (.iload_n 3, 0, 0, 0, 88), none, none, none, some (.goto 4, 95, 0, 0, 94), none, none, some (.iconst 0, 0, 0, 0, 95), some (.ireturn, 0, 0, 0, 96)],
  [some (.iload_n 2, 0, 0, 0, 97), some (.bipush 9, 0, 0, 0, 99), none, some (.if_icmp .eq 14, 113, 0, 0, 102), none, none, some (.iload_n 2, 0, 0, 0, 103), some (.iconst 4, 0, 0, 0, 104), some (.if_icmp .lt 20, 124, 0, 0, 107), none, none, some (.iload_n 2, 0, 0, 0, 108), some (.bipush 7, 0, 0, 0, 110), none, some (.if_icmp .gt 14, 124, 0, 0, 113), none],
  [none, some (.aload_n 0, 0, 0, 0, 114), some (.getfield 16, 11, 2, 0, 117), none, none, some (.iload_n 3, 0, 0, 0, 118), none, none, none, some (.goto 4, 125, 0, 0, 124), none, none, some (.iconst 0, 0, 0, 0, 125), some (.ireturn, 0, 0, 0, 126), some (.iload_n 2, 0, 0, 0, 127), some (.bipush 8, 0, 0, 0, 129)],
  [none, some (.if_icmp .ne 14, 143, 0, 0, 132), none, none, some (.aload_n 0, 0, 0, 0, 133), some (.getfield 16, 11, 2, 0, 136), none, none, some (.iload_n 3, 0, 0, 0, 137), none, none, none, some (.goto 4, 144, 0, 0, 143), none, none, some (.iconst 0, 0, 0, 0, 144)],
  [some (.ireturn, 0, 0, 0, 145), some (.iconst 0, 0, 0, 0, 146), some (.aload_n 0, 0, 0, 0, 147), some (.getfield 16, 11, 2, 0, 150), none, none, some (.aload_n 0, 0, 0, 0, 151), none, none, none, none, none, none, some (.invokestatic 232, 1000001, 2, 0, 160), none, none],
  [some (.ireturn, 0, 0, 0, 161), none, none, none, none, none, none, none, none, none, none, none, none, none, none, none]])
def ex_m38 : ex_M := (⟨"PaperHouse", "info", "(I)I"⟩, prog_1_method_29_code, 3, some (Jvm.ClassFile.FieldType.int), [[some (.aload_n 0, 0, 0, 0, 1), some (.getfield 103, 11, 1, 0, 4), none, none, some (.istore_n 2, 0, 0, 0, 5), some (.aload_n 0, 0, 0, 0, 6), some (.iconst 0, 0, 0, 0, 7), some (.putfield 103, 11, 1, 0, 10), none, none, some (.aload_n 0, 0, 0, 0, 11), some (.getfield 175, 11, 14, 0, 14), none, none, some (.ifCond .eq 23, 37, 0, 0, 17), none],
  [none, some (.aload_n 0, 0, 0, 0, 18), some (.aload_n 0, 0, 0, 0, 19), some (.getfield 76, 11, 9, 0, 22), none, none, some (.iload_n 1, 0, 0, 0, 23), some (.aload_n 0, 0, 0, 0, 24), some (.getfield 9, 11, 0, 0, 27), none, none, some (.iload_n 2, 0, 0, 0, 28), none, none, none, none],
  [none, none, some (.goto 4, 38, 0, 0, 37), none, none, some (.iconst (-1), 0, 0, 0, 38), some (.ireturn, 0, 0, 0, 39), none, none, none, none, none, none, none, none, none]])
def ex_m39 : ex_M := (⟨"PaperHouse", "insert", "(III)I"⟩, prog_1_method_24_code, 4, some (Jvm.ClassFile.FieldType.int), [[some (.aload_n 0, 0, 0, 0, 1), some (.getfield 175, 11, 14, 0, 4), none, none, some (.ifCond .eq 20, 24, 0, 0, 7), none, none, some (.aload_n 0, 0, 0, 0, 8), some (.aload_n 0, 0, 0, 0, 9), some (.getfield 76, 11, 9, 0, 12), none, none, some (.iload_n 1, 0, 0, 0, 13), some (.iload_n 2, 0, 0, 0, 14), some (.iload_n 3, 0, 0, 0, 15), none],
  [none, none, none, none, none, some (.goto 4, 25, 0, 0, 24), none, none, some (.iconst (-1), 0, 0, 0, 25), some (.ireturn, 0, 0, 0, 26), none, none, none, none, none, none]])
def ex_m40 : ex_M := (⟨"PaperHouse", "isNowhere", "()Z"⟩, prog_1_method_9_code, 1, some (Jvm.ClassFile.FieldType.boolean), [[some (.aload_n 0, 0, 0, 0, 1), some (.getfield 175, 11, 14, 0, 4), none, none, some (.ifCond .eq 22, 26, 0, 0, 7), none, none, some (.aload_n 0, 0, 0, 0, 8), some (.getfield 93, 11, 12, 0, 11), none, none, some (.ifCond .lt 15, 26, 0, 0, 14), none, none, some (.aload_n 0, 0, 0, 0, 15), some (.getfield 93, 11, 12, 0, 18)],
  [none, none, some (.aload_n 0, 0, 0, 0, 19), some (.getfield 89, 11, 11, 0, 22), none, none, some (.arraylength, 0, 0, 0, 23), some (.if_icmp .lt 7, 30, 0, 0, 26), none, none, some (.iconst 1, 0, 0, 0, 27), some (.goto 4, 31, 0, 0, 30), none, none, some (.iconst 0, 0, 0, 0, 31), some (.ireturn, 0, 0, 0, 32)]])
def ex_m41 : ex_M := (⟨"PaperHouse", "layNumber", "(I)V"⟩, prog_1_method_3_code, 3, none, [[some (.bipush 24, 0, 0, 0, 2), none, some (.istore_n 2, 0, 0, 0, 3), some (.iload_n 2, 0, 0, 0, 4), some (.ifCond .lt 51, 55, 0, 0, 7), none, none, some (.aload_n 0, 0, 0, 0, 8), some (.getfield 103, 11, 1, 0, 11), none, none, some (.ifCond .lt 38, 49, 0, 0, 14), none, none, some (.aload_n 0, 0, 0, 0, 15), some (.getfield 103, 11, 1, 0, 18)],
  [none, none, some (.aload_n 0, 0, 0, 0, 19), some (.getfield 9, 11, 0, 0, 22), none, none, some (.arraylength, 0, 0, 0, 23), some (.if_icmp .ge 26, 49, 0, 0, 26), none, none, some (.aload_n 0, 0, 0, 0, 27), some (.getfield 9, 11, 0, 0, 30), none, none, some (.aload_n 0, 0, 0, 0, 31), some (.getfield 103, 11, 1, 0, 34)],
  [none, none, some (.iload_n 1, 0, 0, 0, 35), some (.iload_n 2, 0, 0, 0, 36), some (.ishr, 0, 0, 0, 37), some (.i2b, 0, 0, 0, 38), some (.bastore, 0, 0, 0, 39), some (.aload_n 0, 0, 0, 0, 40), some (.dup, 0, 0, 0, 41), some (.getfield 103, 11, 1, 0, 44), none, none, some (.iconst 1, 0, 0, 0, 45), some (.iadd, 0, 0, 0, 46), some (.putfield 103, 11, 1, 0, 49), none],
  [none, some (.iinc 2 (-8), 0, 0, 0, 52), none, none, some (.goto (-49), 3, 0, 0, 55), none, none, some (.return_, 0, 0, 0, 56), none, none, none, none, none, none, none, none]])
def ex_m42 : ex_M := (⟨"PaperHouse", "letter", "(IZ)I"⟩, prog_1_method_16_code, 3, some (Jvm.ClassFile.FieldType.int), [[some (.aload_n 0, 0, 0, 0, 1), some (.invokevirtual 202, 40, 0, 11, 4), none, none, some (.ifCond .eq 5, 9, 0, 0, 7), none, none, some (.iconst (-1), 0, 0, 0, 8), some (.ireturn, 0, 0, 0, 9), some (.aload_n 0, 0, 0, 0, 10), some (.getfield 16, 11, 2, 0, 13), none, none, some (.iload_n 2, 0, 0, 0, 14), some (.ifCond .eq 10, 24, 0, 0, 17), none],
  [none, some (.aload_n 0, 0, 0, 0, 18), none, none, none, some (.goto 7, 28, 0, 0, 24), none, none, some (.aload_n 0, 0, 0, 0, 25), none, none, none, some (.iload_n 1, 0, 0, 0, 29), none, none, none],
  [some (.ireturn, 0, 0, 0, 33), none, none, none, none, none, none, none, none, none, none, none, none, none, none, none]])
def ex_m43 : ex_M := (⟨"PaperHouse", "load", "()I"⟩, prog_1_method_5_code, 7, some (Jvm.ClassFile.FieldType.int), [[some (.aload_n 0, 0, 0, 0, 1), some (.iconst (-1), 0, 0, 0, 2), some (.putfield 93, 11, 12, 0, 5), none, none, some (.aload_n 0, 0, 0, 0, 6), some (.iconst 0, 0, 0, 0, 7), some (.putfield 110, 11, 17, 0, 10), none, none, some (.aload_n 0, 0, 0, 0, 11), some (.iconst (-1), 0, 0, 0, 12), some (.putfield 100, 11, 18, 0, 15), none, none, some (.aload_n 0, 0, 0, 0, 16)],
  [some (.getfield 69, 11, 8, 0, 19), none, none, some (.invokevirtual 113, 7, 0, 4, 22), none, none, some (.aload_n 0, 0, 0, 0, 23), some (.getfield 51, 11, 6, 0, 26), none, none, some (.aload_n 0, 0, 0, 0, 27), some (.getfield 9, 11, 0, 0, 30), none, none, some (.aload_n 0, 0, 0, 0, 31), some (.getfield 103, 11, 1, 0, 34)],
  [none, none, some (.invokevirtual 116, 4, 2, 3, 37), none, none, some (.istore_n 1, 0, 0, 0, 38), some (.aload_n 0, 0, 0, 0, 39), some (.iconst 0, 0, 0, 0, 40), some (.putfield 103, 11, 1, 0, 43), none, none, some (.aload_n 0, 0, 0, 0, 44), some (.getfield 44, 11, 5, 0, 47), none, none, some (.invokevirtual 120, 15, 0, 6, 50)],
  [none, none, some (.iconst 0, 0, 0, 0, 51), some (.istore_n 2, 0, 0, 0, 52), some (.iload_n 2, 0, 0, 0, 53), some (.bipush 10, 0, 0, 0, 55), none, some (.if_icmp .gt 29, 84, 0, 0, 58), none, none, some (.iload_n 1, 0, 0, 0, 59), some (.ifCond .lt 25, 84, 0, 0, 62), none, none, some (.aload_n 0, 0, 0, 0, 63), some (.getfield 44, 11, 5, 0, 66)],
  [none, none, some (.iload_n 1, 0, 0, 0, 67), some (.aload_n 0, 0, 0, 0, 68), some (.getfield 51, 11, 6, 0, 71), none, none, some (.getfield 123, 3, 0, 0, 74), none, none, none, none, none, some (.istore_n 1, 0, 0, 0, 78), some (.iinc 2 1, 0, 0, 0, 81), none],
  [none, some (.goto (-29), 52, 0, 0, 84), none, none, some (.aload_n 0, 0, 0, 0, 85), some (.getfield 16, 11, 2, 0, 88), none, none, some (.getfield 130, 7, 6, 0, 91), none, none, some (.istore_n 2, 0, 0, 0, 92), some (.aload_n 0, 0, 0, 0, 93), some (.getfield 32, 11, 4, 0, 96), none, none],
  [some (.getfield 133, 5, 6, 0, 99), none, none, some (.ifCond .ne 7, 106, 0, 0, 102), none, none, some (.iconst 1, 0, 0, 0, 103), some (.goto 4, 107, 0, 0, 106), none, none, some (.iconst 0, 0, 0, 0, 107), some (.istore_n 3, 0, 0, 0, 108), some (.iload_n 3, 0, 0, 0, 109), some (.ifCond .eq 26, 135, 0, 0, 112), none, none],
  [some (.aload_n 0, 0, 0, 0, 113), some (.getfield 25, 11, 3, 0, 116), none, none, some (.aload_n 0, 0, 0, 0, 117), some (.getfield 16, 11, 2, 0, 120), none, none, some (.aload_n 0, 0, 0, 0, 121), some (.getfield 44, 11, 5, 0, 124), none, none, some (.getfield 136, 6, 7, 0, 127), none, none, some (.bipush 32, 0, 0, 0, 129)],
  [none, none, none, none, none, none, none, some (.iconst 0, 0, 0, 0, 136), some (.istore 4, 0, 0, 0, 138), none, some (.iload 4, 0, 0, 0, 140), none, some (.sipush 1000, 0, 0, 0, 143), none, none, some (.if_icmp .ge 86, 229, 0, 0, 146)],
  [none, none, some (.iload_n 3, 0, 0, 0, 147), some (.ifCond .eq 82, 229, 0, 0, 150), none, none, some (.aload_n 0, 0, 0, 0, 151), some (.getfield 51, 11, 6, 0, 154), none, none, none, none, none, some (.istore 5, 0, 0, 0, 159), none, some (.iload 5, 0, 0, 0, 161)],
  [none, some (.ifCond .eq 13, 174, 0, 0, 164), none, none, some (.aload_n 0, 0, 0, 0, 165), some (.getfield 51, 11, 6, 0, 168), none, none, none, none, none, some (.goto 10, 181, 0, 0, 174), none, none, some (.aload_n 0, 0, 0, 0, 175), some (.getfield 51, 11, 6, 0, 178)],
  [none, none, none, none, none, some (.istore 6, 0, 0, 0, 183), none, some (.iload 6, 0, 0, 0, 185), none, some (.ifCond .le 12, 197, 0, 0, 188), none, none, some (.aload_n 0, 0, 0, 0, 189), some (.getfield 51, 11, 6, 0, 192), none, none],
  [some (.iload 6, 0, 0, 0, 194), none, none, none, none, some (.aload_n 0, 0, 0, 0, 198), some (.getfield 32, 11, 4, 0, 201), none, none, some (.getfield 133, 5, 6, 0, 204), none, none, some (.ifCond .ne 17, 221, 0, 0, 207), none, none, some (.iload 6, 0, 0, 0, 209)],
  [none, some (.ifCond .gt 8, 217, 0, 0, 212), none, none, some (.iload 5, 0, 0, 0, 214), none, some (.ifCond .eq 7, 221, 0, 0, 217), none, none, some (.iconst 1, 0, 0, 0, 218), some (.goto 4, 222, 0, 0, 221), none, none, some (.iconst 0, 0, 0, 0, 222), some (.istore_n 3, 0, 0, 0, 223), some (.iinc 4 1, 0, 0, 0, 226)],
  [none, none, some (.goto (-88), 138, 0, 0, 229), none, none, some (.aload_n 0, 0, 0, 0, 230), some (.getfield 32, 11, 4, 0, 233), none, none, some (.getfield 133, 5, 6, 0, 236), none, none, some (.ifCond .ne 53, 289, 0, 0, 239), none, none, some (.aload_n 0, 0, 0, 0, 240)],
  [some (.getfield 25, 11, 3, 0, 243), none, none, some (.aload_n 0, 0, 0, 0, 244), some (.getfield 44, 11, 5, 0, 247), none, none, some (.getfield 160, 6, 8, 0, 250), none, none, some (.aload_n 0, 0, 0, 0, 251), some (.getfield 44, 11, 5, 0, 254), none, none, some (.getfield 163, 6, 9, 0, 257), none],
  [none, none, none, none, some (.aload_n 0, 0, 0, 0, 261), some (.getfield 25, 11, 3, 0, 264), none, none, some (.iload_n 2, 0, 0, 0, 265), some (.aload_n 0, 0, 0, 0, 266), some (.getfield 16, 11, 2, 0, 269), none, none, some (.getfield 130, 7, 6, 0, 272), none, none],
  [none, none, none, some (.aload_n 0, 0, 0, 0, 276), some (.getfield 60, 11, 7, 0, 279), none, none, some (.aload_n 0, 0, 0, 0, 280), some (.getfield 44, 11, 5, 0, 283), none, none, some (.getfield 136, 6, 7, 0, 286), none, none, none, none],
  [none, some (.aload_n 0, 0, 0, 0, 290), some (.aload_n 0, 0, 0, 0, 291), some (.getfield 32, 11, 4, 0, 294), none, none, some (.getfield 133, 5, 6, 0, 297), none, none, some (.putfield 172, 11, 15, 0, 300), none, none, some (.aload_n 0, 0, 0, 0, 301), some (.aload_n 0, 0, 0, 0, 302), some (.getfield 172, 11, 15, 0, 305), none],
  [none, some (.ifCond .ne 7, 312, 0, 0, 308), none, none, some (.iconst 1, 0, 0, 0, 309), some (.goto 4, 313, 0, 0, 312), none, none, some (.iconst 0, 0, 0, 0, 313), some (.putfield 175, 11, 14, 0, 316), none, none, some (.aload_n 0, 0, 0, 0, 317), some (.aload_n 0, 0, 0, 0, 318), some (.getfield 175, 11, 14, 0, 321), none],
  [none, some (.ifCond .eq 7, 328, 0, 0, 324), none, none, some (.iconst (-1), 0, 0, 0, 325), some (.goto 10, 335, 0, 0, 328), none, none, some (.aload_n 0, 0, 0, 0, 329), some (.getfield 32, 11, 4, 0, 332), none, none, some (.getfield 179, 5, 7, 0, 335), none, none, some (.putfield 97, 11, 16, 0, 338)],
  [none, none, some (.aload_n 0, 0, 0, 0, 339), some (.getfield 175, 11, 14, 0, 342), none, none, some (.ifCond .eq 13, 355, 0, 0, 345), none, none, some (.aload_n 0, 0, 0, 0, 346), some (.getfield 60, 11, 7, 0, 349), none, none, some (.getfield 182, 9, 7, 0, 352), none, none],
  [some (.goto 10, 362, 0, 0, 355), none, none, some (.bipush (-100), 0, 0, 0, 357), none, some (.aload_n 0, 0, 0, 0, 358), some (.getfield 172, 11, 15, 0, 361), none, none, some (.isub, 0, 0, 0, 362), some (.ireturn, 0, 0, 0, 363), none, none, none, none, none]])
def ex_m44 : ex_M := (⟨"PaperHouse", "more", "()I"⟩, prog_1_method_32_code, 1, some (Jvm.ClassFile.FieldType.int), [[some (.aload_n 0, 0, 0, 0, 1), some (.getfield 85, 11, 10, 0, 4), none, none, some (.invokevirtual 319, 25, 0, 10, 7), none, none, some (.aload_n 0, 0, 0, 0, 8), some (.getfield 175, 11, 14, 0, 11), none, none, some (.ifCond .eq 41, 52, 0, 0, 14), none, none, some (.aload_n 0, 0, 0, 0, 15), some (.getfield 85, 11, 10, 0, 18)],
  [none, none, some (.aload_n 0, 0, 0, 0, 19), some (.getfield 51, 11, 6, 0, 22), none, none, some (.getfield 123, 3, 0, 0, 25), none, none, some (.aload_n 0, 0, 0, 0, 26), some (.getfield 51, 11, 6, 0, 29), none, none, some (.getfield 323, 3, 1, 0, 32), none, none],
  [some (.aload_n 0, 0, 0, 0, 33), some (.getfield 44, 11, 5, 0, 36), none, none, none, none, none, some (.aload_n 0, 0, 0, 0, 40), some (.getfield 44, 11, 5, 0, 43), none, none, some (.getfield 255, 6, 10, 0, 46), none, none, none, none],
  [none, some (.goto 4, 53, 0, 0, 52), none, none, some (.iconst (-1), 0, 0, 0, 53), some (.ireturn, 0, 0, 0, 54), none, none, none, none, none, none, none, none, none, none]])
def ex_m45 : ex_M := (⟨"PaperHouse", "move", "(II)I"⟩, prog_1_method_26_code, 3, some (Jvm.ClassFile.FieldType.int), [[some (.aload_n 0, 0, 0, 0, 1), some (.getfield 175, 11, 14, 0, 4), none, none, some (.ifCond .eq 19, 23, 0, 0, 7), none, none, some (.aload_n 0, 0, 0, 0, 8), some (.aload_n 0, 0, 0, 0, 9), some (.getfield 76, 11, 9, 0, 12), none, none, some (.iload_n 1, 0, 0, 0, 13), some (.iload_n 2, 0, 0, 0, 14), none, none],
  [none, none, none, none, some (.goto 4, 24, 0, 0, 23), none, none, some (.iconst (-1), 0, 0, 0, 24), some (.ireturn, 0, 0, 0, 25), none, none, none, none, none, none, none]])
def ex_m46 : ex_M := (⟨"PaperHouse", "objects", "()I"⟩, prog_1_method_7_code, 3, some (Jvm.ClassFile.FieldType.int), [[some (.aload_n 0, 0, 0, 0, 1), some (.getfield 175, 11, 14, 0, 4), none, none, some (.ifCond .ne 5, 9, 0, 0, 7), none, none, some (.iconst (-1), 0, 0, 0, 8), some (.ireturn, 0, 0, 0, 9), some (.iconst 0, 0, 0, 0, 10), some (.istore_n 1, 0, 0, 0, 11), some (.iconst 1, 0, 0, 0, 12), some (.istore_n 2, 0, 0, 0, 13), some (.iload_n 2, 0, 0, 0, 14), some (.aload_n 0, 0, 0, 0, 15), some (.getfield 25, 11, 3, 0, 18)],
  [none, none, some (.getfield 185, 8, 11, 0, 21), none, none, some (.if_icmp .ge 23, 44, 0, 0, 24), none, none, some (.aload_n 0, 0, 0, 0, 25), some (.getfield 25, 11, 3, 0, 28), none, none, some (.iload_n 2, 0, 0, 0, 29), none, none, none],
  [some (.ifCond .ne 6, 38, 0, 0, 35), none, none, some (.iinc 1 1, 0, 0, 0, 38), none, none, some (.iinc 2 1, 0, 0, 0, 41), none, none, some (.goto (-28), 13, 0, 0, 44), none, none, some (.iload_n 1, 0, 0, 0, 45), some (.ireturn, 0, 0, 0, 46), none, none]])
def ex_m47 : ex_M := (⟨"PaperHouse", "out", "(I)I"⟩, prog_1_method_34_code, 2, some (Jvm.ClassFile.FieldType.int), [[some (.aload_n 0, 0, 0, 0, 1), some (.getfield 85, 11, 10, 0, 4), none, none, some (.iload_n 1, 0, 0, 0, 5), some (.invokevirtual 333, 24, 1, 10, 8), none, none, some (.ireturn, 0, 0, 0, 9), none, none, none, none, none, none, none]])
def ex_m48 : ex_M := (⟨"PaperHouse", "outs", "()I"⟩, prog_1_method_33_code, 1, some (Jvm.ClassFile.FieldType.int), [[some (.aload_n 0, 0, 0, 0, 1), some (.getfield 85, 11, 10, 0, 4), none, none, some (.getfield 330, 10, 3, 0, 7), none, none, some (.ireturn, 0, 0, 0, 8), none, none, none, none, none, none, none, none]])
def ex_m49 : ex_M := (⟨"PaperHouse", "page", "(II)I"⟩, prog_1_method_21_code, 5, some (Jvm.ClassFile.FieldType.int), [[some (.aload_n 0, 0, 0, 0, 1), some (.getfield 175, 11, 14, 0, 4), none, none, some (.ifCond .ne 5, 9, 0, 0, 7), none, none, some (.iconst (-1), 0, 0, 0, 8), some (.ireturn, 0, 0, 0, 9), some (.aload_n 0, 0, 0, 0, 10), some (.getfield 60, 11, 7, 0, 13), none, none, some (.iload_n 1, 0, 0, 0, 14), none, none],
  [none, some (.ifCond .ne 5, 22, 0, 0, 20), none, none, some (.iconst 0, 0, 0, 0, 21), some (.ireturn, 0, 0, 0, 22), some (.aload_n 0, 0, 0, 0, 23), some (.getfield 60, 11, 7, 0, 26), none, none, some (.iload_n 1, 0, 0, 0, 27), none, none, none, some (.istore_n 3, 0, 0, 0, 31), some (.iload_n 2, 0, 0, 0, 32)],
  [some (.tableswitch 126 0 6 #[44, 46, 46, 46, 46, 92, 117], 0, 0, 0, 76), none, none, none, none, none, none, none, none, none, none, none, none, none, none, none],
  [none, none, none, none, none, none, none, none, none, none, none, none, none, none, none, none],
  [none, none, none, none, none, none, none, none, none, none, none, none, some (.iload_n 3, 0, 0, 0, 77), some (.ireturn, 0, 0, 0, 78), some (.aload_n 0, 0, 0, 0, 79), some (.getfield 25, 11, 3, 0, 82)],
  [none, none, some (.aload_n 0, 0, 0, 0, 83), some (.getfield 60, 11, 7, 0, 86), none, none, some (.iload_n 3, 0, 0, 0, 87), some (.bipush 8, 0, 0, 0, 89), none, none, none, none, none, none, none, some (.istore 4, 0, 0, 0, 97)],
  [none, some (.aload_n 0, 0, 0, 0, 98), some (.getfield 16, 11, 2, 0, 101), none, none, some (.aload_n 0, 0, 0, 0, 102), some (.getfield 25, 11, 3, 0, 105), none, none, some (.aload_n 0, 0, 0, 0, 106), some (.getfield 16, 11, 2, 0, 109), none, none, some (.iload 4, 0, 0, 0, 111), none, some (.iload_n 2, 0, 0, 0, 112)],
  [some (.iconst 1, 0, 0, 0, 113), some (.isub, 0, 0, 0, 114), none, none, none, none, none, none, none, none, none, some (.ireturn, 0, 0, 0, 124), some (.aload_n 0, 0, 0, 0, 125), some (.getfield 16, 11, 2, 0, 128), none, none],
  [some (.aload_n 0, 0, 0, 0, 129), some (.getfield 25, 11, 3, 0, 132), none, none, some (.aload_n 0, 0, 0, 0, 133), some (.getfield 60, 11, 7, 0, 136), none, none, some (.iload_n 3, 0, 0, 0, 137), some (.bipush 10, 0, 0, 0, 139), none, none, none, none, none, none],
  [none, none, none, none, some (.ireturn, 0, 0, 0, 149), some (.aload_n 0, 0, 0, 0, 150), some (.getfield 60, 11, 7, 0, 153), none, none, some (.iload_n 3, 0, 0, 0, 154), none, none, none, some (.ireturn, 0, 0, 0, 158), some (.iconst 0, 0, 0, 0, 159), some (.ireturn, 0, 0, 0, 160)]])
def ex_m50 : ex_M := (⟨"PaperHouse", "pages", "()I"⟩, prog_1_method_20_code, 1, some (Jvm.ClassFile.FieldType.int), [[some (.aload_n 0, 0, 0, 0, 1), some (.getfield 175, 11, 14, 0, 4), none, none, some (.ifCond .eq 13, 17, 0, 0, 7), none, none, some (.aload_n 0, 0, 0, 0, 8), some (.getfield 60, 11, 7, 0, 11), none, none, some (.getfield 182, 9, 7, 0, 14), none, none, some (.goto 4, 18, 0, 0, 17), none],
  [none, some (.iconst (-1), 0, 0, 0, 18), some (.ireturn, 0, 0, 0, 19), none, none, none, none, none, none, none, none, none, none, none, none, none]])
def ex_m51 : ex_M := (⟨"PaperHouse", "show", "(I)I"⟩, prog_1_method_22_code, 2, some (Jvm.ClassFile.FieldType.int), [[some (.aload_n 0, 0, 0, 0, 1), some (.getfield 175, 11, 14, 0, 4), none, none, some (.ifCond .eq 14, 18, 0, 0, 7), none, none, some (.aload_n 0, 0, 0, 0, 8), some (.getfield 60, 11, 7, 0, 11), none, none, some (.iload_n 1, 0, 0, 0, 12), none, none, none, some (.ifCond .ne 5, 20, 0, 0, 18)],
  [none, none, some (.iconst (-1), 0, 0, 0, 19), some (.ireturn, 0, 0, 0, 20), some (.aload_n 0, 0, 0, 0, 21), some (.getfield 69, 11, 8, 0, 24), none, none, some (.aload_n 0, 0, 0, 0, 25), some (.getfield 60, 11, 7, 0, 28), none, none, some (.iload_n 1, 0, 0, 0, 29), none, none, none],
  [none, none, none, some (.aload_n 0, 0, 0, 0, 36), some (.aload_n 0, 0, 0, 0, 37), some (.getfield 69, 11, 8, 0, 40), none, none, none, none, none, some (.putfield 110, 11, 17, 0, 46), none, none, some (.aload_n 0, 0, 0, 0, 47), some (.aload_n 0, 0, 0, 0, 48)],
  [some (.getfield 110, 11, 17, 0, 51), none, none, some (.ifCond .ne 7, 58, 0, 0, 54), none, none, some (.iconst (-1), 0, 0, 0, 55), some (.goto 10, 65, 0, 0, 58), none, none, some (.aload_n 0, 0, 0, 0, 59), some (.getfield 69, 11, 8, 0, 62), none, none, none, none],
  [none, some (.putfield 100, 11, 18, 0, 68), none, none, some (.aload_n 0, 0, 0, 0, 69), some (.getfield 110, 11, 17, 0, 72), none, none, some (.ifCond .ne 13, 85, 0, 0, 75), none, none, some (.aload_n 0, 0, 0, 0, 76), some (.getfield 69, 11, 8, 0, 79), none, none, some (.getfield 290, 4, 18, 0, 82)],
  [none, none, some (.goto 10, 92, 0, 0, 85), none, none, some (.bipush (-100), 0, 0, 0, 87), none, some (.aload_n 0, 0, 0, 0, 88), some (.getfield 110, 11, 17, 0, 91), none, none, some (.isub, 0, 0, 0, 92), some (.ireturn, 0, 0, 0, 93), none, none, none]])
def ex_m52 : ex_M := (⟨"PaperHouse", "size", "(I)I"⟩, prog_1_method_17_code, 2, some (Jvm.ClassFile.FieldType.int), [[some (.aload_n 0, 0, 0, 0, 1), some (.getfield 175, 11, 14, 0, 4), none, none, some (.ifCond .eq 25, 29, 0, 0, 7), none, none, some (.aload_n 0, 0, 0, 0, 8), some (.getfield 25, 11, 3, 0, 11), none, none, some (.iload_n 1, 0, 0, 0, 12), none, none, none, some (.ifCond .eq 14, 29, 0, 0, 18)],
  [none, none, some (.aload_n 0, 0, 0, 0, 19), some (.getfield 25, 11, 3, 0, 22), none, none, some (.iload_n 1, 0, 0, 0, 23), none, none, none, some (.goto 4, 30, 0, 0, 29), none, none, some (.iconst (-1), 0, 0, 0, 30), some (.ireturn, 0, 0, 0, 31), none]])
def ex_m53 : ex_M := (⟨"PaperHouse", "sum", "()I"⟩, prog_1_method_35_code, 1, some (Jvm.ClassFile.FieldType.int), [[some (.aload_n 0, 0, 0, 0, 1), some (.getfield 85, 11, 10, 0, 4), none, none, some (.getfield 336, 10, 2, 0, 7), none, none, some (.iconst 0, 0, 0, 0, 8), some (.aload_n 0, 0, 0, 0, 9), some (.getfield 85, 11, 10, 0, 12), none, none, some (.getfield 330, 10, 3, 0, 15), none, none, some (.invokestatic 339, 23, 3, 0, 18)],
  [none, none, some (.ireturn, 0, 0, 0, 19), none, none, none, none, none, none, none, none, none, none, none, none, none]])
def ex_m54 : ex_M := (⟨"PaperHouse", "take", "()I"⟩, prog_1_method_36_code, 2, some (Jvm.ClassFile.FieldType.int), [[some (.aload_n 0, 0, 0, 0, 1), some (.getfield 85, 11, 10, 0, 4), none, none, some (.getfield 330, 10, 3, 0, 7), none, none, some (.sipush 8000, 0, 0, 0, 10), none, none, some (.if_icmp .le 5, 15, 0, 0, 13), none, none, some (.iconst (-1), 0, 0, 0, 14), some (.ireturn, 0, 0, 0, 15), some (.aload_n 0, 0, 0, 0, 16)],
  [some (.iconst 0, 0, 0, 0, 17), some (.putfield 103, 11, 1, 0, 20), none, none, some (.iconst 0, 0, 0, 0, 21), some (.istore_n 1, 0, 0, 0, 22), some (.iload_n 1, 0, 0, 0, 23), some (.aload_n 0, 0, 0, 0, 24), some (.getfield 85, 11, 10, 0, 27), none, none, some (.getfield 330, 10, 3, 0, 30), none, none, some (.if_icmp .ge 43, 73, 0, 0, 33), none],
  [none, some (.iload_n 1, 0, 0, 0, 34), some (.aload_n 0, 0, 0, 0, 35), some (.getfield 9, 11, 0, 0, 38), none, none, some (.arraylength, 0, 0, 0, 39), some (.if_icmp .ge 34, 73, 0, 0, 42), none, none, some (.aload_n 0, 0, 0, 0, 43), some (.getfield 9, 11, 0, 0, 46), none, none, some (.iload_n 1, 0, 0, 0, 47), some (.aload_n 0, 0, 0, 0, 48)],
  [some (.getfield 85, 11, 10, 0, 51), none, none, some (.iload_n 1, 0, 0, 0, 52), some (.invokevirtual 333, 24, 1, 10, 55), none, none, some (.i2b, 0, 0, 0, 56), some (.bastore, 0, 0, 0, 57), some (.aload_n 0, 0, 0, 0, 58), some (.dup, 0, 0, 0, 59), some (.getfield 103, 11, 1, 0, 62), none, none, some (.iconst 1, 0, 0, 0, 63), some (.iadd, 0, 0, 0, 64)],
  [some (.putfield 103, 11, 1, 0, 67), none, none, some (.iinc 1 1, 0, 0, 0, 70), none, none, some (.goto (-48), 22, 0, 0, 73), none, none, some (.aload_n 0, 0, 0, 0, 74), some (.getfield 103, 11, 1, 0, 77), none, none, some (.ireturn, 0, 0, 0, 78), none, none]])
def ex_m55 : ex_M := (⟨"PaperHouse", "turn", "(II)Z"⟩, prog_1_method_27_code, 3, some (Jvm.ClassFile.FieldType.boolean), [[some (.aload_n 0, 0, 0, 0, 1), some (.getfield 175, 11, 14, 0, 4), none, none, some (.ifCond .eq 24, 28, 0, 0, 7), none, none, some (.aload_n 0, 0, 0, 0, 8), some (.aload_n 0, 0, 0, 0, 9), some (.getfield 76, 11, 9, 0, 12), none, none, some (.iload_n 1, 0, 0, 0, 13), some (.iload_n 2, 0, 0, 0, 14), none, none],
  [none, none, none, none, some (.iconst (-1), 0, 0, 0, 21), some (.if_icmp .eq 7, 28, 0, 0, 24), none, none, some (.iconst 1, 0, 0, 0, 25), some (.goto 4, 29, 0, 0, 28), none, none, some (.iconst 0, 0, 0, 0, 29), some (.ireturn, 0, 0, 0, 30), none, none]])
def ex_m56 : ex_M := (⟨"PaperHouse", "up", "()I"⟩, prog_1_method_14_code, 1, some (Jvm.ClassFile.FieldType.int), [[some (.aload_n 0, 0, 0, 0, 1), some (.invokevirtual 202, 40, 0, 11, 4), none, none, some (.ifCond .ne 10, 14, 0, 0, 7), none, none, some (.aload_n 0, 0, 0, 0, 8), some (.getfield 93, 11, 12, 0, 11), none, none, some (.ifCond .ne 5, 16, 0, 0, 14), none, none, some (.iconst (-1), 0, 0, 0, 15), some (.ireturn, 0, 0, 0, 16)],
  [some (.aload_n 0, 0, 0, 0, 17), some (.dup, 0, 0, 0, 18), some (.getfield 93, 11, 12, 0, 21), none, none, some (.iconst 1, 0, 0, 0, 22), some (.isub, 0, 0, 0, 23), some (.putfield 93, 11, 12, 0, 26), none, none, some (.aload_n 0, 0, 0, 0, 27), some (.getfield 93, 11, 12, 0, 30), none, none, some (.ireturn, 0, 0, 0, 31), none]])
def ex_m57 : ex_M := (⟨"PaperHouse", "whole", "()I"⟩, prog_1_method_31_code, 1, some (Jvm.ClassFile.FieldType.int), [[some (.aload_n 0, 0, 0, 0, 1), some (.getfield 85, 11, 10, 0, 4), none, none, some (.invokevirtual 319, 25, 0, 10, 7), none, none, some (.aload_n 0, 0, 0, 0, 8), some (.getfield 175, 11, 14, 0, 11), none, none, some (.ifCond .eq 13, 24, 0, 0, 14), none, none, some (.aload_n 0, 0, 0, 0, 15), some (.getfield 85, 11, 10, 0, 18)],
  [none, none, none, none, none, some (.goto 4, 25, 0, 0, 24), none, none, some (.iconst (-1), 0, 0, 0, 25), some (.ireturn, 0, 0, 0, 26), none, none, none, none, none, none]])
def ex_m58 : ex_M := (⟨"PaperHouseModel", "<init>", "()V"⟩, prog_14_method_1_code, 1, none, [[some (.aload_n 0, 0, 0, 0, 1), some (.invokespecial 1, 1000000, 0, 0, 4), none, none, some (.aload_n 0, 0, 0, 0, 5), some (.sipush 8000, 0, 0, 0, 8), none, none, some (.newarray .byte, 0, 0, 0, 10), none, some (.putfield 7, 12, 0, 0, 13), none, none, some (.aload_n 0, 0, 0, 0, 14), some (.sipush 8000, 0, 0, 0, 17), none],
  [none, some (.newarray .byte, 0, 0, 0, 19), none, some (.putfield 13, 12, 2, 0, 22), none, none, some (.aload_n 0, 0, 0, 0, 23), some (.sipush 30100, 0, 0, 0, 26), none, none, some (.newarray .byte, 0, 0, 0, 28), none, some (.putfield 16, 12, 4, 0, 31), none, none, some (.aload_n 0, 0, 0, 0, 32)],
  [some (.ldc 19, 40000, 0, 0, 34), none, some (.newarray .byte, 0, 0, 0, 36), none, some (.putfield 20, 12, 7, 0, 39), none, none, some (.aload_n 0, 0, 0, 0, 40), some (.ldc 19, 40000, 0, 0, 42), none, some (.newarray .int, 0, 0, 0, 44), none, some (.putfield 23, 12, 8, 0, 47), none, none, some (.aload_n 0, 0, 0, 0, 48)],
  [some (.ldc 19, 40000, 0, 0, 50), none, some (.newarray .int, 0, 0, 0, 52), none, some (.putfield 27, 12, 9, 0, 55), none, none, some (.aload_n 0, 0, 0, 0, 56), some (.ldc 19, 40000, 0, 0, 58), none, some (.newarray .int, 0, 0, 0, 60), none, some (.putfield 30, 12, 10, 0, 63), none, none, some (.aload_n 0, 0, 0, 0, 64)],
  [some (.ldc 19, 40000, 0, 0, 66), none, some (.newarray .int, 0, 0, 0, 68), none, some (.putfield 33, 12, 11, 0, 71), none, none, some (.aload_n 0, 0, 0, 0, 72), some (.ldc 19, 40000, 0, 0, 74), none, some (.newarray .int, 0, 0, 0, 76), none, some (.putfield 36, 12, 12, 0, 79), none, none, some (.aload_n 0, 0, 0, 0, 80)],
  [some (.ldc 19, 40000, 0, 0, 82), none, some (.newarray .int, 0, 0, 0, 84), none, some (.putfield 39, 12, 13, 0, 87), none, none, some (.aload_n 0, 0, 0, 0, 88), some (.ldc 19, 40000, 0, 0, 90), none, some (.newarray .int, 0, 0, 0, 92), none, some (.putfield 42, 12, 14, 0, 95), none, none, some (.aload_n 0, 0, 0, 0, 96)],
  [some (.ldc 45, 150000, 0, 0, 98), none, some (.newarray .byte, 0, 0, 0, 100), none, some (.putfield 46, 12, 16, 0, 103), none, none, some (.aload_n 0, 0, 0, 0, 104), some (.ldc 49, 57000, 0, 0, 106), none, some (.newarray .byte, 0, 0, 0, 108), none, some (.putfield 50, 12, 33, 0, 111), none, none, some (.aload_n 0, 0, 0, 0, 112)],
  [some (.sipush 8200, 0, 0, 0, 115), none, none, some (.newarray .byte, 0, 0, 0, 117), none, some (.putfield 53, 12, 35, 0, 120), none, none, some (.aload_n 0, 0, 0, 0, 121), some (.sipush 8200, 0, 0, 0, 124), none, none, some (.newarray .byte, 0, 0, 0, 126), none, some (.putfield 56, 12, 36, 0, 129), none],
  [none, some (.aload_n 0, 0, 0, 0, 130), some (.sipush 320, 0, 0, 0, 133), none, none, some (.newarray .int, 0, 0, 0, 135), none, some (.putfield 59, 12, 41, 0, 138), none, none, some (.aload_n 0, 0, 0, 0, 139), some (.bipush 16, 0, 0, 0, 141), none, some (.newarray .int, 0, 0, 0, 143), none, some (.putfield 62, 12, 42, 0, 146)],
  [none, none, some (.aload_n 0, 0, 0, 0, 147), some (.sipush 288, 0, 0, 0, 150), none, none, some (.newarray .int, 0, 0, 0, 152), none, some (.putfield 65, 12, 43, 0, 155), none, none, some (.aload_n 0, 0, 0, 0, 156), some (.bipush 16, 0, 0, 0, 158), none, some (.newarray .int, 0, 0, 0, 160), none],
  [some (.putfield 68, 12, 44, 0, 163), none, none, some (.aload_n 0, 0, 0, 0, 164), some (.bipush 32, 0, 0, 0, 166), none, some (.newarray .int, 0, 0, 0, 168), none, some (.putfield 71, 12, 45, 0, 171), none, none, some (.aload_n 0, 0, 0, 0, 172), some (.bipush 16, 0, 0, 0, 174), none, some (.newarray .int, 0, 0, 0, 176), none],
  [some (.putfield 74, 12, 46, 0, 179), none, none, some (.aload_n 0, 0, 0, 0, 180), some (.sipush 340, 0, 0, 0, 183), none, none, some (.newarray .int, 0, 0, 0, 185), none, some (.putfield 77, 12, 47, 0, 188), none, none, some (.aload_n 0, 0, 0, 0, 189), some (.sipush 200, 0, 0, 0, 192), none, none],
  [some (.newarray .byte, 0, 0, 0, 194), none, some (.putfield 80, 12, 48, 0, 197), none, none, some (.aload_n 0, 0, 0, 0, 198), some (.sipush 200, 0, 0, 0, 201), none, none, some (.newarray .long, 0, 0, 0, 203), none, some (.putfield 83, 12, 49, 0, 206), none, none, some (.aload_n 0, 0, 0, 0, 207), some (.sipush 200, 0, 0, 0, 210)],
  [none, none, some (.newarray .long, 0, 0, 0, 212), none, some (.putfield 87, 12, 50, 0, 215), none, none, some (.aload_n 0, 0, 0, 0, 216), some (.sipush 200, 0, 0, 0, 219), none, none, some (.newarray .boolean, 0, 0, 0, 221), none, some (.putfield 90, 12, 51, 0, 224), none, none],
  [some (.aload_n 0, 0, 0, 0, 225), some (.sipush 200, 0, 0, 0, 228), none, none, some (.newarray .int, 0, 0, 0, 230), none, some (.putfield 94, 12, 52, 0, 233), none, none, some (.aload_n 0, 0, 0, 0, 234), some (.sipush 200, 0, 0, 0, 237), none, none, some (.newarray .byte, 0, 0, 0, 239), none, some (.putfield 97, 12, 53, 0, 242)],
  [none, none, some (.aload_n 0, 0, 0, 0, 243), some (.sipush 200, 0, 0, 0, 246), none, none, some (.newarray .boolean, 0, 0, 0, 248), none, some (.putfield 100, 12, 54, 0, 251), none, none, some (.aload_n 0, 0, 0, 0, 252), some (.sipush 200, 0, 0, 0, 255), none, none, some (.newarray .int, 0, 0, 0, 257)],
  [none, some (.putfield 103, 12, 55, 0, 260), none, none, some (.aload_n 0, 0, 0, 0, 261), some (.sipush 200, 0, 0, 0, 264), none, none, some (.newarray .int, 0, 0, 0, 266), none, some (.putfield 106, 12, 56, 0, 269), none, none, some (.aload_n 0, 0, 0, 0, 270), some (.sipush 200, 0, 0, 0, 273), none],
  [none, some (.newarray .boolean, 0, 0, 0, 275), none, some (.putfield 109, 12, 57, 0, 278), none, none, some (.aload_n 0, 0, 0, 0, 279), some (.sipush 200, 0, 0, 0, 282), none, none, some (.newarray .boolean, 0, 0, 0, 284), none, some (.putfield 112, 12, 58, 0, 287), none, none, some (.aload_n 0, 0, 0, 0, 288)],
  [some (.sipush 200, 0, 0, 0, 291), none, none, some (.newarray .boolean, 0, 0, 0, 293), none, some (.putfield 115, 12, 59, 0, 296), none, none, some (.aload_n 0, 0, 0, 0, 297), some (.bipush 12, 0, 0, 0, 299), none, some (.newarray .long, 0, 0, 0, 301), none, some (.putfield 118, 12, 62, 0, 304), none, none],
  [some (.aload_n 0, 0, 0, 0, 305), some (.sipush 200, 0, 0, 0, 308), none, none, some (.newarray .byte, 0, 0, 0, 310), none, some (.putfield 121, 12, 72, 0, 313), none, none, some (.aload_n 0, 0, 0, 0, 314), some (.sipush 200, 0, 0, 0, 317), none, none, some (.newarray .long, 0, 0, 0, 319), none, some (.putfield 124, 12, 73, 0, 322)],
  [none, none, some (.aload_n 0, 0, 0, 0, 323), some (.sipush 200, 0, 0, 0, 326), none, none, some (.newarray .long, 0, 0, 0, 328), none, some (.putfield 127, 12, 74, 0, 331), none, none, some (.aload_n 0, 0, 0, 0, 332), some (.iconst 3, 0, 0, 0, 333), some (.newarray .int, 0, 0, 0, 335), none, some (.putfield 130, 12, 76, 0, 338)],
  [none, none, some (.aload_n 0, 0, 0, 0, 339), some (.bipush 61, 0, 0, 0, 341), none, some (.newarray .int, 0, 0, 0, 343), none, some (.putfield 133, 12, 85, 0, 346), none, none, some (.aload_n 0, 0, 0, 0, 347), some (.sipush 200, 0, 0, 0, 350), none, none, some (.newarray .int, 0, 0, 0, 352), none],
  [some (.putfield 136, 12, 86, 0, 355), none, none, some (.aload_n 0, 0, 0, 0, 356), some (.sipush 200, 0, 0, 0, 359), none, none, some (.newarray .boolean, 0, 0, 0, 361), none, some (.putfield 139, 12, 87, 0, 364), none, none, some (.aload_n 0, 0, 0, 0, 365), some (.iconst (-1), 0, 0, 0, 366), some (.putfield 142, 12, 88, 0, 369), none],
  [none, some (.aload_n 0, 0, 0, 0, 370), some (.bipush 26, 0, 0, 0, 372), none, some (.newarray .int, 0, 0, 0, 374), none, some (.putfield 146, 12, 90, 0, 377), none, none, some (.aload_n 0, 0, 0, 0, 378), some (.ldc 149, 40100, 0, 0, 380), none, some (.newarray .byte, 0, 0, 0, 382), none, some (.putfield 150, 12, 91, 0, 385), none],
  [none, some (.aload_n 0, 0, 0, 0, 386), some (.bipush 40, 0, 0, 0, 388), none, some (.newarray .int, 0, 0, 0, 390), none, some (.putfield 153, 12, 93, 0, 393), none, none, some (.aload_n 0, 0, 0, 0, 394), some (.bipush 6, 0, 0, 0, 396), none, some (.newarray .int, 0, 0, 0, 398), none, some (.putfield 156, 12, 95, 0, 401), none],
  [none, some (.aload_n 0, 0, 0, 0, 402), some (.bipush 6, 0, 0, 0, 404), none, some (.newarray .int, 0, 0, 0, 406), none, some (.putfield 159, 12, 96, 0, 409), none, none, some (.aload_n 0, 0, 0, 0, 410), some (.bipush 6, 0, 0, 0, 412), none, some (.newarray .int, 0, 0, 0, 414), none, some (.putfield 162, 12, 97, 0, 417), none],
  [none, some (.aload_n 0, 0, 0, 0, 418), some (.bipush 6, 0, 0, 0, 420), none, some (.newarray .int, 0, 0, 0, 422), none, some (.putfield 165, 12, 98, 0, 425), none, none, some (.aload_n 0, 0, 0, 0, 426), some (.bipush 6, 0, 0, 0, 428), none, some (.newarray .long, 0, 0, 0, 430), none, some (.putfield 168, 12, 99, 0, 433), none],
  [none, some (.aload_n 0, 0, 0, 0, 434), some (.bipush 9, 0, 0, 0, 436), none, some (.newarray .int, 0, 0, 0, 438), none, some (.putfield 171, 12, 100, 0, 441), none, none, some (.aload_n 0, 0, 0, 0, 442), some (.sipush 300, 0, 0, 0, 445), none, none, some (.newarray .int, 0, 0, 0, 447), none, some (.putfield 174, 12, 101, 0, 450)],
  [none, none, some (.aload_n 0, 0, 0, 0, 451), some (.sipush 7500, 0, 0, 0, 454), none, none, some (.newarray .int, 0, 0, 0, 456), none, some (.putfield 177, 12, 105, 0, 459), none, none, some (.aload_n 0, 0, 0, 0, 460), some (.bipush 47, 0, 0, 0, 462), none, some (.anewarray 180, 0, 0, 0, 465), none],
  [none, some (.dup, 0, 0, 0, 466), some (.iconst 0, 0, 0, 0, 467), some (.ldc 182, 6, 1, 0, 469), none, some (.aastore, 0, 0, 0, 470), some (.dup, 0, 0, 0, 471), some (.iconst 1, 0, 0, 0, 472), some (.ldc 184, 8, 1, 0, 474), none, some (.aastore, 0, 0, 0, 475), some (.dup, 0, 0, 0, 476), some (.iconst 2, 0, 0, 0, 477), some (.ldc 186, 10, 1, 0, 479), none, some (.aastore, 0, 0, 0, 480)],
  [some (.dup, 0, 0, 0, 481), some (.iconst 3, 0, 0, 0, 482), some (.ldc 188, 12, 1, 0, 484), none, some (.aastore, 0, 0, 0, 485), some (.dup, 0, 0, 0, 486), some (.iconst 4, 0, 0, 0, 487), some (.ldc 190, 14, 1, 0, 489), none, some (.aastore, 0, 0, 0, 490), some (.dup, 0, 0, 0, 491), some (.iconst 5, 0, 0, 0, 492), some (.ldc 192, 16, 1, 0, 494), none, some (.aastore, 0, 0, 0, 495), some (.dup, 0, 0, 0, 496)],
  [some (.bipush 6, 0, 0, 0, 498), none, some (.ldc 194, 18, 1, 0, 500), none, some (.aastore, 0, 0, 0, 501), some (.dup, 0, 0, 0, 502), some (.bipush 7, 0, 0, 0, 504), none, some (.ldc 196, 20, 1, 0, 506), none, some (.aastore, 0, 0, 0, 507), some (.dup, 0, 0, 0, 508), some (.bipush 8, 0, 0, 0, 510), none, some (.ldc 198, 22, 1, 0, 512), none],
  [some (.aastore, 0, 0, 0, 513), some (.dup, 0, 0, 0, 514), some (.bipush 9, 0, 0, 0, 516), none, some (.ldc 200, 24, 1, 0, 518), none, some (.aastore, 0, 0, 0, 519), some (.dup, 0, 0, 0, 520), some (.bipush 10, 0, 0, 0, 522), none, some (.ldc 202, 26, 1, 0, 524), none, some (.aastore, 0, 0, 0, 525), some (.dup, 0, 0, 0, 526), some (.bipush 11, 0, 0, 0, 528), none],
  [some (.ldc 204, 28, 1, 0, 530), none, some (.aastore, 0, 0, 0, 531), some (.dup, 0, 0, 0, 532), some (.bipush 12, 0, 0, 0, 534), none, some (.ldc 206, 30, 1, 0, 536), none, some (.aastore, 0, 0, 0, 537), some (.dup, 0, 0, 0, 538), some (.bipush 13, 0, 0, 0, 540), none, some (.ldc 208, 32, 1, 0, 542), none, some (.aastore, 0, 0, 0, 543), some (.dup, 0, 0, 0, 544)],
  [some (.bipush 14, 0, 0, 0, 546), none, some (.ldc 210, 34, 1, 0, 548), none, some (.aastore, 0, 0, 0, 549), some (.dup, 0, 0, 0, 550), some (.bipush 15, 0, 0, 0, 552), none, some (.ldc 212, 36, 1, 0, 554), none, some (.aastore, 0, 0, 0, 555), some (.dup, 0, 0, 0, 556), some (.bipush 16, 0, 0, 0, 558), none, some (.ldc 214, 38, 1, 0, 560), none],
  [some (.aastore, 0, 0, 0, 561), some (.dup, 0, 0, 0, 562), some (.bipush 17, 0, 0, 0, 564), none, some (.ldc 216, 40, 1, 0, 566), none, some (.aastore, 0, 0, 0, 567), some (.dup, 0, 0, 0, 568), some (.bipush 18, 0, 0, 0, 570), none, some (.ldc 218, 42, 1, 0, 572), none, some (.aastore, 0, 0, 0, 573), some (.dup, 0, 0, 0, 574), some (.bipush 19, 0, 0, 0, 576), none],
  [some (.ldc 220, 44, 1, 0, 578), none, some (.aastore, 0, 0, 0, 579), some (.dup, 0, 0, 0, 580), some (.bipush 20, 0, 0, 0, 582), none, some (.ldc 222, 46, 1, 0, 584), none, some (.aastore, 0, 0, 0, 585), some (.dup, 0, 0, 0, 586), some (.bipush 21, 0, 0, 0, 588), none, some (.ldc 224, 48, 1, 0, 590), none, some (.aastore, 0, 0, 0, 591), some (.dup, 0, 0, 0, 592)],
  [some (.bipush 22, 0, 0, 0, 594), none, some (.ldc 226, 50, 1, 0, 596), none, some (.aastore, 0, 0, 0, 597), some (.dup, 0, 0, 0, 598), some (.bipush 23, 0, 0, 0, 600), none, some (.ldc 228, 52, 1, 0, 602), none, some (.aastore, 0, 0, 0, 603), some (.dup, 0, 0, 0, 604), some (.bipush 24, 0, 0, 0, 606), none, some (.ldc 230, 54, 1, 0, 608), none],
  [some (.aastore, 0, 0, 0, 609), some (.dup, 0, 0, 0, 610), some (.bipush 25, 0, 0, 0, 612), none, some (.ldc 232, 56, 1, 0, 614), none, some (.aastore, 0, 0, 0, 615), some (.dup, 0, 0, 0, 616), some (.bipush 26, 0, 0, 0, 618), none, some (.ldc 234, 58, 1, 0, 620), none, some (.aastore, 0, 0, 0, 621), some (.dup, 0, 0, 0, 622), some (.bipush 27, 0, 0, 0, 624), none],
  [some (.ldc 236, 60, 1, 0, 626), none, some (.aastore, 0, 0, 0, 627), some (.dup, 0, 0, 0, 628), some (.bipush 28, 0, 0, 0, 630), none, some (.ldc 238, 62, 1, 0, 632), none, some (.aastore, 0, 0, 0, 633), some (.dup, 0, 0, 0, 634), some (.bipush 29, 0, 0, 0, 636), none, some (.ldc 240, 64, 1, 0, 638), none, some (.aastore, 0, 0, 0, 639), some (.dup, 0, 0, 0, 640)],
  [some (.bipush 30, 0, 0, 0, 642), none, some (.ldc 242, 66, 1, 0, 644), none, some (.aastore, 0, 0, 0, 645), some (.dup, 0, 0, 0, 646), some (.bipush 31, 0, 0, 0, 648), none, some (.ldc 244, 68, 1, 0, 650), none, some (.aastore, 0, 0, 0, 651), some (.dup, 0, 0, 0, 652), some (.bipush 32, 0, 0, 0, 654), none, some (.ldc 246, 70, 1, 0, 656), none],
  [some (.aastore, 0, 0, 0, 657), some (.dup, 0, 0, 0, 658), some (.bipush 33, 0, 0, 0, 660), none, some (.ldc 248, 72, 1, 0, 662), none, some (.aastore, 0, 0, 0, 663), some (.dup, 0, 0, 0, 664), some (.bipush 34, 0, 0, 0, 666), none, some (.ldc 250, 74, 1, 0, 668), none, some (.aastore, 0, 0, 0, 669), some (.dup, 0, 0, 0, 670), some (.bipush 35, 0, 0, 0, 672), none],
  [some (.ldc 252, 76, 1, 0, 674), none, some (.aastore, 0, 0, 0, 675), some (.dup, 0, 0, 0, 676), some (.bipush 36, 0, 0, 0, 678), none, some (.ldc 254, 78, 1, 0, 680), none, some (.aastore, 0, 0, 0, 681), some (.dup, 0, 0, 0, 682), some (.bipush 37, 0, 0, 0, 684), none, some (.ldc_w 256, 80, 1, 0, 687), none, none, some (.aastore, 0, 0, 0, 688)],
  [some (.dup, 0, 0, 0, 689), some (.bipush 38, 0, 0, 0, 691), none, some (.ldc_w 258, 82, 1, 0, 694), none, none, some (.aastore, 0, 0, 0, 695), some (.dup, 0, 0, 0, 696), some (.bipush 39, 0, 0, 0, 698), none, some (.ldc_w 260, 84, 1, 0, 701), none, none, some (.aastore, 0, 0, 0, 702), some (.dup, 0, 0, 0, 703), some (.bipush 40, 0, 0, 0, 705)],
  [none, some (.ldc_w 262, 86, 1, 0, 708), none, none, some (.aastore, 0, 0, 0, 709), some (.dup, 0, 0, 0, 710), some (.bipush 41, 0, 0, 0, 712), none, some (.ldc_w 264, 88, 1, 0, 715), none, none, some (.aastore, 0, 0, 0, 716), some (.dup, 0, 0, 0, 717), some (.bipush 42, 0, 0, 0, 719), none, some (.ldc_w 266, 90, 1, 0, 722)],
  [none, none, some (.aastore, 0, 0, 0, 723), some (.dup, 0, 0, 0, 724), some (.bipush 43, 0, 0, 0, 726), none, some (.ldc_w 268, 92, 1, 0, 729), none, none, some (.aastore, 0, 0, 0, 730), some (.dup, 0, 0, 0, 731), some (.bipush 44, 0, 0, 0, 733), none, some (.ldc_w 270, 94, 1, 0, 736), none, none],
  [some (.aastore, 0, 0, 0, 737), some (.dup, 0, 0, 0, 738), some (.bipush 45, 0, 0, 0, 740), none, some (.ldc_w 272, 96, 1, 0, 743), none, none, some (.aastore, 0, 0, 0, 744), some (.dup, 0, 0, 0, 745), some (.bipush 46, 0, 0, 0, 747), none, some (.ldc_w 274, 98, 1, 0, 750), none, none, some (.aastore, 0, 0, 0, 751), some (.putfield 276, 12, 108, 0, 754)],
  [none, none, some (.aload_n 0, 0, 0, 0, 755), some (.sipush 200, 0, 0, 0, 758), none, none, some (.newarray .int, 0, 0, 0, 760), none, some (.putfield 280, 12, 110, 0, 763), none, none, some (.aload_n 0, 0, 0, 0, 764), some (.sipush 200, 0, 0, 0, 767), none, none, some (.newarray .int, 0, 0, 0, 769)],
  [none, some (.putfield 283, 12, 111, 0, 772), none, none, some (.aload_n 0, 0, 0, 0, 773), some (.sipush 201, 0, 0, 0, 776), none, none, some (.newarray .int, 0, 0, 0, 778), none, some (.putfield 286, 12, 113, 0, 781), none, none, some (.aload_n 0, 0, 0, 0, 782), some (.ldc_w 289, 50000, 0, 0, 785), none],
  [none, some (.newarray .byte, 0, 0, 0, 787), none, some (.putfield 290, 12, 114, 0, 790), none, none, some (.aload_n 0, 0, 0, 0, 791), some (.sipush 4096, 0, 0, 0, 794), none, none, some (.newarray .int, 0, 0, 0, 796), none, some (.putfield 293, 12, 117, 0, 799), none, none, some (.aload_n 0, 0, 0, 0, 800)],
  [some (.ldc 49, 57000, 0, 0, 802), none, some (.newarray .int, 0, 0, 0, 804), none, some (.putfield 296, 12, 118, 0, 807), none, none, some (.aload_n 0, 0, 0, 0, 808), some (.sipush 1400, 0, 0, 0, 811), none, none, some (.newarray .byte, 0, 0, 0, 813), none, some (.putfield 299, 12, 119, 0, 816), none, none],
  [some (.aload_n 0, 0, 0, 0, 817), some (.iconst 0, 0, 0, 0, 818), some (.putfield 302, 12, 6, 0, 821), none, none, some (.aload_n 0, 0, 0, 0, 822), some (.iconst (-1), 0, 0, 0, 823), some (.putfield 306, 12, 69, 0, 826), none, none, some (.aload_n 0, 0, 0, 0, 827), some (.iconst (-1), 0, 0, 0, 828), some (.putfield 309, 12, 71, 0, 831), none, none, some (.return_, 0, 0, 0, 832)]])
def ex_m59 : ex_M := (⟨"PaperHouseModel", "adler", "([BI)J"⟩, prog_14_method_52_code, 5, some (Jvm.ClassFile.FieldType.long), [[some (.iconst 1, 0, 0, 0, 1), some (.istore_n 2, 0, 0, 0, 2), some (.iconst 0, 0, 0, 0, 3), some (.istore_n 3, 0, 0, 0, 4), some (.iconst 0, 0, 0, 0, 5), some (.istore 4, 0, 0, 0, 7), none, some (.iload 4, 0, 0, 0, 9), none, some (.iload_n 1, 0, 0, 0, 10), some (.if_icmp .ge 32, 42, 0, 0, 13), none, none, some (.iload_n 2, 0, 0, 0, 14), some (.aload_n 0, 0, 0, 0, 15), some (.iload 4, 0, 0, 0, 17)],
  [none, some (.baload, 0, 0, 0, 18), some (.sipush 255, 0, 0, 0, 21), none, none, some (.iand, 0, 0, 0, 22), some (.iadd, 0, 0, 0, 23), some (.ldc_w 588, 65521, 0, 0, 26), none, none, some (.irem, 0, 0, 0, 27), some (.istore_n 2, 0, 0, 0, 28), some (.iload_n 3, 0, 0, 0, 29), some (.iload_n 2, 0, 0, 0, 30), some (.iadd, 0, 0, 0, 31), some (.ldc_w 588, 65521, 0, 0, 34)],
  [none, none, some (.irem, 0, 0, 0, 35), some (.istore_n 3, 0, 0, 0, 36), some (.iinc 4 1, 0, 0, 0, 39), none, none, some (.goto (-32), 7, 0, 0, 42), none, none, some (.iload_n 3, 0, 0, 0, 43), some (.i2l, 0, 0, 0, 44), some (.bipush 16, 0, 0, 0, 46), none, some (.lshl, 0, 0, 0, 47), some (.iload_n 2, 0, 0, 0, 48)],
  [some (.i2l, 0, 0, 0, 49), some (.lor, 0, 0, 0, 50), some (.lreturn, 0, 0, 0, 51), none, none, none, none, none, none, none, none, none, none, none, none, none]])
def ex_m60 : ex_M := (⟨"PaperHouseModel", "byteHere", "(I)I"⟩, prog_14_method_69_code, 2, some (Jvm.ClassFile.FieldType.int), [[some (.iload_n 1, 0, 0, 0, 1), some (.aload_n 0, 0, 0, 0, 2), some (.getfield 615, 12, 3, 0, 5), none, none, some (.if_icmp .ge 16, 21, 0, 0, 8), none, none, some (.aload_n 0, 0, 0, 0, 9), some (.getfield 13, 12, 2, 0, 12), none, none, some (.iload_n 1, 0, 0, 0, 13), some (.baload, 0, 0, 0, 14), some (.sipush 255, 0, 0, 0, 17), none],
  [none, some (.iand, 0, 0, 0, 18), some (.goto 4, 22, 0, 0, 21), none, none, some (.iconst (-1), 0, 0, 0, 22), some (.ireturn, 0, 0, 0, 23), none, none, none, none, none, none, none, none, none]])
def ex_m61 : ex_M := (⟨"PaperHouseModel", "contents", "(I)I"⟩, prog_14_method_160_code, 5, some (Jvm.ClassFile.FieldType.int), [[some (.aload_n 0, 0, 0, 0, 1), some (.getfield 312, 12, 1, 0, 4), none, none, some (.istore_n 2, 0, 0, 0, 5), some (.aload_n 0, 0, 0, 0, 6), some (.iconst 0, 0, 0, 0, 7), some (.putfield 312, 12, 1, 0, 10), none, none, some (.aload_n 0, 0, 0, 0, 11), some (.iload_n 1, 0, 0, 0, 12), some (.invokevirtual 893, 77, 1, 12, 15), none, none, some (.ifCond .eq 24, 39, 0, 0, 18)],
  [none, none, some (.aload_n 0, 0, 0, 0, 19), none, none, none, some (.sipush 200, 0, 0, 0, 25), none, none, some (.if_icmp .eq 14, 39, 0, 0, 28), none, none, some (.aload_n 0, 0, 0, 0, 29), some (.getfield 621, 12, 67, 0, 32), none, none],
  [some (.iload_n 2, 0, 0, 0, 33), some (.iadd, 0, 0, 0, 34), some (.ldc 19, 40000, 0, 0, 36), none, some (.if_icmp .le 5, 41, 0, 0, 39), none, none, some (.iconst (-1), 0, 0, 0, 40), some (.ireturn, 0, 0, 0, 41), some (.aload_n 0, 0, 0, 0, 42), some (.aload_n 0, 0, 0, 0, 43), some (.bipush 7, 0, 0, 0, 45), none, some (.iconst 0, 0, 0, 0, 46), none, none],
  [none, none, none, none, some (.istore_n 3, 0, 0, 0, 53), some (.aload_n 0, 0, 0, 0, 54), some (.getfield 100, 12, 54, 0, 57), none, none, some (.iload_n 3, 0, 0, 0, 58), some (.iconst 1, 0, 0, 0, 59), some (.bastore, 0, 0, 0, 60), some (.aload_n 0, 0, 0, 0, 61), some (.getfield 103, 12, 55, 0, 64), none, none],
  [some (.iload_n 3, 0, 0, 0, 65), some (.aload_n 0, 0, 0, 0, 66), some (.getfield 511, 12, 34, 0, 69), none, none, some (.iastore, 0, 0, 0, 70), some (.aload_n 0, 0, 0, 0, 71), some (.getfield 106, 12, 56, 0, 74), none, none, some (.iload_n 3, 0, 0, 0, 75), some (.iload_n 2, 0, 0, 0, 76), some (.iastore, 0, 0, 0, 77), some (.iconst 0, 0, 0, 0, 78), some (.istore 4, 0, 0, 0, 80), none],
  [some (.iload 4, 0, 0, 0, 82), none, some (.iload_n 2, 0, 0, 0, 83), some (.if_icmp .ge 28, 111, 0, 0, 86), none, none, some (.aload_n 0, 0, 0, 0, 87), some (.getfield 50, 12, 33, 0, 90), none, none, some (.aload_n 0, 0, 0, 0, 91), some (.getfield 511, 12, 34, 0, 94), none, none, some (.iload 4, 0, 0, 0, 96), none],
  [some (.iadd, 0, 0, 0, 97), some (.aload_n 0, 0, 0, 0, 98), some (.getfield 7, 12, 0, 0, 101), none, none, some (.iload 4, 0, 0, 0, 103), none, some (.baload, 0, 0, 0, 104), some (.bastore, 0, 0, 0, 105), some (.iinc 4 1, 0, 0, 0, 108), none, none, some (.goto (-28), 80, 0, 0, 111), none, none, some (.aload_n 0, 0, 0, 0, 112)],
  [some (.dup, 0, 0, 0, 113), some (.getfield 511, 12, 34, 0, 116), none, none, some (.iload_n 2, 0, 0, 0, 117), some (.iadd, 0, 0, 0, 118), some (.putfield 511, 12, 34, 0, 121), none, none, some (.aload_n 0, 0, 0, 0, 122), some (.dup, 0, 0, 0, 123), some (.getfield 621, 12, 67, 0, 126), none, none, some (.iload_n 2, 0, 0, 0, 127), some (.iadd, 0, 0, 0, 128)],
  [some (.putfield 621, 12, 67, 0, 131), none, none, some (.aload_n 0, 0, 0, 0, 132), some (.aload_n 0, 0, 0, 0, 133), some (.getfield 94, 12, 52, 0, 136), none, none, some (.aload_n 0, 0, 0, 0, 137), some (.getfield 133, 12, 85, 0, 140), none, none, some (.iload_n 1, 0, 0, 0, 141), some (.iaload, 0, 0, 0, 142), some (.iaload, 0, 0, 0, 143), some (.ldc_w 873, 100, 1, 0, 146)],
  [none, none, some (.bipush 8, 0, 0, 0, 148), none, some (.iload_n 3, 0, 0, 0, 149), some (.iconst 0, 0, 0, 0, 150), none, none, none, some (.pop, 0, 0, 0, 154), some (.aload_n 0, 0, 0, 0, 155), some (.aload_n 0, 0, 0, 0, 156), some (.getfield 133, 12, 85, 0, 159), none, none, some (.iload_n 1, 0, 0, 0, 160)],
  [some (.iaload, 0, 0, 0, 161), none, none, none, some (.aload_n 0, 0, 0, 0, 165), some (.iconst (-1), 0, 0, 0, 166), some (.putfield 142, 12, 88, 0, 169), none, none, some (.iload_n 3, 0, 0, 0, 170), some (.ireturn, 0, 0, 0, 171), none, none, none, none, none]])
def ex_m62 : ex_M := (⟨"PaperHouseModel", "count", "(I)I"⟩, prog_14_method_119_code, 4, some (Jvm.ClassFile.FieldType.int), [[some (.aload_n 0, 0, 0, 0, 1), some (.getfield 302, 12, 6, 0, 4), none, none, some (.ifCond .ne 5, 9, 0, 0, 7), none, none, some (.iconst (-1), 0, 0, 0, 8), some (.ireturn, 0, 0, 0, 9), some (.iconst 0, 0, 0, 0, 10), some (.istore_n 2, 0, 0, 0, 11), some (.iconst 0, 0, 0, 0, 12), some (.istore_n 3, 0, 0, 0, 13), some (.iload_n 3, 0, 0, 0, 14), some (.aload_n 0, 0, 0, 0, 15), some (.getfield 630, 12, 60, 0, 18)],
  [none, none, some (.if_icmp .ge 26, 44, 0, 0, 21), none, none, some (.iload_n 2, 0, 0, 0, 22), some (.aload_n 0, 0, 0, 0, 23), some (.getfield 109, 12, 57, 0, 26), none, none, some (.iload_n 3, 0, 0, 0, 27), some (.baload, 0, 0, 0, 28), some (.ifCond .eq 7, 35, 0, 0, 31), none, none, some (.iconst 1, 0, 0, 0, 32)],
  [some (.goto 4, 36, 0, 0, 35), none, none, some (.iconst 0, 0, 0, 0, 36), some (.iadd, 0, 0, 0, 37), some (.istore_n 2, 0, 0, 0, 38), some (.iinc 3 1, 0, 0, 0, 41), none, none, some (.goto (-28), 13, 0, 0, 44), none, none, some (.iload_n 1, 0, 0, 0, 45), some (.tableswitch 86 0 6 #[43, 48, 53, 58, 63, 76, 84], 0, 0, 0, 88), none, none],
  [none, none, none, none, none, none, none, none, none, none, none, none, none, none, none, none],
  [none, none, none, none, none, none, none, none, none, none, none, none, none, none, none, none],
  [none, none, none, none, none, none, none, none, some (.aload_n 0, 0, 0, 0, 89), some (.getfield 630, 12, 60, 0, 92), none, none, some (.ireturn, 0, 0, 0, 93), some (.aload_n 0, 0, 0, 0, 94), some (.getfield 815, 12, 81, 0, 97), none],
  [none, some (.ireturn, 0, 0, 0, 98), some (.aload_n 0, 0, 0, 0, 99), some (.getfield 831, 12, 82, 0, 102), none, none, some (.ireturn, 0, 0, 0, 103), some (.aload_n 0, 0, 0, 0, 104), some (.getfield 651, 12, 61, 0, 107), none, none, some (.ireturn, 0, 0, 0, 108), some (.aload_n 0, 0, 0, 0, 109), some (.getfield 700, 12, 63, 0, 112), none, none],
  [some (.ifCond .eq 7, 119, 0, 0, 115), none, none, some (.iconst 1, 0, 0, 0, 116), some (.goto 4, 120, 0, 0, 119), none, none, some (.iconst 0, 0, 0, 0, 120), some (.ireturn, 0, 0, 0, 121), some (.aload_n 0, 0, 0, 0, 122), some (.getfield 118, 12, 62, 0, 125), none, none, some (.iconst 0, 0, 0, 0, 126), some (.laload, 0, 0, 0, 127), some (.l2i, 0, 0, 0, 128)],
  [some (.ireturn, 0, 0, 0, 129), some (.iload_n 2, 0, 0, 0, 130), some (.ireturn, 0, 0, 0, 131), some (.iconst (-1), 0, 0, 0, 132), some (.ireturn, 0, 0, 0, 133), none, none, none, none, none, none, none, none, none, none, none]])
def ex_m63 : ex_M := (⟨"PaperHouseModel", "cut", "(I)I"⟩, prog_14_method_5_code, 3, some (Jvm.ClassFile.FieldType.int), [[some (.iload_n 1, 0, 0, 0, 1), some (.ifCond .lt 11, 12, 0, 0, 4), none, none, some (.iload_n 1, 0, 0, 0, 5), some (.aload_n 0, 0, 0, 0, 6), some (.getfield 312, 12, 1, 0, 9), none, none, some (.if_icmp .le 5, 14, 0, 0, 12), none, none, some (.iconst (-1), 0, 0, 0, 13), some (.ireturn, 0, 0, 0, 14), some (.aload_n 0, 0, 0, 0, 15), some (.getfield 312, 12, 1, 0, 18)],
  [none, none, some (.iload_n 1, 0, 0, 0, 19), some (.isub, 0, 0, 0, 20), some (.istore_n 2, 0, 0, 0, 21), some (.aload_n 0, 0, 0, 0, 22), some (.iload_n 1, 0, 0, 0, 23), some (.putfield 312, 12, 1, 0, 26), none, none, some (.iload_n 2, 0, 0, 0, 27), some (.ireturn, 0, 0, 0, 28), none, none, none, none]])
def ex_m64 : ex_M := (⟨"PaperHouseModel", "data", "(II)I"⟩, prog_14_method_118_code, 3, some (Jvm.ClassFile.FieldType.int), [[some (.aload_n 0, 0, 0, 0, 1), some (.iload_n 1, 0, 0, 0, 2), some (.invokevirtual 887, 76, 1, 12, 5), none, none, some (.ifCond .eq 46, 51, 0, 0, 8), none, none, some (.aload_n 0, 0, 0, 0, 9), some (.getfield 100, 12, 54, 0, 12), none, none, some (.iload_n 1, 0, 0, 0, 13), some (.baload, 0, 0, 0, 14), some (.ifCond .eq 37, 51, 0, 0, 17), none],
  [none, some (.iload_n 2, 0, 0, 0, 18), some (.ifCond .lt 33, 51, 0, 0, 21), none, none, some (.iload_n 2, 0, 0, 0, 22), some (.aload_n 0, 0, 0, 0, 23), some (.getfield 106, 12, 56, 0, 26), none, none, some (.iload_n 1, 0, 0, 0, 27), some (.iaload, 0, 0, 0, 28), some (.if_icmp .ge 23, 51, 0, 0, 31), none, none, some (.aload_n 0, 0, 0, 0, 32)],
  [some (.getfield 50, 12, 33, 0, 35), none, none, some (.aload_n 0, 0, 0, 0, 36), some (.getfield 103, 12, 55, 0, 39), none, none, some (.iload_n 1, 0, 0, 0, 40), some (.iaload, 0, 0, 0, 41), some (.iload_n 2, 0, 0, 0, 42), some (.iadd, 0, 0, 0, 43), some (.baload, 0, 0, 0, 44), some (.sipush 255, 0, 0, 0, 47), none, none, some (.iand, 0, 0, 0, 48)],
  [some (.goto 4, 52, 0, 0, 51), none, none, some (.iconst (-1), 0, 0, 0, 52), some (.ireturn, 0, 0, 0, 53), none, none, none, none, none, none, none, none, none, none, none]])
def ex_m65 : ex_M := (⟨"PaperHouseModel", "delete", "(I)I"⟩, prog_14_method_156_code, 2, some (Jvm.ClassFile.FieldType.int), [[some (.aload_n 0, 0, 0, 0, 1), some (.iload_n 1, 0, 0, 0, 2), some (.invokevirtual 893, 77, 1, 12, 5), none, none, some (.ifCond .ne 5, 10, 0, 0, 8), none, none, some (.iconst (-1), 0, 0, 0, 9), some (.ireturn, 0, 0, 0, 10), some (.aload_n 0, 0, 0, 0, 11), some (.iload_n 1, 0, 0, 0, 12), none, none, none, some (.pop, 0, 0, 0, 16)],
  [some (.aload_n 0, 0, 0, 0, 17), some (.getfield 624, 12, 84, 0, 20), none, none, some (.ireturn, 0, 0, 0, 21), none, none, none, none, none, none, none, none, none, none, none]])
def ex_m66 : ex_M := (⟨"PaperHouseModel", "down", "(I)I"⟩, prog_14_method_113_code, 5, some (Jvm.ClassFile.FieldType.int), [[some (.aload_n 0, 0, 0, 0, 1), some (.getfield 142, 12, 88, 0, 4), none, none, some (.ifCond .lt 16, 20, 0, 0, 7), none, none, some (.aload_n 0, 0, 0, 0, 8), some (.getfield 142, 12, 88, 0, 11), none, none, some (.bipush 24, 0, 0, 0, 13), none, some (.if_icmp .eq 7, 20, 0, 0, 16), none, none],
  [some (.iload_n 1, 0, 0, 0, 17), some (.ifCond .ge 5, 22, 0, 0, 20), none, none, some (.iconst (-1), 0, 0, 0, 21), some (.ireturn, 0, 0, 0, 22), some (.aload_n 0, 0, 0, 0, 23), some (.getfield 20, 12, 7, 0, 26), none, none, some (.aload_n 0, 0, 0, 0, 27), some (.getfield 146, 12, 90, 0, 30), none, none, some (.aload_n 0, 0, 0, 0, 31), some (.getfield 142, 12, 88, 0, 34)],
  [none, none, some (.iaload, 0, 0, 0, 35), some (.baload, 0, 0, 0, 36), some (.istore_n 2, 0, 0, 0, 37), some (.iload_n 2, 0, 0, 0, 38), some (.bipush 6, 0, 0, 0, 40), none, some (.if_icmp .eq 9, 49, 0, 0, 43), none, none, some (.iload_n 2, 0, 0, 0, 44), some (.bipush 7, 0, 0, 0, 46), none, some (.if_icmp .ne 21, 67, 0, 0, 49), none],
  [none, some (.iload_n 1, 0, 0, 0, 50), some (.aload_n 0, 0, 0, 0, 51), some (.getfield 30, 12, 10, 0, 54), none, none, some (.aload_n 0, 0, 0, 0, 55), some (.getfield 146, 12, 90, 0, 58), none, none, some (.aload_n 0, 0, 0, 0, 59), some (.getfield 142, 12, 88, 0, 62), none, none, some (.iaload, 0, 0, 0, 63), some (.iaload, 0, 0, 0, 64)],
  [some (.if_icmp .lt 5, 69, 0, 0, 67), none, none, some (.iconst (-1), 0, 0, 0, 68), some (.ireturn, 0, 0, 0, 69), some (.aload_n 0, 0, 0, 0, 70), some (.getfield 33, 12, 11, 0, 73), none, none, some (.aload_n 0, 0, 0, 0, 74), some (.getfield 146, 12, 90, 0, 77), none, none, some (.aload_n 0, 0, 0, 0, 78), some (.getfield 142, 12, 88, 0, 81), none],
  [none, some (.iaload, 0, 0, 0, 82), some (.iaload, 0, 0, 0, 83), some (.istore_n 3, 0, 0, 0, 84), some (.iconst 0, 0, 0, 0, 85), some (.istore 4, 0, 0, 0, 87), none, some (.iload 4, 0, 0, 0, 89), none, some (.iload_n 1, 0, 0, 0, 90), some (.if_icmp .ge 16, 106, 0, 0, 93), none, none, some (.aload_n 0, 0, 0, 0, 94), some (.getfield 36, 12, 12, 0, 97), none],
  [none, some (.iload_n 3, 0, 0, 0, 98), some (.iaload, 0, 0, 0, 99), some (.istore_n 3, 0, 0, 0, 100), some (.iinc 4 1, 0, 0, 0, 103), none, none, some (.goto (-16), 87, 0, 0, 106), none, none, some (.aload_n 0, 0, 0, 0, 107), some (.dup, 0, 0, 0, 108), some (.getfield 142, 12, 88, 0, 111), none, none, some (.iconst 1, 0, 0, 0, 112)],
  [some (.iadd, 0, 0, 0, 113), some (.putfield 142, 12, 88, 0, 116), none, none, some (.aload_n 0, 0, 0, 0, 117), some (.getfield 146, 12, 90, 0, 120), none, none, some (.aload_n 0, 0, 0, 0, 121), some (.getfield 142, 12, 88, 0, 124), none, none, some (.iload_n 3, 0, 0, 0, 125), some (.iastore, 0, 0, 0, 126), some (.aload_n 0, 0, 0, 0, 127), none],
  [none, none, some (.ireturn, 0, 0, 0, 131), none, none, none, none, none, none, none, none, none, none, none, none, none]])
def ex_m67 : ex_M := (⟨"PaperHouseModel", "fail", "(II)V"⟩, prog_14_method_14_code, 3, none, [[some (.aload_n 0, 0, 0, 0, 1), some (.getfield 345, 12, 27, 0, 4), none, none, some (.ifCond .ne 13, 17, 0, 0, 7), none, none, some (.aload_n 0, 0, 0, 0, 8), some (.iload_n 1, 0, 0, 0, 9), some (.putfield 345, 12, 27, 0, 12), none, none, some (.aload_n 0, 0, 0, 0, 13), some (.iload_n 2, 0, 0, 0, 14), some (.putfield 348, 12, 28, 0, 17), none],
  [none, some (.return_, 0, 0, 0, 18), none, none, none, none, none, none, none, none, none, none, none, none, none, none]])
def ex_m68 : ex_M := (⟨"PaperHouseModel", "fault", "(I)I"⟩, prog_14_method_67_code, 2, some (Jvm.ClassFile.FieldType.int), [[some (.iload_n 1, 0, 0, 0, 1), some (.ifCond .ne 10, 11, 0, 0, 4), none, none, some (.aload_n 0, 0, 0, 0, 5), some (.getfield 639, 12, 68, 0, 8), none, none, some (.goto 40, 48, 0, 0, 11), none, none, some (.iload_n 1, 0, 0, 0, 12), some (.iconst 1, 0, 0, 0, 13), some (.if_icmp .ne 10, 23, 0, 0, 16), none, none],
  [some (.aload_n 0, 0, 0, 0, 17), some (.getfield 306, 12, 69, 0, 20), none, none, some (.goto 28, 48, 0, 0, 23), none, none, some (.iload_n 1, 0, 0, 0, 24), some (.iconst 2, 0, 0, 0, 25), some (.if_icmp .ne 10, 35, 0, 0, 28), none, none, some (.aload_n 0, 0, 0, 0, 29), some (.getfield 642, 12, 70, 0, 32), none, none],
  [some (.goto 16, 48, 0, 0, 35), none, none, some (.iload_n 1, 0, 0, 0, 36), some (.iconst 3, 0, 0, 0, 37), some (.if_icmp .ne 10, 47, 0, 0, 40), none, none, some (.aload_n 0, 0, 0, 0, 41), some (.getfield 309, 12, 71, 0, 44), none, none, some (.goto 4, 48, 0, 0, 47), none, none, some (.iconst (-1), 0, 0, 0, 48)],
  [some (.ireturn, 0, 0, 0, 49), none, none, none, none, none, none, none, none, none, none, none, none, none, none, none]])
def ex_m69 : ex_M := (⟨"PaperHouseModel", "feed", "(IIIII)I"⟩, prog_14_method_3_code, 6, some (Jvm.ClassFile.FieldType.int), [[some (.aload_n 0, 0, 0, 0, 1), some (.getfield 312, 12, 1, 0, 4), none, none, some (.bipush 20, 0, 0, 0, 6), none, some (.iadd, 0, 0, 0, 7), some (.sipush 8000, 0, 0, 0, 10), none, none, some (.if_icmp .le 5, 15, 0, 0, 13), none, none, some (.iconst (-1), 0, 0, 0, 14), some (.ireturn, 0, 0, 0, 15), some (.aload_n 0, 0, 0, 0, 16)],
  [some (.iload_n 1, 0, 0, 0, 17), some (.invokevirtual 315, 78, 1, 12, 20), none, none, some (.aload_n 0, 0, 0, 0, 21), some (.iload_n 2, 0, 0, 0, 22), some (.invokevirtual 315, 78, 1, 12, 25), none, none, some (.aload_n 0, 0, 0, 0, 26), some (.iload_n 3, 0, 0, 0, 27), some (.invokevirtual 315, 78, 1, 12, 30), none, none, some (.aload_n 0, 0, 0, 0, 31), some (.iload 4, 0, 0, 0, 33)],
  [none, some (.invokevirtual 315, 78, 1, 12, 36), none, none, some (.aload_n 0, 0, 0, 0, 37), some (.iload 5, 0, 0, 0, 39), none, some (.invokevirtual 315, 78, 1, 12, 42), none, none, some (.aload_n 0, 0, 0, 0, 43), some (.getfield 312, 12, 1, 0, 46), none, none, some (.ireturn, 0, 0, 0, 47), none]])
def ex_m70 : ex_M := (⟨"PaperHouseModel", "glyph", "(II)I"⟩, prog_14_method_126_code, 3, some (Jvm.ClassFile.FieldType.int), [[some (.iload_n 1, 0, 0, 0, 1), some (.ifCond .lt 33, 34, 0, 0, 4), none, none, some (.iload_n 1, 0, 0, 0, 5), some (.aload_n 0, 0, 0, 0, 6), some (.getfield 618, 12, 104, 0, 9), none, none, some (.if_icmp .ge 25, 34, 0, 0, 12), none, none, some (.iload_n 2, 0, 0, 0, 13), some (.ifCond .lt 21, 34, 0, 0, 16), none, none],
  [some (.iload_n 2, 0, 0, 0, 17), some (.iconst 4, 0, 0, 0, 18), some (.if_icmp .gt 16, 34, 0, 0, 21), none, none, some (.aload_n 0, 0, 0, 0, 22), some (.getfield 177, 12, 105, 0, 25), none, none, some (.iconst 5, 0, 0, 0, 26), some (.iload_n 1, 0, 0, 0, 27), some (.imul, 0, 0, 0, 28), some (.iload_n 2, 0, 0, 0, 29), some (.iadd, 0, 0, 0, 30), some (.iaload, 0, 0, 0, 31), some (.goto 4, 35, 0, 0, 34)],
  [none, none, some (.iconst (-1), 0, 0, 0, 35), some (.ireturn, 0, 0, 0, 36), none, none, none, none, none, none, none, none, none, none, none, none]])
def ex_m71 : ex_M := (⟨"PaperHouseModel", "go", "(I)I"⟩, prog_14_method_112_code, 2, some (Jvm.ClassFile.FieldType.int), [[some (.aload_n 0, 0, 0, 0, 1), some (.iconst (-1), 0, 0, 0, 2), some (.putfield 142, 12, 88, 0, 5), none, none, some (.aload_n 0, 0, 0, 0, 6), some (.iload_n 1, 0, 0, 0, 7), some (.invokevirtual 887, 76, 1, 12, 10), none, none, some (.ifCond .ne 5, 15, 0, 0, 13), none, none, some (.iconst (-1), 0, 0, 0, 14), some (.ireturn, 0, 0, 0, 15), some (.aload_n 0, 0, 0, 0, 16)],
  [some (.iconst 0, 0, 0, 0, 17), some (.putfield 142, 12, 88, 0, 20), none, none, some (.aload_n 0, 0, 0, 0, 21), some (.iload_n 1, 0, 0, 0, 22), some (.putfield 884, 12, 89, 0, 25), none, none, some (.aload_n 0, 0, 0, 0, 26), some (.getfield 146, 12, 90, 0, 29), none, none, some (.iconst 0, 0, 0, 0, 30), some (.aload_n 0, 0, 0, 0, 31), some (.getfield 94, 12, 52, 0, 34)],
  [none, none, some (.iload_n 1, 0, 0, 0, 35), some (.iaload, 0, 0, 0, 36), some (.iastore, 0, 0, 0, 37), some (.aload_n 0, 0, 0, 0, 38), none, none, none, some (.ireturn, 0, 0, 0, 42), none, none, none, none, none, none]])
def ex_m72 : ex_M := (⟨"PaperHouseModel", "good", "()Z"⟩, prog_14_method_15_code, 1, some (Jvm.ClassFile.FieldType.boolean), [[some (.aload_n 0, 0, 0, 0, 1), some (.getfield 345, 12, 27, 0, 4), none, none, some (.ifCond .ne 7, 11, 0, 0, 7), none, none, some (.iconst 1, 0, 0, 0, 8), some (.goto 4, 12, 0, 0, 11), none, none, some (.iconst 0, 0, 0, 0, 12), some (.ireturn, 0, 0, 0, 13), none, none, none]])
def ex_m73 : ex_M := (⟨"PaperHouseModel", "here", "(I)I"⟩, prog_14_method_115_code, 3, some (Jvm.ClassFile.FieldType.int), [[some (.aload_n 0, 0, 0, 0, 1), some (.getfield 142, 12, 88, 0, 4), none, none, some (.ifCond .lt 12, 16, 0, 0, 7), none, none, some (.iload_n 1, 0, 0, 0, 8), some (.ifCond .lt 8, 16, 0, 0, 11), none, none, some (.iload_n 1, 0, 0, 0, 12), some (.iconst 4, 0, 0, 0, 13), some (.if_icmp .le 5, 18, 0, 0, 16), none, none],
  [some (.iconst (-1), 0, 0, 0, 17), some (.ireturn, 0, 0, 0, 18), some (.aload_n 0, 0, 0, 0, 19), some (.getfield 146, 12, 90, 0, 22), none, none, some (.aload_n 0, 0, 0, 0, 23), some (.getfield 142, 12, 88, 0, 26), none, none, some (.iaload, 0, 0, 0, 27), some (.istore_n 2, 0, 0, 0, 28), some (.iload_n 1, 0, 0, 0, 29), some (.tableswitch 132 0 3 #[31, 36, 78, 110], 0, 0, 0, 60), none, none],
  [none, none, none, none, none, none, none, none, none, none, none, none, none, none, none, none],
  [none, none, none, none, none, none, none, none, none, none, none, none, some (.aload_n 0, 0, 0, 0, 61), none, none, none],
  [some (.ireturn, 0, 0, 0, 65), some (.aload_n 0, 0, 0, 0, 66), some (.getfield 20, 12, 7, 0, 69), none, none, some (.iload_n 2, 0, 0, 0, 70), some (.baload, 0, 0, 0, 71), some (.iconst 1, 0, 0, 0, 72), some (.if_icmp .lt 13, 85, 0, 0, 75), none, none, some (.aload_n 0, 0, 0, 0, 76), some (.getfield 20, 12, 7, 0, 79), none, none, some (.iload_n 2, 0, 0, 0, 80)],
  [some (.baload, 0, 0, 0, 81), some (.iconst 3, 0, 0, 0, 82), some (.if_icmp .le 14, 96, 0, 0, 85), none, none, some (.aload_n 0, 0, 0, 0, 86), some (.getfield 20, 12, 7, 0, 89), none, none, some (.iload_n 2, 0, 0, 0, 90), some (.baload, 0, 0, 0, 91), some (.bipush 8, 0, 0, 0, 93), none, some (.if_icmp .ne 12, 105, 0, 0, 96), none, none],
  [some (.aload_n 0, 0, 0, 0, 97), some (.getfield 23, 12, 8, 0, 100), none, none, some (.iload_n 2, 0, 0, 0, 101), some (.iaload, 0, 0, 0, 102), some (.goto 4, 106, 0, 0, 105), none, none, some (.iconst 0, 0, 0, 0, 106), some (.ireturn, 0, 0, 0, 107), some (.aload_n 0, 0, 0, 0, 108), some (.getfield 20, 12, 7, 0, 111), none, none, some (.iload_n 2, 0, 0, 0, 112)],
  [some (.baload, 0, 0, 0, 113), some (.iconst 4, 0, 0, 0, 114), some (.if_icmp .lt 23, 137, 0, 0, 117), none, none, some (.aload_n 0, 0, 0, 0, 118), some (.getfield 20, 12, 7, 0, 121), none, none, some (.iload_n 2, 0, 0, 0, 122), some (.baload, 0, 0, 0, 123), some (.bipush 7, 0, 0, 0, 125), none, some (.if_icmp .gt 12, 137, 0, 0, 128), none, none],
  [some (.aload_n 0, 0, 0, 0, 129), some (.getfield 30, 12, 10, 0, 132), none, none, some (.iload_n 2, 0, 0, 0, 133), some (.iaload, 0, 0, 0, 134), some (.goto 4, 138, 0, 0, 137), none, none, some (.iconst 0, 0, 0, 0, 138), some (.ireturn, 0, 0, 0, 139), some (.aload_n 0, 0, 0, 0, 140), some (.getfield 20, 12, 7, 0, 143), none, none, some (.iload_n 2, 0, 0, 0, 144)],
  [some (.baload, 0, 0, 0, 145), some (.bipush 8, 0, 0, 0, 147), none, some (.if_icmp .ne 12, 159, 0, 0, 150), none, none, some (.aload_n 0, 0, 0, 0, 151), some (.getfield 27, 12, 9, 0, 154), none, none, some (.iload_n 2, 0, 0, 0, 155), some (.iaload, 0, 0, 0, 156), some (.goto 4, 160, 0, 0, 159), none, none, some (.iconst 0, 0, 0, 0, 160)],
  [some (.ireturn, 0, 0, 0, 161), some (.aload_n 0, 0, 0, 0, 162), some (.getfield 142, 12, 88, 0, 165), none, none, some (.ifCond .ne 7, 172, 0, 0, 168), none, none, some (.iconst 0, 0, 0, 0, 169), some (.goto 9, 178, 0, 0, 172), none, none, some (.aload_n 0, 0, 0, 0, 173), some (.getfield 42, 12, 14, 0, 176), none, none],
  [some (.iload_n 2, 0, 0, 0, 177), some (.iaload, 0, 0, 0, 178), some (.ireturn, 0, 0, 0, 179), none, none, none, none, none, none, none, none, none, none, none, none, none]])
def ex_m74 : ex_M := (⟨"PaperHouseModel", "info", "(I)I"⟩, prog_14_method_161_code, 6, some (Jvm.ClassFile.FieldType.int), [[some (.aload_n 0, 0, 0, 0, 1), some (.getfield 312, 12, 1, 0, 4), none, none, some (.istore_n 2, 0, 0, 0, 5), some (.aload_n 0, 0, 0, 0, 6), some (.iconst 0, 0, 0, 0, 7), some (.putfield 312, 12, 1, 0, 10), none, none, some (.aload_n 0, 0, 0, 0, 11), some (.getfield 302, 12, 6, 0, 14), none, none, some (.ifCond .eq 36, 50, 0, 0, 17), none],
  [none, some (.iload_n 1, 0, 0, 0, 18), some (.ifCond .lt 32, 50, 0, 0, 21), none, none, some (.iload_n 1, 0, 0, 0, 22), some (.iconst 3, 0, 0, 0, 23), some (.if_icmp .gt 27, 50, 0, 0, 26), none, none, some (.iload_n 2, 0, 0, 0, 27), some (.sipush 2000, 0, 0, 0, 30), none, none, some (.if_icmp .gt 20, 50, 0, 0, 33), none],
  [none, some (.aload_n 0, 0, 0, 0, 34), some (.getfield 831, 12, 82, 0, 37), none, none, some (.ifCond .ne 15, 52, 0, 0, 40), none, none, some (.aload_n 0, 0, 0, 0, 41), none, none, none, some (.sipush 200, 0, 0, 0, 47), none, none, some (.if_icmp .ne 5, 52, 0, 0, 50)],
  [none, none, some (.iconst (-1), 0, 0, 0, 51), some (.ireturn, 0, 0, 0, 52), some (.aload_n 0, 0, 0, 0, 53), some (.getfield 831, 12, 82, 0, 56), none, none, some (.ifCond .ne 18, 74, 0, 0, 59), none, none, some (.aload_n 0, 0, 0, 0, 60), some (.aload_n 0, 0, 0, 0, 61), some (.aload_n 0, 0, 0, 0, 62), some (.bipush 7, 0, 0, 0, 64), none],
  [some (.iconst 0, 0, 0, 0, 65), none, none, none, none, none, none, some (.putfield 831, 12, 82, 0, 74), none, none, some (.iload_n 1, 0, 0, 0, 75), some (.ifCond .ne 9, 84, 0, 0, 78), none, none, some (.ldc_w 1051, 102, 1, 0, 81), none],
  [none, some (.goto 28, 109, 0, 0, 84), none, none, some (.iload_n 1, 0, 0, 0, 85), some (.iconst 1, 0, 0, 0, 86), some (.if_icmp .ne 9, 95, 0, 0, 89), none, none, some (.ldc_w 1053, 104, 1, 0, 92), none, none, some (.goto 17, 109, 0, 0, 95), none, none, some (.iload_n 1, 0, 0, 0, 96)],
  [some (.iconst 2, 0, 0, 0, 97), some (.if_icmp .ne 9, 106, 0, 0, 100), none, none, some (.ldc_w 1055, 106, 1, 0, 103), none, none, some (.goto 6, 109, 0, 0, 106), none, none, some (.ldc_w 1057, 108, 1, 0, 109), none, none, some (.astore_n 3, 0, 0, 0, 110), some (.aload_n 0, 0, 0, 0, 111), some (.aload_n 0, 0, 0, 0, 112)],
  [some (.getfield 94, 12, 52, 0, 115), none, none, some (.aload_n 0, 0, 0, 0, 116), some (.getfield 831, 12, 82, 0, 119), none, none, some (.iaload, 0, 0, 0, 120), some (.aload_n 3, 0, 0, 0, 121), some (.iconst 5, 0, 0, 0, 122), some (.iconst 0, 0, 0, 0, 123), some (.iconst 0, 0, 0, 0, 124), none, none, none, some (.istore 4, 0, 0, 0, 129)],
  [none, some (.aload_n 0, 0, 0, 0, 130), some (.getfield 33, 12, 11, 0, 133), none, none, some (.iload 4, 0, 0, 0, 135), none, some (.ldc_w 1059, 140000, 0, 0, 138), none, none, some (.sipush 2000, 0, 0, 0, 141), none, none, some (.iload_n 1, 0, 0, 0, 142), some (.imul, 0, 0, 0, 143), some (.iadd, 0, 0, 0, 144)],
  [some (.iastore, 0, 0, 0, 145), some (.aload_n 0, 0, 0, 0, 146), some (.getfield 30, 12, 10, 0, 149), none, none, some (.iload 4, 0, 0, 0, 151), none, some (.iload_n 2, 0, 0, 0, 152), some (.iastore, 0, 0, 0, 153), some (.iconst 0, 0, 0, 0, 154), some (.istore 5, 0, 0, 0, 156), none, some (.iload 5, 0, 0, 0, 158), none, some (.iload_n 2, 0, 0, 0, 159), some (.if_icmp .ge 31, 190, 0, 0, 162)],
  [none, none, some (.aload_n 0, 0, 0, 0, 163), some (.getfield 46, 12, 16, 0, 166), none, none, some (.aload_n 0, 0, 0, 0, 167), some (.getfield 33, 12, 11, 0, 170), none, none, some (.iload 4, 0, 0, 0, 172), none, some (.iaload, 0, 0, 0, 173), some (.iload 5, 0, 0, 0, 175), none, some (.iadd, 0, 0, 0, 176)],
  [some (.aload_n 0, 0, 0, 0, 177), some (.getfield 7, 12, 0, 0, 180), none, none, some (.iload 5, 0, 0, 0, 182), none, some (.baload, 0, 0, 0, 183), some (.bastore, 0, 0, 0, 184), some (.iinc 5 1, 0, 0, 0, 187), none, none, some (.goto (-31), 156, 0, 0, 190), none, none, some (.aload_n 0, 0, 0, 0, 191), some (.aload_n 0, 0, 0, 0, 192)],
  [some (.getfield 831, 12, 82, 0, 195), none, none, none, none, none, some (.aload_n 0, 0, 0, 0, 199), some (.iconst (-1), 0, 0, 0, 200), some (.putfield 142, 12, 88, 0, 203), none, none, some (.aload_n 0, 0, 0, 0, 204), some (.getfield 831, 12, 82, 0, 207), none, none, some (.ireturn, 0, 0, 0, 208)]])
def ex_m75 : ex_M := (⟨"PaperHouseModel", "insert", "(III)I"⟩, prog_14_method_155_code, 8, some (Jvm.ClassFile.FieldType.int), [[some (.aload_n 0, 0, 0, 0, 1), some (.getfield 302, 12, 6, 0, 4), none, none, some (.ifCond .eq 58, 62, 0, 0, 7), none, none, some (.iload_n 1, 0, 0, 0, 8), some (.ifCond .lt 54, 62, 0, 0, 11), none, none, some (.iload_n 1, 0, 0, 0, 12), some (.aload_n 0, 0, 0, 0, 13), some (.getfield 624, 12, 84, 0, 16), none, none],
  [some (.if_icmp .gt 46, 62, 0, 0, 19), none, none, some (.iload_n 2, 0, 0, 0, 20), some (.iconst 1, 0, 0, 0, 21), some (.if_icmp .lt 41, 62, 0, 0, 24), none, none, some (.iload_n 2, 0, 0, 0, 25), some (.sipush 14400, 0, 0, 0, 28), none, none, some (.if_icmp .gt 34, 62, 0, 0, 31), none, none, some (.iload_n 3, 0, 0, 0, 32)],
  [some (.iconst 1, 0, 0, 0, 33), some (.if_icmp .lt 29, 62, 0, 0, 36), none, none, some (.iload_n 3, 0, 0, 0, 37), some (.sipush 14400, 0, 0, 0, 40), none, none, some (.if_icmp .gt 22, 62, 0, 0, 43), none, none, some (.aload_n 0, 0, 0, 0, 44), some (.getfield 624, 12, 84, 0, 47), none, none, some (.bipush 60, 0, 0, 0, 49)],
  [none, some (.if_icmp .eq 13, 62, 0, 0, 52), none, none, some (.aload_n 0, 0, 0, 0, 53), none, none, none, some (.sipush 200, 0, 0, 0, 59), none, none, some (.if_icmp .ne 5, 64, 0, 0, 62), none, none, some (.iconst (-1), 0, 0, 0, 63), some (.ireturn, 0, 0, 0, 64)],
  [some (.aload_n 0, 0, 0, 0, 65), some (.bipush 7, 0, 0, 0, 67), none, some (.iconst 0, 0, 0, 0, 68), none, none, none, some (.istore 4, 0, 0, 0, 73), none, some (.aload_n 0, 0, 0, 0, 74), some (.ldc_w 834, 110, 1, 0, 77), none, none, none, none, none],
  [some (.istore 5, 0, 0, 0, 82), none, some (.aload_n 0, 0, 0, 0, 83), some (.iload 5, 0, 0, 0, 85), none, some (.ldc_w 732, 112, 1, 0, 88), none, none, none, none, none, some (.aload_n 0, 0, 0, 0, 92), some (.iload 4, 0, 0, 0, 94), none, some (.iload 5, 0, 0, 0, 96), none],
  [none, none, none, some (.aload_n 0, 0, 0, 0, 100), some (.iload 4, 0, 0, 0, 102), none, some (.ldc_w 836, 114, 1, 0, 105), none, none, some (.bipush 8, 0, 0, 0, 107), none, some (.iconst 0, 0, 0, 0, 108), some (.iconst 0, 0, 0, 0, 109), none, none, none],
  [some (.pop, 0, 0, 0, 113), some (.aload_n 0, 0, 0, 0, 114), some (.iload 4, 0, 0, 0, 116), none, some (.ldc_w 847, 116, 1, 0, 119), none, none, some (.bipush 6, 0, 0, 0, 121), none, some (.iconst 0, 0, 0, 0, 122), some (.iconst 0, 0, 0, 0, 123), none, none, none, some (.istore 6, 0, 0, 0, 128), none],
  [some (.aload_n 0, 0, 0, 0, 129), some (.iload 6, 0, 0, 0, 131), none, some (.aload_n 0, 0, 0, 0, 132), some (.iconst 2, 0, 0, 0, 133), some (.iconst 0, 0, 0, 0, 134), none, none, none, none, none, none, some (.aload_n 0, 0, 0, 0, 141), some (.iload 6, 0, 0, 0, 143), none, some (.aload_n 0, 0, 0, 0, 144)],
  [some (.iconst 2, 0, 0, 0, 145), some (.iconst 0, 0, 0, 0, 146), none, none, none, none, none, none, some (.aload_n 0, 0, 0, 0, 153), some (.iload 6, 0, 0, 0, 155), none, some (.aload_n 0, 0, 0, 0, 156), some (.iconst 2, 0, 0, 0, 157), some (.iload_n 2, 0, 0, 0, 158), none, none],
  [none, none, none, none, some (.aload_n 0, 0, 0, 0, 165), some (.iload 6, 0, 0, 0, 167), none, some (.aload_n 0, 0, 0, 0, 168), some (.iconst 2, 0, 0, 0, 169), some (.iload_n 3, 0, 0, 0, 170), none, none, none, none, none, none],
  [some (.aload_n 0, 0, 0, 0, 177), some (.iload 4, 0, 0, 0, 179), none, none, none, none, some (.istore 7, 0, 0, 0, 184), none, some (.aload_n 0, 0, 0, 0, 185), some (.iload 7, 0, 0, 0, 187), none, some (.iload_n 1, 0, 0, 0, 188), some (.iconst (-1), 0, 0, 0, 189), none, none, none],
  [some (.iload 7, 0, 0, 0, 194), none, some (.ireturn, 0, 0, 0, 195), none, none, none, none, none, none, none, none, none, none, none, none, none]])
def ex_m76 : ex_M := (⟨"PaperHouseModel", "isObject", "(I)Z"⟩, prog_14_method_110_code, 2, some (Jvm.ClassFile.FieldType.boolean), [[some (.aload_n 0, 0, 0, 0, 1), some (.getfield 302, 12, 6, 0, 4), none, none, some (.ifCond .eq 28, 32, 0, 0, 7), none, none, some (.iload_n 1, 0, 0, 0, 8), some (.ifCond .le 24, 32, 0, 0, 11), none, none, some (.iload_n 1, 0, 0, 0, 12), some (.aload_n 0, 0, 0, 0, 13), some (.getfield 630, 12, 60, 0, 16), none, none],
  [some (.if_icmp .ge 16, 32, 0, 0, 19), none, none, some (.aload_n 0, 0, 0, 0, 20), some (.getfield 80, 12, 48, 0, 23), none, none, some (.iload_n 1, 0, 0, 0, 24), some (.baload, 0, 0, 0, 25), some (.ifCond .eq 7, 32, 0, 0, 28), none, none, some (.iconst 1, 0, 0, 0, 29), some (.goto 4, 33, 0, 0, 32), none, none],
  [some (.iconst 0, 0, 0, 0, 33), some (.ireturn, 0, 0, 0, 34), none, none, none, none, none, none, none, none, none, none, none, none, none, none]])
def ex_m77 : ex_M := (⟨"PaperHouseModel", "isPage", "(I)Z"⟩, prog_14_method_121_code, 2, some (Jvm.ClassFile.FieldType.boolean), [[some (.aload_n 0, 0, 0, 0, 1), some (.getfield 302, 12, 6, 0, 4), none, none, some (.ifCond .eq 19, 23, 0, 0, 7), none, none, some (.iload_n 1, 0, 0, 0, 8), some (.ifCond .lt 15, 23, 0, 0, 11), none, none, some (.iload_n 1, 0, 0, 0, 12), some (.aload_n 0, 0, 0, 0, 13), some (.getfield 624, 12, 84, 0, 16), none, none],
  [some (.if_icmp .ge 7, 23, 0, 0, 19), none, none, some (.iconst 1, 0, 0, 0, 20), some (.goto 4, 24, 0, 0, 23), none, none, some (.iconst 0, 0, 0, 0, 24), some (.ireturn, 0, 0, 0, 25), none, none, none, none, none, none, none]])
def ex_m78 : ex_M := (⟨"PaperHouseModel", "lay", "(I)V"⟩, prog_14_method_4_code, 3, none, [[some (.bipush 24, 0, 0, 0, 2), none, some (.istore_n 2, 0, 0, 0, 3), some (.iload_n 2, 0, 0, 0, 4), some (.ifCond .lt 32, 36, 0, 0, 7), none, none, some (.aload_n 0, 0, 0, 0, 8), some (.getfield 7, 12, 0, 0, 11), none, none, some (.aload_n 0, 0, 0, 0, 12), some (.getfield 312, 12, 1, 0, 15), none, none, some (.iload_n 1, 0, 0, 0, 16)],
  [some (.iload_n 2, 0, 0, 0, 17), some (.ishr, 0, 0, 0, 18), some (.i2b, 0, 0, 0, 19), some (.bastore, 0, 0, 0, 20), some (.aload_n 0, 0, 0, 0, 21), some (.dup, 0, 0, 0, 22), some (.getfield 312, 12, 1, 0, 25), none, none, some (.iconst 1, 0, 0, 0, 26), some (.iadd, 0, 0, 0, 27), some (.putfield 312, 12, 1, 0, 30), none, none, some (.iinc 2 (-8), 0, 0, 0, 33), none],
  [none, some (.goto (-30), 3, 0, 0, 36), none, none, some (.return_, 0, 0, 0, 37), none, none, none, none, none, none, none, none, none, none, none]])
def ex_m79 : ex_M := (⟨"PaperHouseModel", "letter", "(IZ)I"⟩, prog_14_method_116_code, 7, some (Jvm.ClassFile.FieldType.int), [[some (.aload_n 0, 0, 0, 0, 1), some (.getfield 142, 12, 88, 0, 4), none, none, some (.ifCond .ge 5, 9, 0, 0, 7), none, none, some (.iconst (-1), 0, 0, 0, 8), some (.ireturn, 0, 0, 0, 9), some (.aload_n 0, 0, 0, 0, 10), some (.getfield 146, 12, 90, 0, 13), none, none, some (.aload_n 0, 0, 0, 0, 14), some (.getfield 142, 12, 88, 0, 17), none],
  [none, some (.iaload, 0, 0, 0, 18), some (.istore_n 3, 0, 0, 0, 19), some (.aload_n 0, 0, 0, 0, 20), some (.getfield 20, 12, 7, 0, 23), none, none, some (.iload_n 3, 0, 0, 0, 24), some (.baload, 0, 0, 0, 25), some (.iconst 4, 0, 0, 0, 26), some (.if_icmp .eq 13, 39, 0, 0, 29), none, none, some (.aload_n 0, 0, 0, 0, 30), some (.getfield 20, 12, 7, 0, 33), none],
  [none, some (.iload_n 3, 0, 0, 0, 34), some (.baload, 0, 0, 0, 35), some (.iconst 5, 0, 0, 0, 36), some (.if_icmp .ne 7, 43, 0, 0, 39), none, none, some (.iconst 1, 0, 0, 0, 40), some (.goto 4, 44, 0, 0, 43), none, none, some (.iconst 0, 0, 0, 0, 44), some (.istore 4, 0, 0, 0, 46), none, some (.iload_n 2, 0, 0, 0, 47), some (.ifCond .eq 12, 59, 0, 0, 50)],
  [none, none, some (.aload_n 0, 0, 0, 0, 51), some (.getfield 39, 12, 13, 0, 54), none, none, some (.iload_n 3, 0, 0, 0, 55), some (.iaload, 0, 0, 0, 56), some (.goto 9, 65, 0, 0, 59), none, none, some (.aload_n 0, 0, 0, 0, 60), some (.getfield 33, 12, 11, 0, 63), none, none, some (.iload_n 3, 0, 0, 0, 64)],
  [some (.iaload, 0, 0, 0, 65), some (.istore 5, 0, 0, 0, 67), none, some (.iload_n 2, 0, 0, 0, 68), some (.ifCond .eq 23, 91, 0, 0, 71), none, none, some (.aload_n 0, 0, 0, 0, 72), some (.getfield 142, 12, 88, 0, 75), none, none, some (.ifCond .ne 7, 82, 0, 0, 78), none, none, some (.iconst 0, 0, 0, 0, 79), some (.goto 27, 106, 0, 0, 82)],
  [none, none, some (.aload_n 0, 0, 0, 0, 83), some (.getfield 42, 12, 14, 0, 86), none, none, some (.iload_n 3, 0, 0, 0, 87), some (.iaload, 0, 0, 0, 88), some (.goto 18, 106, 0, 0, 91), none, none, some (.iload 4, 0, 0, 0, 93), none, some (.ifCond .eq 12, 105, 0, 0, 96), none, none],
  [some (.aload_n 0, 0, 0, 0, 97), some (.getfield 30, 12, 10, 0, 100), none, none, some (.iload_n 3, 0, 0, 0, 101), some (.iaload, 0, 0, 0, 102), some (.goto 4, 106, 0, 0, 105), none, none, some (.iconst 0, 0, 0, 0, 106), some (.istore 6, 0, 0, 0, 108), none, some (.iload_n 1, 0, 0, 0, 109), some (.ifCond .lt 25, 134, 0, 0, 112), none, none],
  [some (.iload_n 1, 0, 0, 0, 113), some (.iload 6, 0, 0, 0, 115), none, some (.if_icmp .ge 19, 134, 0, 0, 118), none, none, some (.aload_n 0, 0, 0, 0, 119), some (.getfield 46, 12, 16, 0, 122), none, none, some (.iload 5, 0, 0, 0, 124), none, some (.iload_n 1, 0, 0, 0, 125), some (.iadd, 0, 0, 0, 126), some (.baload, 0, 0, 0, 127), some (.sipush 255, 0, 0, 0, 130)],
  [none, none, some (.iand, 0, 0, 0, 131), some (.goto 4, 135, 0, 0, 134), none, none, some (.iconst (-1), 0, 0, 0, 135), some (.ireturn, 0, 0, 0, 136), none, none, none, none, none, none, none, none]])
def ex_m80 : ex_M := (⟨"PaperHouseModel", "load", "()I"⟩, prog_14_method_64_code, 3, some (Jvm.ClassFile.FieldType.int), [[some (.aload_n 0, 0, 0, 0, 1), some (.getfield 312, 12, 1, 0, 4), none, none, some (.istore_n 1, 0, 0, 0, 5), some (.aload_n 0, 0, 0, 0, 6), some (.iconst 0, 0, 0, 0, 7), some (.putfield 312, 12, 1, 0, 10), none, none, some (.iconst 0, 0, 0, 0, 11), some (.istore_n 2, 0, 0, 0, 12), some (.iload_n 2, 0, 0, 0, 13), some (.iload_n 1, 0, 0, 0, 14), some (.if_icmp .ge 21, 35, 0, 0, 17), none],
  [none, some (.aload_n 0, 0, 0, 0, 18), some (.getfield 13, 12, 2, 0, 21), none, none, some (.iload_n 2, 0, 0, 0, 22), some (.aload_n 0, 0, 0, 0, 23), some (.getfield 7, 12, 0, 0, 26), none, none, some (.iload_n 2, 0, 0, 0, 27), some (.baload, 0, 0, 0, 28), some (.bastore, 0, 0, 0, 29), some (.iinc 2 1, 0, 0, 0, 32), none, none],
  [some (.goto (-20), 12, 0, 0, 35), none, none, some (.aload_n 0, 0, 0, 0, 36), some (.iload_n 1, 0, 0, 0, 37), some (.putfield 615, 12, 3, 0, 40), none, none, some (.aload_n 0, 0, 0, 0, 41), some (.iconst 0, 0, 0, 0, 42), some (.putfield 302, 12, 6, 0, 45), none, none, some (.aload_n 0, 0, 0, 0, 46), some (.iconst (-1), 0, 0, 0, 47), some (.putfield 142, 12, 88, 0, 50)],
  [none, none, some (.aload_n 0, 0, 0, 0, 51), some (.iconst 0, 0, 0, 0, 52), some (.putfield 618, 12, 104, 0, 55), none, none, some (.aload_n 0, 0, 0, 0, 56), some (.iconst 0, 0, 0, 0, 57), some (.putfield 319, 12, 15, 0, 60), none, none, some (.aload_n 0, 0, 0, 0, 61), some (.iconst 0, 0, 0, 0, 62), some (.putfield 330, 12, 17, 0, 65), none],
  [none, some (.aload_n 0, 0, 0, 0, 66), some (.iconst 0, 0, 0, 0, 67), some (.putfield 511, 12, 34, 0, 70), none, none, some (.aload_n 0, 0, 0, 0, 71), some (.iconst 0, 0, 0, 0, 72), some (.putfield 621, 12, 67, 0, 75), none, none, some (.aload_n 0, 0, 0, 0, 76), some (.iconst 0, 0, 0, 0, 77), some (.putfield 442, 12, 29, 0, 80), none, none],
  [some (.aload_n 0, 0, 0, 0, 81), some (.sipush 6000, 0, 0, 0, 84), none, none, some (.putfield 448, 12, 30, 0, 87), none, none, some (.aload_n 0, 0, 0, 0, 88), some (.iconst 0, 0, 0, 0, 89), some (.putfield 445, 12, 31, 0, 92), none, none, some (.aload_n 0, 0, 0, 0, 93), some (.iconst 1, 0, 0, 0, 94), some (.putfield 451, 12, 32, 0, 97), none],
  [none, some (.aload_n 0, 0, 0, 0, 98), some (.iconst 0, 0, 0, 0, 99), some (.putfield 345, 12, 27, 0, 102), none, none, some (.aload_n 0, 0, 0, 0, 103), some (.iconst (-1), 0, 0, 0, 104), some (.putfield 348, 12, 28, 0, 107), none, none, some (.aload_n 0, 0, 0, 0, 108), some (.iconst 0, 0, 0, 0, 109), some (.putfield 624, 12, 84, 0, 112), none, none],
  [some (.aload_n 0, 0, 0, 0, 113), some (.invokevirtual 627, 88, 0, 12, 116), none, none, some (.iconst 0, 0, 0, 0, 117), some (.istore_n 2, 0, 0, 0, 118), some (.iload_n 2, 0, 0, 0, 119), some (.aload_n 0, 0, 0, 0, 120), some (.getfield 630, 12, 60, 0, 123), none, none, some (.if_icmp .ge 39, 162, 0, 0, 126), none, none, some (.aload_n 0, 0, 0, 0, 127), some (.invokevirtual 472, 72, 0, 12, 130)],
  [none, none, some (.ifCond .eq 32, 162, 0, 0, 133), none, none, some (.aload_n 0, 0, 0, 0, 134), some (.getfield 80, 12, 48, 0, 137), none, none, some (.iload_n 2, 0, 0, 0, 138), some (.baload, 0, 0, 0, 139), some (.ifCond .eq 17, 156, 0, 0, 142), none, none, some (.aload_n 0, 0, 0, 0, 143), some (.getfield 97, 12, 53, 0, 146)],
  [none, none, some (.iload_n 2, 0, 0, 0, 147), some (.baload, 0, 0, 0, 148), some (.ifCond .ne 8, 156, 0, 0, 151), none, none, some (.aload_n 0, 0, 0, 0, 152), some (.iload_n 2, 0, 0, 0, 153), none, none, none, some (.iinc 2 1, 0, 0, 0, 159), none, none, some (.goto (-41), 118, 0, 0, 162)],
  [none, none, some (.aload_n 0, 0, 0, 0, 163), some (.invokevirtual 472, 72, 0, 12, 166), none, none, some (.ifCond .eq 7, 173, 0, 0, 169), none, none, some (.aload_n 0, 0, 0, 0, 170), none, none, none, some (.aload_n 0, 0, 0, 0, 174), some (.aload_n 0, 0, 0, 0, 175), some (.getfield 345, 12, 27, 0, 178)],
  [none, none, some (.putfield 639, 12, 68, 0, 181), none, none, some (.aload_n 0, 0, 0, 0, 182), some (.aload_n 0, 0, 0, 0, 183), some (.invokevirtual 472, 72, 0, 12, 186), none, none, some (.ifCond .eq 7, 193, 0, 0, 189), none, none, some (.iconst (-1), 0, 0, 0, 190), some (.goto 7, 197, 0, 0, 193), none],
  [none, some (.aload_n 0, 0, 0, 0, 194), some (.getfield 348, 12, 28, 0, 197), none, none, some (.putfield 306, 12, 69, 0, 200), none, none, some (.aload_n 0, 0, 0, 0, 201), some (.iconst 0, 0, 0, 0, 202), some (.putfield 642, 12, 70, 0, 205), none, none, some (.aload_n 0, 0, 0, 0, 206), some (.iconst (-1), 0, 0, 0, 207), some (.putfield 309, 12, 71, 0, 210)],
  [none, none, some (.aload_n 0, 0, 0, 0, 211), some (.invokevirtual 472, 72, 0, 12, 214), none, none, some (.ifCond .ne 16, 230, 0, 0, 217), none, none, some (.aload_n 0, 0, 0, 0, 218), some (.iconst 0, 0, 0, 0, 219), some (.putfield 624, 12, 84, 0, 222), none, none, some (.bipush (-100), 0, 0, 0, 224), none],
  [some (.aload_n 0, 0, 0, 0, 225), some (.getfield 345, 12, 27, 0, 228), none, none, some (.isub, 0, 0, 0, 229), some (.ireturn, 0, 0, 0, 230), some (.iconst 0, 0, 0, 0, 231), some (.istore_n 2, 0, 0, 0, 232), some (.iload_n 2, 0, 0, 0, 233), some (.sipush 200, 0, 0, 0, 236), none, none, some (.if_icmp .ge 23, 259, 0, 0, 239), none, none, some (.aload_n 0, 0, 0, 0, 240)],
  [some (.getfield 112, 12, 58, 0, 243), none, none, some (.iload_n 2, 0, 0, 0, 244), some (.iconst 0, 0, 0, 0, 245), some (.bastore, 0, 0, 0, 246), some (.aload_n 0, 0, 0, 0, 247), some (.getfield 115, 12, 59, 0, 250), none, none, some (.iload_n 2, 0, 0, 0, 251), some (.iconst 0, 0, 0, 0, 252), some (.bastore, 0, 0, 0, 253), some (.iinc 2 1, 0, 0, 0, 256), none, none],
  [some (.goto (-24), 232, 0, 0, 259), none, none, some (.aload_n 0, 0, 0, 0, 260), some (.aload_n 0, 0, 0, 0, 261), some (.getfield 645, 12, 64, 0, 264), none, none, none, none, none, some (.iconst 0, 0, 0, 0, 268), some (.istore_n 2, 0, 0, 0, 269), some (.iload_n 2, 0, 0, 0, 270), some (.aload_n 0, 0, 0, 0, 271), some (.getfield 630, 12, 60, 0, 274)],
  [none, none, some (.if_icmp .ge 28, 302, 0, 0, 277), none, none, some (.aload_n 0, 0, 0, 0, 278), some (.getfield 80, 12, 48, 0, 281), none, none, some (.iload_n 2, 0, 0, 0, 282), some (.baload, 0, 0, 0, 283), some (.ifCond .eq 13, 296, 0, 0, 286), none, none, some (.aload_n 0, 0, 0, 0, 287), some (.aload_n 0, 0, 0, 0, 288)],
  [some (.getfield 94, 12, 52, 0, 291), none, none, some (.iload_n 2, 0, 0, 0, 292), some (.iaload, 0, 0, 0, 293), none, none, none, some (.iinc 2 1, 0, 0, 0, 299), none, none, some (.goto (-30), 269, 0, 0, 302), none, none, some (.aload_n 0, 0, 0, 0, 303), some (.iconst 1, 0, 0, 0, 304)],
  [some (.putfield 302, 12, 6, 0, 307), none, none, some (.aload_n 0, 0, 0, 0, 308), some (.getfield 624, 12, 84, 0, 311), none, none, some (.ireturn, 0, 0, 0, 312), none, none, none, none, none, none, none, none]])
def ex_m81 : ex_M := (⟨"PaperHouseModel", "more", "()I"⟩, prog_14_method_186_code, 2, some (Jvm.ClassFile.FieldType.int), [[some (.aload_n 0, 0, 0, 0, 1), some (.iconst 0, 0, 0, 0, 2), some (.putfield 1060, 12, 5, 0, 5), none, none, some (.aload_n 0, 0, 0, 0, 6), some (.getfield 302, 12, 6, 0, 9), none, none, some (.ifCond .eq 20, 29, 0, 0, 12), none, none, some (.aload_n 0, 0, 0, 0, 13), some (.getfield 700, 12, 63, 0, 16), none, none],
  [some (.ifCond .eq 15, 31, 0, 0, 19), none, none, some (.aload_n 0, 0, 0, 0, 20), none, none, none, some (.sipush 200, 0, 0, 0, 26), none, none, some (.if_icmp .ne 5, 31, 0, 0, 29), none, none, some (.iconst (-1), 0, 0, 0, 30), some (.ireturn, 0, 0, 0, 31), some (.aload_n 0, 0, 0, 0, 32)],
  [some (.iconst 0, 0, 0, 0, 33), some (.putfield 1113, 12, 109, 0, 36), none, none, some (.iconst 0, 0, 0, 0, 37), some (.istore_n 1, 0, 0, 0, 38), some (.iload_n 1, 0, 0, 0, 39), some (.aload_n 0, 0, 0, 0, 40), some (.getfield 615, 12, 3, 0, 43), none, none, some (.if_icmp .ge 19, 62, 0, 0, 46), none, none, some (.aload_n 0, 0, 0, 0, 47), some (.aload_n 0, 0, 0, 0, 48)],
  [some (.getfield 13, 12, 2, 0, 51), none, none, some (.iload_n 1, 0, 0, 0, 52), some (.baload, 0, 0, 0, 53), none, none, none, some (.iinc 1 1, 0, 0, 0, 59), none, none, some (.goto (-21), 38, 0, 0, 62), none, none, some (.aload_n 0, 0, 0, 0, 63), some (.getfield 615, 12, 3, 0, 66)],
  [none, none, some (.ifCond .le 25, 91, 0, 0, 69), none, none, some (.aload_n 0, 0, 0, 0, 70), some (.getfield 13, 12, 2, 0, 73), none, none, some (.aload_n 0, 0, 0, 0, 74), some (.getfield 615, 12, 3, 0, 77), none, none, some (.iconst 1, 0, 0, 0, 78), some (.isub, 0, 0, 0, 79), some (.baload, 0, 0, 0, 80)],
  [some (.bipush 10, 0, 0, 0, 82), none, some (.if_icmp .eq 9, 91, 0, 0, 85), none, none, some (.aload_n 0, 0, 0, 0, 86), some (.bipush 10, 0, 0, 0, 88), none, none, none, none, some (.iconst 0, 0, 0, 0, 92), some (.istore_n 1, 0, 0, 0, 93), some (.iload_n 1, 0, 0, 0, 94), some (.aload_n 0, 0, 0, 0, 95), some (.getfield 630, 12, 60, 0, 98)],
  [none, none, some (.if_icmp .ge 39, 137, 0, 0, 101), none, none, some (.aload_n 0, 0, 0, 0, 102), some (.getfield 109, 12, 57, 0, 105), none, none, some (.iload_n 1, 0, 0, 0, 106), some (.baload, 0, 0, 0, 107), some (.ifCond .eq 24, 131, 0, 0, 110), none, none, some (.aload_n 0, 0, 0, 0, 111), some (.getfield 286, 12, 113, 0, 114)],
  [none, none, some (.iload_n 1, 0, 0, 0, 115), some (.aload_n 0, 0, 0, 0, 116), some (.getfield 1060, 12, 5, 0, 119), none, none, some (.iastore, 0, 0, 0, 120), some (.aload_n 0, 0, 0, 0, 121), some (.iload_n 1, 0, 0, 0, 122), some (.iload_n 1, 0, 0, 0, 123), some (.aload_n 0, 0, 0, 0, 124), some (.iload_n 1, 0, 0, 0, 125), none, none, none],
  [none, none, none, some (.iinc 1 1, 0, 0, 0, 134), none, none, some (.goto (-41), 93, 0, 0, 137), none, none, some (.aload_n 0, 0, 0, 0, 138), some (.getfield 1060, 12, 5, 0, 141), none, none, some (.istore_n 1, 0, 0, 0, 142), some (.aload_n 0, 0, 0, 0, 143), some (.getfield 700, 12, 63, 0, 146)],
  [none, none, some (.ifCond .eq 11, 157, 0, 0, 149), none, none, some (.aload_n 0, 0, 0, 0, 150), some (.iload_n 1, 0, 0, 0, 151), none, none, none, some (.goto 7, 161, 0, 0, 157), none, none, some (.aload_n 0, 0, 0, 0, 158), none, none],
  [none, some (.aload_n 0, 0, 0, 0, 162), some (.iload_n 1, 0, 0, 0, 163), none, none, none, some (.ireturn, 0, 0, 0, 167), none, none, none, none, none, none, none, none, none]])
def ex_m82 : ex_M := (⟨"PaperHouseModel", "move", "(II)I"⟩, prog_14_method_158_code, 5, some (Jvm.ClassFile.FieldType.int), [[some (.aload_n 0, 0, 0, 0, 1), some (.iload_n 1, 0, 0, 0, 2), some (.invokevirtual 893, 77, 1, 12, 5), none, none, some (.ifCond .eq 17, 22, 0, 0, 8), none, none, some (.iload_n 2, 0, 0, 0, 9), some (.ifCond .lt 13, 22, 0, 0, 12), none, none, some (.iload_n 2, 0, 0, 0, 13), some (.aload_n 0, 0, 0, 0, 14), some (.getfield 624, 12, 84, 0, 17), none],
  [none, some (.iconst 1, 0, 0, 0, 18), some (.isub, 0, 0, 0, 19), some (.if_icmp .le 5, 24, 0, 0, 22), none, none, some (.iconst (-1), 0, 0, 0, 23), some (.ireturn, 0, 0, 0, 24), some (.aload_n 0, 0, 0, 0, 25), some (.getfield 133, 12, 85, 0, 28), none, none, some (.iload_n 1, 0, 0, 0, 29), some (.iaload, 0, 0, 0, 30), some (.istore_n 3, 0, 0, 0, 31), some (.aload_n 0, 0, 0, 0, 32)],
  [some (.iload_n 3, 0, 0, 0, 33), some (.ldc_w 847, 116, 1, 0, 36), none, none, none, none, none, some (.aload_n 0, 0, 0, 0, 40), some (.iload_n 3, 0, 0, 0, 41), some (.ldc_w 849, 118, 1, 0, 44), none, none, none, none, none, some (.aload_n 0, 0, 0, 0, 48)],
  [some (.iload_n 3, 0, 0, 0, 49), some (.ldc_w 851, 120, 1, 0, 52), none, none, none, none, none, some (.aload_n 0, 0, 0, 0, 56), some (.iload_n 1, 0, 0, 0, 57), none, none, none, some (.istore 4, 0, 0, 0, 62), none, some (.aload_n 0, 0, 0, 0, 63), some (.iload_n 3, 0, 0, 0, 64)],
  [some (.iload_n 2, 0, 0, 0, 65), some (.iload 4, 0, 0, 0, 67), none, none, none, none, some (.iload_n 3, 0, 0, 0, 71), some (.ireturn, 0, 0, 0, 72), none, none, none, none, none, none, none, none]])
def ex_m83 : ex_M := (⟨"PaperHouseModel", "objects", "()I"⟩, prog_14_method_109_code, 3, some (Jvm.ClassFile.FieldType.int), [[some (.aload_n 0, 0, 0, 0, 1), some (.getfield 302, 12, 6, 0, 4), none, none, some (.ifCond .ne 5, 9, 0, 0, 7), none, none, some (.iconst (-1), 0, 0, 0, 8), some (.ireturn, 0, 0, 0, 9), some (.iconst 0, 0, 0, 0, 10), some (.istore_n 1, 0, 0, 0, 11), some (.iconst 0, 0, 0, 0, 12), some (.istore_n 2, 0, 0, 0, 13), some (.iload_n 2, 0, 0, 0, 14), some (.aload_n 0, 0, 0, 0, 15), some (.getfield 630, 12, 60, 0, 18)],
  [none, none, some (.if_icmp .ge 26, 44, 0, 0, 21), none, none, some (.iload_n 1, 0, 0, 0, 22), some (.aload_n 0, 0, 0, 0, 23), some (.getfield 80, 12, 48, 0, 26), none, none, some (.iload_n 2, 0, 0, 0, 27), some (.baload, 0, 0, 0, 28), some (.ifCond .eq 7, 35, 0, 0, 31), none, none, some (.iconst 1, 0, 0, 0, 32)],
  [some (.goto 4, 36, 0, 0, 35), none, none, some (.iconst 0, 0, 0, 0, 36), some (.iadd, 0, 0, 0, 37), some (.istore_n 1, 0, 0, 0, 38), some (.iinc 2 1, 0, 0, 0, 41), none, none, some (.goto (-28), 13, 0, 0, 44), none, none, some (.iload_n 1, 0, 0, 0, 45), some (.ireturn, 0, 0, 0, 46), none, none]])
def ex_m84 : ex_M := (⟨"PaperHouseModel", "out", "(I)I"⟩, prog_14_method_193_code, 2, some (Jvm.ClassFile.FieldType.int), [[some (.iload_n 1, 0, 0, 0, 1), some (.ifCond .lt 24, 25, 0, 0, 4), none, none, some (.iload_n 1, 0, 0, 0, 5), some (.aload_n 0, 0, 0, 0, 6), some (.getfield 1060, 12, 5, 0, 9), none, none, some (.if_icmp .ge 16, 25, 0, 0, 12), none, none, some (.aload_n 0, 0, 0, 0, 13), some (.getfield 16, 12, 4, 0, 16), none, none],
  [some (.iload_n 1, 0, 0, 0, 17), some (.baload, 0, 0, 0, 18), some (.sipush 255, 0, 0, 0, 21), none, none, some (.iand, 0, 0, 0, 22), some (.goto 4, 26, 0, 0, 25), none, none, some (.iconst (-1), 0, 0, 0, 26), some (.ireturn, 0, 0, 0, 27), none, none, none, none, none]])
def ex_m85 : ex_M := (⟨"PaperHouseModel", "outs", "()I"⟩, prog_14_method_192_code, 1, some (Jvm.ClassFile.FieldType.int), [[some (.aload_n 0, 0, 0, 0, 1), some (.getfield 1060, 12, 5, 0, 4), none, none, some (.ireturn, 0, 0, 0, 5), none, none, none, none, none, none, none, none, none, none, none]])
def ex_m86 : ex_M := (⟨"PaperHouseModel", "page", "(II)I"⟩, prog_14_method_122_code, 6, some (Jvm.ClassFile.FieldType.int), [[some (.aload_n 0, 0, 0, 0, 1), some (.getfield 302, 12, 6, 0, 4), none, none, some (.ifCond .ne 5, 9, 0, 0, 7), none, none, some (.iconst (-1), 0, 0, 0, 8), some (.ireturn, 0, 0, 0, 9), some (.aload_n 0, 0, 0, 0, 10), some (.iload_n 1, 0, 0, 0, 11), some (.invokevirtual 893, 77, 1, 12, 14), none, none, some (.ifCond .eq 13, 27, 0, 0, 17), none],
  [none, some (.iload_n 2, 0, 0, 0, 18), some (.ifCond .lt 9, 27, 0, 0, 21), none, none, some (.iload_n 2, 0, 0, 0, 22), some (.bipush 6, 0, 0, 0, 24), none, some (.if_icmp .le 5, 29, 0, 0, 27), none, none, some (.iconst 0, 0, 0, 0, 28), some (.ireturn, 0, 0, 0, 29), some (.aload_n 0, 0, 0, 0, 30), some (.getfield 133, 12, 85, 0, 33), none],
  [none, some (.iload_n 1, 0, 0, 0, 34), some (.iaload, 0, 0, 0, 35), some (.istore_n 3, 0, 0, 0, 36), some (.iload_n 2, 0, 0, 0, 37), some (.ifCond .ne 5, 42, 0, 0, 40), none, none, some (.iload_n 3, 0, 0, 0, 41), some (.ireturn, 0, 0, 0, 42), some (.iload_n 2, 0, 0, 0, 43), some (.iconst 4, 0, 0, 0, 44), some (.if_icmp .gt 53, 97, 0, 0, 47), none, none, some (.aload_n 0, 0, 0, 0, 48)],
  [some (.getfield 33, 12, 11, 0, 51), none, none, some (.aload_n 0, 0, 0, 0, 52), some (.iload_n 3, 0, 0, 0, 53), some (.ldc_w 847, 116, 1, 0, 56), none, none, none, none, none, some (.iaload, 0, 0, 0, 60), some (.istore 4, 0, 0, 0, 62), none, some (.iconst 1, 0, 0, 0, 63), some (.istore 5, 0, 0, 0, 65)],
  [none, some (.iload 5, 0, 0, 0, 67), none, some (.iload_n 2, 0, 0, 0, 68), some (.if_icmp .ge 18, 86, 0, 0, 71), none, none, some (.aload_n 0, 0, 0, 0, 72), some (.getfield 36, 12, 12, 0, 75), none, none, some (.iload 4, 0, 0, 0, 77), none, some (.iaload, 0, 0, 0, 78), some (.istore 4, 0, 0, 0, 80), none],
  [some (.iinc 5 1, 0, 0, 0, 83), none, none, some (.goto (-18), 65, 0, 0, 86), none, none, some (.aload_n 0, 0, 0, 0, 87), some (.aload_n 0, 0, 0, 0, 88), some (.iload 4, 0, 0, 0, 90), none, none, none, none, none, none, none],
  [some (.ireturn, 0, 0, 0, 97), some (.iload_n 2, 0, 0, 0, 98), some (.iconst 5, 0, 0, 0, 99), some (.if_icmp .ne 30, 129, 0, 0, 102), none, none, some (.aload_n 0, 0, 0, 0, 103), some (.iload_n 3, 0, 0, 0, 104), some (.ldc_w 851, 120, 1, 0, 107), none, none, none, none, none, some (.istore 4, 0, 0, 0, 112), none],
  [some (.iload 4, 0, 0, 0, 114), none, some (.ifCond .ge 7, 121, 0, 0, 117), none, none, some (.iconst 0, 0, 0, 0, 118), some (.goto 10, 128, 0, 0, 121), none, none, some (.aload_n 0, 0, 0, 0, 122), some (.getfield 23, 12, 8, 0, 125), none, none, some (.iload 4, 0, 0, 0, 127), none, some (.iaload, 0, 0, 0, 128)],
  [some (.ireturn, 0, 0, 0, 129), some (.aload_n 0, 0, 0, 0, 130), some (.iload_n 3, 0, 0, 0, 131), none, none, none, some (.ireturn, 0, 0, 0, 135), none, none, none, none, none, none, none, none, none]])
def ex_m87 : ex_M := (⟨"PaperHouseModel", "pages", "()I"⟩, prog_14_method_120_code, 1, some (Jvm.ClassFile.FieldType.int), [[some (.aload_n 0, 0, 0, 0, 1), some (.getfield 302, 12, 6, 0, 4), none, none, some (.ifCond .eq 10, 14, 0, 0, 7), none, none, some (.aload_n 0, 0, 0, 0, 8), some (.getfield 624, 12, 84, 0, 11), none, none, some (.goto 4, 15, 0, 0, 14), none, none, some (.iconst (-1), 0, 0, 0, 15), some (.ireturn, 0, 0, 0, 16)]])
def ex_m88 : ex_M := (⟨"PaperHouseModel", "readFile", "()V"⟩, prog_14_method_70_code, 5, none, [[some (.iconst 0, 0, 0, 0, 1), some (.istore_n 1, 0, 0, 0, 2), some (.iload_n 1, 0, 0, 0, 3), some (.sipush 200, 0, 0, 0, 6), none, none, some (.if_icmp .ge 51, 57, 0, 0, 9), none, none, some (.aload_n 0, 0, 0, 0, 10), some (.getfield 80, 12, 48, 0, 13), none, none, some (.iload_n 1, 0, 0, 0, 14), some (.iconst 0, 0, 0, 0, 15), some (.bastore, 0, 0, 0, 16)],
  [some (.aload_n 0, 0, 0, 0, 17), some (.getfield 90, 12, 51, 0, 20), none, none, some (.iload_n 1, 0, 0, 0, 21), some (.iconst 0, 0, 0, 0, 22), some (.bastore, 0, 0, 0, 23), some (.aload_n 0, 0, 0, 0, 24), some (.getfield 97, 12, 53, 0, 27), none, none, some (.iload_n 1, 0, 0, 0, 28), some (.iconst 0, 0, 0, 0, 29), some (.bastore, 0, 0, 0, 30), some (.aload_n 0, 0, 0, 0, 31), some (.getfield 100, 12, 54, 0, 34)],
  [none, none, some (.iload_n 1, 0, 0, 0, 35), some (.iconst 0, 0, 0, 0, 36), some (.bastore, 0, 0, 0, 37), some (.aload_n 0, 0, 0, 0, 38), some (.getfield 109, 12, 57, 0, 41), none, none, some (.iload_n 1, 0, 0, 0, 42), some (.iconst 0, 0, 0, 0, 43), some (.bastore, 0, 0, 0, 44), some (.aload_n 0, 0, 0, 0, 45), some (.getfield 94, 12, 52, 0, 48), none, none],
  [some (.iload_n 1, 0, 0, 0, 49), some (.iconst (-1), 0, 0, 0, 50), some (.iastore, 0, 0, 0, 51), some (.iinc 1 1, 0, 0, 0, 54), none, none, some (.goto (-52), 2, 0, 0, 57), none, none, some (.aload_n 0, 0, 0, 0, 58), some (.iconst 0, 0, 0, 0, 59), some (.putfield 630, 12, 60, 0, 62), none, none, some (.aload_n 0, 0, 0, 0, 63), some (.iconst 0, 0, 0, 0, 64)],
  [some (.putfield 651, 12, 61, 0, 67), none, none, some (.ldc_w 654, 122, 1, 0, 70), none, none, some (.astore_n 1, 0, 0, 0, 71), some (.iconst 0, 0, 0, 0, 72), some (.istore_n 2, 0, 0, 0, 73), some (.iload_n 2, 0, 0, 0, 74), some (.bipush 8, 0, 0, 0, 76), none, some (.if_icmp .ge 67, 143, 0, 0, 79), none, none, some (.aload_n 0, 0, 0, 0, 80)],
  [some (.iload_n 2, 0, 0, 0, 81), some (.invokevirtual 656, 60, 1, 12, 84), none, none, some (.istore_n 3, 0, 0, 0, 85), some (.iload_n 2, 0, 0, 0, 86), some (.bipush 7, 0, 0, 0, 88), none, some (.if_icmp .ge 15, 103, 0, 0, 91), none, none, some (.iload_n 3, 0, 0, 0, 92), some (.aload_n 1, 0, 0, 0, 93), some (.iload_n 2, 0, 0, 0, 94), some (.invokevirtual 326, 96, 1, 13, 97), none],
  [none, some (.if_icmp .eq 40, 137, 0, 0, 100), none, none, some (.goto 15, 115, 0, 0, 103), none, none, some (.iload_n 3, 0, 0, 0, 104), some (.bipush 48, 0, 0, 0, 106), none, some (.if_icmp .lt 9, 115, 0, 0, 109), none, none, some (.iload_n 3, 0, 0, 0, 110), some (.bipush 55, 0, 0, 0, 112), none],
  [some (.if_icmp .le 25, 137, 0, 0, 115), none, none, some (.aload_n 0, 0, 0, 0, 116), some (.iconst 1, 0, 0, 0, 117), some (.iload_n 2, 0, 0, 0, 118), some (.aload_n 0, 0, 0, 0, 119), some (.getfield 615, 12, 3, 0, 122), none, none, some (.if_icmp .ge 7, 129, 0, 0, 125), none, none, some (.iload_n 2, 0, 0, 0, 126), some (.goto 7, 133, 0, 0, 129), none],
  [none, some (.aload_n 0, 0, 0, 0, 130), some (.getfield 615, 12, 3, 0, 133), none, none, some (.invokevirtual 455, 67, 2, 12, 136), none, none, some (.return_, 0, 0, 0, 137), some (.iinc 2 1, 0, 0, 0, 140), none, none, some (.goto (-67), 73, 0, 0, 143), none, none, some (.aload_n 0, 0, 0, 0, 144)],
  [some (.getfield 615, 12, 3, 0, 147), none, none, some (.bipush 9, 0, 0, 0, 149), none, some (.isub, 0, 0, 0, 150), some (.istore_n 2, 0, 0, 0, 151), some (.iload_n 2, 0, 0, 0, 152), some (.ifCond .lt 20, 172, 0, 0, 155), none, none, some (.aload_n 0, 0, 0, 0, 156), some (.ldc_w 659, 124, 1, 0, 159), none, none, some (.iload_n 2, 0, 0, 0, 160)],
  [none, none, none, some (.ifCond .ne 9, 172, 0, 0, 166), none, none, some (.iinc 2 (-1), 0, 0, 0, 169), none, none, some (.goto (-18), 151, 0, 0, 172), none, none, some (.iload_n 2, 0, 0, 0, 173), some (.ifCond .ge 13, 186, 0, 0, 176), none, none],
  [some (.aload_n 0, 0, 0, 0, 177), some (.iconst 2, 0, 0, 0, 178), some (.aload_n 0, 0, 0, 0, 179), some (.getfield 615, 12, 3, 0, 182), none, none, some (.invokevirtual 455, 67, 2, 12, 185), none, none, some (.return_, 0, 0, 0, 186), some (.aload_n 0, 0, 0, 0, 187), some (.iload_n 2, 0, 0, 0, 188), some (.bipush 9, 0, 0, 0, 190), none, some (.iadd, 0, 0, 0, 191), none],
  [none, none, some (.lstore_n 3, 0, 0, 0, 195), some (.aload_n 0, 0, 0, 0, 196), some (.invokevirtual 472, 72, 0, 12, 199), none, none, some (.ifCond .eq 18, 217, 0, 0, 202), none, none, some (.lload_n 3, 0, 0, 0, 203), some (.lconst 0, 0, 0, 0, 204), some (.lcmp, 0, 0, 0, 205), some (.ifCond .lt 12, 217, 0, 0, 208), none, none],
  [some (.aload_n 0, 0, 0, 0, 209), some (.lload_n 3, 0, 0, 0, 210), none, none, none, some (.lstore_n 3, 0, 0, 0, 214), some (.goto (-19), 195, 0, 0, 217), none, none, some (.return_, 0, 0, 0, 218), none, none, none, none, none, none]])
def ex_m89 : ex_M := (⟨"PaperHouseModel", "show", "(I)I"⟩, prog_14_method_125_code, 6, some (Jvm.ClassFile.FieldType.int), [[some (.aload_n 0, 0, 0, 0, 1), some (.iload_n 1, 0, 0, 0, 2), some (.invokevirtual 893, 77, 1, 12, 5), none, none, some (.ifCond .ne 5, 10, 0, 0, 8), none, none, some (.iconst (-1), 0, 0, 0, 9), some (.ireturn, 0, 0, 0, 10), some (.aload_n 0, 0, 0, 0, 11), some (.aload_n 0, 0, 0, 0, 12), some (.getfield 133, 12, 85, 0, 15), none, none, some (.iload_n 1, 0, 0, 0, 16)],
  [some (.iaload, 0, 0, 0, 17), none, none, none, some (.aload_n 0, 0, 0, 0, 21), some (.aload_n 0, 0, 0, 0, 22), some (.getfield 133, 12, 85, 0, 25), none, none, some (.iload_n 1, 0, 0, 0, 26), some (.iaload, 0, 0, 0, 27), some (.ldc_w 849, 118, 1, 0, 30), none, none, none, none],
  [none, some (.istore_n 2, 0, 0, 0, 34), some (.aload_n 0, 0, 0, 0, 35), some (.iload_n 2, 0, 0, 0, 36), some (.ifCond .ne 7, 43, 0, 0, 39), none, none, some (.iconst (-1), 0, 0, 0, 40), some (.goto 20, 60, 0, 0, 43), none, none, some (.aload_n 0, 0, 0, 0, 44), some (.aload_n 0, 0, 0, 0, 45), some (.aload_n 0, 0, 0, 0, 46), some (.getfield 94, 12, 52, 0, 49), none],
  [none, some (.iload_n 2, 0, 0, 0, 50), some (.iaload, 0, 0, 0, 51), some (.ldc_w 849, 118, 1, 0, 54), none, none, none, none, none, none, none, none, some (.putfield 908, 12, 107, 0, 63), none, none, some (.aload_n 0, 0, 0, 0, 64)],
  [some (.getfield 319, 12, 15, 0, 67), none, none, some (.istore_n 3, 0, 0, 0, 68), some (.aload_n 0, 0, 0, 0, 69), some (.getfield 330, 12, 17, 0, 72), none, none, some (.istore 4, 0, 0, 0, 74), none, some (.aload_n 0, 0, 0, 0, 75), some (.iconst 0, 0, 0, 0, 76), some (.putfield 345, 12, 27, 0, 79), none, none, some (.aload_n 0, 0, 0, 0, 80)],
  [some (.iconst (-1), 0, 0, 0, 81), some (.putfield 348, 12, 28, 0, 84), none, none, some (.aload_n 0, 0, 0, 0, 85), some (.iconst 0, 0, 0, 0, 86), some (.putfield 442, 12, 29, 0, 89), none, none, some (.aload_n 0, 0, 0, 0, 90), some (.iconst 0, 0, 0, 0, 91), some (.putfield 451, 12, 32, 0, 94), none, none, some (.aload_n 0, 0, 0, 0, 95), some (.iconst 0, 0, 0, 0, 96)],
  [some (.putfield 618, 12, 104, 0, 99), none, none, some (.aload_n 0, 0, 0, 0, 100), some (.iconst 0, 0, 0, 0, 101), some (.putfield 911, 12, 94, 0, 104), none, none, some (.aload_n 0, 0, 0, 0, 105), some (.iconst 0, 0, 0, 0, 106), some (.putfield 914, 12, 102, 0, 109), none, none, some (.aload_n 0, 0, 0, 0, 110), some (.iconst 0, 0, 0, 0, 111), some (.putfield 917, 12, 103, 0, 114)],
  [none, none, some (.aload_n 0, 0, 0, 0, 115), some (.getfield 156, 12, 95, 0, 118), none, none, none, none, none, some (.iconst 0, 0, 0, 0, 122), some (.istore 5, 0, 0, 0, 124), none, some (.iload 5, 0, 0, 0, 126), none, some (.bipush 9, 0, 0, 0, 128), none],
  [some (.if_icmp .ge 17, 145, 0, 0, 131), none, none, some (.aload_n 0, 0, 0, 0, 132), some (.getfield 171, 12, 100, 0, 135), none, none, some (.iload 5, 0, 0, 0, 137), none, some (.iconst 0, 0, 0, 0, 138), some (.iastore, 0, 0, 0, 139), some (.iinc 5 1, 0, 0, 0, 142), none, none, some (.goto (-18), 124, 0, 0, 145), none],
  [none, some (.aload_n 0, 0, 0, 0, 146), some (.getfield 171, 12, 100, 0, 149), none, none, some (.iconst 0, 0, 0, 0, 150), some (.iconst (-1), 0, 0, 0, 151), some (.iastore, 0, 0, 0, 152), some (.aload_n 0, 0, 0, 0, 153), some (.aload_n 0, 0, 0, 0, 154), some (.getfield 150, 12, 91, 0, 157), none, none, some (.iconst 0, 0, 0, 0, 158), some (.aload_n 0, 0, 0, 0, 159), some (.getfield 899, 12, 92, 0, 162)],
  [none, none, none, none, none, some (.aload_n 0, 0, 0, 0, 166), none, none, none, some (.aload_n 0, 0, 0, 0, 170), some (.invokevirtual 472, 72, 0, 12, 173), none, none, some (.ifCond .eq 156, 329, 0, 0, 176), none, none],
  [some (.aload_n 0, 0, 0, 0, 177), some (.getfield 386, 12, 22, 0, 180), none, none, some (.ifCond .eq 149, 329, 0, 0, 183), none, none, some (.aload_n 0, 0, 0, 0, 184), some (.getfield 386, 12, 22, 0, 187), none, none, some (.iconst 3, 0, 0, 0, 188), some (.if_icmp .ne 69, 257, 0, 0, 191), none, none, some (.aload_n 0, 0, 0, 0, 192)],
  [some (.ldc_w 459, 126, 1, 0, 195), none, none, none, none, none, some (.ifCond .ne 59, 257, 0, 0, 201), none, none, some (.aload_n 0, 0, 0, 0, 202), some (.ldc_w 465, 128, 1, 0, 205), none, none, none, none, none],
  [some (.ifCond .ne 49, 257, 0, 0, 211), none, none, some (.aload_n 0, 0, 0, 0, 212), some (.ldc_w 467, 130, 1, 0, 215), none, none, none, none, none, some (.ifCond .ne 39, 257, 0, 0, 221), none, none, some (.aload_n 0, 0, 0, 0, 222), some (.aload_n 0, 0, 0, 0, 223), some (.getfield 383, 12, 23, 0, 226)],
  [none, none, some (.putfield 923, 12, 106, 0, 229), none, none, some (.aload_n 0, 0, 0, 0, 230), none, none, none, some (.aload_n 0, 0, 0, 0, 234), some (.iconst 0, 0, 0, 0, 235), some (.putfield 911, 12, 94, 0, 238), none, none, some (.aload_n 0, 0, 0, 0, 239), some (.iconst 0, 0, 0, 0, 240)],
  [some (.putfield 442, 12, 29, 0, 243), none, none, some (.aload_n 0, 0, 0, 0, 244), some (.iload_n 3, 0, 0, 0, 245), some (.putfield 319, 12, 15, 0, 248), none, none, some (.aload_n 0, 0, 0, 0, 249), some (.iload 4, 0, 0, 0, 251), none, some (.putfield 330, 12, 17, 0, 254), none, none, some (.goto 61, 315, 0, 0, 257), none],
  [none, some (.aload_n 0, 0, 0, 0, 258), some (.getfield 911, 12, 94, 0, 261), none, none, some (.bipush 40, 0, 0, 0, 263), none, some (.if_icmp .ne 16, 279, 0, 0, 266), none, none, some (.aload_n 0, 0, 0, 0, 267), some (.bipush 11, 0, 0, 0, 269), none, some (.aload_n 0, 0, 0, 0, 270), some (.getfield 383, 12, 23, 0, 273), none],
  [none, some (.invokevirtual 455, 67, 2, 12, 276), none, none, some (.goto 39, 315, 0, 0, 279), none, none, some (.aload_n 0, 0, 0, 0, 280), some (.iconst 0, 0, 0, 0, 281), some (.iconst 0, 0, 0, 0, 282), none, none, none, some (.istore 5, 0, 0, 0, 287), none, some (.aload_n 0, 0, 0, 0, 288)],
  [some (.invokevirtual 472, 72, 0, 12, 291), none, none, some (.ifCond .eq 24, 315, 0, 0, 294), none, none, some (.aload_n 0, 0, 0, 0, 295), some (.getfield 153, 12, 93, 0, 298), none, none, some (.aload_n 0, 0, 0, 0, 299), some (.getfield 911, 12, 94, 0, 302), none, none, some (.iload 5, 0, 0, 0, 304), none],
  [some (.iastore, 0, 0, 0, 305), some (.aload_n 0, 0, 0, 0, 306), some (.dup, 0, 0, 0, 307), some (.getfield 911, 12, 94, 0, 310), none, none, some (.iconst 1, 0, 0, 0, 311), some (.iadd, 0, 0, 0, 312), some (.putfield 911, 12, 94, 0, 315), none, none, some (.aload_n 0, 0, 0, 0, 316), some (.invokevirtual 472, 72, 0, 12, 319), none, none, some (.ifCond .eq (-150), 169, 0, 0, 322)],
  [none, none, some (.aload_n 0, 0, 0, 0, 323), none, none, none, some (.goto (-157), 169, 0, 0, 329), none, none, some (.aload_n 0, 0, 0, 0, 330), some (.getfield 917, 12, 103, 0, 333), none, none, some (.ifCond .ne 10, 343, 0, 0, 336), none, none],
  [some (.aload_n 0, 0, 0, 0, 337), some (.getfield 914, 12, 102, 0, 340), none, none, some (.ifCond .le 13, 353, 0, 0, 343), none, none, some (.aload_n 0, 0, 0, 0, 344), some (.bipush 12, 0, 0, 0, 346), none, some (.aload_n 0, 0, 0, 0, 347), some (.getfield 899, 12, 92, 0, 350), none, none, some (.invokevirtual 455, 67, 2, 12, 353), none],
  [none, some (.aload_n 0, 0, 0, 0, 354), some (.iload_n 3, 0, 0, 0, 355), some (.putfield 319, 12, 15, 0, 358), none, none, some (.aload_n 0, 0, 0, 0, 359), some (.iload 4, 0, 0, 0, 361), none, some (.putfield 330, 12, 17, 0, 364), none, none, some (.aload_n 0, 0, 0, 0, 365), some (.aload_n 0, 0, 0, 0, 366), some (.getfield 345, 12, 27, 0, 369), none],
  [none, some (.putfield 642, 12, 70, 0, 372), none, none, some (.aload_n 0, 0, 0, 0, 373), some (.aload_n 0, 0, 0, 0, 374), some (.invokevirtual 472, 72, 0, 12, 377), none, none, some (.ifCond .eq 7, 384, 0, 0, 380), none, none, some (.iconst (-1), 0, 0, 0, 381), some (.goto 7, 388, 0, 0, 384), none, none],
  [some (.aload_n 0, 0, 0, 0, 385), some (.getfield 348, 12, 28, 0, 388), none, none, some (.putfield 309, 12, 71, 0, 391), none, none, some (.aload_n 0, 0, 0, 0, 392), some (.invokevirtual 472, 72, 0, 12, 395), none, none, some (.ifCond .ne 16, 411, 0, 0, 398), none, none, some (.aload_n 0, 0, 0, 0, 399), some (.iconst 0, 0, 0, 0, 400)],
  [some (.putfield 618, 12, 104, 0, 403), none, none, some (.bipush (-100), 0, 0, 0, 405), none, some (.aload_n 0, 0, 0, 0, 406), some (.getfield 345, 12, 27, 0, 409), none, none, some (.isub, 0, 0, 0, 410), some (.ireturn, 0, 0, 0, 411), some (.aload_n 0, 0, 0, 0, 412), some (.getfield 618, 12, 104, 0, 415), none, none, some (.ireturn, 0, 0, 0, 416)]])
def ex_m90 : ex_M := (⟨"PaperHouseModel", "size", "(I)I"⟩, prog_14_method_117_code, 2, some (Jvm.ClassFile.FieldType.int), [[some (.aload_n 0, 0, 0, 0, 1), some (.iload_n 1, 0, 0, 0, 2), some (.invokevirtual 887, 76, 1, 12, 5), none, none, some (.ifCond .eq 21, 26, 0, 0, 8), none, none, some (.aload_n 0, 0, 0, 0, 9), some (.getfield 100, 12, 54, 0, 12), none, none, some (.iload_n 1, 0, 0, 0, 13), some (.baload, 0, 0, 0, 14), some (.ifCond .eq 12, 26, 0, 0, 17), none],
  [none, some (.aload_n 0, 0, 0, 0, 18), some (.getfield 106, 12, 56, 0, 21), none, none, some (.iload_n 1, 0, 0, 0, 22), some (.iaload, 0, 0, 0, 23), some (.goto 4, 27, 0, 0, 26), none, none, some (.iconst (-1), 0, 0, 0, 27), some (.ireturn, 0, 0, 0, 28), none, none, none, none]])
def ex_m91 : ex_M := (⟨"PaperHouseModel", "sum", "()I"⟩, prog_14_method_194_code, 1, some (Jvm.ClassFile.FieldType.int), [[some (.aload_n 0, 0, 0, 0, 1), some (.getfield 16, 12, 4, 0, 4), none, none, some (.aload_n 0, 0, 0, 0, 5), some (.getfield 1060, 12, 5, 0, 8), none, none, some (.invokestatic 584, 59, 2, 0, 11), none, none, some (.l2i, 0, 0, 0, 12), some (.ireturn, 0, 0, 0, 13), none, none, none]])
def ex_m92 : ex_M := (⟨"PaperHouseModel", "take", "()I"⟩, prog_14_method_195_code, 2, some (Jvm.ClassFile.FieldType.int), [[some (.aload_n 0, 0, 0, 0, 1), some (.getfield 1060, 12, 5, 0, 4), none, none, some (.sipush 8000, 0, 0, 0, 7), none, none, some (.if_icmp .le 5, 12, 0, 0, 10), none, none, some (.iconst (-1), 0, 0, 0, 11), some (.ireturn, 0, 0, 0, 12), some (.iconst 0, 0, 0, 0, 13), some (.istore_n 1, 0, 0, 0, 14), some (.iload_n 1, 0, 0, 0, 15), some (.aload_n 0, 0, 0, 0, 16)],
  [some (.getfield 1060, 12, 5, 0, 19), none, none, some (.if_icmp .ge 21, 40, 0, 0, 22), none, none, some (.aload_n 0, 0, 0, 0, 23), some (.getfield 7, 12, 0, 0, 26), none, none, some (.iload_n 1, 0, 0, 0, 27), some (.aload_n 0, 0, 0, 0, 28), some (.getfield 16, 12, 4, 0, 31), none, none, some (.iload_n 1, 0, 0, 0, 32)],
  [some (.baload, 0, 0, 0, 33), some (.bastore, 0, 0, 0, 34), some (.iinc 1 1, 0, 0, 0, 37), none, none, some (.goto (-23), 14, 0, 0, 40), none, none, some (.aload_n 0, 0, 0, 0, 41), some (.aload_n 0, 0, 0, 0, 42), some (.getfield 1060, 12, 5, 0, 45), none, none, some (.putfield 312, 12, 1, 0, 48), none, none],
  [some (.aload_n 0, 0, 0, 0, 49), some (.getfield 1060, 12, 5, 0, 52), none, none, some (.ireturn, 0, 0, 0, 53), none, none, none, none, none, none, none, none, none, none, none]])
def ex_m93 : ex_M := (⟨"PaperHouseModel", "turn", "(II)Z"⟩, prog_14_method_159_code, 3, some (Jvm.ClassFile.FieldType.boolean), [[some (.aload_n 0, 0, 0, 0, 1), some (.iload_n 1, 0, 0, 0, 2), some (.invokevirtual 893, 77, 1, 12, 5), none, none, some (.ifCond .eq 24, 29, 0, 0, 8), none, none, some (.iload_n 2, 0, 0, 0, 9), some (.sipush (-360), 0, 0, 0, 12), none, none, some (.if_icmp .lt 17, 29, 0, 0, 15), none, none, some (.iload_n 2, 0, 0, 0, 16)],
  [some (.sipush 360, 0, 0, 0, 19), none, none, some (.if_icmp .gt 10, 29, 0, 0, 22), none, none, some (.iload_n 2, 0, 0, 0, 23), some (.bipush 90, 0, 0, 0, 25), none, some (.irem, 0, 0, 0, 26), some (.ifCond .eq 5, 31, 0, 0, 29), none, none, some (.iconst 0, 0, 0, 0, 30), some (.ireturn, 0, 0, 0, 31), some (.aload_n 0, 0, 0, 0, 32)],
  [some (.aload_n 0, 0, 0, 0, 33), some (.getfield 94, 12, 52, 0, 36), none, none, some (.aload_n 0, 0, 0, 0, 37), some (.getfield 133, 12, 85, 0, 40), none, none, some (.iload_n 1, 0, 0, 0, 41), some (.iaload, 0, 0, 0, 42), some (.iaload, 0, 0, 0, 43), some (.ldc_w 851, 120, 1, 0, 46), none, none, some (.iconst 2, 0, 0, 0, 47), some (.iload_n 2, 0, 0, 0, 48)],
  [some (.iconst 0, 0, 0, 0, 49), none, none, none, some (.pop, 0, 0, 0, 53), some (.aload_n 0, 0, 0, 0, 54), some (.aload_n 0, 0, 0, 0, 55), some (.getfield 133, 12, 85, 0, 58), none, none, some (.iload_n 1, 0, 0, 0, 59), some (.iaload, 0, 0, 0, 60), none, none, none, some (.aload_n 0, 0, 0, 0, 64)],
  [some (.iconst (-1), 0, 0, 0, 65), some (.putfield 142, 12, 88, 0, 68), none, none, some (.iconst 1, 0, 0, 0, 69), some (.ireturn, 0, 0, 0, 70), none, none, none, none, none, none, none, none, none, none]])
def ex_m94 : ex_M := (⟨"PaperHouseModel", "up", "()I"⟩, prog_14_method_114_code, 1, some (Jvm.ClassFile.FieldType.int), [[some (.aload_n 0, 0, 0, 0, 1), some (.getfield 142, 12, 88, 0, 4), none, none, some (.iconst 1, 0, 0, 0, 5), some (.if_icmp .ge 5, 10, 0, 0, 8), none, none, some (.iconst (-1), 0, 0, 0, 9), some (.ireturn, 0, 0, 0, 10), some (.aload_n 0, 0, 0, 0, 11), some (.dup, 0, 0, 0, 12), some (.getfield 142, 12, 88, 0, 15), none, none, some (.iconst 1, 0, 0, 0, 16)],
  [some (.isub, 0, 0, 0, 17), some (.putfield 142, 12, 88, 0, 20), none, none, some (.aload_n 0, 0, 0, 0, 21), some (.getfield 142, 12, 88, 0, 24), none, none, some (.ireturn, 0, 0, 0, 25), none, none, none, none, none, none, none]])
def ex_m95 : ex_M := (⟨"PaperHouseModel", "whole", "()I"⟩, prog_14_method_185_code, 3, some (Jvm.ClassFile.FieldType.int), [[some (.aload_n 0, 0, 0, 0, 1), some (.iconst 0, 0, 0, 0, 2), some (.putfield 1060, 12, 5, 0, 5), none, none, some (.aload_n 0, 0, 0, 0, 6), some (.getfield 302, 12, 6, 0, 9), none, none, some (.ifCond .ne 5, 14, 0, 0, 12), none, none, some (.iconst (-1), 0, 0, 0, 13), some (.ireturn, 0, 0, 0, 14), some (.aload_n 0, 0, 0, 0, 15), some (.iconst 1, 0, 0, 0, 16)],
  [some (.putfield 1113, 12, 109, 0, 19), none, none, some (.aload_n 0, 0, 0, 0, 20), some (.iconst 0, 0, 0, 0, 21), some (.putfield 1080, 12, 112, 0, 24), none, none, some (.iconst 0, 0, 0, 0, 25), some (.istore_n 1, 0, 0, 0, 26), some (.iload_n 1, 0, 0, 0, 27), some (.sipush 200, 0, 0, 0, 30), none, none, some (.if_icmp .ge 16, 46, 0, 0, 33), none],
  [none, some (.aload_n 0, 0, 0, 0, 34), some (.getfield 280, 12, 110, 0, 37), none, none, some (.iload_n 1, 0, 0, 0, 38), some (.iconst 0, 0, 0, 0, 39), some (.iastore, 0, 0, 0, 40), some (.iinc 1 1, 0, 0, 0, 43), none, none, some (.goto (-17), 26, 0, 0, 46), none, none, some (.aload_n 0, 0, 0, 0, 47), some (.ldc_w 1167, 132, 1, 0, 50)],
  [none, none, none, none, none, some (.aload_n 0, 0, 0, 0, 54), some (.aload_n 0, 0, 0, 0, 55), some (.getfield 815, 12, 81, 0, 58), none, none, none, none, none, some (.pop, 0, 0, 0, 62), some (.aload_n 0, 0, 0, 0, 63), some (.getfield 831, 12, 82, 0, 66)],
  [none, none, some (.ifCond .eq 12, 78, 0, 0, 69), none, none, some (.aload_n 0, 0, 0, 0, 70), some (.aload_n 0, 0, 0, 0, 71), some (.getfield 831, 12, 82, 0, 74), none, none, none, none, none, some (.pop, 0, 0, 0, 78), some (.iconst 0, 0, 0, 0, 79), some (.istore_n 1, 0, 0, 0, 80)],
  [some (.iload_n 1, 0, 0, 0, 81), some (.aload_n 0, 0, 0, 0, 82), some (.getfield 1080, 12, 112, 0, 85), none, none, some (.if_icmp .ge 33, 118, 0, 0, 88), none, none, some (.aload_n 0, 0, 0, 0, 89), some (.getfield 286, 12, 113, 0, 92), none, none, some (.iload_n 1, 0, 0, 0, 93), some (.aload_n 0, 0, 0, 0, 94), some (.getfield 1060, 12, 5, 0, 97), none],
  [none, some (.iastore, 0, 0, 0, 98), some (.aload_n 0, 0, 0, 0, 99), some (.aload_n 0, 0, 0, 0, 100), some (.getfield 283, 12, 111, 0, 103), none, none, some (.iload_n 1, 0, 0, 0, 104), some (.iaload, 0, 0, 0, 105), some (.iload_n 1, 0, 0, 0, 106), some (.iconst 1, 0, 0, 0, 107), some (.iadd, 0, 0, 0, 108), some (.lconst 0, 0, 0, 0, 109), none, none, none],
  [some (.iinc 1 1, 0, 0, 0, 115), none, none, some (.goto (-35), 80, 0, 0, 118), none, none, some (.aload_n 0, 0, 0, 0, 119), some (.getfield 1060, 12, 5, 0, 122), none, none, some (.istore_n 1, 0, 0, 0, 123), some (.aload_n 0, 0, 0, 0, 124), some (.ldc_w 1173, 134, 1, 0, 127), none, none, none],
  [none, none, some (.aload_n 0, 0, 0, 0, 131), some (.aload_n 0, 0, 0, 0, 132), some (.getfield 1080, 12, 112, 0, 135), none, none, some (.iconst 1, 0, 0, 0, 136), some (.iadd, 0, 0, 0, 137), some (.i2l, 0, 0, 0, 138), none, none, none, some (.aload_n 0, 0, 0, 0, 142), some (.ldc_w 1175, 136, 1, 0, 145), none],
  [none, none, none, none, some (.iconst 0, 0, 0, 0, 149), some (.istore_n 2, 0, 0, 0, 150), some (.iload_n 2, 0, 0, 0, 151), some (.aload_n 0, 0, 0, 0, 152), some (.getfield 1080, 12, 112, 0, 155), none, none, some (.if_icmp .ge 21, 176, 0, 0, 158), none, none, some (.aload_n 0, 0, 0, 0, 159), some (.aload_n 0, 0, 0, 0, 160)],
  [some (.getfield 286, 12, 113, 0, 163), none, none, some (.iload_n 2, 0, 0, 0, 164), some (.iaload, 0, 0, 0, 165), some (.i2l, 0, 0, 0, 166), some (.lconst 0, 0, 0, 0, 167), none, none, none, some (.iinc 2 1, 0, 0, 0, 173), none, none, some (.goto (-23), 150, 0, 0, 176), none, none],
  [some (.aload_n 0, 0, 0, 0, 177), some (.ldc_w 1181, 138, 1, 0, 180), none, none, none, none, none, some (.aload_n 0, 0, 0, 0, 184), some (.aload_n 0, 0, 0, 0, 185), some (.getfield 1080, 12, 112, 0, 188), none, none, some (.iconst 1, 0, 0, 0, 189), some (.iadd, 0, 0, 0, 190), some (.i2l, 0, 0, 0, 191), none],
  [none, none, some (.aload_n 0, 0, 0, 0, 195), some (.ldc_w 1183, 140, 1, 0, 198), none, none, none, none, none, some (.aload_n 0, 0, 0, 0, 202), some (.getfield 831, 12, 82, 0, 205), none, none, some (.ifCond .eq 30, 235, 0, 0, 208), none, none],
  [some (.aload_n 0, 0, 0, 0, 209), some (.ldc_w 1185, 142, 1, 0, 212), none, none, none, none, none, some (.aload_n 0, 0, 0, 0, 216), some (.aload_n 0, 0, 0, 0, 217), some (.getfield 280, 12, 110, 0, 220), none, none, some (.aload_n 0, 0, 0, 0, 221), some (.getfield 831, 12, 82, 0, 224), none, none],
  [some (.iaload, 0, 0, 0, 225), some (.lconst 0, 0, 0, 0, 226), none, none, none, some (.aload_n 0, 0, 0, 0, 230), some (.bipush 32, 0, 0, 0, 232), none, none, none, none, some (.aload_n 0, 0, 0, 0, 236), some (.ldc_w 1187, 144, 1, 0, 239), none, none, none],
  [none, none, some (.aload_n 0, 0, 0, 0, 243), some (.iload_n 1, 0, 0, 0, 244), none, none, none, some (.ireturn, 0, 0, 0, 248), none, none, none, none, none, none, none, none]])
def ex_m96 : ex_M := (⟨"java/lang/String", "charAt", "(I)C"⟩, prog_16_method_56_code, 2, some (Jvm.ClassFile.FieldType.char), [[some (.aload_n 0, 0, 0, 0, 1), some (.invokevirtual 492, 99, 0, 13, 4), none, none, some (.ifCond .eq 12, 16, 0, 0, 7), none, none, some (.aload_n 0, 0, 0, 0, 8), some (.getfield 9, 13, 0, 0, 11), none, none, some (.iload_n 1, 0, 0, 0, 12), some (.invokestatic 495, 101, 2, 0, 15), none, none, some (.ireturn, 0, 0, 0, 16)],
  [some (.aload_n 0, 0, 0, 0, 17), some (.getfield 9, 13, 0, 0, 20), none, none, some (.iload_n 1, 0, 0, 0, 21), none, none, none, some (.ireturn, 0, 0, 0, 25), none, none, none, none, none, none, none]])
def ex_m97 : ex_M := (⟨"java/lang/String", "checkIndex", "(II)V"⟩, prog_16_method_155_code, 2, none, [[some (.iload_n 0, 0, 0, 0, 1), some (.iload_n 1, 0, 0, 0, 2), some (.getstatic 1053, 0, 2, 0, 5), none, none, some (.invokestatic 1059, 103, 3, 0, 8), none, none, some (.pop, 0, 0, 0, 9), some (.return_, 0, 0, 0, 10), none, none, none, none, none, none]])
def ex_m98 : ex_M := (⟨"java/lang/String", "coder", "()B"⟩, prog_16_method_152_code, 1, some (Jvm.ClassFile.FieldType.byte), [[some (.getstatic 38, 1, 0, 0, 3), none, none, some (.ifCond .eq 10, 13, 0, 0, 6), none, none, some (.aload_n 0, 0, 0, 0, 7), some (.getfield 15, 13, 1, 0, 10), none, none, some (.goto 4, 14, 0, 0, 13), none, none, some (.iconst 1, 0, 0, 0, 14), some (.ireturn, 0, 0, 0, 15), none]])
def ex_m99 : ex_M := (⟨"java/lang/String", "isLatin1", "()Z"⟩, prog_16_method_154_code, 1, some (Jvm.ClassFile.FieldType.boolean), [[some (.getstatic 38, 1, 0, 0, 3), none, none, some (.ifCond .eq 14, 17, 0, 0, 6), none, none, some (.aload_n 0, 0, 0, 0, 7), some (.getfield 15, 13, 1, 0, 10), none, none, some (.ifCond .ne 7, 17, 0, 0, 13), none, none, some (.iconst 1, 0, 0, 0, 14), some (.goto 4, 18, 0, 0, 17), none],
  [none, some (.iconst 0, 0, 0, 0, 18), some (.ireturn, 0, 0, 0, 19), none, none, none, none, none, none, none, none, none, none, none, none, none]])
def ex_m100 : ex_M := (⟨"java/lang/String", "length", "()I"⟩, prog_16_method_54_code, 1, some (Jvm.ClassFile.FieldType.int), [[some (.aload_n 0, 0, 0, 0, 1), some (.getfield 9, 13, 0, 0, 4), none, none, some (.arraylength, 0, 0, 0, 5), some (.aload_n 0, 0, 0, 0, 6), some (.invokevirtual 335, 98, 0, 13, 9), none, none, some (.ishr, 0, 0, 0, 10), some (.ireturn, 0, 0, 0, 11), none, none, none, none, none]])
def ex_m101 : ex_M := (⟨"java/lang/StringLatin1", "charAt", "([BI)C"⟩, prog_17_method_2_code, 2, some (Jvm.ClassFile.FieldType.char), [[some (.iload_n 1, 0, 0, 0, 1), some (.aload_n 0, 0, 0, 0, 2), some (.arraylength, 0, 0, 0, 3), some (.invokestatic 9, 97, 2, 0, 6), none, none, some (.aload_n 0, 0, 0, 0, 7), some (.iload_n 1, 0, 0, 0, 8), some (.baload, 0, 0, 0, 9), some (.sipush 255, 0, 0, 0, 12), none, none, some (.iand, 0, 0, 0, 13), some (.i2c, 0, 0, 0, 14), some (.ireturn, 0, 0, 0, 15), none]])
def ex_m102 : ex_M := (⟨"java/util/Arrays", "fill", "([II)V"⟩, prog_21_method_103_code, 4, none, [[some (.iconst 0, 0, 0, 0, 1), some (.istore_n 2, 0, 0, 0, 2), some (.aload_n 0, 0, 0, 0, 3), some (.arraylength, 0, 0, 0, 4), some (.istore_n 3, 0, 0, 0, 5), some (.iload_n 2, 0, 0, 0, 6), some (.iload_n 3, 0, 0, 0, 7), some (.if_icmp .ge 13, 20, 0, 0, 10), none, none, some (.aload_n 0, 0, 0, 0, 11), some (.iload_n 2, 0, 0, 0, 12), some (.iload_n 1, 0, 0, 0, 13), some (.iastore, 0, 0, 0, 14), some (.iinc 2 1, 0, 0, 0, 17), none],
  [none, some (.goto (-12), 5, 0, 0, 20), none, none, some (.return_, 0, 0, 0, 21), none, none, none, none, none, none, none, none, none, none, none]])
def ex_m103 : ex_M := (⟨"jdk/internal/util/Preconditions", "checkIndex", "(IILjava/util/function/BiFunction;)I"⟩, prog_24_method_11_code, 3, some (Jvm.ClassFile.FieldType.int), [[some (.iload_n 0, 0, 0, 0, 1), some (.ifCond .lt 8, 9, 0, 0, 4), none, none, some (.iload_n 0, 0, 0, 0, 5), some (.iload_n 1, 0, 0, 0, 6), some (.if_icmp .lt 10, 16, 0, 0, 9), none, none, some (.aload_n 2, 0, 0, 0, 10), some (.iload_n 0, 0, 0, 0, 11), some (.iload_n 1, 0, 0, 0, 12), none, none, none, some (.athrow, 0, 0, 0, 16)],
  [some (.iload_n 0, 0, 0, 0, 17), some (.ireturn, 0, 0, 0, 18), none, none, none, none, none, none, none, none, none, none, none, none, none, none]])
def ex_prog : List ex_M := [ex_m0, ex_m1, ex_m2, ex_m3, ex_m4, ex_m5, ex_m6, ex_m7, ex_m8, ex_m9, ex_m10, ex_m11, ex_m12, ex_m13, ex_m14, ex_m15, ex_m16, ex_m17, ex_m18, ex_m19, ex_m20, ex_m21, ex_m22, ex_m23, ex_m24, ex_m25, ex_m26, ex_m27, ex_m28, ex_m29, ex_m30, ex_m31, ex_m32, ex_m33, ex_m34, ex_m35, ex_m36, ex_m37, ex_m38, ex_m39, ex_m40, ex_m41, ex_m42, ex_m43, ex_m44, ex_m45, ex_m46, ex_m47, ex_m48, ex_m49, ex_m50, ex_m51, ex_m52, ex_m53, ex_m54, ex_m55, ex_m56, ex_m57, ex_m58, ex_m59, ex_m60, ex_m61, ex_m62, ex_m63, ex_m64, ex_m65, ex_m66, ex_m67, ex_m68, ex_m69, ex_m70, ex_m71, ex_m72, ex_m73, ex_m74, ex_m75, ex_m76, ex_m77, ex_m78, ex_m79, ex_m80, ex_m81, ex_m82, ex_m83, ex_m84, ex_m85, ex_m86, ex_m87, ex_m88, ex_m89, ex_m90, ex_m91, ex_m92, ex_m93, ex_m94, ex_m95, ex_m96, ex_m97, ex_m98, ex_m99, ex_m100, ex_m101, ex_m102, ex_m103]
noncomputable def ex_P0 (k : Nat) : Option ex_M := ex_nth ex_prog k
/-- String constants: class, entry, text, bytes -/
def ex_sl : List (String × Nat × String × List Int32) := [("PaperHouse$Loader", 82, "%PDF-1.", [37, 80, 68, 70, 45, 49, 46]),
  ("PaperHouse$Loader", 102, "startxref", [115, 116, 97, 114, 116, 120, 114, 101, 102]),
  ("PaperHouse$Store", 40, "Type Catalog Pages Page Kids Count Parent MediaBox Resources Rotate Contents Font FirstChar LastChar Widths Title Author Subject Keywords Length Filter DecodeParms FlateDecode ASCIIHexDecode Predictor Columns Colors BitsPerComponent XRef W Index Size Prev Encrypt XRefStm Root Info ObjStm N First ", [84, 121, 112, 101, 32, 67, 97, 116, 97, 108, 111, 103, 32, 80, 97, 103, 101, 115, 32, 80, 97, 103, 101, 32, 75, 105, 100, 115, 32, 67, 111, 117, 110, 116, 32, 80, 97, 114, 101, 110, 116, 32, 77, 101, 100, 105, 97, 66, 111, 120, 32, 82, 101, 115, 111, 117, 114, 99, 101, 115, 32, 82, 111, 116, 97, 116, 101, 32, 67, 111, 110, 116, 101, 110, 116, 115, 32, 70, 111, 110, 116, 32, 70, 105, 114, 115, 116, 67, 104, 97, 114, 32, 76, 97, 115, 116, 67, 104, 97, 114, 32, 87, 105, 100, 116, 104, 115, 32, 84, 105, 116, 108, 101, 32, 65, 117, 116, 104, 111, 114, 32, 83, 117, 98, 106, 101, 99, 116, 32, 75, 101, 121, 119, 111, 114, 100, 115, 32, 76, 101, 110, 103, 116, 104, 32, 70, 105, 108, 116, 101, 114, 32, 68, 101, 99, 111, 100, 101, 80, 97, 114, 109, 115, 32, 70, 108, 97, 116, 101, 68, 101, 99, 111, 100, 101, 32, 65, 83, 67, 73, 73, 72, 101, 120, 68, 101, 99, 111, 100, 101, 32, 80, 114, 101, 100, 105, 99, 116, 111, 114, 32, 67, 111, 108, 117, 109, 110, 115, 32, 67, 111, 108, 111, 114, 115, 32, 66, 105, 116, 115, 80, 101, 114, 67, 111, 109, 112, 111, 110, 101, 110, 116, 32, 88, 82, 101, 102, 32, 87, 32, 73, 110, 100, 101, 120, 32, 83, 105, 122, 101, 32, 80, 114, 101, 118, 32, 69, 110, 99, 114, 121, 112, 116, 32, 88, 82, 101, 102, 83, 116, 109, 32, 82, 111, 111, 116, 32, 73, 110, 102, 111, 32, 79, 98, 106, 83, 116, 109, 32, 78, 32, 70, 105, 114, 115, 116, 32]),
  ("PaperHouseModel", 182, "q", [113]),
  ("PaperHouseModel", 184, "Q", [81]),
  ("PaperHouseModel", 186, "BT", [66, 84]),
  ("PaperHouseModel", 188, "ET", [69, 84]),
  ("PaperHouseModel", 190, "T*", [84, 42]),
  ("PaperHouseModel", 192, "cm", [99, 109]),
  ("PaperHouseModel", 194, "Tm", [84, 109]),
  ("PaperHouseModel", 196, "Td", [84, 100]),
  ("PaperHouseModel", 198, "TD", [84, 68]),
  ("PaperHouseModel", 200, "Tc", [84, 99]),
  ("PaperHouseModel", 202, "Tw", [84, 119]),
  ("PaperHouseModel", 204, "TL", [84, 76]),
  ("PaperHouseModel", 206, "Tf", [84, 102]),
  ("PaperHouseModel", 208, "Tj", [84, 106]),
  ("PaperHouseModel", 210, "'", [39]),
  ("PaperHouseModel", 212, "TJ", [84, 74]),
  ("PaperHouseModel", 214, "m", [109]),
  ("PaperHouseModel", 216, "l", [108]),
  ("PaperHouseModel", 218, "c", [99]),
  ("PaperHouseModel", 220, "v", [118]),
  ("PaperHouseModel", 222, "y", [121]),
  ("PaperHouseModel", 224, "re", [114, 101]),
  ("PaperHouseModel", 226, "k", [107]),
  ("PaperHouseModel", 228, "K", [75]),
  ("PaperHouseModel", 230, "h", [104]),
  ("PaperHouseModel", 232, "S", [83]),
  ("PaperHouseModel", 234, "s", [115]),
  ("PaperHouseModel", 236, "f", [102]),
  ("PaperHouseModel", 238, "F", [70]),
  ("PaperHouseModel", 240, "f*", [102, 42]),
  ("PaperHouseModel", 242, "B", [66]),
  ("PaperHouseModel", 244, "B*", [66, 42]),
  ("PaperHouseModel", 246, "b", [98]),
  ("PaperHouseModel", 248, "b*", [98, 42]),
  ("PaperHouseModel", 250, "n", [110]),
  ("PaperHouseModel", 252, "W", [87]),
  ("PaperHouseModel", 254, "W*", [87, 42]),
  ("PaperHouseModel", 256, "w", [119]),
  ("PaperHouseModel", 258, "J", [74]),
  ("PaperHouseModel", 260, "j", [106]),
  ("PaperHouseModel", 262, "M", [77]),
  ("PaperHouseModel", 264, "i", [105]),
  ("PaperHouseModel", 266, "g", [103]),
  ("PaperHouseModel", 268, "G", [71]),
  ("PaperHouseModel", 270, "rg", [114, 103]),
  ("PaperHouseModel", 272, "RG", [82, 71]),
  ("PaperHouseModel", 274, "d", [100]),
  ("PaperHouseModel", 873, "Contents", [67, 111, 110, 116, 101, 110, 116, 115]),
  ("PaperHouseModel", 1051, "Title", [84, 105, 116, 108, 101]),
  ("PaperHouseModel", 1053, "Author", [65, 117, 116, 104, 111, 114]),
  ("PaperHouseModel", 1055, "Subject", [83, 117, 98, 106, 101, 99, 116]),
  ("PaperHouseModel", 1057, "Keywords", [75, 101, 121, 119, 111, 114, 100, 115]),
  ("PaperHouseModel", 834, "Page", [80, 97, 103, 101]),
  ("PaperHouseModel", 732, "Type", [84, 121, 112, 101]),
  ("PaperHouseModel", 836, "Parent", [80, 97, 114, 101, 110, 116]),
  ("PaperHouseModel", 847, "MediaBox", [77, 101, 100, 105, 97, 66, 111, 120]),
  ("PaperHouseModel", 849, "Resources", [82, 101, 115, 111, 117, 114, 99, 101, 115]),
  ("PaperHouseModel", 851, "Rotate", [82, 111, 116, 97, 116, 101]),
  ("PaperHouseModel", 654, "%PDF-1.", [37, 80, 68, 70, 45, 49, 46]),
  ("PaperHouseModel", 659, "startxref", [115, 116, 97, 114, 116, 120, 114, 101, 102]),
  ("PaperHouseModel", 459, "null", [110, 117, 108, 108]),
  ("PaperHouseModel", 465, "true", [116, 114, 117, 101]),
  ("PaperHouseModel", 467, "false", [102, 97, 108, 115, 101]),
  ("PaperHouseModel", 1167, "%PDF-1.7\n", [37, 80, 68, 70, 45, 49, 46, 55, 10]),
  ("PaperHouseModel", 1173, "xref\n0 ", [120, 114, 101, 102, 10, 48, 32]),
  ("PaperHouseModel", 1175, "\n0000000000 65535 f \n", [10, 48, 48, 48, 48, 48, 48, 48, 48, 48, 48, 32, 54, 53, 53, 51, 53, 32, 102, 32, 10]),
  ("PaperHouseModel", 1181, "trailer\n<< /Size ", [116, 114, 97, 105, 108, 101, 114, 10, 60, 60, 32, 47, 83, 105, 122, 101, 32]),
  ("PaperHouseModel", 1183, " /Root 1 0 R ", [32, 47, 82, 111, 111, 116, 32, 49, 32, 48, 32, 82, 32]),
  ("PaperHouseModel", 1185, "/Info ", [47, 73, 110, 102, 111, 32]),
  ("PaperHouseModel", 1187, ">>\n", [62, 62, 10])]
def ex_strs : List (String × Nat × Nat × String) := [("PaperHouse$Loader", 82, 0, "%PDF-1."), ("PaperHouse$Loader", 102, 2, "startxref"), ("PaperHouse$Store", 40, 4, "Type Catalog Pages Page Kids Count Parent MediaBox Resources Rotate Contents Font FirstChar LastChar Widths Title Author Subject Keywords Length Filter DecodeParms FlateDecode ASCIIHexDecode Predictor Columns Colors BitsPerComponent XRef W Index Size Prev Encrypt XRefStm Root Info ObjStm N First "), ("PaperHouseModel", 182, 6, "q"), ("PaperHouseModel", 184, 8, "Q"), ("PaperHouseModel", 186, 10, "BT"), ("PaperHouseModel", 188, 12, "ET"), ("PaperHouseModel", 190, 14, "T*"), ("PaperHouseModel", 192, 16, "cm"), ("PaperHouseModel", 194, 18, "Tm"), ("PaperHouseModel", 196, 20, "Td"), ("PaperHouseModel", 198, 22, "TD"), ("PaperHouseModel", 200, 24, "Tc"), ("PaperHouseModel", 202, 26, "Tw"), ("PaperHouseModel", 204, 28, "TL"), ("PaperHouseModel", 206, 30, "Tf"), ("PaperHouseModel", 208, 32, "Tj"), ("PaperHouseModel", 210, 34, "'"), ("PaperHouseModel", 212, 36, "TJ"), ("PaperHouseModel", 214, 38, "m"), ("PaperHouseModel", 216, 40, "l"), ("PaperHouseModel", 218, 42, "c"), ("PaperHouseModel", 220, 44, "v"), ("PaperHouseModel", 222, 46, "y"), ("PaperHouseModel", 224, 48, "re"), ("PaperHouseModel", 226, 50, "k"), ("PaperHouseModel", 228, 52, "K"), ("PaperHouseModel", 230, 54, "h"), ("PaperHouseModel", 232, 56, "S"), ("PaperHouseModel", 234, 58, "s"), ("PaperHouseModel", 236, 60, "f"), ("PaperHouseModel", 238, 62, "F"), ("PaperHouseModel", 240, 64, "f*"), ("PaperHouseModel", 242, 66, "B"), ("PaperHouseModel", 244, 68, "B*"), ("PaperHouseModel", 246, 70, "b"), ("PaperHouseModel", 248, 72, "b*"), ("PaperHouseModel", 250, 74, "n"), ("PaperHouseModel", 252, 76, "W"), ("PaperHouseModel", 254, 78, "W*"), ("PaperHouseModel", 256, 80, "w"), ("PaperHouseModel", 258, 82, "J"), ("PaperHouseModel", 260, 84, "j"), ("PaperHouseModel", 262, 86, "M"), ("PaperHouseModel", 264, 88, "i"), ("PaperHouseModel", 266, 90, "g"), ("PaperHouseModel", 268, 92, "G"), ("PaperHouseModel", 270, 94, "rg"), ("PaperHouseModel", 272, 96, "RG"), ("PaperHouseModel", 274, 98, "d"), ("PaperHouseModel", 873, 100, "Contents"), ("PaperHouseModel", 1051, 102, "Title"), ("PaperHouseModel", 1053, 104, "Author"), ("PaperHouseModel", 1055, 106, "Subject"), ("PaperHouseModel", 1057, 108, "Keywords"), ("PaperHouseModel", 834, 110, "Page"), ("PaperHouseModel", 732, 112, "Type"), ("PaperHouseModel", 836, 114, "Parent"), ("PaperHouseModel", 847, 116, "MediaBox"), ("PaperHouseModel", 849, 118, "Resources"), ("PaperHouseModel", 851, 120, "Rotate"), ("PaperHouseModel", 654, 122, "%PDF-1."), ("PaperHouseModel", 659, 124, "startxref"), ("PaperHouseModel", 459, 126, "null"), ("PaperHouseModel", 465, 128, "true"), ("PaperHouseModel", 467, 130, "false"), ("PaperHouseModel", 1167, 132, "%PDF-1.7\n"), ("PaperHouseModel", 1173, 134, "xref\n0 "), ("PaperHouseModel", 1175, 136, "\n0000000000 65535 f \n"), ("PaperHouseModel", 1181, 138, "trailer\n<< /Size "), ("PaperHouseModel", 1183, 140, " /Root 1 0 R "), ("PaperHouseModel", 1185, 142, "/Info "), ("PaperHouseModel", 1187, 144, ">>\n")]
def ex_stats : List (String × String × String × Value) := [("java/lang/String", "COMPACT_STRINGS", "Z", .int 1), ("jdk/internal/util/Preconditions", "SIOOBE_FORMATTER", "Ljava/util/function/BiFunction;", .retAddr 0)]
/-- what stood there before: string 2 k and its bytes 2 k + 1; the formatter; the script -/
noncomputable def ex_xtf (L : Nat) (xs : Nat → Int32) (i : Nat) : Option ex_C := bif Nat.blt i 146 then (match ex_nth ex_sl (Nat.div i 2) with
  | some q => bif Nat.beq (Nat.mod i 2) 0 then some (.inl (13, [.ref (i + 1), .int 0])) else some (.inr (1, q.2.2.2.length, .inl (fun j => q.2.2.2.getD j 0)))
  | none => none) else bif Nat.beq i 147 then some (.inr (0, L, .inl xs)) else none
noncomputable def ex_g (L : Nat) (xs : Nat → Int32) : ex_G := (148, ex_xtf L xs, ex_strs, ex_stats)
/-- the same without the script -/
noncomputable def ex_xt0 (i : Nat) : Option ex_C := bif Nat.blt i 146 then (match ex_nth ex_sl (Nat.div i 2) with
  | some q => bif Nat.beq (Nat.mod i 2) 0 then some (.inl (13, [.ref (i + 1), .int 0])) else some (.inr (1, q.2.2.2.length, .inl (fun j => q.2.2.2.getD j 0)))
  | none => none) else none
noncomputable def ex_g0 : ex_G := (148, ex_xt0, ex_strs, ex_stats)
def ex_lawcd : List (List (Option ex_I)) := [[some (.new 7, 11, 0, 0, 3), none, none, some (.dup, 0, 0, 0, 4), some (.invokespecial 9, 26, 0, 0, 7), none, none, some (.astore_n 1, 0, 0, 0, 8), some (.new 10, 12, 0, 0, 11), none, none, some (.dup, 0, 0, 0, 12), some (.invokespecial 12, 58, 0, 0, 15), none, none, some (.astore_n 2, 0, 0, 0, 16)],
  [some (.iconst 0, 0, 0, 0, 17), some (.istore_n 3, 0, 0, 0, 18), some (.iload_n 3, 0, 0, 0, 19), some (.aload_n 0, 0, 0, 0, 20), some (.arraylength, 0, 0, 0, 21), some (.bipush 6, 0, 0, 0, 23), none, some (.isub, 0, 0, 0, 24), some (.if_icmp .gt 859, 883, 0, 0, 27), none, none, some (.aload_n 0, 0, 0, 0, 28), some (.iload_n 3, 0, 0, 0, 29), some (.iaload, 0, 0, 0, 30), some (.bipush 31, 0, 0, 0, 32), none],
  [some (.iand, 0, 0, 0, 33), some (.tableswitch 844 0 28 #[131, 194, 217, 230, 253, 266, 289, 312, 325, 348, 397, 420, 453, 476, 489, 522, 545, 578, 621, 644, 677, 710, 733, 756, 769, 782, 795, 818, 831], 0, 0, 0, 164), none, none, none, none, none, none, none, none, none, none, none, none, none, none],
  [none, none, none, none, none, none, none, none, none, none, none, none, none, none, none, none],
  [none, none, none, none, none, none, none, none, none, none, none, none, none, none, none, none],
  [none, none, none, none, none, none, none, none, none, none, none, none, none, none, none, none],
  [none, none, none, none, none, none, none, none, none, none, none, none, none, none, none, none],
  [none, none, none, none, none, none, none, none, none, none, none, none, none, none, none, none],
  [none, none, none, none, none, none, none, none, none, none, none, none, none, none, none, none],
  [none, none, none, none, none, none, none, none, none, none, none, none, none, none, none, none],
  [none, none, none, none, some (.aload_n 1, 0, 0, 0, 165), some (.aload_n 0, 0, 0, 0, 166), some (.iload_n 3, 0, 0, 0, 167), some (.iconst 1, 0, 0, 0, 168), some (.iadd, 0, 0, 0, 169), some (.iaload, 0, 0, 0, 170), some (.aload_n 0, 0, 0, 0, 171), some (.iload_n 3, 0, 0, 0, 172), some (.iconst 2, 0, 0, 0, 173), some (.iadd, 0, 0, 0, 174), some (.iaload, 0, 0, 0, 175), some (.aload_n 0, 0, 0, 0, 176)],
  [some (.iload_n 3, 0, 0, 0, 177), some (.iconst 3, 0, 0, 0, 178), some (.iadd, 0, 0, 0, 179), some (.iaload, 0, 0, 0, 180), some (.aload_n 0, 0, 0, 0, 181), some (.iload_n 3, 0, 0, 0, 182), some (.iconst 4, 0, 0, 0, 183), some (.iadd, 0, 0, 0, 184), some (.iaload, 0, 0, 0, 185), some (.aload_n 0, 0, 0, 0, 186), some (.iload_n 3, 0, 0, 0, 187), some (.iconst 5, 0, 0, 0, 188), some (.iadd, 0, 0, 0, 189), some (.iaload, 0, 0, 0, 190), some (.invokevirtual 13, 34, 5, 11, 193), none],
  [none, some (.aload_n 2, 0, 0, 0, 194), some (.aload_n 0, 0, 0, 0, 195), some (.iload_n 3, 0, 0, 0, 196), some (.iconst 1, 0, 0, 0, 197), some (.iadd, 0, 0, 0, 198), some (.iaload, 0, 0, 0, 199), some (.aload_n 0, 0, 0, 0, 200), some (.iload_n 3, 0, 0, 0, 201), some (.iconst 2, 0, 0, 0, 202), some (.iadd, 0, 0, 0, 203), some (.iaload, 0, 0, 0, 204), some (.aload_n 0, 0, 0, 0, 205), some (.iload_n 3, 0, 0, 0, 206), some (.iconst 3, 0, 0, 0, 207), some (.iadd, 0, 0, 0, 208)],
  [some (.iaload, 0, 0, 0, 209), some (.aload_n 0, 0, 0, 0, 210), some (.iload_n 3, 0, 0, 0, 211), some (.iconst 4, 0, 0, 0, 212), some (.iadd, 0, 0, 0, 213), some (.iaload, 0, 0, 0, 214), some (.aload_n 0, 0, 0, 0, 215), some (.iload_n 3, 0, 0, 0, 216), some (.iconst 5, 0, 0, 0, 217), some (.iadd, 0, 0, 0, 218), some (.iaload, 0, 0, 0, 219), some (.invokevirtual 17, 69, 5, 12, 222), none, none, some (.if_icmp .eq 655, 877, 0, 0, 225), none],
  [none, some (.iconst 0, 0, 0, 0, 226), some (.ireturn, 0, 0, 0, 227), some (.aload_n 1, 0, 0, 0, 228), some (.aload_n 0, 0, 0, 0, 229), some (.iload_n 3, 0, 0, 0, 230), some (.iconst 1, 0, 0, 0, 231), some (.iadd, 0, 0, 0, 232), some (.iaload, 0, 0, 0, 233), some (.invokevirtual 18, 29, 1, 11, 236), none, none, some (.aload_n 2, 0, 0, 0, 237), some (.aload_n 0, 0, 0, 0, 238), some (.iload_n 3, 0, 0, 0, 239), some (.iconst 1, 0, 0, 0, 240)],
  [some (.iadd, 0, 0, 0, 241), some (.iaload, 0, 0, 0, 242), some (.invokevirtual 22, 63, 1, 12, 245), none, none, some (.if_icmp .eq 632, 877, 0, 0, 248), none, none, some (.iconst 0, 0, 0, 0, 249), some (.ireturn, 0, 0, 0, 250), some (.aload_n 1, 0, 0, 0, 251), some (.invokevirtual 23, 43, 0, 11, 254), none, none, some (.aload_n 2, 0, 0, 0, 255), some (.invokevirtual 27, 80, 0, 12, 258)],
  [none, none, some (.if_icmp .eq 619, 877, 0, 0, 261), none, none, some (.iconst 0, 0, 0, 0, 262), some (.ireturn, 0, 0, 0, 263), some (.aload_n 1, 0, 0, 0, 264), some (.aload_n 0, 0, 0, 0, 265), some (.iload_n 3, 0, 0, 0, 266), some (.iconst 1, 0, 0, 0, 267), some (.iadd, 0, 0, 0, 268), some (.iaload, 0, 0, 0, 269), some (.invokevirtual 28, 33, 1, 11, 272), none, none],
  [some (.aload_n 2, 0, 0, 0, 273), some (.aload_n 0, 0, 0, 0, 274), some (.iload_n 3, 0, 0, 0, 275), some (.iconst 1, 0, 0, 0, 276), some (.iadd, 0, 0, 0, 277), some (.iaload, 0, 0, 0, 278), some (.invokevirtual 31, 68, 1, 12, 281), none, none, some (.if_icmp .eq 596, 877, 0, 0, 284), none, none, some (.iconst 0, 0, 0, 0, 285), some (.ireturn, 0, 0, 0, 286), some (.aload_n 1, 0, 0, 0, 287), some (.invokevirtual 32, 46, 0, 11, 290)],
  [none, none, some (.aload_n 2, 0, 0, 0, 291), some (.invokevirtual 35, 83, 0, 12, 294), none, none, some (.if_icmp .eq 583, 877, 0, 0, 297), none, none, some (.iconst 0, 0, 0, 0, 298), some (.ireturn, 0, 0, 0, 299), some (.aload_n 1, 0, 0, 0, 300), some (.aload_n 0, 0, 0, 0, 301), some (.iload_n 3, 0, 0, 0, 302), some (.iconst 1, 0, 0, 0, 303), some (.iadd, 0, 0, 0, 304)],
  [some (.iaload, 0, 0, 0, 305), some (.invokevirtual 36, 36, 1, 11, 308), none, none, some (.aload_n 2, 0, 0, 0, 309), some (.aload_n 0, 0, 0, 0, 310), some (.iload_n 3, 0, 0, 0, 311), some (.iconst 1, 0, 0, 0, 312), some (.iadd, 0, 0, 0, 313), some (.iaload, 0, 0, 0, 314), some (.invokevirtual 39, 71, 1, 12, 317), none, none, some (.if_icmp .eq 560, 877, 0, 0, 320), none, none],
  [some (.iconst 0, 0, 0, 0, 321), some (.ireturn, 0, 0, 0, 322), some (.aload_n 1, 0, 0, 0, 323), some (.aload_n 0, 0, 0, 0, 324), some (.iload_n 3, 0, 0, 0, 325), some (.iconst 1, 0, 0, 0, 326), some (.iadd, 0, 0, 0, 327), some (.iaload, 0, 0, 0, 328), some (.invokevirtual 40, 32, 1, 11, 331), none, none, some (.aload_n 2, 0, 0, 0, 332), some (.aload_n 0, 0, 0, 0, 333), some (.iload_n 3, 0, 0, 0, 334), some (.iconst 1, 0, 0, 0, 335), some (.iadd, 0, 0, 0, 336)],
  [some (.iaload, 0, 0, 0, 337), some (.invokevirtual 43, 66, 1, 12, 340), none, none, some (.if_icmp .eq 537, 877, 0, 0, 343), none, none, some (.iconst 0, 0, 0, 0, 344), some (.ireturn, 0, 0, 0, 345), some (.aload_n 1, 0, 0, 0, 346), some (.invokevirtual 44, 56, 0, 11, 349), none, none, some (.aload_n 2, 0, 0, 0, 350), some (.invokevirtual 47, 94, 0, 12, 353), none],
  [none, some (.if_icmp .eq 524, 877, 0, 0, 356), none, none, some (.iconst 0, 0, 0, 0, 357), some (.ireturn, 0, 0, 0, 358), some (.aload_n 1, 0, 0, 0, 359), some (.aload_n 0, 0, 0, 0, 360), some (.iload_n 3, 0, 0, 0, 361), some (.iconst 1, 0, 0, 0, 362), some (.iadd, 0, 0, 0, 363), some (.iaload, 0, 0, 0, 364), some (.invokevirtual 48, 37, 1, 11, 367), none, none, some (.aload_n 2, 0, 0, 0, 368)],
  [some (.aload_n 0, 0, 0, 0, 369), some (.iload_n 3, 0, 0, 0, 370), some (.iconst 1, 0, 0, 0, 371), some (.iadd, 0, 0, 0, 372), some (.iaload, 0, 0, 0, 373), some (.invokevirtual 51, 73, 1, 12, 376), none, none, some (.if_icmp .eq 501, 877, 0, 0, 379), none, none, some (.iconst 0, 0, 0, 0, 380), some (.ireturn, 0, 0, 0, 381), some (.aload_n 1, 0, 0, 0, 382), some (.aload_n 0, 0, 0, 0, 383), some (.iload_n 3, 0, 0, 0, 384)],
  [some (.iconst 1, 0, 0, 0, 385), some (.iadd, 0, 0, 0, 386), some (.iaload, 0, 0, 0, 387), some (.aload_n 0, 0, 0, 0, 388), some (.iload_n 3, 0, 0, 0, 389), some (.iconst 2, 0, 0, 0, 390), some (.iadd, 0, 0, 0, 391), some (.iaload, 0, 0, 0, 392), some (.ifCond .eq 7, 399, 0, 0, 395), none, none, some (.iconst 1, 0, 0, 0, 396), some (.goto 4, 400, 0, 0, 399), none, none, some (.iconst 0, 0, 0, 0, 400)],
  [some (.invokevirtual 52, 42, 2, 11, 403), none, none, some (.aload_n 2, 0, 0, 0, 404), some (.aload_n 0, 0, 0, 0, 405), some (.iload_n 3, 0, 0, 0, 406), some (.iconst 1, 0, 0, 0, 407), some (.iadd, 0, 0, 0, 408), some (.iaload, 0, 0, 0, 409), some (.aload_n 0, 0, 0, 0, 410), some (.iload_n 3, 0, 0, 0, 411), some (.iconst 2, 0, 0, 0, 412), some (.iadd, 0, 0, 0, 413), some (.iaload, 0, 0, 0, 414), some (.ifCond .eq 7, 421, 0, 0, 417), none],
  [none, some (.iconst 1, 0, 0, 0, 418), some (.goto 4, 422, 0, 0, 421), none, none, some (.iconst 0, 0, 0, 0, 422), some (.invokevirtual 56, 79, 2, 12, 425), none, none, some (.if_icmp .eq 452, 877, 0, 0, 428), none, none, some (.iconst 0, 0, 0, 0, 429), some (.ireturn, 0, 0, 0, 430), some (.aload_n 1, 0, 0, 0, 431), some (.aload_n 0, 0, 0, 0, 432)],
  [some (.iload_n 3, 0, 0, 0, 433), some (.iconst 1, 0, 0, 0, 434), some (.iadd, 0, 0, 0, 435), some (.iaload, 0, 0, 0, 436), some (.invokevirtual 57, 52, 1, 11, 439), none, none, some (.aload_n 2, 0, 0, 0, 440), some (.aload_n 0, 0, 0, 0, 441), some (.iload_n 3, 0, 0, 0, 442), some (.iconst 1, 0, 0, 0, 443), some (.iadd, 0, 0, 0, 444), some (.iaload, 0, 0, 0, 445), some (.invokevirtual 60, 90, 1, 12, 448), none, none],
  [some (.if_icmp .eq 429, 877, 0, 0, 451), none, none, some (.iconst 0, 0, 0, 0, 452), some (.ireturn, 0, 0, 0, 453), some (.aload_n 1, 0, 0, 0, 454), some (.aload_n 0, 0, 0, 0, 455), some (.iload_n 3, 0, 0, 0, 456), some (.iconst 1, 0, 0, 0, 457), some (.iadd, 0, 0, 0, 458), some (.iaload, 0, 0, 0, 459), some (.aload_n 0, 0, 0, 0, 460), some (.iload_n 3, 0, 0, 0, 461), some (.iconst 2, 0, 0, 0, 462), some (.iadd, 0, 0, 0, 463), some (.iaload, 0, 0, 0, 464)],
  [some (.invokevirtual 61, 30, 2, 11, 467), none, none, some (.aload_n 2, 0, 0, 0, 468), some (.aload_n 0, 0, 0, 0, 469), some (.iload_n 3, 0, 0, 0, 470), some (.iconst 1, 0, 0, 0, 471), some (.iadd, 0, 0, 0, 472), some (.iaload, 0, 0, 0, 473), some (.aload_n 0, 0, 0, 0, 474), some (.iload_n 3, 0, 0, 0, 475), some (.iconst 2, 0, 0, 0, 476), some (.iadd, 0, 0, 0, 477), some (.iaload, 0, 0, 0, 478), some (.invokevirtual 65, 64, 2, 12, 481), none],
  [none, some (.if_icmp .eq 396, 877, 0, 0, 484), none, none, some (.iconst 0, 0, 0, 0, 485), some (.ireturn, 0, 0, 0, 486), some (.aload_n 1, 0, 0, 0, 487), some (.aload_n 0, 0, 0, 0, 488), some (.iload_n 3, 0, 0, 0, 489), some (.iconst 1, 0, 0, 0, 490), some (.iadd, 0, 0, 0, 491), some (.iaload, 0, 0, 0, 492), some (.invokevirtual 66, 28, 1, 11, 495), none, none, some (.aload_n 2, 0, 0, 0, 496)],
  [some (.aload_n 0, 0, 0, 0, 497), some (.iload_n 3, 0, 0, 0, 498), some (.iconst 1, 0, 0, 0, 499), some (.iadd, 0, 0, 0, 500), some (.iaload, 0, 0, 0, 501), some (.invokevirtual 69, 62, 1, 12, 504), none, none, some (.if_icmp .eq 373, 877, 0, 0, 507), none, none, some (.iconst 0, 0, 0, 0, 508), some (.ireturn, 0, 0, 0, 509), some (.aload_n 1, 0, 0, 0, 510), some (.invokevirtual 70, 50, 0, 11, 513), none],
  [none, some (.aload_n 2, 0, 0, 0, 514), some (.invokevirtual 73, 87, 0, 12, 517), none, none, some (.if_icmp .eq 360, 877, 0, 0, 520), none, none, some (.iconst 0, 0, 0, 0, 521), some (.ireturn, 0, 0, 0, 522), some (.aload_n 1, 0, 0, 0, 523), some (.aload_n 0, 0, 0, 0, 524), some (.iload_n 3, 0, 0, 0, 525), some (.iconst 1, 0, 0, 0, 526), some (.iadd, 0, 0, 0, 527), some (.iaload, 0, 0, 0, 528)],
  [some (.aload_n 0, 0, 0, 0, 529), some (.iload_n 3, 0, 0, 0, 530), some (.iconst 2, 0, 0, 0, 531), some (.iadd, 0, 0, 0, 532), some (.iaload, 0, 0, 0, 533), some (.invokevirtual 74, 49, 2, 11, 536), none, none, some (.aload_n 2, 0, 0, 0, 537), some (.aload_n 0, 0, 0, 0, 538), some (.iload_n 3, 0, 0, 0, 539), some (.iconst 1, 0, 0, 0, 540), some (.iadd, 0, 0, 0, 541), some (.iaload, 0, 0, 0, 542), some (.aload_n 0, 0, 0, 0, 543), some (.iload_n 3, 0, 0, 0, 544)],
  [some (.iconst 2, 0, 0, 0, 545), some (.iadd, 0, 0, 0, 546), some (.iaload, 0, 0, 0, 547), some (.invokevirtual 77, 86, 2, 12, 550), none, none, some (.if_icmp .eq 327, 877, 0, 0, 553), none, none, some (.iconst 0, 0, 0, 0, 554), some (.ireturn, 0, 0, 0, 555), some (.aload_n 1, 0, 0, 0, 556), some (.aload_n 0, 0, 0, 0, 557), some (.iload_n 3, 0, 0, 0, 558), some (.iconst 1, 0, 0, 0, 559), some (.iadd, 0, 0, 0, 560)],
  [some (.iaload, 0, 0, 0, 561), some (.invokevirtual 78, 51, 1, 11, 564), none, none, some (.aload_n 2, 0, 0, 0, 565), some (.aload_n 0, 0, 0, 0, 566), some (.iload_n 3, 0, 0, 0, 567), some (.iconst 1, 0, 0, 0, 568), some (.iadd, 0, 0, 0, 569), some (.iaload, 0, 0, 0, 570), some (.invokevirtual 81, 89, 1, 12, 573), none, none, some (.if_icmp .eq 304, 877, 0, 0, 576), none, none],
  [some (.iconst 0, 0, 0, 0, 577), some (.ireturn, 0, 0, 0, 578), some (.aload_n 1, 0, 0, 0, 579), some (.aload_n 0, 0, 0, 0, 580), some (.iload_n 3, 0, 0, 0, 581), some (.iconst 1, 0, 0, 0, 582), some (.iadd, 0, 0, 0, 583), some (.iaload, 0, 0, 0, 584), some (.aload_n 0, 0, 0, 0, 585), some (.iload_n 3, 0, 0, 0, 586), some (.iconst 2, 0, 0, 0, 587), some (.iadd, 0, 0, 0, 588), some (.iaload, 0, 0, 0, 589), some (.invokevirtual 82, 35, 2, 11, 592), none, none],
  [some (.aload_n 2, 0, 0, 0, 593), some (.aload_n 0, 0, 0, 0, 594), some (.iload_n 3, 0, 0, 0, 595), some (.iconst 1, 0, 0, 0, 596), some (.iadd, 0, 0, 0, 597), some (.iaload, 0, 0, 0, 598), some (.aload_n 0, 0, 0, 0, 599), some (.iload_n 3, 0, 0, 0, 600), some (.iconst 2, 0, 0, 0, 601), some (.iadd, 0, 0, 0, 602), some (.iaload, 0, 0, 0, 603), some (.invokevirtual 85, 70, 2, 12, 606), none, none, some (.if_icmp .eq 271, 877, 0, 0, 609), none],
  [none, some (.iconst 0, 0, 0, 0, 610), some (.ireturn, 0, 0, 0, 611), some (.aload_n 1, 0, 0, 0, 612), some (.aload_n 0, 0, 0, 0, 613), some (.iload_n 3, 0, 0, 0, 614), some (.iconst 1, 0, 0, 0, 615), some (.iadd, 0, 0, 0, 616), some (.iaload, 0, 0, 0, 617), some (.aload_n 0, 0, 0, 0, 618), some (.iload_n 3, 0, 0, 0, 619), some (.iconst 2, 0, 0, 0, 620), some (.iadd, 0, 0, 0, 621), some (.iaload, 0, 0, 0, 622), some (.aload_n 0, 0, 0, 0, 623), some (.iload_n 3, 0, 0, 0, 624)],
  [some (.iconst 3, 0, 0, 0, 625), some (.iadd, 0, 0, 0, 626), some (.iaload, 0, 0, 0, 627), some (.invokevirtual 86, 39, 3, 11, 630), none, none, some (.aload_n 2, 0, 0, 0, 631), some (.aload_n 0, 0, 0, 0, 632), some (.iload_n 3, 0, 0, 0, 633), some (.iconst 1, 0, 0, 0, 634), some (.iadd, 0, 0, 0, 635), some (.iaload, 0, 0, 0, 636), some (.aload_n 0, 0, 0, 0, 637), some (.iload_n 3, 0, 0, 0, 638), some (.iconst 2, 0, 0, 0, 639), some (.iadd, 0, 0, 0, 640)],
  [some (.iaload, 0, 0, 0, 641), some (.aload_n 0, 0, 0, 0, 642), some (.iload_n 3, 0, 0, 0, 643), some (.iconst 3, 0, 0, 0, 644), some (.iadd, 0, 0, 0, 645), some (.iaload, 0, 0, 0, 646), some (.invokevirtual 90, 75, 3, 12, 649), none, none, some (.if_icmp .eq 228, 877, 0, 0, 652), none, none, some (.iconst 0, 0, 0, 0, 653), some (.ireturn, 0, 0, 0, 654), some (.aload_n 1, 0, 0, 0, 655), some (.aload_n 0, 0, 0, 0, 656)],
  [some (.iload_n 3, 0, 0, 0, 657), some (.iconst 1, 0, 0, 0, 658), some (.iadd, 0, 0, 0, 659), some (.iaload, 0, 0, 0, 660), some (.invokevirtual 91, 31, 1, 11, 663), none, none, some (.aload_n 2, 0, 0, 0, 664), some (.aload_n 0, 0, 0, 0, 665), some (.iload_n 3, 0, 0, 0, 666), some (.iconst 1, 0, 0, 0, 667), some (.iadd, 0, 0, 0, 668), some (.iaload, 0, 0, 0, 669), some (.invokevirtual 94, 65, 1, 12, 672), none, none],
  [some (.if_icmp .eq 205, 877, 0, 0, 675), none, none, some (.iconst 0, 0, 0, 0, 676), some (.ireturn, 0, 0, 0, 677), some (.aload_n 1, 0, 0, 0, 678), some (.aload_n 0, 0, 0, 0, 679), some (.iload_n 3, 0, 0, 0, 680), some (.iconst 1, 0, 0, 0, 681), some (.iadd, 0, 0, 0, 682), some (.iaload, 0, 0, 0, 683), some (.aload_n 0, 0, 0, 0, 684), some (.iload_n 3, 0, 0, 0, 685), some (.iconst 2, 0, 0, 0, 686), some (.iadd, 0, 0, 0, 687), some (.iaload, 0, 0, 0, 688)],
  [some (.invokevirtual 95, 45, 2, 11, 691), none, none, some (.aload_n 2, 0, 0, 0, 692), some (.aload_n 0, 0, 0, 0, 693), some (.iload_n 3, 0, 0, 0, 694), some (.iconst 1, 0, 0, 0, 695), some (.iadd, 0, 0, 0, 696), some (.iaload, 0, 0, 0, 697), some (.aload_n 0, 0, 0, 0, 698), some (.iload_n 3, 0, 0, 0, 699), some (.iconst 2, 0, 0, 0, 700), some (.iadd, 0, 0, 0, 701), some (.iaload, 0, 0, 0, 702), some (.invokevirtual 98, 82, 2, 12, 705), none],
  [none, some (.if_icmp .eq 172, 877, 0, 0, 708), none, none, some (.iconst 0, 0, 0, 0, 709), some (.ireturn, 0, 0, 0, 710), some (.aload_n 1, 0, 0, 0, 711), some (.aload_n 0, 0, 0, 0, 712), some (.iload_n 3, 0, 0, 0, 713), some (.iconst 1, 0, 0, 0, 714), some (.iadd, 0, 0, 0, 715), some (.iaload, 0, 0, 0, 716), some (.aload_n 0, 0, 0, 0, 717), some (.iload_n 3, 0, 0, 0, 718), some (.iconst 2, 0, 0, 0, 719), some (.iadd, 0, 0, 0, 720)],
  [some (.iaload, 0, 0, 0, 721), some (.invokevirtual 99, 55, 2, 11, 724), none, none, some (.aload_n 2, 0, 0, 0, 725), some (.aload_n 0, 0, 0, 0, 726), some (.iload_n 3, 0, 0, 0, 727), some (.iconst 1, 0, 0, 0, 728), some (.iadd, 0, 0, 0, 729), some (.iaload, 0, 0, 0, 730), some (.aload_n 0, 0, 0, 0, 731), some (.iload_n 3, 0, 0, 0, 732), some (.iconst 2, 0, 0, 0, 733), some (.iadd, 0, 0, 0, 734), some (.iaload, 0, 0, 0, 735), some (.invokevirtual 103, 93, 2, 12, 738)],
  [none, none, some (.if_icmp .eq 139, 877, 0, 0, 741), none, none, some (.iconst 0, 0, 0, 0, 742), some (.ireturn, 0, 0, 0, 743), some (.aload_n 1, 0, 0, 0, 744), some (.aload_n 0, 0, 0, 0, 745), some (.iload_n 3, 0, 0, 0, 746), some (.iconst 1, 0, 0, 0, 747), some (.iadd, 0, 0, 0, 748), some (.iaload, 0, 0, 0, 749), some (.invokevirtual 104, 27, 1, 11, 752), none, none],
  [some (.aload_n 2, 0, 0, 0, 753), some (.aload_n 0, 0, 0, 0, 754), some (.iload_n 3, 0, 0, 0, 755), some (.iconst 1, 0, 0, 0, 756), some (.iadd, 0, 0, 0, 757), some (.iaload, 0, 0, 0, 758), some (.invokevirtual 107, 61, 1, 12, 761), none, none, some (.if_icmp .eq 116, 877, 0, 0, 764), none, none, some (.iconst 0, 0, 0, 0, 765), some (.ireturn, 0, 0, 0, 766), some (.aload_n 1, 0, 0, 0, 767), some (.aload_n 0, 0, 0, 0, 768)],
  [some (.iload_n 3, 0, 0, 0, 769), some (.iconst 1, 0, 0, 0, 770), some (.iadd, 0, 0, 0, 771), some (.iaload, 0, 0, 0, 772), some (.invokevirtual 108, 38, 1, 11, 775), none, none, some (.aload_n 2, 0, 0, 0, 776), some (.aload_n 0, 0, 0, 0, 777), some (.iload_n 3, 0, 0, 0, 778), some (.iconst 1, 0, 0, 0, 779), some (.iadd, 0, 0, 0, 780), some (.iaload, 0, 0, 0, 781), some (.invokevirtual 111, 74, 1, 12, 784), none, none],
  [some (.if_icmp .eq 93, 877, 0, 0, 787), none, none, some (.iconst 0, 0, 0, 0, 788), some (.ireturn, 0, 0, 0, 789), some (.aload_n 1, 0, 0, 0, 790), some (.invokevirtual 112, 57, 0, 11, 793), none, none, some (.aload_n 2, 0, 0, 0, 794), some (.invokevirtual 115, 95, 0, 12, 797), none, none, some (.if_icmp .eq 80, 877, 0, 0, 800), none, none],
  [some (.iconst 0, 0, 0, 0, 801), some (.ireturn, 0, 0, 0, 802), some (.aload_n 1, 0, 0, 0, 803), some (.invokevirtual 116, 44, 0, 11, 806), none, none, some (.aload_n 2, 0, 0, 0, 807), some (.invokevirtual 119, 81, 0, 12, 810), none, none, some (.if_icmp .eq 67, 877, 0, 0, 813), none, none, some (.iconst 0, 0, 0, 0, 814), some (.ireturn, 0, 0, 0, 815), some (.aload_n 1, 0, 0, 0, 816)],
  [some (.invokevirtual 120, 48, 0, 11, 819), none, none, some (.aload_n 2, 0, 0, 0, 820), some (.invokevirtual 123, 85, 0, 12, 823), none, none, some (.if_icmp .eq 54, 877, 0, 0, 826), none, none, some (.iconst 0, 0, 0, 0, 827), some (.ireturn, 0, 0, 0, 828), some (.aload_n 1, 0, 0, 0, 829), some (.aload_n 0, 0, 0, 0, 830), some (.iload_n 3, 0, 0, 0, 831), some (.iconst 1, 0, 0, 0, 832)],
  [some (.iadd, 0, 0, 0, 833), some (.iaload, 0, 0, 0, 834), some (.invokevirtual 124, 47, 1, 11, 837), none, none, some (.aload_n 2, 0, 0, 0, 838), some (.aload_n 0, 0, 0, 0, 839), some (.iload_n 3, 0, 0, 0, 840), some (.iconst 1, 0, 0, 0, 841), some (.iadd, 0, 0, 0, 842), some (.iaload, 0, 0, 0, 843), some (.invokevirtual 127, 84, 1, 12, 846), none, none, some (.if_icmp .eq 31, 877, 0, 0, 849), none],
  [none, some (.iconst 0, 0, 0, 0, 850), some (.ireturn, 0, 0, 0, 851), some (.aload_n 1, 0, 0, 0, 852), some (.invokevirtual 128, 53, 0, 11, 855), none, none, some (.aload_n 2, 0, 0, 0, 856), some (.invokevirtual 131, 91, 0, 12, 859), none, none, some (.if_icmp .eq 18, 877, 0, 0, 862), none, none, some (.iconst 0, 0, 0, 0, 863), some (.ireturn, 0, 0, 0, 864)],
  [some (.aload_n 1, 0, 0, 0, 865), some (.invokevirtual 132, 54, 0, 11, 868), none, none, some (.aload_n 2, 0, 0, 0, 869), some (.invokevirtual 135, 92, 0, 12, 872), none, none, some (.if_icmp .eq 5, 877, 0, 0, 875), none, none, some (.iconst 0, 0, 0, 0, 876), some (.ireturn, 0, 0, 0, 877), some (.iinc 3 6, 0, 0, 0, 880), none, none],
  [some (.goto (-862), 18, 0, 0, 883), none, none, some (.iconst 1, 0, 0, 0, 884), some (.ireturn, 0, 0, 0, 885), none, none, none, none, none, none, none, none, none, none, none]]
end
section
/-! ===== the same interpreter, each instruction's road already taken: for runs that the kernel computes ===== -/
abbrev ex_K : Type := ex_G → ex_V → List Value → ex_H → Option ex_O
noncomputable def ex_fl (kd : List (List (Option ex_K))) (pc : Nat) : Option ex_K := match ex_nth kd (Nat.div pc 16) with
  | some r => (match ex_nth r (Nat.mod pc 16) with | some q => q | none => none)
  | none => none
noncomputable def ex_loopF (g : ex_G) (call : Nat → List Value → ex_H → Option (Option Value × ex_H)) (kd : List (List (Option ex_K))) : Nat → ex_F → Option (Option Value × ex_H)
  | 0, _ => none
  | n + 1, f => match ex_fl kd f.1 with
    | none => none
    | some k => match k g f.2.1 f.2.2.1 f.2.2.2 with
      | none => none
      | some (.inl k) => ex_loopF g call kd n k
      | some (.inr (.inl r)) => some r
      | some (.inr (.inr (k, as, b))) => match call k as b.2.2.2 with
        | none => none
        | some (none, h) => ex_loopF g call kd n (b.1, b.2.1, b.2.2.1, h)
        | some (some v, h) => ex_loopF g call kd n (b.1, b.2.1, v :: b.2.2.1, h)
/-- a method's instructions with their roads -/
noncomputable def ex_row (nL : Nat) (rt : Option FieldType) : Nat → List (Option ex_I) → List (Option ex_K)
  | _, [] => []
  | pc, e :: l => (match e with | none => none | some e => some (fun g lv st h => ex_step g nL rt e pc lv st h)) :: ex_row nL rt (pc + 1) l
noncomputable def ex_rows (nL : Nat) (rt : Option FieldType) : Nat → List (List (Option ex_I)) → List (List (Option ex_K))
  | _, [] => []
  | pc, e :: l => ex_row nL rt pc e :: ex_rows nL rt (pc + 16) l
theorem ex_row_at (nL : Nat) (rt : Option FieldType) : ∀ (l : List (Option ex_I)) (pc j : Nat), (ex_row nL rt pc l)[j]? = (l[j]?).map (fun e => match e with | none => none | some e => some (fun g lv st h => ex_step g nL rt e (pc + j) lv st h)) := by
  intro l
  induction l with
  | nil => intro pc j; rfl
  | cons e l ih =>
    intro pc j
    cases j with
    | zero => cases e <;> rfl
    | succ j =>
      show (ex_row nL rt (pc + 1) l)[j]? = (l[j]?).map _
      rw [ih, show pc + 1 + j = pc + (j + 1) by omega]
theorem ex_rows_at (nL : Nat) (rt : Option FieldType) : ∀ (l : List (List (Option ex_I))) (pc j : Nat), (ex_rows nL rt pc l)[j]? = (l[j]?).map (fun e => ex_row nL rt (pc + 16 * j) e) := by
  intro l
  induction l with
  | nil => intro pc j; rfl
  | cons e l ih =>
    intro pc j
    cases j with
    | zero => rfl
    | succ j =>
      show (ex_rows nL rt (pc + 16) l)[j]? = (l[j]?).map _
      rw [ih, show pc + 16 + 16 * j = pc + 16 * (j + 1) by omega]
theorem ex_fl_rows (nL : Nat) (rt : Option FieldType) (cd : List (List (Option ex_I))) (pc : Nat) : ex_fl (ex_rows nL rt 0 cd) pc = (ex_cd cd pc).map (fun e => fun g lv st h => ex_step g nL rt e pc lv st h) := by
  unfold ex_fl ex_cd
  rw [ex_nth_eq, ex_nth_eq, ex_rows_at]
  cases h : cd[Nat.div pc 16]? with
  | none => rfl
  | some r =>
    simp only [Option.map_some]
    rw [ex_nth_eq, ex_nth_eq, ex_row_at]
    cases h2 : r[Nat.mod pc 16]? with
    | none => rfl
    | some q =>
      cases q with
      | none => rfl
      | some e =>
        simp only [Option.map_some]
        rw [show 0 + 16 * (Nat.div pc 16) + Nat.mod pc 16 = pc by have := Nat.div_add_mod pc 16; show 0 + 16 * (pc / 16) + pc % 16 = pc; omega]
theorem ex_loopF_eq (g : ex_G) (call : Nat → List Value → ex_H → Option (Option Value × ex_H)) (nL : Nat) (rt : Option FieldType) (cd : List (List (Option ex_I))) : ∀ (n : Nat) (f : ex_F), ex_loopF g call (ex_rows nL rt 0 cd) n f = ex_loop g call nL rt cd n f := by
  intro n
  induction n with
  | zero => intro f; rfl
  | succ n ih =>
    intro f
    unfold ex_loopF ex_loop
    rw [ex_fl_rows]
    cases he : ex_cd cd f.1 with
    | none => rfl
    | some e =>
      simp only [Option.map_some]
      cases hs : ex_step g nL rt e f.1 f.2.1 f.2.2.1 f.2.2.2 with
      | none => rfl
      | some q =>
        rcases q with k | r | ⟨k, as, b⟩
        · exact ih k
        · rfl
        · simp only
          cases hc : call k as b.2.2.2 with
          | none => rfl
          | some rh =>
            obtain ⟨rv, h⟩ := rh
            cases rv with
            | none => exact ih _
            | some v => exact ih _
/-- a call by the roads -/
noncomputable def ex_runF (g : ex_G) (Q : Nat → Option (Nat × List (List (Option ex_K)))) (N : Nat) : Nat → Nat → List Value → ex_H → Option (Option Value × ex_H)
  | 0, _, _, _ => none
  | d + 1, k, as, h => match Q k with
    | none => none
    | some M => bif Nat.ble (ex_w as) M.1 then ex_loopF g (ex_runF g Q N d) M.2 N (0, lv_args 0 as, [], h) else none
theorem ex_runF_eq (g : ex_G) (P : Nat → Option ex_M) (Q : Nat → Option (Nat × List (List (Option ex_K)))) (N : Nat) (hQ : ∀ k, Q k = (P k).map (fun M => (M.2.2.1, ex_rows M.2.2.1 M.2.2.2.1 0 M.2.2.2.2))) : ∀ (d k : Nat) (as : List Value) (h : ex_H), ex_runF g Q N d k as h = ex_run g P N d k as h := by
  intro d
  induction d with
  | zero => intro k as h; rfl
  | succ d ih =>
    intro k as h
    unfold ex_runF ex_run
    rw [hQ]
    cases hk : P k with
    | none => rfl
    | some M =>
      simp only [Option.map_some]
      rw [show ex_runF g Q N d = ex_run g P N d from funext fun k => funext fun as => funext fun h => ih k as h, ex_loopF_eq]
end
section
/-! ===== the roads of the methods (printed by program) ===== -/
noncomputable def ex_k0 : List (List (Option ex_K)) := [[some (fun _ lv st h => ex_ald 0 1 lv st h), some (fun _ lv st h => ex_callI 1000000 0 4 lv st h), none, none, some (fun _ lv st h => ex_ald 0 5 lv st h), some (fun _ lv st h => ex_ald 1 6 lv st h), some (fun g lv st h => ex_pf g (ex_ft 0) 0 0 9 lv st h), none, none, some (fun _ lv st h => ex_ald 0 10 lv st h), some (fun _ lv st h => ex_ald 2 11 lv st h), some (fun g lv st h => ex_pf g (ex_ft 0) 0 2 14 lv st h), none, none, some (fun _ lv st h => ex_ald 0 15 lv st h), some (fun _ lv st h => ex_ald 1 16 lv st h)],
  [some (fun g lv st h => ex_gf g 8 0 19 lv st h), none, none, some (fun g lv st h => ex_pf g (ex_ft 0) 0 1 22 lv st h), none, none, some (fun _ lv st h => ex_vret (none) st h), none, none, none, none, none, none, none, none, none]]
theorem ex_k0_eq : ex_k0 = ex_rows 3 (none) 0 ex_m0.2.2.2.2 := rfl
noncomputable def ex_k1 : List (List (Option ex_K)) := [[some (fun _ lv st h => ex_ald 0 1 lv st h), some (fun _ lv st h => ex_callI 1000000 0 4 lv st h), none, none, some (fun _ lv st h => ex_ald 0 5 lv st h), some (fun _ lv st h => ex_ald 1 6 lv st h), some (fun g lv st h => ex_pf g (ex_ft 1) 1 0 9 lv st h), none, none, some (fun _ lv st h => ex_ald 0 10 lv st h), some (fun g lv st h => ex_new g (ex_ft 2) 2 13 lv st h), none, none, some (fun _ lv st h => ex_dup 14 lv st h), some (fun _ lv st h => ex_callI 2 0 17 lv st h), none],
  [none, some (fun g lv st h => ex_pf g (ex_ft 1) 1 1 20 lv st h), none, none, some (fun _ lv st h => ex_ald 0 21 lv st h), some (fun _ lv st h => ex_go 24 lv (.int 8000 :: st) h), none, none, some (fun g lv st h => ex_newa g .byte 26 lv st h), none, some (fun g lv st h => ex_pf g (ex_ft 1) 1 2 29 lv st h), none, none, some (fun _ lv st h => ex_ald 0 30 lv st h), some (fun _ lv st h => ex_go 33 lv (.int 8000 :: st) h), none],
  [none, some (fun g lv st h => ex_newa g .byte 35 lv st h), none, some (fun g lv st h => ex_pf g (ex_ft 1) 1 3 38 lv st h), none, none, some (fun _ lv st h => ex_ald 0 39 lv st h), some (fun _ lv st h => ex_go 40 lv (.int 3 :: st) h), some (fun g lv st h => ex_newa g .boolean 42 lv st h), none, some (fun g lv st h => ex_pf g (ex_ft 1) 1 4 45 lv st h), none, none, some (fun _ lv st h => ex_ald 0 46 lv st h), some (fun _ lv st h => ex_go 47 lv (.int 3 :: st) h), some (fun g lv st h => ex_newa g .int 49 lv st h)],
  [none, some (fun g lv st h => ex_pf g (ex_ft 1) 1 5 52 lv st h), none, none, some (fun _ lv st h => ex_ald 0 53 lv st h), some (fun _ lv st h => ex_ald 0 54 lv st h), some (fun g lv st h => ex_gf g 1 2 57 lv st h), none, none, some (fun g lv st h => ex_pf g (ex_ft 1) 1 7 60 lv st h), none, none, some (fun _ lv st h => ex_vret (none) st h), none, none, none]]
theorem ex_k1_eq : ex_k1 = ex_rows 2 (none) 0 ex_m1.2.2.2.2 := rfl
noncomputable def ex_k2 : List (List (Option ex_K)) := [[some (fun _ lv st h => ex_ald 0 1 lv st h), some (fun _ lv st h => ex_callI 1000000 0 4 lv st h), none, none, some (fun _ lv st h => ex_ald 0 5 lv st h), some (fun _ lv st h => ex_go 8 lv (.int 320 :: st) h), none, none, some (fun g lv st h => ex_newa g .int 10 lv st h), none, some (fun g lv st h => ex_pf g (ex_ft 2) 2 0 13 lv st h), none, none, some (fun _ lv st h => ex_ald 0 14 lv st h), some (fun _ lv st h => ex_go 16 lv (.int 16 :: st) h), none],
  [some (fun g lv st h => ex_newa g .int 18 lv st h), none, some (fun g lv st h => ex_pf g (ex_ft 2) 2 1 21 lv st h), none, none, some (fun _ lv st h => ex_ald 0 22 lv st h), some (fun _ lv st h => ex_go 25 lv (.int 288 :: st) h), none, none, some (fun g lv st h => ex_newa g .int 27 lv st h), none, some (fun g lv st h => ex_pf g (ex_ft 2) 2 2 30 lv st h), none, none, some (fun _ lv st h => ex_ald 0 31 lv st h), some (fun _ lv st h => ex_go 33 lv (.int 16 :: st) h)],
  [none, some (fun g lv st h => ex_newa g .int 35 lv st h), none, some (fun g lv st h => ex_pf g (ex_ft 2) 2 3 38 lv st h), none, none, some (fun _ lv st h => ex_ald 0 39 lv st h), some (fun _ lv st h => ex_go 41 lv (.int 32 :: st) h), none, some (fun g lv st h => ex_newa g .int 43 lv st h), none, some (fun g lv st h => ex_pf g (ex_ft 2) 2 4 46 lv st h), none, none, some (fun _ lv st h => ex_ald 0 47 lv st h), some (fun _ lv st h => ex_go 49 lv (.int 16 :: st) h)],
  [none, some (fun g lv st h => ex_newa g .int 51 lv st h), none, some (fun g lv st h => ex_pf g (ex_ft 2) 2 5 54 lv st h), none, none, some (fun _ lv st h => ex_ald 0 55 lv st h), some (fun _ lv st h => ex_go 56 lv (.int 0 :: st) h), some (fun g lv st h => ex_newa g .byte 58 lv st h), none, some (fun g lv st h => ex_pf g (ex_ft 2) 2 6 61 lv st h), none, none, some (fun _ lv st h => ex_ald 0 62 lv st h), some (fun _ lv st h => ex_ald 0 63 lv st h), some (fun g lv st h => ex_gf g 2 6 66 lv st h)],
  [none, none, some (fun g lv st h => ex_pf g (ex_ft 2) 2 9 69 lv st h), none, none, some (fun _ lv st h => ex_vret (none) st h), none, none, none, none, none, none, none, none, none, none]]
theorem ex_k2_eq : ex_k2 = ex_rows 1 (none) 0 ex_m2.2.2.2.2 := rfl
noncomputable def ex_k3 : List (List (Option ex_K)) := [[some (fun _ lv st h => ex_ald 0 1 lv st h), some (fun _ lv st h => ex_callI 1000000 0 4 lv st h), none, none, some (fun _ lv st h => ex_ald 0 5 lv st h), some (fun _ lv st h => ex_ald 1 6 lv st h), some (fun g lv st h => ex_pf g (ex_ft 3) 3 2 9 lv st h), none, none, some (fun _ lv st h => ex_ald 0 10 lv st h), some (fun _ lv st h => ex_ald 2 11 lv st h), some (fun g lv st h => ex_pf g (ex_ft 3) 3 4 14 lv st h), none, none, some (fun _ lv st h => ex_ald 0 15 lv st h), some (fun _ lv st h => ex_ald 3 16 lv st h)],
  [some (fun g lv st h => ex_pf g (ex_ft 3) 3 5 19 lv st h), none, none, some (fun _ lv st h => ex_ald 0 20 lv st h), some (fun _ lv st h => ex_ald 2 21 lv st h), some (fun g lv st h => ex_gf g 8 0 24 lv st h), none, none, some (fun g lv st h => ex_pf g (ex_ft 3) 3 3 27 lv st h), none, none, some (fun _ lv st h => ex_ald 0 28 lv st h), some (fun _ lv st h => ex_go 31 lv (.int 8000 :: st) h), none, none, some (fun g lv st h => ex_newa g .byte 33 lv st h)],
  [none, some (fun g lv st h => ex_pf g (ex_ft 3) 3 0 36 lv st h), none, none, some (fun _ lv st h => ex_ald 0 37 lv st h), some (fun _ lv st h => ex_go 40 lv (.int 200 :: st) h), none, none, some (fun g lv st h => ex_newa g .int 42 lv st h), none, some (fun g lv st h => ex_pf g (ex_ft 3) 3 6 45 lv st h), none, none, some (fun _ lv st h => ex_ald 0 46 lv st h), some (fun _ lv st h => ex_go 49 lv (.int 200 :: st) h), none],
  [none, some (fun g lv st h => ex_newa g .int 51 lv st h), none, some (fun g lv st h => ex_pf g (ex_ft 3) 3 7 54 lv st h), none, none, some (fun _ lv st h => ex_ald 0 55 lv st h), some (fun _ lv st h => ex_go 58 lv (.int 200 :: st) h), none, none, some (fun g lv st h => ex_newa g .int 60 lv st h), none, some (fun g lv st h => ex_pf g (ex_ft 3) 3 8 63 lv st h), none, none, some (fun _ lv st h => ex_vret (none) st h)]]
theorem ex_k3_eq : ex_k3 = ex_rows 4 (none) 0 ex_m3.2.2.2.2 := rfl
noncomputable def ex_k4 : List (List (Option ex_K)) := [[some (fun _ lv st h => ex_ald 0 1 lv st h), some (fun _ lv st h => ex_go 2 lv (.int 0 :: st) h), some (fun _ lv st h => ex_ild 2 3 lv st h), some (fun _ lv st h => ex_ald 1 4 lv st h), some (fun g lv st h => ex_len g 5 lv st h), some (fun _ lv st h => ex_ald 0 6 lv st h), some (fun g lv st h => ex_gf g 3 0 9 lv st h), none, none, some (fun g lv st h => ex_len g 10 lv st h), some (fun g lv st h => ex_callS g 1000002 2 13 lv st h), none, none, some (fun g lv st h => ex_callS g 1000002 2 16 lv st h), none, none],
  [some (fun g lv st h => ex_callS g 1000001 2 19 lv st h), none, none, some (fun g lv st h => ex_pf g (ex_ft 3) 3 1 22 lv st h), none, none, some (fun _ lv st h => ex_ald 1 23 lv st h), some (fun _ lv st h => ex_go 24 lv (.int 0 :: st) h), some (fun _ lv st h => ex_ald 0 25 lv st h), some (fun g lv st h => ex_gf g 3 0 28 lv st h), none, none, some (fun _ lv st h => ex_go 29 lv (.int 0 :: st) h), some (fun _ lv st h => ex_ald 0 30 lv st h), some (fun g lv st h => ex_gf g 3 1 33 lv st h), none],
  [none, some (fun g lv st h => ex_callS g 1000000 5 36 lv st h), none, none, some (fun _ lv st h => ex_ald 0 37 lv st h), some (fun g lv st h => ex_gf g 3 3 40 lv st h), none, none, some (fun g lv st h => ex_callV g 18 0 7 43 lv st h), none, none, some (fun _ lv st h => ex_ald 0 44 lv st h), some (fun g lv st h => ex_gf g 3 4 47 lv st h), none, none, some (fun g lv st h => ex_callV g 20 0 8 50 lv st h)],
  [none, none, some (fun _ lv st h => ex_ald 0 51 lv st h), some (fun _ lv st h => ex_go 52 lv (.int 0 :: st) h), some (fun g lv st h => ex_pf g (ex_ft 3) 3 9 55 lv st h), none, none, some (fun _ lv st h => ex_ald 0 56 lv st h), some (fun g lv st h => ex_gf g 3 2 59 lv st h), none, none, some (fun _ lv st h => ex_go 60 lv (.int 1 :: st) h), some (fun g lv st h => ex_callV g 13 1 5 63 lv st h), none, none, some (fun _ lv st h => ex_ald 0 64 lv st h)],
  [some (fun g lv st h => ex_gf g 3 2 67 lv st h), none, none, some (fun _ lv st h => ex_ald 0 68 lv st h), some (fun g lv st h => ex_gf g 3 0 71 lv st h), none, none, some (fun _ lv st h => ex_go 72 lv (.int 0 :: st) h), some (fun _ lv st h => ex_ald 0 73 lv st h), some (fun g lv st h => ex_gf g 3 1 76 lv st h), none, none, some (fun g lv st h => ex_callV g 12 3 5 79 lv st h), none, none, some (fun _ lv st h => ex_ald 0 80 lv st h)],
  [some (fun _ lv st h => ex_go 82 lv (.ref 0 :: st) h), none, some (fun _ lv st h => ex_go 83 lv (.int 1 :: st) h), some (fun g lv st h => ex_callV g 5 2 3 86 lv st h), none, none, some (fun _ lv st h => ex_if ex_ne0 91 89 lv st h), none, none, some (fun _ lv st h => ex_go 90 lv (.int (-1) :: st) h), some (fun _ lv st h => ex_ret (some (Jvm.ClassFile.FieldType.int)) st h), some (fun _ lv st h => ex_ald 0 92 lv st h), some (fun g lv st h => ex_gf g 3 2 95 lv st h), none, none, some (fun _ lv st h => ex_ald 0 96 lv st h)],
  [some (fun g lv st h => ex_gf g 3 2 99 lv st h), none, none, some (fun g lv st h => ex_gf g 5 4 102 lv st h), none, none, some (fun g lv st h => ex_callV g 9 1 5 105 lv st h), none, none, some (fun _ lv st h => ex_ist 5 3 106 lv st h), some (fun _ lv st h => ex_ild 3 107 lv st h), some (fun _ lv st h => ex_go 109 lv (.int 48 :: st) h), none, some (fun _ lv st h => ex_ic ex_lt 118 112 lv st h), none, none],
  [some (fun _ lv st h => ex_ild 3 113 lv st h), some (fun _ lv st h => ex_go 115 lv (.int 55 :: st) h), none, some (fun _ lv st h => ex_ic ex_le 134 118 lv st h), none, none, some (fun _ lv st h => ex_ald 0 119 lv st h), some (fun g lv st h => ex_gf g 3 2 122 lv st h), none, none, some (fun _ lv st h => ex_go 123 lv (.int 1 :: st) h), some (fun _ lv st h => ex_ald 0 124 lv st h), some (fun g lv st h => ex_gf g 3 2 127 lv st h), none, none, some (fun g lv st h => ex_gf g 5 4 130 lv st h)],
  [none, none, some (fun g lv st h => ex_callV g 11 2 5 133 lv st h), none, none, some (fun _ lv st h => ex_ret (some (Jvm.ClassFile.FieldType.int)) st h), some (fun _ lv st h => ex_ald 0 135 lv st h), none, none, none, some (fun _ lv st h => ex_ist 5 4 140 lv st h), none, some (fun _ lv st h => ex_ild 4 142 lv st h), none, some (fun _ lv st h => ex_if ex_ge0 158 145 lv st h), none],
  [none, some (fun _ lv st h => ex_ald 0 146 lv st h), some (fun g lv st h => ex_gf g 3 2 149 lv st h), none, none, some (fun _ lv st h => ex_go 150 lv (.int 2 :: st) h), some (fun _ lv st h => ex_ald 0 151 lv st h), some (fun g lv st h => ex_gf g 3 1 154 lv st h), none, none, some (fun g lv st h => ex_callV g 11 2 5 157 lv st h), none, none, some (fun _ lv st h => ex_ret (some (Jvm.ClassFile.FieldType.int)) st h), some (fun _ lv st h => ex_ald 0 159 lv st h), some (fun g lv st h => ex_gf g 3 2 162 lv st h)],
  [none, none, some (fun _ lv st h => ex_ild 4 164 lv st h), none, some (fun _ lv st h => ex_go 166 lv (.ref 2 :: st) h), none, some (fun g lv st h => ex_callV g 100 0 13 169 lv st h), none, none, some (fun _ lv st h => ex_ii ex_add 170 lv st h), some (fun g lv st h => ex_pf g (ex_ft 5) 5 4 173 lv st h), none, none, some (fun _ lv st h => ex_ald 0 174 lv st h), none, none],
  [none, some (fun _ lv st h => ex_ret (some (Jvm.ClassFile.FieldType.int)) st h), none, none, none, none, none, none, none, none, none, none, none, none, none, none]]
theorem ex_k4_eq : ex_k4 = ex_rows 5 (some (Jvm.ClassFile.FieldType.int)) 0 ex_m4.2.2.2.2 := rfl
noncomputable def ex_k5 : List (List (Option ex_K)) := [[some (fun _ lv st h => ex_go 1 lv (.int 0 :: st) h), some (fun _ lv st h => ex_ist 4 3 2 lv st h), some (fun _ lv st h => ex_ild 3 3 lv st h), some (fun _ lv st h => ex_ald 1 4 lv st h), some (fun g lv st h => ex_callV g 100 0 13 7 lv st h), none, none, some (fun _ lv st h => ex_ic ex_ge 69 10 lv st h), none, none, some (fun _ lv st h => ex_ald 0 11 lv st h), some (fun g lv st h => ex_gf g 3 2 14 lv st h), none, none, some (fun _ lv st h => ex_ald 0 15 lv st h), some (fun g lv st h => ex_gf g 3 2 18 lv st h)],
  [none, none, some (fun g lv st h => ex_gf g 5 4 21 lv st h), none, none, some (fun g lv st h => ex_callV g 9 1 5 24 lv st h), none, none, some (fun _ lv st h => ex_ald 1 25 lv st h), some (fun _ lv st h => ex_ild 3 26 lv st h), some (fun g lv st h => ex_callV g 96 1 13 29 lv st h), none, none, some (fun _ lv st h => ex_ic ex_eq 50 32 lv st h), none, none],
  [some (fun _ lv st h => ex_ald 0 33 lv st h), some (fun g lv st h => ex_gf g 3 2 36 lv st h), none, none, some (fun _ lv st h => ex_ild 2 37 lv st h), some (fun _ lv st h => ex_ald 0 38 lv st h), some (fun g lv st h => ex_gf g 3 2 41 lv st h), none, none, some (fun g lv st h => ex_gf g 5 4 44 lv st h), none, none, some (fun g lv st h => ex_callV g 11 2 5 47 lv st h), none, none, some (fun _ lv st h => ex_pop 48 lv st h)],
  [some (fun _ lv st h => ex_go 49 lv (.int 0 :: st) h), some (fun _ lv st h => ex_ret (some (Jvm.ClassFile.FieldType.boolean)) st h), some (fun _ lv st h => ex_ald 0 51 lv st h), some (fun g lv st h => ex_gf g 3 2 54 lv st h), none, none, some (fun _ lv st h => ex_dup 55 lv st h), some (fun g lv st h => ex_gf g 5 4 58 lv st h), none, none, some (fun _ lv st h => ex_go 59 lv (.int 1 :: st) h), some (fun _ lv st h => ex_ii ex_add 60 lv st h), some (fun g lv st h => ex_pf g (ex_ft 5) 5 4 63 lv st h), none, none, some (fun _ lv st h => ex_inc 4 3 1 66 lv st h)],
  [none, none, some (fun _ lv st h => ex_go 2 lv st h), none, none, some (fun _ lv st h => ex_go 70 lv (.int 1 :: st) h), some (fun _ lv st h => ex_ret (some (Jvm.ClassFile.FieldType.boolean)) st h), none, none, none, none, none, none, none, none, none]]
theorem ex_k5_eq : ex_k5 = ex_rows 4 (some (Jvm.ClassFile.FieldType.boolean)) 0 ex_m5.2.2.2.2 := rfl
noncomputable def ex_k6 : List (List (Option ex_K)) := [[some (fun _ lv st h => ex_ald 0 1 lv st h), some (fun _ lv st h => ex_callI 1000000 0 4 lv st h), none, none, some (fun _ lv st h => ex_ald 0 5 lv st h), some (fun _ lv st h => ex_ald 1 6 lv st h), some (fun g lv st h => ex_pf g (ex_ft 4) 4 0 9 lv st h), none, none, some (fun _ lv st h => ex_ald 0 10 lv st h), some (fun _ lv st h => ex_ald 2 11 lv st h), some (fun g lv st h => ex_pf g (ex_ft 4) 4 2 14 lv st h), none, none, some (fun _ lv st h => ex_ald 0 15 lv st h), some (fun _ lv st h => ex_ald 1 16 lv st h)],
  [some (fun g lv st h => ex_gf g 8 0 19 lv st h), none, none, some (fun g lv st h => ex_pf g (ex_ft 4) 4 1 22 lv st h), none, none, some (fun _ lv st h => ex_ald 0 23 lv st h), some (fun g lv st h => ex_new g (ex_ft 5) 5 26 lv st h), none, none, some (fun _ lv st h => ex_dup 27 lv st h), some (fun _ lv st h => ex_ald 0 28 lv st h), some (fun g lv st h => ex_gf g 4 1 31 lv st h), none, none, some (fun _ lv st h => ex_callI 8 1 34 lv st h)],
  [none, none, some (fun g lv st h => ex_pf g (ex_ft 4) 4 3 37 lv st h), none, none, some (fun _ lv st h => ex_ald 0 38 lv st h), some (fun _ lv st h => ex_go 40 lv (.int 40000 :: st) h), none, some (fun g lv st h => ex_newa g .byte 42 lv st h), none, some (fun g lv st h => ex_pf g (ex_ft 4) 4 4 45 lv st h), none, none, some (fun _ lv st h => ex_ald 0 46 lv st h), some (fun _ lv st h => ex_go 48 lv (.int 12 :: st) h), none],
  [some (fun g lv st h => ex_newa g .int 50 lv st h), none, some (fun g lv st h => ex_pf g (ex_ft 4) 4 5 53 lv st h), none, none, some (fun _ lv st h => ex_ald 0 54 lv st h), some (fun _ lv st h => ex_go 57 lv (.int 240 :: st) h), none, none, some (fun g lv st h => ex_newa g .int 59 lv st h), none, some (fun g lv st h => ex_pf g (ex_ft 4) 4 6 62 lv st h), none, none, some (fun _ lv st h => ex_ald 0 63 lv st h), some (fun _ lv st h => ex_go 65 lv (.int 6 :: st) h)],
  [none, some (fun g lv st h => ex_newa g .int 67 lv st h), none, some (fun g lv st h => ex_pf g (ex_ft 4) 4 7 70 lv st h), none, none, some (fun _ lv st h => ex_ald 0 71 lv st h), some (fun _ lv st h => ex_go 73 lv (.int 6 :: st) h), none, some (fun g lv st h => ex_newa g .int 75 lv st h), none, some (fun g lv st h => ex_pf g (ex_ft 4) 4 8 78 lv st h), none, none, some (fun _ lv st h => ex_ald 0 79 lv st h), some (fun _ lv st h => ex_go 81 lv (.int 6 :: st) h)],
  [none, some (fun g lv st h => ex_newa g .int 83 lv st h), none, some (fun g lv st h => ex_pf g (ex_ft 4) 4 9 86 lv st h), none, none, some (fun _ lv st h => ex_ald 0 87 lv st h), some (fun _ lv st h => ex_go 89 lv (.int 6 :: st) h), none, some (fun g lv st h => ex_newa g .int 91 lv st h), none, some (fun g lv st h => ex_pf g (ex_ft 4) 4 10 94 lv st h), none, none, some (fun _ lv st h => ex_ald 0 95 lv st h), some (fun _ lv st h => ex_go 98 lv (.int 256 :: st) h)],
  [none, none, some (fun g lv st h => ex_newa g .int 100 lv st h), none, some (fun g lv st h => ex_pf g (ex_ft 4) 4 11 103 lv st h), none, none, some (fun _ lv st h => ex_ald 0 104 lv st h), some (fun _ lv st h => ex_go 106 lv (.int 40 :: st) h), none, some (fun g lv st h => ex_newa g .int 108 lv st h), none, some (fun g lv st h => ex_pf g (ex_ft 4) 4 12 111 lv st h), none, none, some (fun _ lv st h => ex_ald 0 112 lv st h)],
  [some (fun _ lv st h => ex_go 115 lv (.int 7500 :: st) h), none, none, some (fun g lv st h => ex_newa g .int 117 lv st h), none, some (fun g lv st h => ex_pf g (ex_ft 4) 4 13 120 lv st h), none, none, some (fun _ lv st h => ex_vret (none) st h), none, none, none, none, none, none, none]]
theorem ex_k6_eq : ex_k6 = ex_rows 3 (none) 0 ex_m6.2.2.2.2 := rfl
noncomputable def ex_k7 : List (List (Option ex_K)) := [[some (fun _ lv st h => ex_ald 0 1 lv st h), some (fun _ lv st h => ex_go 2 lv (.int 0 :: st) h), some (fun g lv st h => ex_pf g (ex_ft 4) 4 18 5 lv st h), none, none, some (fun _ lv st h => ex_vret (none) st h), none, none, none, none, none, none, none, none, none, none]]
theorem ex_k7_eq : ex_k7 = ex_rows 1 (none) 0 ex_m7.2.2.2.2 := rfl
noncomputable def ex_k8 : List (List (Option ex_K)) := [[some (fun _ lv st h => ex_ald 0 1 lv st h), some (fun _ lv st h => ex_callI 1000000 0 4 lv st h), none, none, some (fun _ lv st h => ex_ald 0 5 lv st h), some (fun _ lv st h => ex_ald 1 6 lv st h), some (fun g lv st h => ex_pf g (ex_ft 5) 5 0 9 lv st h), none, none, some (fun _ lv st h => ex_ald 0 10 lv st h), some (fun _ lv st h => ex_ald 1 11 lv st h), some (fun g lv st h => ex_gf g 7 5 14 lv st h), none, none, some (fun g lv st h => ex_pf g (ex_ft 5) 5 1 17 lv st h), none],
  [none, some (fun _ lv st h => ex_ald 0 18 lv st h), some (fun _ lv st h => ex_go 19 lv (.int 0 :: st) h), some (fun g lv st h => ex_newa g .byte 21 lv st h), none, some (fun g lv st h => ex_pf g (ex_ft 5) 5 2 24 lv st h), none, none, some (fun _ lv st h => ex_vret (none) st h), none, none, none, none, none, none, none]]
theorem ex_k8_eq : ex_k8 = ex_rows 2 (none) 0 ex_m8.2.2.2.2 := rfl
noncomputable def ex_k9 : List (List (Option ex_K)) := [[some (fun _ lv st h => ex_ild 1 1 lv st h), some (fun _ lv st h => ex_ald 0 2 lv st h), some (fun g lv st h => ex_gf g 5 3 5 lv st h), none, none, some (fun _ lv st h => ex_ic ex_lt 38 8 lv st h), none, none, some (fun _ lv st h => ex_ild 1 9 lv st h), some (fun _ lv st h => ex_ald 0 10 lv st h), some (fun g lv st h => ex_gf g 5 5 13 lv st h), none, none, some (fun _ lv st h => ex_ic ex_ge 38 16 lv st h), none, none],
  [some (fun _ lv st h => ex_ild 1 17 lv st h), some (fun _ lv st h => ex_ald 0 18 lv st h), some (fun g lv st h => ex_gf g 5 2 21 lv st h), none, none, some (fun g lv st h => ex_len g 22 lv st h), some (fun _ lv st h => ex_ic ex_ge 38 25 lv st h), none, none, some (fun _ lv st h => ex_ald 0 26 lv st h), some (fun g lv st h => ex_gf g 5 2 29 lv st h), none, none, some (fun _ lv st h => ex_ild 1 30 lv st h), some (fun g lv st h => ex_xld g 1 2 31 lv st h), some (fun _ lv st h => ex_go 34 lv (.int 255 :: st) h)],
  [none, none, some (fun _ lv st h => ex_ii (fun x y => x &&& y) 35 lv st h), some (fun _ lv st h => ex_go 39 lv st h), none, none, some (fun _ lv st h => ex_go 39 lv (.int (-1) :: st) h), some (fun _ lv st h => ex_ret (some (Jvm.ClassFile.FieldType.int)) st h), none, none, none, none, none, none, none, none]]
theorem ex_k9_eq : ex_k9 = ex_rows 2 (some (Jvm.ClassFile.FieldType.int)) 0 ex_m9.2.2.2.2 := rfl
noncomputable def ex_k10 : List (List (Option ex_K)) := [[some (fun _ lv st h => ex_ald 0 1 lv st h), some (fun _ lv st h => ex_ald 0 2 lv st h), some (fun g lv st h => ex_gf g 5 0 5 lv st h), none, none, some (fun g lv st h => ex_gf g 7 6 8 lv st h), none, none, some (fun g lv st h => ex_pf g (ex_ft 5) 5 8 11 lv st h), none, none, some (fun _ lv st h => ex_ald 0 12 lv st h), some (fun _ lv st h => ex_ald 0 13 lv st h), some (fun g lv st h => ex_gf g 5 0 16 lv st h), none, none],
  [some (fun g lv st h => ex_gf g 7 7 19 lv st h), none, none, some (fun g lv st h => ex_pf g (ex_ft 5) 5 9 22 lv st h), none, none, some (fun _ lv st h => ex_vret (none) st h), none, none, none, none, none, none, none, none, none]]
theorem ex_k10_eq : ex_k10 = ex_rows 1 (none) 0 ex_m10.2.2.2.2 := rfl
noncomputable def ex_k11 : List (List (Option ex_K)) := [[some (fun _ lv st h => ex_ald 0 1 lv st h), some (fun g lv st h => ex_gf g 5 6 4 lv st h), none, none, some (fun _ lv st h => ex_if ex_ne0 17 7 lv st h), none, none, some (fun _ lv st h => ex_ald 0 8 lv st h), some (fun _ lv st h => ex_ild 1 9 lv st h), some (fun g lv st h => ex_pf g (ex_ft 5) 5 6 12 lv st h), none, none, some (fun _ lv st h => ex_ald 0 13 lv st h), some (fun _ lv st h => ex_ild 2 14 lv st h), some (fun g lv st h => ex_pf g (ex_ft 5) 5 7 17 lv st h), none],
  [none, some (fun _ lv st h => ex_go 18 lv (.int (-1) :: st) h), some (fun _ lv st h => ex_ret (some (Jvm.ClassFile.FieldType.int)) st h), none, none, none, none, none, none, none, none, none, none, none, none, none]]
theorem ex_k11_eq : ex_k11 = ex_rows 3 (some (Jvm.ClassFile.FieldType.int)) 0 ex_m11.2.2.2.2 := rfl
noncomputable def ex_k12 : List (List (Option ex_K)) := [[some (fun _ lv st h => ex_ald 0 1 lv st h), some (fun _ lv st h => ex_ald 1 2 lv st h), some (fun g lv st h => ex_pf g (ex_ft 5) 5 2 5 lv st h), none, none, some (fun _ lv st h => ex_ald 0 6 lv st h), some (fun _ lv st h => ex_go 7 lv (.int 0 :: st) h), some (fun _ lv st h => ex_ild 3 8 lv st h), some (fun _ lv st h => ex_ald 1 9 lv st h), some (fun g lv st h => ex_len g 10 lv st h), some (fun g lv st h => ex_callS g 1000002 2 13 lv st h), none, none, some (fun g lv st h => ex_callS g 1000001 2 16 lv st h), none, none],
  [some (fun g lv st h => ex_pf g (ex_ft 5) 5 5 19 lv st h), none, none, some (fun _ lv st h => ex_ald 0 20 lv st h), some (fun _ lv st h => ex_go 21 lv (.int 0 :: st) h), some (fun _ lv st h => ex_ild 2 22 lv st h), some (fun _ lv st h => ex_ald 0 23 lv st h), some (fun g lv st h => ex_gf g 5 5 26 lv st h), none, none, some (fun g lv st h => ex_callS g 1000002 2 29 lv st h), none, none, some (fun g lv st h => ex_callS g 1000001 2 32 lv st h), none, none],
  [some (fun g lv st h => ex_pf g (ex_ft 5) 5 3 35 lv st h), none, none, some (fun _ lv st h => ex_ald 0 36 lv st h), some (fun _ lv st h => ex_ald 0 37 lv st h), some (fun g lv st h => ex_gf g 5 3 40 lv st h), none, none, some (fun g lv st h => ex_pf g (ex_ft 5) 5 4 43 lv st h), none, none, some (fun _ lv st h => ex_ald 0 44 lv st h), some (fun _ lv st h => ex_go 45 lv (.int (-1) :: st) h), some (fun g lv st h => ex_pf g (ex_ft 5) 5 11 48 lv st h), none, none],
  [some (fun _ lv st h => ex_vret (none) st h), none, none, none, none, none, none, none, none, none, none, none, none, none, none, none]]
theorem ex_k12_eq : ex_k12 = ex_rows 4 (none) 0 ex_m12.2.2.2.2 := rfl
noncomputable def ex_k13 : List (List (Option ex_K)) := [[some (fun _ lv st h => ex_ald 0 1 lv st h), some (fun _ lv st h => ex_go 2 lv (.int 0 :: st) h), some (fun g lv st h => ex_pf g (ex_ft 5) 5 6 5 lv st h), none, none, some (fun _ lv st h => ex_ald 0 6 lv st h), some (fun _ lv st h => ex_go 7 lv (.int (-1) :: st) h), some (fun g lv st h => ex_pf g (ex_ft 5) 5 7 10 lv st h), none, none, some (fun _ lv st h => ex_ald 0 11 lv st h), some (fun _ lv st h => ex_ild 1 12 lv st h), some (fun g lv st h => ex_pf g (ex_ft 5) 5 10 15 lv st h), none, none, some (fun _ lv st h => ex_ald 0 16 lv st h)],
  [some (fun g lv st h => ex_callV g 10 0 5 19 lv st h), none, none, some (fun _ lv st h => ex_vret (none) st h), none, none, none, none, none, none, none, none, none, none, none, none]]
theorem ex_k13_eq : ex_k13 = ex_rows 2 (none) 0 ex_m13.2.2.2.2 := rfl
noncomputable def ex_k14 : List (List (Option ex_K)) := [[some (fun _ lv st h => ex_ald 0 1 lv st h), some (fun _ lv st h => ex_callI 1000000 0 4 lv st h), none, none, some (fun _ lv st h => ex_ald 0 5 lv st h), some (fun _ lv st h => ex_ald 1 6 lv st h), some (fun g lv st h => ex_pf g (ex_ft 6) 6 0 9 lv st h), none, none, some (fun _ lv st h => ex_ald 0 10 lv st h), some (fun _ lv st h => ex_ald 2 11 lv st h), some (fun g lv st h => ex_pf g (ex_ft 6) 6 2 14 lv st h), none, none, some (fun _ lv st h => ex_ald 0 15 lv st h), some (fun _ lv st h => ex_ald 3 16 lv st h)],
  [some (fun g lv st h => ex_pf g (ex_ft 6) 6 3 19 lv st h), none, none, some (fun _ lv st h => ex_ald 0 20 lv st h), some (fun _ lv st h => ex_ald 2 21 lv st h), some (fun g lv st h => ex_gf g 8 0 24 lv st h), none, none, some (fun g lv st h => ex_pf g (ex_ft 6) 6 1 27 lv st h), none, none, some (fun _ lv st h => ex_ald 0 28 lv st h), some (fun _ lv st h => ex_go 30 lv (.int 10 :: st) h), none, some (fun g lv st h => ex_newa g .int 32 lv st h), none],
  [some (fun g lv st h => ex_pf g (ex_ft 6) 6 4 35 lv st h), none, none, some (fun _ lv st h => ex_ald 0 36 lv st h), some (fun _ lv st h => ex_go 37 lv (.int 3 :: st) h), some (fun g lv st h => ex_newa g .int 39 lv st h), none, some (fun g lv st h => ex_pf g (ex_ft 6) 6 5 42 lv st h), none, none, some (fun _ lv st h => ex_vret (none) st h), none, none, none, none, none]]
theorem ex_k14_eq : ex_k14 = ex_rows 4 (none) 0 ex_m14.2.2.2.2 := rfl
noncomputable def ex_k15 : List (List (Option ex_K)) := [[some (fun _ lv st h => ex_ald 0 1 lv st h), some (fun _ lv st h => ex_go 2 lv (.int 0 :: st) h), some (fun g lv st h => ex_pf g (ex_ft 6) 6 6 5 lv st h), none, none, some (fun _ lv st h => ex_ald 0 6 lv st h), some (fun _ lv st h => ex_go 7 lv (.int (-1) :: st) h), some (fun g lv st h => ex_pf g (ex_ft 6) 6 7 10 lv st h), none, none, some (fun _ lv st h => ex_ald 0 11 lv st h), some (fun _ lv st h => ex_go 12 lv (.int 0 :: st) h), some (fun g lv st h => ex_pf g (ex_ft 6) 6 10 15 lv st h), none, none, some (fun _ lv st h => ex_vret (none) st h)]]
theorem ex_k15_eq : ex_k15 = ex_rows 1 (none) 0 ex_m15.2.2.2.2 := rfl
noncomputable def ex_k16 : List (List (Option ex_K)) := [[some (fun _ lv st h => ex_ald 0 1 lv st h), some (fun _ lv st h => ex_callI 1000000 0 4 lv st h), none, none, some (fun _ lv st h => ex_ald 0 5 lv st h), some (fun _ lv st h => ex_go 8 lv (.int 16564 :: st) h), none, none, some (fun g lv st h => ex_newa g .int 10 lv st h), none, some (fun g lv st h => ex_pf g (ex_ft 7) 7 0 13 lv st h), none, none, some (fun _ lv st h => ex_ald 0 14 lv st h), some (fun _ lv st h => ex_go 17 lv (.int 16564 :: st) h), none],
  [none, some (fun g lv st h => ex_newa g .int 19 lv st h), none, some (fun g lv st h => ex_pf g (ex_ft 7) 7 1 22 lv st h), none, none, some (fun _ lv st h => ex_ald 0 23 lv st h), some (fun _ lv st h => ex_go 26 lv (.int 16564 :: st) h), none, none, some (fun g lv st h => ex_newa g .int 28 lv st h), none, some (fun g lv st h => ex_pf g (ex_ft 7) 7 2 31 lv st h), none, none, some (fun _ lv st h => ex_ald 0 32 lv st h)],
  [some (fun _ lv st h => ex_go 35 lv (.int 16564 :: st) h), none, none, some (fun g lv st h => ex_newa g .int 37 lv st h), none, some (fun g lv st h => ex_pf g (ex_ft 7) 7 3 40 lv st h), none, none, some (fun _ lv st h => ex_ald 0 41 lv st h), some (fun _ lv st h => ex_go 44 lv (.int 16564 :: st) h), none, none, some (fun g lv st h => ex_newa g .int 46 lv st h), none, some (fun g lv st h => ex_pf g (ex_ft 7) 7 4 49 lv st h), none],
  [none, some (fun _ lv st h => ex_ald 0 50 lv st h), some (fun _ lv st h => ex_go 52 lv (.int 108612 :: st) h), none, some (fun g lv st h => ex_newa g .byte 54 lv st h), none, some (fun g lv st h => ex_pf g (ex_ft 7) 7 5 57 lv st h), none, none, some (fun _ lv st h => ex_ald 0 58 lv st h), some (fun _ lv st h => ex_go 61 lv (.int 8512 :: st) h), none, none, some (fun g lv st h => ex_pf g (ex_ft 7) 7 7 64 lv st h), none, none],
  [some (fun _ lv st h => ex_ald 0 65 lv st h), some (fun _ lv st h => ex_go 66 lv (.int 0 :: st) h), some (fun _ lv st h => ex_go 67 lv (.int 0 :: st) h), some (fun _ lv st h => ex_go 68 lv (.int 0 :: st) h), some (fun g lv st h => ex_callV g 17 3 7 71 lv st h), none, none, some (fun _ lv st h => ex_pop 72 lv st h), some (fun _ lv st h => ex_go 73 lv (.int 0 :: st) h), some (fun _ lv st h => ex_ist 4 1 74 lv st h), some (fun _ lv st h => ex_go 75 lv (.int 0 :: st) h), some (fun _ lv st h => ex_ist 4 2 76 lv st h), some (fun _ lv st h => ex_ild 2 77 lv st h), some (fun _ lv st h => ex_go 79 lv (.ref 4 :: st) h), none, some (fun g lv st h => ex_callV g 100 0 13 82 lv st h)],
  [none, none, some (fun _ lv st h => ex_ic ex_ge 133 85 lv st h), none, none, some (fun _ lv st h => ex_ild 2 86 lv st h), some (fun _ lv st h => ex_go 89 lv (.int 512 :: st) h), none, none, some (fun _ lv st h => ex_ic ex_ge 133 92 lv st h), none, none, some (fun _ lv st h => ex_go 94 lv (.ref 4 :: st) h), none, some (fun _ lv st h => ex_ild 2 95 lv st h), some (fun g lv st h => ex_callV g 96 1 13 98 lv st h)],
  [none, none, some (fun _ lv st h => ex_ist 4 3 99 lv st h), some (fun _ lv st h => ex_ald 0 100 lv st h), some (fun g lv st h => ex_gf g 7 5 103 lv st h), none, none, some (fun _ lv st h => ex_ild 2 104 lv st h), some (fun _ lv st h => ex_ild 3 105 lv st h), some (fun _ lv st h => ex_i (fun x => .int x.toInt8.toInt32) 106 lv st h), some (fun g lv st h => ex_xbst g 107 lv st h), some (fun _ lv st h => ex_ild 3 108 lv st h), some (fun _ lv st h => ex_go 110 lv (.int 32 :: st) h), none, some (fun _ lv st h => ex_ic ex_ne 127 113 lv st h), none],
  [none, some (fun _ lv st h => ex_ald 0 114 lv st h), some (fun _ lv st h => ex_go 115 lv (.int 4 :: st) h), some (fun _ lv st h => ex_ild 1 116 lv st h), some (fun _ lv st h => ex_ild 2 117 lv st h), some (fun _ lv st h => ex_ild 1 118 lv st h), some (fun _ lv st h => ex_ii ex_sub 119 lv st h), some (fun g lv st h => ex_callV g 17 3 7 122 lv st h), none, none, some (fun _ lv st h => ex_pop 123 lv st h), some (fun _ lv st h => ex_ild 2 124 lv st h), some (fun _ lv st h => ex_go 125 lv (.int 1 :: st) h), some (fun _ lv st h => ex_ii ex_add 126 lv st h), some (fun _ lv st h => ex_ist 4 1 127 lv st h), some (fun _ lv st h => ex_inc 4 2 1 130 lv st h)],
  [none, none, some (fun _ lv st h => ex_go 76 lv st h), none, none, some (fun _ lv st h => ex_ald 0 134 lv st h), some (fun _ lv st h => ex_ald 0 135 lv st h), some (fun g lv st h => ex_gf g 7 6 138 lv st h), none, none, some (fun g lv st h => ex_pf g (ex_ft 7) 7 8 141 lv st h), none, none, some (fun _ lv st h => ex_vret (none) st h), none, none]]
theorem ex_k16_eq : ex_k16 = ex_rows 4 (none) 0 ex_m16.2.2.2.2 := rfl
noncomputable def ex_k17 : List (List (Option ex_K)) := [[some (fun _ lv st h => ex_ald 0 1 lv st h), some (fun g lv st h => ex_gf g 7 6 4 lv st h), none, none, some (fun _ lv st h => ex_if ex_lt0 19 7 lv st h), none, none, some (fun _ lv st h => ex_ald 0 8 lv st h), some (fun g lv st h => ex_gf g 7 6 11 lv st h), none, none, some (fun _ lv st h => ex_ald 0 12 lv st h), some (fun g lv st h => ex_gf g 7 0 15 lv st h), none, none, some (fun g lv st h => ex_len g 16 lv st h)],
  [some (fun _ lv st h => ex_ic ex_lt 21 19 lv st h), none, none, some (fun _ lv st h => ex_go 20 lv (.int (-1) :: st) h), some (fun _ lv st h => ex_ret (some (Jvm.ClassFile.FieldType.int)) st h), some (fun _ lv st h => ex_ald 0 22 lv st h), some (fun g lv st h => ex_gf g 7 6 25 lv st h), none, none, some (fun _ lv st h => ex_ist 5 4 27 lv st h), none, some (fun _ lv st h => ex_ald 0 28 lv st h), some (fun _ lv st h => ex_dup 29 lv st h), some (fun g lv st h => ex_gf g 7 6 32 lv st h), none, none],
  [some (fun _ lv st h => ex_go 33 lv (.int 1 :: st) h), some (fun _ lv st h => ex_ii ex_add 34 lv st h), some (fun g lv st h => ex_pf g (ex_ft 7) 7 6 37 lv st h), none, none, some (fun _ lv st h => ex_ald 0 38 lv st h), some (fun g lv st h => ex_gf g 7 0 41 lv st h), none, none, some (fun _ lv st h => ex_ild 4 43 lv st h), none, some (fun _ lv st h => ex_ild 1 44 lv st h), some (fun g lv st h => ex_xst g 45 lv st h), some (fun _ lv st h => ex_ald 0 46 lv st h), some (fun g lv st h => ex_gf g 7 1 49 lv st h), none],
  [none, some (fun _ lv st h => ex_ild 4 51 lv st h), none, some (fun _ lv st h => ex_ild 2 52 lv st h), some (fun g lv st h => ex_xst g 53 lv st h), some (fun _ lv st h => ex_ald 0 54 lv st h), some (fun g lv st h => ex_gf g 7 2 57 lv st h), none, none, some (fun _ lv st h => ex_ild 4 59 lv st h), none, some (fun _ lv st h => ex_ild 3 60 lv st h), some (fun g lv st h => ex_xst g 61 lv st h), some (fun _ lv st h => ex_ald 0 62 lv st h), some (fun g lv st h => ex_gf g 7 3 65 lv st h), none],
  [none, some (fun _ lv st h => ex_ild 4 67 lv st h), none, some (fun _ lv st h => ex_go 68 lv (.int (-1) :: st) h), some (fun g lv st h => ex_xst g 69 lv st h), some (fun _ lv st h => ex_ald 0 70 lv st h), some (fun g lv st h => ex_gf g 7 4 73 lv st h), none, none, some (fun _ lv st h => ex_ild 4 75 lv st h), none, some (fun _ lv st h => ex_go 76 lv (.int (-1) :: st) h), some (fun g lv st h => ex_xst g 77 lv st h), some (fun _ lv st h => ex_ild 4 79 lv st h), none, some (fun _ lv st h => ex_ret (some (Jvm.ClassFile.FieldType.int)) st h)]]
theorem ex_k17_eq : ex_k17 = ex_rows 5 (some (Jvm.ClassFile.FieldType.int)) 0 ex_m17.2.2.2.2 := rfl
noncomputable def ex_k18 : List (List (Option ex_K)) := [[some (fun _ lv st h => ex_ald 0 1 lv st h), some (fun _ lv st h => ex_ald 0 2 lv st h), some (fun g lv st h => ex_gf g 7 8 5 lv st h), none, none, some (fun g lv st h => ex_pf g (ex_ft 7) 7 6 8 lv st h), none, none, some (fun _ lv st h => ex_ald 0 9 lv st h), some (fun _ lv st h => ex_go 12 lv (.int 8512 :: st) h), none, none, some (fun g lv st h => ex_pf g (ex_ft 7) 7 7 15 lv st h), none, none, some (fun _ lv st h => ex_vret (none) st h)]]
theorem ex_k18_eq : ex_k18 = ex_rows 1 (none) 0 ex_m18.2.2.2.2 := rfl
noncomputable def ex_k19 : List (List (Option ex_K)) := [[some (fun _ lv st h => ex_ald 0 1 lv st h), some (fun _ lv st h => ex_callI 1000000 0 4 lv st h), none, none, some (fun _ lv st h => ex_ald 0 5 lv st h), some (fun _ lv st h => ex_ald 1 6 lv st h), some (fun g lv st h => ex_pf g (ex_ft 8) 8 0 9 lv st h), none, none, some (fun _ lv st h => ex_ald 0 10 lv st h), some (fun _ lv st h => ex_go 13 lv (.int 200 :: st) h), none, none, some (fun g lv st h => ex_newa g .int 15 lv st h), none, some (fun g lv st h => ex_pf g (ex_ft 8) 8 1 18 lv st h)],
  [none, none, some (fun _ lv st h => ex_ald 0 19 lv st h), some (fun _ lv st h => ex_go 22 lv (.int 200 :: st) h), none, none, some (fun g lv st h => ex_newa g .int 24 lv st h), none, some (fun g lv st h => ex_pf g (ex_ft 8) 8 2 27 lv st h), none, none, some (fun _ lv st h => ex_ald 0 28 lv st h), some (fun _ lv st h => ex_go 31 lv (.int 200 :: st) h), none, none, some (fun g lv st h => ex_newa g .int 33 lv st h)],
  [none, some (fun g lv st h => ex_pf g (ex_ft 8) 8 3 36 lv st h), none, none, some (fun _ lv st h => ex_ald 0 37 lv st h), some (fun _ lv st h => ex_go 40 lv (.int 200 :: st) h), none, none, some (fun g lv st h => ex_newa g .int 42 lv st h), none, some (fun g lv st h => ex_pf g (ex_ft 8) 8 4 45 lv st h), none, none, some (fun _ lv st h => ex_ald 0 46 lv st h), some (fun _ lv st h => ex_go 49 lv (.int 200 :: st) h), none],
  [none, some (fun g lv st h => ex_newa g .int 51 lv st h), none, some (fun g lv st h => ex_pf g (ex_ft 8) 8 5 54 lv st h), none, none, some (fun _ lv st h => ex_ald 0 55 lv st h), some (fun _ lv st h => ex_go 58 lv (.int 200 :: st) h), none, none, some (fun g lv st h => ex_newa g .int 60 lv st h), none, some (fun g lv st h => ex_pf g (ex_ft 8) 8 6 63 lv st h), none, none, some (fun _ lv st h => ex_ald 0 64 lv st h)],
  [some (fun _ lv st h => ex_go 67 lv (.int 200 :: st) h), none, none, some (fun g lv st h => ex_newa g .boolean 69 lv st h), none, some (fun g lv st h => ex_pf g (ex_ft 8) 8 7 72 lv st h), none, none, some (fun _ lv st h => ex_ald 0 73 lv st h), some (fun _ lv st h => ex_go 76 lv (.int 200 :: st) h), none, none, some (fun g lv st h => ex_newa g .boolean 78 lv st h), none, some (fun g lv st h => ex_pf g (ex_ft 8) 8 8 81 lv st h), none],
  [none, some (fun _ lv st h => ex_ald 0 82 lv st h), some (fun _ lv st h => ex_go 84 lv (.int 40000 :: st) h), none, some (fun g lv st h => ex_newa g .byte 86 lv st h), none, some (fun g lv st h => ex_pf g (ex_ft 8) 8 9 89 lv st h), none, none, some (fun _ lv st h => ex_vret (none) st h), none, none, none, none, none, none]]
theorem ex_k19_eq : ex_k19 = ex_rows 2 (none) 0 ex_m19.2.2.2.2 := rfl
noncomputable def ex_k20 : List (List (Option ex_K)) := [[some (fun _ lv st h => ex_go 1 lv (.int 0 :: st) h), some (fun _ lv st h => ex_ist 2 1 2 lv st h), some (fun _ lv st h => ex_ild 1 3 lv st h), some (fun _ lv st h => ex_go 6 lv (.int 200 :: st) h), none, none, some (fun _ lv st h => ex_ic ex_ge 57 9 lv st h), none, none, some (fun _ lv st h => ex_ald 0 10 lv st h), some (fun g lv st h => ex_gf g 8 1 13 lv st h), none, none, some (fun _ lv st h => ex_ild 1 14 lv st h), some (fun _ lv st h => ex_go 15 lv (.int 0 :: st) h), some (fun g lv st h => ex_xst g 16 lv st h)],
  [some (fun _ lv st h => ex_ald 0 17 lv st h), some (fun g lv st h => ex_gf g 8 4 20 lv st h), none, none, some (fun _ lv st h => ex_ild 1 21 lv st h), some (fun _ lv st h => ex_go 22 lv (.int (-1) :: st) h), some (fun g lv st h => ex_xst g 23 lv st h), some (fun _ lv st h => ex_ald 0 24 lv st h), some (fun g lv st h => ex_gf g 8 5 27 lv st h), none, none, some (fun _ lv st h => ex_ild 1 28 lv st h), some (fun _ lv st h => ex_go 29 lv (.int (-1) :: st) h), some (fun g lv st h => ex_xst g 30 lv st h), some (fun _ lv st h => ex_ald 0 31 lv st h), some (fun g lv st h => ex_gf g 8 6 34 lv st h)],
  [none, none, some (fun _ lv st h => ex_ild 1 35 lv st h), some (fun _ lv st h => ex_go 36 lv (.int 0 :: st) h), some (fun g lv st h => ex_xst g 37 lv st h), some (fun _ lv st h => ex_ald 0 38 lv st h), some (fun g lv st h => ex_gf g 8 7 41 lv st h), none, none, some (fun _ lv st h => ex_ild 1 42 lv st h), some (fun _ lv st h => ex_go 43 lv (.int 0 :: st) h), some (fun g lv st h => ex_xbst g 44 lv st h), some (fun _ lv st h => ex_ald 0 45 lv st h), some (fun g lv st h => ex_gf g 8 8 48 lv st h), none, none],
  [some (fun _ lv st h => ex_ild 1 49 lv st h), some (fun _ lv st h => ex_go 50 lv (.int 0 :: st) h), some (fun g lv st h => ex_xbst g 51 lv st h), some (fun _ lv st h => ex_inc 2 1 1 54 lv st h), none, none, some (fun _ lv st h => ex_go 2 lv st h), none, none, some (fun _ lv st h => ex_ald 0 58 lv st h), some (fun g lv st h => ex_gf g 8 1 61 lv st h), none, none, some (fun _ lv st h => ex_go 62 lv (.int 0 :: st) h), some (fun _ lv st h => ex_go 63 lv (.int 1 :: st) h), some (fun g lv st h => ex_xst g 64 lv st h)],
  [some (fun _ lv st h => ex_ald 0 65 lv st h), some (fun _ lv st h => ex_go 66 lv (.int 0 :: st) h), some (fun g lv st h => ex_pf g (ex_ft 8) 8 10 69 lv st h), none, none, some (fun _ lv st h => ex_ald 0 70 lv st h), some (fun _ lv st h => ex_go 73 lv (.int 200 :: st) h), none, none, some (fun g lv st h => ex_pf g (ex_ft 8) 8 11 76 lv st h), none, none, some (fun _ lv st h => ex_ald 0 77 lv st h), some (fun _ lv st h => ex_go 78 lv (.int 0 :: st) h), some (fun g lv st h => ex_pf g (ex_ft 8) 8 13 81 lv st h), none],
  [none, some (fun _ lv st h => ex_ald 0 82 lv st h), some (fun _ lv st h => ex_go 83 lv (.int 0 :: st) h), some (fun g lv st h => ex_pf g (ex_ft 8) 8 14 86 lv st h), none, none, some (fun _ lv st h => ex_vret (none) st h), none, none, none, none, none, none, none, none, none]]
theorem ex_k20_eq : ex_k20 = ex_rows 2 (none) 0 ex_m20.2.2.2.2 := rfl
noncomputable def ex_k21 : List (List (Option ex_K)) := [[some (fun _ lv st h => ex_ald 0 1 lv st h), some (fun _ lv st h => ex_callI 1000000 0 4 lv st h), none, none, some (fun _ lv st h => ex_ald 0 5 lv st h), some (fun _ lv st h => ex_ald 1 6 lv st h), some (fun g lv st h => ex_pf g (ex_ft 9) 9 0 9 lv st h), none, none, some (fun _ lv st h => ex_ald 0 10 lv st h), some (fun _ lv st h => ex_ald 2 11 lv st h), some (fun g lv st h => ex_pf g (ex_ft 9) 9 1 14 lv st h), none, none, some (fun _ lv st h => ex_ald 0 15 lv st h), some (fun _ lv st h => ex_ald 2 16 lv st h)],
  [some (fun g lv st h => ex_gf g 8 0 19 lv st h), none, none, some (fun g lv st h => ex_pf g (ex_ft 9) 9 2 22 lv st h), none, none, some (fun _ lv st h => ex_ald 0 23 lv st h), some (fun _ lv st h => ex_go 25 lv (.int 60 :: st) h), none, some (fun g lv st h => ex_newa g .int 27 lv st h), none, some (fun g lv st h => ex_pf g (ex_ft 9) 9 3 30 lv st h), none, none, some (fun _ lv st h => ex_ald 0 31 lv st h), some (fun _ lv st h => ex_go 34 lv (.int 200 :: st) h)],
  [none, none, some (fun g lv st h => ex_newa g .int 36 lv st h), none, some (fun g lv st h => ex_pf g (ex_ft 9) 9 4 39 lv st h), none, none, some (fun _ lv st h => ex_ald 0 40 lv st h), some (fun _ lv st h => ex_go 43 lv (.int 200 :: st) h), none, none, some (fun g lv st h => ex_newa g .boolean 45 lv st h), none, some (fun g lv st h => ex_pf g (ex_ft 9) 9 5 48 lv st h), none, none],
  [some (fun _ lv st h => ex_ald 0 49 lv st h), some (fun _ lv st h => ex_go 50 lv (.int 0 :: st) h), some (fun g lv st h => ex_newa g .byte 52 lv st h), none, some (fun g lv st h => ex_pf g (ex_ft 9) 9 6 55 lv st h), none, none, some (fun _ lv st h => ex_vret (none) st h), none, none, none, none, none, none, none, none]]
theorem ex_k21_eq : ex_k21 = ex_rows 3 (none) 0 ex_m21.2.2.2.2 := rfl
noncomputable def ex_k22 : List (List (Option ex_K)) := [[some (fun _ lv st h => ex_ald 0 1 lv st h), some (fun _ lv st h => ex_callI 1000000 0 4 lv st h), none, none, some (fun _ lv st h => ex_ald 0 5 lv st h), some (fun _ lv st h => ex_ald 1 6 lv st h), some (fun g lv st h => ex_pf g (ex_ft 10) 10 0 9 lv st h), none, none, some (fun _ lv st h => ex_ald 0 10 lv st h), some (fun _ lv st h => ex_ald 1 11 lv st h), some (fun g lv st h => ex_gf g 8 0 14 lv st h), none, none, some (fun g lv st h => ex_pf g (ex_ft 10) 10 1 17 lv st h), none],
  [none, some (fun _ lv st h => ex_ald 0 18 lv st h), some (fun _ lv st h => ex_go 21 lv (.int 30000 :: st) h), none, none, some (fun g lv st h => ex_newa g .byte 23 lv st h), none, some (fun g lv st h => ex_pf g (ex_ft 10) 10 2 26 lv st h), none, none, some (fun _ lv st h => ex_ald 0 27 lv st h), some (fun _ lv st h => ex_go 30 lv (.int 200 :: st) h), none, none, some (fun g lv st h => ex_newa g .int 32 lv st h), none],
  [some (fun g lv st h => ex_pf g (ex_ft 10) 10 6 35 lv st h), none, none, some (fun _ lv st h => ex_ald 0 36 lv st h), some (fun _ lv st h => ex_go 39 lv (.int 200 :: st) h), none, none, some (fun g lv st h => ex_newa g .int 41 lv st h), none, some (fun g lv st h => ex_pf g (ex_ft 10) 10 7 44 lv st h), none, none, some (fun _ lv st h => ex_ald 0 45 lv st h), some (fun _ lv st h => ex_go 48 lv (.int 200 :: st) h), none, none],
  [some (fun g lv st h => ex_newa g .int 50 lv st h), none, some (fun g lv st h => ex_pf g (ex_ft 10) 10 8 53 lv st h), none, none, some (fun _ lv st h => ex_ald 0 54 lv st h), some (fun _ lv st h => ex_go 57 lv (.int 1400 :: st) h), none, none, some (fun g lv st h => ex_newa g .byte 59 lv st h), none, some (fun g lv st h => ex_pf g (ex_ft 10) 10 10 62 lv st h), none, none, some (fun _ lv st h => ex_ald 0 63 lv st h), some (fun _ lv st h => ex_go 66 lv (.int 9216 :: st) h)],
  [none, none, some (fun g lv st h => ex_newa g .byte 68 lv st h), none, some (fun g lv st h => ex_pf g (ex_ft 10) 10 11 71 lv st h), none, none, some (fun _ lv st h => ex_ald 0 72 lv st h), some (fun _ lv st h => ex_go 75 lv (.int 4096 :: st) h), none, none, some (fun g lv st h => ex_newa g .int 77 lv st h), none, some (fun g lv st h => ex_pf g (ex_ft 10) 10 15 80 lv st h), none, none],
  [some (fun _ lv st h => ex_ald 0 81 lv st h), some (fun _ lv st h => ex_go 84 lv (.int 8000 :: st) h), none, none, some (fun g lv st h => ex_newa g .int 86 lv st h), none, some (fun g lv st h => ex_pf g (ex_ft 10) 10 16 89 lv st h), none, none, some (fun _ lv st h => ex_ald 0 90 lv st h), some (fun g lv st h => ex_gf g 10 15 93 lv st h), none, none, some (fun _ lv st h => ex_go 94 lv (.int (-1) :: st) h), some (fun g lv st h => ex_callS g 102 2 97 lv st h), none],
  [none, some (fun _ lv st h => ex_vret (none) st h), none, none, none, none, none, none, none, none, none, none, none, none, none, none]]
theorem ex_k22_eq : ex_k22 = ex_rows 2 (none) 0 ex_m22.2.2.2.2 := rfl
noncomputable def ex_k23 : List (List (Option ex_K)) := [[some (fun _ lv st h => ex_go 1 lv (.int 1 :: st) h), some (fun _ lv st h => ex_ist 6 3 2 lv st h), some (fun _ lv st h => ex_go 3 lv (.int 0 :: st) h), some (fun _ lv st h => ex_ist 6 4 5 lv st h), none, some (fun _ lv st h => ex_go 6 lv (.int 0 :: st) h), some (fun _ lv st h => ex_ild 1 7 lv st h), some (fun g lv st h => ex_callS g 1000001 2 10 lv st h), none, none, some (fun _ lv st h => ex_ist 6 5 12 lv st h), none, some (fun _ lv st h => ex_ild 5 14 lv st h), none, some (fun _ lv st h => ex_ild 1 15 lv st h), some (fun _ lv st h => ex_ild 2 16 lv st h)],
  [some (fun _ lv st h => ex_ii ex_add 17 lv st h), some (fun _ lv st h => ex_ic ex_ge 56 20 lv st h), none, none, some (fun _ lv st h => ex_ild 5 22 lv st h), none, some (fun _ lv st h => ex_ald 0 23 lv st h), some (fun g lv st h => ex_len g 24 lv st h), some (fun _ lv st h => ex_ic ex_ge 56 27 lv st h), none, none, some (fun _ lv st h => ex_ild 3 28 lv st h), some (fun _ lv st h => ex_ald 0 29 lv st h), some (fun _ lv st h => ex_ild 5 31 lv st h), none, some (fun g lv st h => ex_xld g 1 2 32 lv st h)],
  [some (fun _ lv st h => ex_go 35 lv (.int 255 :: st) h), none, none, some (fun _ lv st h => ex_ii (fun x y => x &&& y) 36 lv st h), some (fun _ lv st h => ex_ii ex_add 37 lv st h), some (fun _ lv st h => ex_go 39 lv (.int 65521 :: st) h), none, some (fun _ lv st h => ex_iid (fun x y => x - x / y * y) 40 lv st h), some (fun _ lv st h => ex_ist 6 3 41 lv st h), some (fun _ lv st h => ex_ild 4 43 lv st h), none, some (fun _ lv st h => ex_ild 3 44 lv st h), some (fun _ lv st h => ex_ii ex_add 45 lv st h), some (fun _ lv st h => ex_go 47 lv (.int 65521 :: st) h), none, some (fun _ lv st h => ex_iid (fun x y => x - x / y * y) 48 lv st h)],
  [some (fun _ lv st h => ex_ist 6 4 50 lv st h), none, some (fun _ lv st h => ex_inc 6 5 1 53 lv st h), none, none, some (fun _ lv st h => ex_go 12 lv st h), none, none, some (fun _ lv st h => ex_ild 4 58 lv st h), none, some (fun _ lv st h => ex_go 60 lv (.int 16 :: st) h), none, some (fun _ lv st h => ex_ii (fun x y => x <<< (y &&& 31)) 61 lv st h), some (fun _ lv st h => ex_ild 3 62 lv st h), some (fun _ lv st h => ex_ii (fun x y => x ||| y) 63 lv st h), some (fun _ lv st h => ex_ret (some (Jvm.ClassFile.FieldType.int)) st h)]]
theorem ex_k23_eq : ex_k23 = ex_rows 6 (some (Jvm.ClassFile.FieldType.int)) 0 ex_m23.2.2.2.2 := rfl
noncomputable def ex_k24 : List (List (Option ex_K)) := [[some (fun _ lv st h => ex_ild 1 1 lv st h), some (fun _ lv st h => ex_if ex_lt0 34 4 lv st h), none, none, some (fun _ lv st h => ex_ild 1 5 lv st h), some (fun _ lv st h => ex_ald 0 6 lv st h), some (fun g lv st h => ex_gf g 10 3 9 lv st h), none, none, some (fun _ lv st h => ex_ic ex_ge 34 12 lv st h), none, none, some (fun _ lv st h => ex_ild 1 13 lv st h), some (fun _ lv st h => ex_ald 0 14 lv st h), some (fun g lv st h => ex_gf g 10 2 17 lv st h), none],
  [none, some (fun g lv st h => ex_len g 18 lv st h), some (fun _ lv st h => ex_ic ex_ge 34 21 lv st h), none, none, some (fun _ lv st h => ex_ald 0 22 lv st h), some (fun g lv st h => ex_gf g 10 2 25 lv st h), none, none, some (fun _ lv st h => ex_ild 1 26 lv st h), some (fun g lv st h => ex_xld g 1 2 27 lv st h), some (fun _ lv st h => ex_go 30 lv (.int 255 :: st) h), none, none, some (fun _ lv st h => ex_ii (fun x y => x &&& y) 31 lv st h), some (fun _ lv st h => ex_go 35 lv st h)],
  [none, none, some (fun _ lv st h => ex_go 35 lv (.int (-1) :: st) h), some (fun _ lv st h => ex_ret (some (Jvm.ClassFile.FieldType.int)) st h), none, none, none, none, none, none, none, none, none, none, none, none]]
theorem ex_k24_eq : ex_k24 = ex_rows 2 (some (Jvm.ClassFile.FieldType.int)) 0 ex_m24.2.2.2.2 := rfl
noncomputable def ex_k25 : List (List (Option ex_K)) := [[some (fun _ lv st h => ex_ald 0 1 lv st h), some (fun _ lv st h => ex_go 2 lv (.int 0 :: st) h), some (fun g lv st h => ex_pf g (ex_ft 10) 10 3 5 lv st h), none, none, some (fun _ lv st h => ex_ald 0 6 lv st h), some (fun _ lv st h => ex_go 7 lv (.int 0 :: st) h), some (fun g lv st h => ex_pf g (ex_ft 10) 10 4 10 lv st h), none, none, some (fun _ lv st h => ex_vret (none) st h), none, none, none, none, none]]
theorem ex_k25_eq : ex_k25 = ex_rows 1 (none) 0 ex_m25.2.2.2.2 := rfl
noncomputable def ex_k26 : List (List (Option ex_K)) := [[some (fun _ lv st h => ex_ald 0 1 lv st h), some (fun _ lv st h => ex_callI 1000000 0 4 lv st h), none, none, some (fun _ lv st h => ex_ald 0 5 lv st h), some (fun _ lv st h => ex_go 8 lv (.int 8000 :: st) h), none, none, some (fun g lv st h => ex_newa g .byte 10 lv st h), none, some (fun g lv st h => ex_pf g (ex_ft 11) 11 0 13 lv st h), none, none, some (fun _ lv st h => ex_ald 0 14 lv st h), some (fun g lv st h => ex_new g (ex_ft 7) 7 17 lv st h), none],
  [none, some (fun _ lv st h => ex_dup 18 lv st h), some (fun _ lv st h => ex_callI 16 0 21 lv st h), none, none, some (fun g lv st h => ex_pf g (ex_ft 11) 11 2 24 lv st h), none, none, some (fun _ lv st h => ex_ald 0 25 lv st h), some (fun g lv st h => ex_new g (ex_ft 8) 8 28 lv st h), none, none, some (fun _ lv st h => ex_dup 29 lv st h), some (fun _ lv st h => ex_ald 0 30 lv st h), some (fun g lv st h => ex_gf g 11 2 33 lv st h), none],
  [none, some (fun _ lv st h => ex_callI 19 1 36 lv st h), none, none, some (fun g lv st h => ex_pf g (ex_ft 11) 11 3 39 lv st h), none, none, some (fun _ lv st h => ex_ald 0 40 lv st h), some (fun g lv st h => ex_new g (ex_ft 5) 5 43 lv st h), none, none, some (fun _ lv st h => ex_dup 44 lv st h), some (fun _ lv st h => ex_ald 0 45 lv st h), some (fun g lv st h => ex_gf g 11 2 48 lv st h), none, none],
  [some (fun _ lv st h => ex_callI 8 1 51 lv st h), none, none, some (fun g lv st h => ex_pf g (ex_ft 11) 11 4 54 lv st h), none, none, some (fun g lv st h => ex_new g (ex_ft 1) 1 57 lv st h), none, none, some (fun _ lv st h => ex_dup 58 lv st h), some (fun _ lv st h => ex_ald 0 59 lv st h), some (fun g lv st h => ex_gf g 11 2 62 lv st h), none, none, some (fun _ lv st h => ex_callI 1 1 65 lv st h), none],
  [none, some (fun _ lv st h => ex_ast 2 1 66 lv st h), some (fun _ lv st h => ex_ald 0 67 lv st h), some (fun g lv st h => ex_new g (ex_ft 6) 6 70 lv st h), none, none, some (fun _ lv st h => ex_dup 71 lv st h), some (fun _ lv st h => ex_ald 0 72 lv st h), some (fun g lv st h => ex_gf g 11 4 75 lv st h), none, none, some (fun _ lv st h => ex_ald 0 76 lv st h), some (fun g lv st h => ex_gf g 11 3 79 lv st h), none, none, some (fun _ lv st h => ex_ald 1 80 lv st h)],
  [some (fun _ lv st h => ex_callI 14 3 83 lv st h), none, none, some (fun g lv st h => ex_pf g (ex_ft 11) 11 5 86 lv st h), none, none, some (fun _ lv st h => ex_ald 0 87 lv st h), some (fun g lv st h => ex_new g (ex_ft 3) 3 90 lv st h), none, none, some (fun _ lv st h => ex_dup 91 lv st h), some (fun _ lv st h => ex_ald 0 92 lv st h), some (fun g lv st h => ex_gf g 11 4 95 lv st h), none, none, some (fun _ lv st h => ex_ald 0 96 lv st h)],
  [some (fun g lv st h => ex_gf g 11 3 99 lv st h), none, none, some (fun _ lv st h => ex_ald 1 100 lv st h), some (fun _ lv st h => ex_callI 3 3 103 lv st h), none, none, some (fun g lv st h => ex_pf g (ex_ft 11) 11 6 106 lv st h), none, none, some (fun _ lv st h => ex_ald 0 107 lv st h), some (fun g lv st h => ex_new g (ex_ft 9) 9 110 lv st h), none, none, some (fun _ lv st h => ex_dup 111 lv st h), some (fun _ lv st h => ex_ald 0 112 lv st h)],
  [some (fun g lv st h => ex_gf g 11 4 115 lv st h), none, none, some (fun _ lv st h => ex_ald 0 116 lv st h), some (fun g lv st h => ex_gf g 11 3 119 lv st h), none, none, some (fun _ lv st h => ex_callI 21 2 122 lv st h), none, none, some (fun g lv st h => ex_pf g (ex_ft 11) 11 7 125 lv st h), none, none, some (fun _ lv st h => ex_ald 0 126 lv st h), some (fun g lv st h => ex_new g (ex_ft 4) 4 129 lv st h), none],
  [none, some (fun _ lv st h => ex_dup 130 lv st h), some (fun _ lv st h => ex_ald 0 131 lv st h), some (fun g lv st h => ex_gf g 11 3 134 lv st h), none, none, some (fun _ lv st h => ex_ald 0 135 lv st h), some (fun g lv st h => ex_gf g 11 7 138 lv st h), none, none, some (fun _ lv st h => ex_callI 6 2 141 lv st h), none, none, some (fun g lv st h => ex_pf g (ex_ft 11) 11 8 144 lv st h), none, none],
  [some (fun _ lv st h => ex_ald 0 145 lv st h), some (fun g lv st h => ex_new g (ex_ft 0) 0 148 lv st h), none, none, some (fun _ lv st h => ex_dup 149 lv st h), some (fun _ lv st h => ex_ald 0 150 lv st h), some (fun g lv st h => ex_gf g 11 3 153 lv st h), none, none, some (fun _ lv st h => ex_ald 0 154 lv st h), some (fun g lv st h => ex_gf g 11 7 157 lv st h), none, none, some (fun _ lv st h => ex_callI 0 2 160 lv st h), none, none],
  [some (fun g lv st h => ex_pf g (ex_ft 11) 11 9 163 lv st h), none, none, some (fun _ lv st h => ex_ald 0 164 lv st h), some (fun g lv st h => ex_new g (ex_ft 10) 10 167 lv st h), none, none, some (fun _ lv st h => ex_dup 168 lv st h), some (fun _ lv st h => ex_ald 0 169 lv st h), some (fun g lv st h => ex_gf g 11 3 172 lv st h), none, none, some (fun _ lv st h => ex_callI 22 1 175 lv st h), none, none, some (fun g lv st h => ex_pf g (ex_ft 11) 11 10 178 lv st h)],
  [none, none, some (fun _ lv st h => ex_ald 0 179 lv st h), some (fun _ lv st h => ex_go 181 lv (.int 25 :: st) h), none, some (fun g lv st h => ex_newa g .int 183 lv st h), none, some (fun g lv st h => ex_pf g (ex_ft 11) 11 11 186 lv st h), none, none, some (fun _ lv st h => ex_ald 0 187 lv st h), some (fun _ lv st h => ex_go 188 lv (.int (-1) :: st) h), some (fun g lv st h => ex_pf g (ex_ft 11) 11 12 191 lv st h), none, none, some (fun _ lv st h => ex_ald 0 192 lv st h)],
  [some (fun _ lv st h => ex_go 193 lv (.int (-1) :: st) h), some (fun g lv st h => ex_pf g (ex_ft 11) 11 16 196 lv st h), none, none, some (fun _ lv st h => ex_ald 0 197 lv st h), some (fun _ lv st h => ex_go 198 lv (.int (-1) :: st) h), some (fun g lv st h => ex_pf g (ex_ft 11) 11 18 201 lv st h), none, none, some (fun _ lv st h => ex_vret (none) st h), none, none, none, none, none, none]]
theorem ex_k26_eq : ex_k26 = ex_rows 2 (none) 0 ex_m26.2.2.2.2 := rfl
noncomputable def ex_k27 : List (List (Option ex_K)) := [[some (fun _ lv st h => ex_ald 0 1 lv st h), some (fun g lv st h => ex_gf g 11 1 4 lv st h), none, none, some (fun _ lv st h => ex_ist 3 2 5 lv st h), some (fun _ lv st h => ex_ald 0 6 lv st h), some (fun _ lv st h => ex_go 7 lv (.int 0 :: st) h), some (fun g lv st h => ex_pf g (ex_ft 11) 11 1 10 lv st h), none, none, some (fun _ lv st h => ex_ald 0 11 lv st h), some (fun g lv st h => ex_gf g 11 14 14 lv st h), none, none, some (fun _ lv st h => ex_if ex_eq0 37 17 lv st h), none],
  [none, some (fun _ lv st h => ex_ald 0 18 lv st h), some (fun _ lv st h => ex_ald 0 19 lv st h), some (fun g lv st h => ex_gf g 11 9 22 lv st h), none, none, some (fun _ lv st h => ex_ild 1 23 lv st h), some (fun _ lv st h => ex_ald 0 24 lv st h), some (fun g lv st h => ex_gf g 11 0 27 lv st h), none, none, some (fun _ lv st h => ex_ild 2 28 lv st h), none, none, none, none],
  [none, none, some (fun _ lv st h => ex_go 38 lv st h), none, none, some (fun _ lv st h => ex_go 38 lv (.int (-1) :: st) h), some (fun _ lv st h => ex_ret (some (Jvm.ClassFile.FieldType.int)) st h), none, none, none, none, none, none, none, none, none]]
theorem ex_k27_eq : ex_k27 = ex_rows 3 (some (Jvm.ClassFile.FieldType.int)) 0 ex_m27.2.2.2.2 := rfl
noncomputable def ex_k28 : List (List (Option ex_K)) := [[some (fun _ lv st h => ex_ald 0 1 lv st h), some (fun g lv st h => ex_gf g 11 14 4 lv st h), none, none, some (fun _ lv st h => ex_if ex_ne0 9 7 lv st h), none, none, some (fun _ lv st h => ex_go 8 lv (.int (-1) :: st) h), some (fun _ lv st h => ex_ret (some (Jvm.ClassFile.FieldType.int)) st h), some (fun _ lv st h => ex_ild 1 10 lv st h), some (fun _ lv st h => ex_tsw 106 0 6 #[42, 50, 58, 66, 74, 90, 98] 10 lv st h), none, none, none, none, none],
  [none, none, none, none, none, none, none, none, none, none, none, none, none, none, none, none],
  [none, none, none, none, none, none, none, none, none, none, none, none, none, none, none, none],
  [none, none, none, none, some (fun _ lv st h => ex_ald 0 53 lv st h), some (fun g lv st h => ex_gf g 11 3 56 lv st h), none, none, some (fun g lv st h => ex_gf g 8 11 59 lv st h), none, none, some (fun _ lv st h => ex_ret (some (Jvm.ClassFile.FieldType.int)) st h), some (fun _ lv st h => ex_ald 0 61 lv st h), some (fun g lv st h => ex_gf g 11 3 64 lv st h), none, none],
  [some (fun g lv st h => ex_gf g 8 13 67 lv st h), none, none, some (fun _ lv st h => ex_ret (some (Jvm.ClassFile.FieldType.int)) st h), some (fun _ lv st h => ex_ald 0 69 lv st h), some (fun g lv st h => ex_gf g 11 3 72 lv st h), none, none, some (fun g lv st h => ex_gf g 8 14 75 lv st h), none, none, some (fun _ lv st h => ex_ret (some (Jvm.ClassFile.FieldType.int)) st h), some (fun _ lv st h => ex_ald 0 77 lv st h), some (fun g lv st h => ex_gf g 11 5 80 lv st h), none, none],
  [some (fun g lv st h => ex_gf g 6 6 83 lv st h), none, none, some (fun _ lv st h => ex_ret (some (Jvm.ClassFile.FieldType.int)) st h), some (fun _ lv st h => ex_ald 0 85 lv st h), some (fun g lv st h => ex_gf g 11 5 88 lv st h), none, none, some (fun g lv st h => ex_gf g 6 10 91 lv st h), none, none, some (fun _ lv st h => ex_if ex_eq0 98 94 lv st h), none, none, some (fun _ lv st h => ex_go 95 lv (.int 1 :: st) h), some (fun _ lv st h => ex_go 99 lv st h)],
  [none, none, some (fun _ lv st h => ex_go 99 lv (.int 0 :: st) h), some (fun _ lv st h => ex_ret (some (Jvm.ClassFile.FieldType.int)) st h), some (fun _ lv st h => ex_ald 0 101 lv st h), some (fun g lv st h => ex_gf g 11 5 104 lv st h), none, none, none, none, none, some (fun _ lv st h => ex_ret (some (Jvm.ClassFile.FieldType.int)) st h), some (fun _ lv st h => ex_ald 0 109 lv st h), some (fun g lv st h => ex_gf g 11 3 112 lv st h), none, none],
  [none, none, none, some (fun _ lv st h => ex_ret (some (Jvm.ClassFile.FieldType.int)) st h), some (fun _ lv st h => ex_go 117 lv (.int (-1) :: st) h), some (fun _ lv st h => ex_ret (some (Jvm.ClassFile.FieldType.int)) st h), none, none, none, none, none, none, none, none, none, none]]
theorem ex_k28_eq : ex_k28 = ex_rows 2 (some (Jvm.ClassFile.FieldType.int)) 0 ex_m28.2.2.2.2 := rfl
noncomputable def ex_k29 : List (List (Option ex_K)) := [[some (fun _ lv st h => ex_ild 1 1 lv st h), some (fun _ lv st h => ex_if ex_lt0 12 4 lv st h), none, none, some (fun _ lv st h => ex_ild 1 5 lv st h), some (fun _ lv st h => ex_ald 0 6 lv st h), some (fun g lv st h => ex_gf g 11 1 9 lv st h), none, none, some (fun _ lv st h => ex_ic ex_le 14 12 lv st h), none, none, some (fun _ lv st h => ex_go 13 lv (.int (-1) :: st) h), some (fun _ lv st h => ex_ret (some (Jvm.ClassFile.FieldType.int)) st h), some (fun _ lv st h => ex_ald 0 15 lv st h), some (fun g lv st h => ex_gf g 11 1 18 lv st h)],
  [none, none, some (fun _ lv st h => ex_ild 1 19 lv st h), some (fun _ lv st h => ex_ii ex_sub 20 lv st h), some (fun _ lv st h => ex_ist 3 2 21 lv st h), some (fun _ lv st h => ex_ald 0 22 lv st h), some (fun _ lv st h => ex_ild 1 23 lv st h), some (fun g lv st h => ex_pf g (ex_ft 11) 11 1 26 lv st h), none, none, some (fun _ lv st h => ex_ild 2 27 lv st h), some (fun _ lv st h => ex_ret (some (Jvm.ClassFile.FieldType.int)) st h), none, none, none, none]]
theorem ex_k29_eq : ex_k29 = ex_rows 3 (some (Jvm.ClassFile.FieldType.int)) 0 ex_m29.2.2.2.2 := rfl
noncomputable def ex_k30 : List (List (Option ex_K)) := [[some (fun _ lv st h => ex_ald 0 1 lv st h), some (fun g lv st h => ex_gf g 11 14 4 lv st h), none, none, some (fun _ lv st h => ex_if ex_eq0 19 7 lv st h), none, none, some (fun _ lv st h => ex_ald 0 8 lv st h), some (fun g lv st h => ex_gf g 11 3 11 lv st h), none, none, some (fun _ lv st h => ex_ild 1 12 lv st h), some (fun _ lv st h => ex_ild 2 13 lv st h), none, none, none],
  [some (fun _ lv st h => ex_go 20 lv st h), none, none, some (fun _ lv st h => ex_go 20 lv (.int (-1) :: st) h), some (fun _ lv st h => ex_ret (some (Jvm.ClassFile.FieldType.int)) st h), none, none, none, none, none, none, none, none, none, none, none]]
theorem ex_k30_eq : ex_k30 = ex_rows 3 (some (Jvm.ClassFile.FieldType.int)) 0 ex_m30.2.2.2.2 := rfl
noncomputable def ex_k31 : List (List (Option ex_K)) := [[some (fun _ lv st h => ex_ald 0 1 lv st h), some (fun g lv st h => ex_gf g 11 14 4 lv st h), none, none, some (fun _ lv st h => ex_if ex_eq0 22 7 lv st h), none, none, some (fun _ lv st h => ex_ald 0 8 lv st h), some (fun _ lv st h => ex_ald 0 9 lv st h), some (fun g lv st h => ex_gf g 11 9 12 lv st h), none, none, some (fun _ lv st h => ex_ild 1 13 lv st h), none, none, none],
  [none, none, none, some (fun _ lv st h => ex_go 23 lv st h), none, none, some (fun _ lv st h => ex_go 23 lv (.int (-1) :: st) h), some (fun _ lv st h => ex_ret (some (Jvm.ClassFile.FieldType.int)) st h), none, none, none, none, none, none, none, none]]
theorem ex_k31_eq : ex_k31 = ex_rows 2 (some (Jvm.ClassFile.FieldType.int)) 0 ex_m31.2.2.2.2 := rfl
noncomputable def ex_k32 : List (List (Option ex_K)) := [[some (fun _ lv st h => ex_ald 0 1 lv st h), some (fun g lv st h => ex_callV g 40 0 11 4 lv st h), none, none, some (fun _ lv st h => ex_if ex_ne0 16 7 lv st h), none, none, some (fun _ lv st h => ex_ald 0 8 lv st h), some (fun g lv st h => ex_gf g 11 12 11 lv st h), none, none, some (fun _ lv st h => ex_go 13 lv (.int 24 :: st) h), none, some (fun _ lv st h => ex_ic ex_lt 18 16 lv st h), none, none],
  [some (fun _ lv st h => ex_go 17 lv (.int (-1) :: st) h), some (fun _ lv st h => ex_ret (some (Jvm.ClassFile.FieldType.int)) st h), some (fun _ lv st h => ex_ald 0 19 lv st h), some (fun g lv st h => ex_gf g 11 2 22 lv st h), none, none, some (fun _ lv st h => ex_ald 0 23 lv st h), some (fun g lv st h => ex_gf g 11 11 26 lv st h), none, none, some (fun _ lv st h => ex_ald 0 27 lv st h), some (fun g lv st h => ex_gf g 11 12 30 lv st h), none, none, some (fun g lv st h => ex_xld g 0 0 31 lv st h), some (fun _ lv st h => ex_ild 1 32 lv st h)],
  [none, none, none, some (fun _ lv st h => ex_ist 3 2 36 lv st h), some (fun _ lv st h => ex_ild 2 37 lv st h), some (fun _ lv st h => ex_if ex_ge0 42 40 lv st h), none, none, some (fun _ lv st h => ex_go 41 lv (.int (-1) :: st) h), some (fun _ lv st h => ex_ret (some (Jvm.ClassFile.FieldType.int)) st h), some (fun _ lv st h => ex_ald 0 43 lv st h), some (fun _ lv st h => ex_dup 44 lv st h), some (fun g lv st h => ex_gf g 11 12 47 lv st h), none, none, some (fun _ lv st h => ex_go 48 lv (.int 1 :: st) h)],
  [some (fun _ lv st h => ex_ii ex_add 49 lv st h), some (fun g lv st h => ex_pf g (ex_ft 11) 11 12 52 lv st h), none, none, some (fun _ lv st h => ex_ald 0 53 lv st h), some (fun g lv st h => ex_gf g 11 11 56 lv st h), none, none, some (fun _ lv st h => ex_ald 0 57 lv st h), some (fun g lv st h => ex_gf g 11 12 60 lv st h), none, none, some (fun _ lv st h => ex_ild 2 61 lv st h), some (fun g lv st h => ex_xst g 62 lv st h), some (fun _ lv st h => ex_ald 0 63 lv st h), none],
  [none, none, some (fun _ lv st h => ex_ret (some (Jvm.ClassFile.FieldType.int)) st h), none, none, none, none, none, none, none, none, none, none, none, none, none]]
theorem ex_k32_eq : ex_k32 = ex_rows 3 (some (Jvm.ClassFile.FieldType.int)) 0 ex_m32.2.2.2.2 := rfl
noncomputable def ex_k33 : List (List (Option ex_K)) := [[some (fun _ lv st h => ex_ild 1 1 lv st h), some (fun _ lv st h => ex_tsw 51 0 3 #[31, 36, 41, 46] 1 lv st h), none, none, none, none, none, none, none, none, none, none, none, none, none, none],
  [none, none, none, none, none, none, none, none, none, none, none, none, none, none, none, none],
  [some (fun _ lv st h => ex_ald 0 33 lv st h), some (fun g lv st h => ex_gf g 11 15 36 lv st h), none, none, some (fun _ lv st h => ex_ret (some (Jvm.ClassFile.FieldType.int)) st h), some (fun _ lv st h => ex_ald 0 38 lv st h), some (fun g lv st h => ex_gf g 11 16 41 lv st h), none, none, some (fun _ lv st h => ex_ret (some (Jvm.ClassFile.FieldType.int)) st h), some (fun _ lv st h => ex_ald 0 43 lv st h), some (fun g lv st h => ex_gf g 11 17 46 lv st h), none, none, some (fun _ lv st h => ex_ret (some (Jvm.ClassFile.FieldType.int)) st h), some (fun _ lv st h => ex_ald 0 48 lv st h)],
  [some (fun g lv st h => ex_gf g 11 18 51 lv st h), none, none, some (fun _ lv st h => ex_ret (some (Jvm.ClassFile.FieldType.int)) st h), some (fun _ lv st h => ex_go 53 lv (.int (-1) :: st) h), some (fun _ lv st h => ex_ret (some (Jvm.ClassFile.FieldType.int)) st h), none, none, none, none, none, none, none, none, none, none]]
theorem ex_k33_eq : ex_k33 = ex_rows 2 (some (Jvm.ClassFile.FieldType.int)) 0 ex_m33.2.2.2.2 := rfl
noncomputable def ex_k34 : List (List (Option ex_K)) := [[some (fun _ lv st h => ex_ald 0 1 lv st h), some (fun g lv st h => ex_gf g 11 1 4 lv st h), none, none, some (fun _ lv st h => ex_go 6 lv (.int 20 :: st) h), none, some (fun _ lv st h => ex_ii ex_add 7 lv st h), some (fun _ lv st h => ex_go 10 lv (.int 8000 :: st) h), none, none, some (fun _ lv st h => ex_ic ex_le 15 13 lv st h), none, none, some (fun _ lv st h => ex_go 14 lv (.int (-1) :: st) h), some (fun _ lv st h => ex_ret (some (Jvm.ClassFile.FieldType.int)) st h), some (fun _ lv st h => ex_ald 0 16 lv st h)],
  [some (fun _ lv st h => ex_ild 1 17 lv st h), some (fun g lv st h => ex_callV g 41 1 11 20 lv st h), none, none, some (fun _ lv st h => ex_ald 0 21 lv st h), some (fun _ lv st h => ex_ild 2 22 lv st h), some (fun g lv st h => ex_callV g 41 1 11 25 lv st h), none, none, some (fun _ lv st h => ex_ald 0 26 lv st h), some (fun _ lv st h => ex_ild 3 27 lv st h), some (fun g lv st h => ex_callV g 41 1 11 30 lv st h), none, none, some (fun _ lv st h => ex_ald 0 31 lv st h), some (fun _ lv st h => ex_ild 4 33 lv st h)],
  [none, some (fun g lv st h => ex_callV g 41 1 11 36 lv st h), none, none, some (fun _ lv st h => ex_ald 0 37 lv st h), some (fun _ lv st h => ex_ild 5 39 lv st h), none, some (fun g lv st h => ex_callV g 41 1 11 42 lv st h), none, none, some (fun _ lv st h => ex_ald 0 43 lv st h), some (fun g lv st h => ex_gf g 11 1 46 lv st h), none, none, some (fun _ lv st h => ex_ret (some (Jvm.ClassFile.FieldType.int)) st h), none]]
theorem ex_k34_eq : ex_k34 = ex_rows 6 (some (Jvm.ClassFile.FieldType.int)) 0 ex_m34.2.2.2.2 := rfl
noncomputable def ex_k35 : List (List (Option ex_K)) := [[some (fun _ lv st h => ex_ald 0 1 lv st h), some (fun g lv st h => ex_gf g 11 14 4 lv st h), none, none, some (fun _ lv st h => ex_if ex_eq0 19 7 lv st h), none, none, some (fun _ lv st h => ex_ald 0 8 lv st h), some (fun g lv st h => ex_gf g 11 8 11 lv st h), none, none, some (fun _ lv st h => ex_ild 1 12 lv st h), some (fun _ lv st h => ex_ild 2 13 lv st h), none, none, none],
  [some (fun _ lv st h => ex_go 20 lv st h), none, none, some (fun _ lv st h => ex_go 20 lv (.int (-1) :: st) h), some (fun _ lv st h => ex_ret (some (Jvm.ClassFile.FieldType.int)) st h), none, none, none, none, none, none, none, none, none, none, none]]
theorem ex_k35_eq : ex_k35 = ex_rows 3 (some (Jvm.ClassFile.FieldType.int)) 0 ex_m35.2.2.2.2 := rfl
noncomputable def ex_k36 : List (List (Option ex_K)) := [[some (fun _ lv st h => ex_ald 0 1 lv st h), some (fun _ lv st h => ex_go 2 lv (.int (-1) :: st) h), some (fun g lv st h => ex_pf g (ex_ft 11) 11 12 5 lv st h), none, none, some (fun _ lv st h => ex_ald 0 6 lv st h), some (fun g lv st h => ex_gf g 11 14 9 lv st h), none, none, some (fun _ lv st h => ex_if ex_eq0 23 12 lv st h), none, none, some (fun _ lv st h => ex_ald 0 13 lv st h), some (fun g lv st h => ex_gf g 11 3 16 lv st h), none, none],
  [some (fun _ lv st h => ex_ild 1 17 lv st h), none, none, none, some (fun _ lv st h => ex_if ex_eq0 25 23 lv st h), none, none, some (fun _ lv st h => ex_go 24 lv (.int (-1) :: st) h), some (fun _ lv st h => ex_ret (some (Jvm.ClassFile.FieldType.int)) st h), some (fun _ lv st h => ex_ald 0 26 lv st h), some (fun _ lv st h => ex_go 27 lv (.int 0 :: st) h), some (fun g lv st h => ex_pf g (ex_ft 11) 11 12 30 lv st h), none, none, some (fun _ lv st h => ex_ald 0 31 lv st h), some (fun _ lv st h => ex_ild 1 32 lv st h)],
  [some (fun g lv st h => ex_pf g (ex_ft 11) 11 13 35 lv st h), none, none, some (fun _ lv st h => ex_ald 0 36 lv st h), some (fun g lv st h => ex_gf g 11 11 39 lv st h), none, none, some (fun _ lv st h => ex_go 40 lv (.int 0 :: st) h), some (fun _ lv st h => ex_ald 0 41 lv st h), some (fun g lv st h => ex_gf g 11 3 44 lv st h), none, none, some (fun _ lv st h => ex_ild 1 45 lv st h), none, none, none],
  [some (fun g lv st h => ex_xst g 49 lv st h), some (fun _ lv st h => ex_ald 0 50 lv st h), none, none, none, some (fun _ lv st h => ex_ret (some (Jvm.ClassFile.FieldType.int)) st h), none, none, none, none, none, none, none, none, none, none]]
theorem ex_k36_eq : ex_k36 = ex_rows 2 (some (Jvm.ClassFile.FieldType.int)) 0 ex_m36.2.2.2.2 := rfl
noncomputable def ex_k37 : List (List (Option ex_K)) := [[some (fun _ lv st h => ex_ald 0 1 lv st h), some (fun g lv st h => ex_callV g 40 0 11 4 lv st h), none, none, some (fun _ lv st h => ex_if ex_ne0 16 7 lv st h), none, none, some (fun _ lv st h => ex_ild 1 8 lv st h), some (fun _ lv st h => ex_if ex_lt0 16 11 lv st h), none, none, some (fun _ lv st h => ex_ild 1 12 lv st h), some (fun _ lv st h => ex_go 13 lv (.int 4 :: st) h), some (fun _ lv st h => ex_ic ex_le 18 16 lv st h), none, none],
  [some (fun _ lv st h => ex_go 17 lv (.int (-1) :: st) h), some (fun _ lv st h => ex_ret (some (Jvm.ClassFile.FieldType.int)) st h), some (fun _ lv st h => ex_ald 0 19 lv st h), none, none, none, some (fun _ lv st h => ex_ist 4 2 23 lv st h), some (fun _ lv st h => ex_ald 0 24 lv st h), none, none, none, some (fun _ lv st h => ex_ist 4 3 28 lv st h), some (fun _ lv st h => ex_ild 1 29 lv st h), some (fun _ lv st h => ex_tsw 116 0 3 #[31, 33, 67, 97] 29 lv st h), none, none],
  [none, none, none, none, none, none, none, none, none, none, none, none, none, none, none, none],
  [none, none, none, none, none, none, none, none, none, none, none, none, some (fun _ lv st h => ex_ild 2 61 lv st h), some (fun _ lv st h => ex_ret (some (Jvm.ClassFile.FieldType.int)) st h), some (fun _ lv st h => ex_ild 2 63 lv st h), some (fun _ lv st h => ex_go 64 lv (.int 1 :: st) h)],
  [some (fun _ lv st h => ex_ic ex_eq 83 67 lv st h), none, none, some (fun _ lv st h => ex_ild 2 68 lv st h), some (fun _ lv st h => ex_go 69 lv (.int 2 :: st) h), some (fun _ lv st h => ex_ic ex_eq 83 72 lv st h), none, none, some (fun _ lv st h => ex_ild 2 73 lv st h), some (fun _ lv st h => ex_go 74 lv (.int 3 :: st) h), some (fun _ lv st h => ex_ic ex_eq 83 77 lv st h), none, none, some (fun _ lv st h => ex_ild 2 78 lv st h), some (fun _ lv st h => ex_go 80 lv (.int 8 :: st) h), none],
  [some (fun _ lv st h => ex_ic ex_ne 94 83 lv st h), none, none, some (fun _ lv st h => ex_ald 0 84 lv st h), some (fun g lv st h => ex_gf g 11 2 87 lv st h), none, none, some (fun _ lv st h => ex_ild 3 88 lv st h), none, none, none, some (fun _ lv st h => ex_go 95 lv st h), none, none, some (fun _ lv st h => ex_go 95 lv (.int 0 :: st) h), some (fun _ lv st h => ex_ret (some (Jvm.ClassFile.FieldType.int)) st h)],
  [some (fun _ lv st h => ex_ild 2 97 lv st h), some (fun _ lv st h => ex_go 99 lv (.int 9 :: st) h), none, some (fun _ lv st h => ex_ic ex_eq 113 102 lv st h), none, none, some (fun _ lv st h => ex_ild 2 103 lv st h), some (fun _ lv st h => ex_go 104 lv (.int 4 :: st) h), some (fun _ lv st h => ex_ic ex_lt 124 107 lv st h), none, none, some (fun _ lv st h => ex_ild 2 108 lv st h), some (fun _ lv st h => ex_go 110 lv (.int 7 :: st) h), none, some (fun _ lv st h => ex_ic ex_gt 124 113 lv st h), none],
  [none, some (fun _ lv st h => ex_ald 0 114 lv st h), some (fun g lv st h => ex_gf g 11 2 117 lv st h), none, none, some (fun _ lv st h => ex_ild 3 118 lv st h), none, none, none, some (fun _ lv st h => ex_go 125 lv st h), none, none, some (fun _ lv st h => ex_go 125 lv (.int 0 :: st) h), some (fun _ lv st h => ex_ret (some (Jvm.ClassFile.FieldType.int)) st h), some (fun _ lv st h => ex_ild 2 127 lv st h), some (fun _ lv st h => ex_go 129 lv (.int 8 :: st) h)],
  [none, some (fun _ lv st h => ex_ic ex_ne 143 132 lv st h), none, none, some (fun _ lv st h => ex_ald 0 133 lv st h), some (fun g lv st h => ex_gf g 11 2 136 lv st h), none, none, some (fun _ lv st h => ex_ild 3 137 lv st h), none, none, none, some (fun _ lv st h => ex_go 144 lv st h), none, none, some (fun _ lv st h => ex_go 144 lv (.int 0 :: st) h)],
  [some (fun _ lv st h => ex_ret (some (Jvm.ClassFile.FieldType.int)) st h), some (fun _ lv st h => ex_go 146 lv (.int 0 :: st) h), some (fun _ lv st h => ex_ald 0 147 lv st h), some (fun g lv st h => ex_gf g 11 2 150 lv st h), none, none, some (fun _ lv st h => ex_ald 0 151 lv st h), none, none, none, none, none, none, some (fun g lv st h => ex_callS g 1000001 2 160 lv st h), none, none],
  [some (fun _ lv st h => ex_ret (some (Jvm.ClassFile.FieldType.int)) st h), none, none, none, none, none, none, none, none, none, none, none, none, none, none, none]]
theorem ex_k37_eq : ex_k37 = ex_rows 4 (some (Jvm.ClassFile.FieldType.int)) 0 ex_m37.2.2.2.2 := rfl
noncomputable def ex_k38 : List (List (Option ex_K)) := [[some (fun _ lv st h => ex_ald 0 1 lv st h), some (fun g lv st h => ex_gf g 11 1 4 lv st h), none, none, some (fun _ lv st h => ex_ist 3 2 5 lv st h), some (fun _ lv st h => ex_ald 0 6 lv st h), some (fun _ lv st h => ex_go 7 lv (.int 0 :: st) h), some (fun g lv st h => ex_pf g (ex_ft 11) 11 1 10 lv st h), none, none, some (fun _ lv st h => ex_ald 0 11 lv st h), some (fun g lv st h => ex_gf g 11 14 14 lv st h), none, none, some (fun _ lv st h => ex_if ex_eq0 37 17 lv st h), none],
  [none, some (fun _ lv st h => ex_ald 0 18 lv st h), some (fun _ lv st h => ex_ald 0 19 lv st h), some (fun g lv st h => ex_gf g 11 9 22 lv st h), none, none, some (fun _ lv st h => ex_ild 1 23 lv st h), some (fun _ lv st h => ex_ald 0 24 lv st h), some (fun g lv st h => ex_gf g 11 0 27 lv st h), none, none, some (fun _ lv st h => ex_ild 2 28 lv st h), none, none, none, none],
  [none, none, some (fun _ lv st h => ex_go 38 lv st h), none, none, some (fun _ lv st h => ex_go 38 lv (.int (-1) :: st) h), some (fun _ lv st h => ex_ret (some (Jvm.ClassFile.FieldType.int)) st h), none, none, none, none, none, none, none, none, none]]
theorem ex_k38_eq : ex_k38 = ex_rows 3 (some (Jvm.ClassFile.FieldType.int)) 0 ex_m38.2.2.2.2 := rfl
noncomputable def ex_k39 : List (List (Option ex_K)) := [[some (fun _ lv st h => ex_ald 0 1 lv st h), some (fun g lv st h => ex_gf g 11 14 4 lv st h), none, none, some (fun _ lv st h => ex_if ex_eq0 24 7 lv st h), none, none, some (fun _ lv st h => ex_ald 0 8 lv st h), some (fun _ lv st h => ex_ald 0 9 lv st h), some (fun g lv st h => ex_gf g 11 9 12 lv st h), none, none, some (fun _ lv st h => ex_ild 1 13 lv st h), some (fun _ lv st h => ex_ild 2 14 lv st h), some (fun _ lv st h => ex_ild 3 15 lv st h), none],
  [none, none, none, none, none, some (fun _ lv st h => ex_go 25 lv st h), none, none, some (fun _ lv st h => ex_go 25 lv (.int (-1) :: st) h), some (fun _ lv st h => ex_ret (some (Jvm.ClassFile.FieldType.int)) st h), none, none, none, none, none, none]]
theorem ex_k39_eq : ex_k39 = ex_rows 4 (some (Jvm.ClassFile.FieldType.int)) 0 ex_m39.2.2.2.2 := rfl
noncomputable def ex_k40 : List (List (Option ex_K)) := [[some (fun _ lv st h => ex_ald 0 1 lv st h), some (fun g lv st h => ex_gf g 11 14 4 lv st h), none, none, some (fun _ lv st h => ex_if ex_eq0 26 7 lv st h), none, none, some (fun _ lv st h => ex_ald 0 8 lv st h), some (fun g lv st h => ex_gf g 11 12 11 lv st h), none, none, some (fun _ lv st h => ex_if ex_lt0 26 14 lv st h), none, none, some (fun _ lv st h => ex_ald 0 15 lv st h), some (fun g lv st h => ex_gf g 11 12 18 lv st h)],
  [none, none, some (fun _ lv st h => ex_ald 0 19 lv st h), some (fun g lv st h => ex_gf g 11 11 22 lv st h), none, none, some (fun g lv st h => ex_len g 23 lv st h), some (fun _ lv st h => ex_ic ex_lt 30 26 lv st h), none, none, some (fun _ lv st h => ex_go 27 lv (.int 1 :: st) h), some (fun _ lv st h => ex_go 31 lv st h), none, none, some (fun _ lv st h => ex_go 31 lv (.int 0 :: st) h), some (fun _ lv st h => ex_ret (some (Jvm.ClassFile.FieldType.boolean)) st h)]]
theorem ex_k40_eq : ex_k40 = ex_rows 1 (some (Jvm.ClassFile.FieldType.boolean)) 0 ex_m40.2.2.2.2 := rfl
noncomputable def ex_k41 : List (List (Option ex_K)) := [[some (fun _ lv st h => ex_go 2 lv (.int 24 :: st) h), none, some (fun _ lv st h => ex_ist 3 2 3 lv st h), some (fun _ lv st h => ex_ild 2 4 lv st h), some (fun _ lv st h => ex_if ex_lt0 55 7 lv st h), none, none, some (fun _ lv st h => ex_ald 0 8 lv st h), some (fun g lv st h => ex_gf g 11 1 11 lv st h), none, none, some (fun _ lv st h => ex_if ex_lt0 49 14 lv st h), none, none, some (fun _ lv st h => ex_ald 0 15 lv st h), some (fun g lv st h => ex_gf g 11 1 18 lv st h)],
  [none, none, some (fun _ lv st h => ex_ald 0 19 lv st h), some (fun g lv st h => ex_gf g 11 0 22 lv st h), none, none, some (fun g lv st h => ex_len g 23 lv st h), some (fun _ lv st h => ex_ic ex_ge 49 26 lv st h), none, none, some (fun _ lv st h => ex_ald 0 27 lv st h), some (fun g lv st h => ex_gf g 11 0 30 lv st h), none, none, some (fun _ lv st h => ex_ald 0 31 lv st h), some (fun g lv st h => ex_gf g 11 1 34 lv st h)],
  [none, none, some (fun _ lv st h => ex_ild 1 35 lv st h), some (fun _ lv st h => ex_ild 2 36 lv st h), some (fun _ lv st h => ex_ii (fun x y => x >>> (y &&& 31)) 37 lv st h), some (fun _ lv st h => ex_i (fun x => .int x.toInt8.toInt32) 38 lv st h), some (fun g lv st h => ex_xbst g 39 lv st h), some (fun _ lv st h => ex_ald 0 40 lv st h), some (fun _ lv st h => ex_dup 41 lv st h), some (fun g lv st h => ex_gf g 11 1 44 lv st h), none, none, some (fun _ lv st h => ex_go 45 lv (.int 1 :: st) h), some (fun _ lv st h => ex_ii ex_add 46 lv st h), some (fun g lv st h => ex_pf g (ex_ft 11) 11 1 49 lv st h), none],
  [none, some (fun _ lv st h => ex_inc 3 2 (-8) 52 lv st h), none, none, some (fun _ lv st h => ex_go 3 lv st h), none, none, some (fun _ lv st h => ex_vret (none) st h), none, none, none, none, none, none, none, none]]
theorem ex_k41_eq : ex_k41 = ex_rows 3 (none) 0 ex_m41.2.2.2.2 := rfl
noncomputable def ex_k42 : List (List (Option ex_K)) := [[some (fun _ lv st h => ex_ald 0 1 lv st h), some (fun g lv st h => ex_callV g 40 0 11 4 lv st h), none, none, some (fun _ lv st h => ex_if ex_eq0 9 7 lv st h), none, none, some (fun _ lv st h => ex_go 8 lv (.int (-1) :: st) h), some (fun _ lv st h => ex_ret (some (Jvm.ClassFile.FieldType.int)) st h), some (fun _ lv st h => ex_ald 0 10 lv st h), some (fun g lv st h => ex_gf g 11 2 13 lv st h), none, none, some (fun _ lv st h => ex_ild 2 14 lv st h), some (fun _ lv st h => ex_if ex_eq0 24 17 lv st h), none],
  [none, some (fun _ lv st h => ex_ald 0 18 lv st h), none, none, none, some (fun _ lv st h => ex_go 28 lv st h), none, none, some (fun _ lv st h => ex_ald 0 25 lv st h), none, none, none, some (fun _ lv st h => ex_ild 1 29 lv st h), none, none, none],
  [some (fun _ lv st h => ex_ret (some (Jvm.ClassFile.FieldType.int)) st h), none, none, none, none, none, none, none, none, none, none, none, none, none, none, none]]
theorem ex_k42_eq : ex_k42 = ex_rows 3 (some (Jvm.ClassFile.FieldType.int)) 0 ex_m42.2.2.2.2 := rfl
noncomputable def ex_k43 : List (List (Option ex_K)) := [[some (fun _ lv st h => ex_ald 0 1 lv st h), some (fun _ lv st h => ex_go 2 lv (.int (-1) :: st) h), some (fun g lv st h => ex_pf g (ex_ft 11) 11 12 5 lv st h), none, none, some (fun _ lv st h => ex_ald 0 6 lv st h), some (fun _ lv st h => ex_go 7 lv (.int 0 :: st) h), some (fun g lv st h => ex_pf g (ex_ft 11) 11 17 10 lv st h), none, none, some (fun _ lv st h => ex_ald 0 11 lv st h), some (fun _ lv st h => ex_go 12 lv (.int (-1) :: st) h), some (fun g lv st h => ex_pf g (ex_ft 11) 11 18 15 lv st h), none, none, some (fun _ lv st h => ex_ald 0 16 lv st h)],
  [some (fun g lv st h => ex_gf g 11 8 19 lv st h), none, none, some (fun g lv st h => ex_callV g 7 0 4 22 lv st h), none, none, some (fun _ lv st h => ex_ald 0 23 lv st h), some (fun g lv st h => ex_gf g 11 6 26 lv st h), none, none, some (fun _ lv st h => ex_ald 0 27 lv st h), some (fun g lv st h => ex_gf g 11 0 30 lv st h), none, none, some (fun _ lv st h => ex_ald 0 31 lv st h), some (fun g lv st h => ex_gf g 11 1 34 lv st h)],
  [none, none, some (fun g lv st h => ex_callV g 4 2 3 37 lv st h), none, none, some (fun _ lv st h => ex_ist 7 1 38 lv st h), some (fun _ lv st h => ex_ald 0 39 lv st h), some (fun _ lv st h => ex_go 40 lv (.int 0 :: st) h), some (fun g lv st h => ex_pf g (ex_ft 11) 11 1 43 lv st h), none, none, some (fun _ lv st h => ex_ald 0 44 lv st h), some (fun g lv st h => ex_gf g 11 5 47 lv st h), none, none, some (fun g lv st h => ex_callV g 15 0 6 50 lv st h)],
  [none, none, some (fun _ lv st h => ex_go 51 lv (.int 0 :: st) h), some (fun _ lv st h => ex_ist 7 2 52 lv st h), some (fun _ lv st h => ex_ild 2 53 lv st h), some (fun _ lv st h => ex_go 55 lv (.int 10 :: st) h), none, some (fun _ lv st h => ex_ic ex_gt 84 58 lv st h), none, none, some (fun _ lv st h => ex_ild 1 59 lv st h), some (fun _ lv st h => ex_if ex_lt0 84 62 lv st h), none, none, some (fun _ lv st h => ex_ald 0 63 lv st h), some (fun g lv st h => ex_gf g 11 5 66 lv st h)],
  [none, none, some (fun _ lv st h => ex_ild 1 67 lv st h), some (fun _ lv st h => ex_ald 0 68 lv st h), some (fun g lv st h => ex_gf g 11 6 71 lv st h), none, none, some (fun g lv st h => ex_gf g 3 0 74 lv st h), none, none, none, none, none, some (fun _ lv st h => ex_ist 7 1 78 lv st h), some (fun _ lv st h => ex_inc 7 2 1 81 lv st h), none],
  [none, some (fun _ lv st h => ex_go 52 lv st h), none, none, some (fun _ lv st h => ex_ald 0 85 lv st h), some (fun g lv st h => ex_gf g 11 2 88 lv st h), none, none, some (fun g lv st h => ex_gf g 7 6 91 lv st h), none, none, some (fun _ lv st h => ex_ist 7 2 92 lv st h), some (fun _ lv st h => ex_ald 0 93 lv st h), some (fun g lv st h => ex_gf g 11 4 96 lv st h), none, none],
  [some (fun g lv st h => ex_gf g 5 6 99 lv st h), none, none, some (fun _ lv st h => ex_if ex_ne0 106 102 lv st h), none, none, some (fun _ lv st h => ex_go 103 lv (.int 1 :: st) h), some (fun _ lv st h => ex_go 107 lv st h), none, none, some (fun _ lv st h => ex_go 107 lv (.int 0 :: st) h), some (fun _ lv st h => ex_ist 7 3 108 lv st h), some (fun _ lv st h => ex_ild 3 109 lv st h), some (fun _ lv st h => ex_if ex_eq0 135 112 lv st h), none, none],
  [some (fun _ lv st h => ex_ald 0 113 lv st h), some (fun g lv st h => ex_gf g 11 3 116 lv st h), none, none, some (fun _ lv st h => ex_ald 0 117 lv st h), some (fun g lv st h => ex_gf g 11 2 120 lv st h), none, none, some (fun _ lv st h => ex_ald 0 121 lv st h), some (fun g lv st h => ex_gf g 11 5 124 lv st h), none, none, some (fun g lv st h => ex_gf g 6 7 127 lv st h), none, none, some (fun _ lv st h => ex_go 129 lv (.int 32 :: st) h)],
  [none, none, none, none, none, none, none, some (fun _ lv st h => ex_go 136 lv (.int 0 :: st) h), some (fun _ lv st h => ex_ist 7 4 138 lv st h), none, some (fun _ lv st h => ex_ild 4 140 lv st h), none, some (fun _ lv st h => ex_go 143 lv (.int 1000 :: st) h), none, none, some (fun _ lv st h => ex_ic ex_ge 229 146 lv st h)],
  [none, none, some (fun _ lv st h => ex_ild 3 147 lv st h), some (fun _ lv st h => ex_if ex_eq0 229 150 lv st h), none, none, some (fun _ lv st h => ex_ald 0 151 lv st h), some (fun g lv st h => ex_gf g 11 6 154 lv st h), none, none, none, none, none, some (fun _ lv st h => ex_ist 7 5 159 lv st h), none, some (fun _ lv st h => ex_ild 5 161 lv st h)],
  [none, some (fun _ lv st h => ex_if ex_eq0 174 164 lv st h), none, none, some (fun _ lv st h => ex_ald 0 165 lv st h), some (fun g lv st h => ex_gf g 11 6 168 lv st h), none, none, none, none, none, some (fun _ lv st h => ex_go 181 lv st h), none, none, some (fun _ lv st h => ex_ald 0 175 lv st h), some (fun g lv st h => ex_gf g 11 6 178 lv st h)],
  [none, none, none, none, none, some (fun _ lv st h => ex_ist 7 6 183 lv st h), none, some (fun _ lv st h => ex_ild 6 185 lv st h), none, some (fun _ lv st h => ex_if ex_le0 197 188 lv st h), none, none, some (fun _ lv st h => ex_ald 0 189 lv st h), some (fun g lv st h => ex_gf g 11 6 192 lv st h), none, none],
  [some (fun _ lv st h => ex_ild 6 194 lv st h), none, none, none, none, some (fun _ lv st h => ex_ald 0 198 lv st h), some (fun g lv st h => ex_gf g 11 4 201 lv st h), none, none, some (fun g lv st h => ex_gf g 5 6 204 lv st h), none, none, some (fun _ lv st h => ex_if ex_ne0 221 207 lv st h), none, none, some (fun _ lv st h => ex_ild 6 209 lv st h)],
  [none, some (fun _ lv st h => ex_if ex_gt0 217 212 lv st h), none, none, some (fun _ lv st h => ex_ild 5 214 lv st h), none, some (fun _ lv st h => ex_if ex_eq0 221 217 lv st h), none, none, some (fun _ lv st h => ex_go 218 lv (.int 1 :: st) h), some (fun _ lv st h => ex_go 222 lv st h), none, none, some (fun _ lv st h => ex_go 222 lv (.int 0 :: st) h), some (fun _ lv st h => ex_ist 7 3 223 lv st h), some (fun _ lv st h => ex_inc 7 4 1 226 lv st h)],
  [none, none, some (fun _ lv st h => ex_go 138 lv st h), none, none, some (fun _ lv st h => ex_ald 0 230 lv st h), some (fun g lv st h => ex_gf g 11 4 233 lv st h), none, none, some (fun g lv st h => ex_gf g 5 6 236 lv st h), none, none, some (fun _ lv st h => ex_if ex_ne0 289 239 lv st h), none, none, some (fun _ lv st h => ex_ald 0 240 lv st h)],
  [some (fun g lv st h => ex_gf g 11 3 243 lv st h), none, none, some (fun _ lv st h => ex_ald 0 244 lv st h), some (fun g lv st h => ex_gf g 11 5 247 lv st h), none, none, some (fun g lv st h => ex_gf g 6 8 250 lv st h), none, none, some (fun _ lv st h => ex_ald 0 251 lv st h), some (fun g lv st h => ex_gf g 11 5 254 lv st h), none, none, some (fun g lv st h => ex_gf g 6 9 257 lv st h), none],
  [none, none, none, none, some (fun _ lv st h => ex_ald 0 261 lv st h), some (fun g lv st h => ex_gf g 11 3 264 lv st h), none, none, some (fun _ lv st h => ex_ild 2 265 lv st h), some (fun _ lv st h => ex_ald 0 266 lv st h), some (fun g lv st h => ex_gf g 11 2 269 lv st h), none, none, some (fun g lv st h => ex_gf g 7 6 272 lv st h), none, none],
  [none, none, none, some (fun _ lv st h => ex_ald 0 276 lv st h), some (fun g lv st h => ex_gf g 11 7 279 lv st h), none, none, some (fun _ lv st h => ex_ald 0 280 lv st h), some (fun g lv st h => ex_gf g 11 5 283 lv st h), none, none, some (fun g lv st h => ex_gf g 6 7 286 lv st h), none, none, none, none],
  [none, some (fun _ lv st h => ex_ald 0 290 lv st h), some (fun _ lv st h => ex_ald 0 291 lv st h), some (fun g lv st h => ex_gf g 11 4 294 lv st h), none, none, some (fun g lv st h => ex_gf g 5 6 297 lv st h), none, none, some (fun g lv st h => ex_pf g (ex_ft 11) 11 15 300 lv st h), none, none, some (fun _ lv st h => ex_ald 0 301 lv st h), some (fun _ lv st h => ex_ald 0 302 lv st h), some (fun g lv st h => ex_gf g 11 15 305 lv st h), none],
  [none, some (fun _ lv st h => ex_if ex_ne0 312 308 lv st h), none, none, some (fun _ lv st h => ex_go 309 lv (.int 1 :: st) h), some (fun _ lv st h => ex_go 313 lv st h), none, none, some (fun _ lv st h => ex_go 313 lv (.int 0 :: st) h), some (fun g lv st h => ex_pf g (ex_ft 11) 11 14 316 lv st h), none, none, some (fun _ lv st h => ex_ald 0 317 lv st h), some (fun _ lv st h => ex_ald 0 318 lv st h), some (fun g lv st h => ex_gf g 11 14 321 lv st h), none],
  [none, some (fun _ lv st h => ex_if ex_eq0 328 324 lv st h), none, none, some (fun _ lv st h => ex_go 325 lv (.int (-1) :: st) h), some (fun _ lv st h => ex_go 335 lv st h), none, none, some (fun _ lv st h => ex_ald 0 329 lv st h), some (fun g lv st h => ex_gf g 11 4 332 lv st h), none, none, some (fun g lv st h => ex_gf g 5 7 335 lv st h), none, none, some (fun g lv st h => ex_pf g (ex_ft 11) 11 16 338 lv st h)],
  [none, none, some (fun _ lv st h => ex_ald 0 339 lv st h), some (fun g lv st h => ex_gf g 11 14 342 lv st h), none, none, some (fun _ lv st h => ex_if ex_eq0 355 345 lv st h), none, none, some (fun _ lv st h => ex_ald 0 346 lv st h), some (fun g lv st h => ex_gf g 11 7 349 lv st h), none, none, some (fun g lv st h => ex_gf g 9 7 352 lv st h), none, none],
  [some (fun _ lv st h => ex_go 362 lv st h), none, none, some (fun _ lv st h => ex_go 357 lv (.int (-100) :: st) h), none, some (fun _ lv st h => ex_ald 0 358 lv st h), some (fun g lv st h => ex_gf g 11 15 361 lv st h), none, none, some (fun _ lv st h => ex_ii ex_sub 362 lv st h), some (fun _ lv st h => ex_ret (some (Jvm.ClassFile.FieldType.int)) st h), none, none, none, none, none]]
theorem ex_k43_eq : ex_k43 = ex_rows 7 (some (Jvm.ClassFile.FieldType.int)) 0 ex_m43.2.2.2.2 := rfl
noncomputable def ex_k44 : List (List (Option ex_K)) := [[some (fun _ lv st h => ex_ald 0 1 lv st h), some (fun g lv st h => ex_gf g 11 10 4 lv st h), none, none, some (fun g lv st h => ex_callV g 25 0 10 7 lv st h), none, none, some (fun _ lv st h => ex_ald 0 8 lv st h), some (fun g lv st h => ex_gf g 11 14 11 lv st h), none, none, some (fun _ lv st h => ex_if ex_eq0 52 14 lv st h), none, none, some (fun _ lv st h => ex_ald 0 15 lv st h), some (fun g lv st h => ex_gf g 11 10 18 lv st h)],
  [none, none, some (fun _ lv st h => ex_ald 0 19 lv st h), some (fun g lv st h => ex_gf g 11 6 22 lv st h), none, none, some (fun g lv st h => ex_gf g 3 0 25 lv st h), none, none, some (fun _ lv st h => ex_ald 0 26 lv st h), some (fun g lv st h => ex_gf g 11 6 29 lv st h), none, none, some (fun g lv st h => ex_gf g 3 1 32 lv st h), none, none],
  [some (fun _ lv st h => ex_ald 0 33 lv st h), some (fun g lv st h => ex_gf g 11 5 36 lv st h), none, none, none, none, none, some (fun _ lv st h => ex_ald 0 40 lv st h), some (fun g lv st h => ex_gf g 11 5 43 lv st h), none, none, some (fun g lv st h => ex_gf g 6 10 46 lv st h), none, none, none, none],
  [none, some (fun _ lv st h => ex_go 53 lv st h), none, none, some (fun _ lv st h => ex_go 53 lv (.int (-1) :: st) h), some (fun _ lv st h => ex_ret (some (Jvm.ClassFile.FieldType.int)) st h), none, none, none, none, none, none, none, none, none, none]]
theorem ex_k44_eq : ex_k44 = ex_rows 1 (some (Jvm.ClassFile.FieldType.int)) 0 ex_m44.2.2.2.2 := rfl
noncomputable def ex_k45 : List (List (Option ex_K)) := [[some (fun _ lv st h => ex_ald 0 1 lv st h), some (fun g lv st h => ex_gf g 11 14 4 lv st h), none, none, some (fun _ lv st h => ex_if ex_eq0 23 7 lv st h), none, none, some (fun _ lv st h => ex_ald 0 8 lv st h), some (fun _ lv st h => ex_ald 0 9 lv st h), some (fun g lv st h => ex_gf g 11 9 12 lv st h), none, none, some (fun _ lv st h => ex_ild 1 13 lv st h), some (fun _ lv st h => ex_ild 2 14 lv st h), none, none],
  [none, none, none, none, some (fun _ lv st h => ex_go 24 lv st h), none, none, some (fun _ lv st h => ex_go 24 lv (.int (-1) :: st) h), some (fun _ lv st h => ex_ret (some (Jvm.ClassFile.FieldType.int)) st h), none, none, none, none, none, none, none]]
theorem ex_k45_eq : ex_k45 = ex_rows 3 (some (Jvm.ClassFile.FieldType.int)) 0 ex_m45.2.2.2.2 := rfl
noncomputable def ex_k46 : List (List (Option ex_K)) := [[some (fun _ lv st h => ex_ald 0 1 lv st h), some (fun g lv st h => ex_gf g 11 14 4 lv st h), none, none, some (fun _ lv st h => ex_if ex_ne0 9 7 lv st h), none, none, some (fun _ lv st h => ex_go 8 lv (.int (-1) :: st) h), some (fun _ lv st h => ex_ret (some (Jvm.ClassFile.FieldType.int)) st h), some (fun _ lv st h => ex_go 10 lv (.int 0 :: st) h), some (fun _ lv st h => ex_ist 3 1 11 lv st h), some (fun _ lv st h => ex_go 12 lv (.int 1 :: st) h), some (fun _ lv st h => ex_ist 3 2 13 lv st h), some (fun _ lv st h => ex_ild 2 14 lv st h), some (fun _ lv st h => ex_ald 0 15 lv st h), some (fun g lv st h => ex_gf g 11 3 18 lv st h)],
  [none, none, some (fun g lv st h => ex_gf g 8 11 21 lv st h), none, none, some (fun _ lv st h => ex_ic ex_ge 44 24 lv st h), none, none, some (fun _ lv st h => ex_ald 0 25 lv st h), some (fun g lv st h => ex_gf g 11 3 28 lv st h), none, none, some (fun _ lv st h => ex_ild 2 29 lv st h), none, none, none],
  [some (fun _ lv st h => ex_if ex_ne0 38 35 lv st h), none, none, some (fun _ lv st h => ex_inc 3 1 1 38 lv st h), none, none, some (fun _ lv st h => ex_inc 3 2 1 41 lv st h), none, none, some (fun _ lv st h => ex_go 13 lv st h), none, none, some (fun _ lv st h => ex_ild 1 45 lv st h), some (fun _ lv st h => ex_ret (some (Jvm.ClassFile.FieldType.int)) st h), none, none]]
theorem ex_k46_eq : ex_k46 = ex_rows 3 (some (Jvm.ClassFile.FieldType.int)) 0 ex_m46.2.2.2.2 := rfl
noncomputable def ex_k47 : List (List (Option ex_K)) := [[some (fun _ lv st h => ex_ald 0 1 lv st h), some (fun g lv st h => ex_gf g 11 10 4 lv st h), none, none, some (fun _ lv st h => ex_ild 1 5 lv st h), some (fun g lv st h => ex_callV g 24 1 10 8 lv st h), none, none, some (fun _ lv st h => ex_ret (some (Jvm.ClassFile.FieldType.int)) st h), none, none, none, none, none, none, none]]
theorem ex_k47_eq : ex_k47 = ex_rows 2 (some (Jvm.ClassFile.FieldType.int)) 0 ex_m47.2.2.2.2 := rfl
noncomputable def ex_k48 : List (List (Option ex_K)) := [[some (fun _ lv st h => ex_ald 0 1 lv st h), some (fun g lv st h => ex_gf g 11 10 4 lv st h), none, none, some (fun g lv st h => ex_gf g 10 3 7 lv st h), none, none, some (fun _ lv st h => ex_ret (some (Jvm.ClassFile.FieldType.int)) st h), none, none, none, none, none, none, none, none]]
theorem ex_k48_eq : ex_k48 = ex_rows 1 (some (Jvm.ClassFile.FieldType.int)) 0 ex_m48.2.2.2.2 := rfl
noncomputable def ex_k49 : List (List (Option ex_K)) := [[some (fun _ lv st h => ex_ald 0 1 lv st h), some (fun g lv st h => ex_gf g 11 14 4 lv st h), none, none, some (fun _ lv st h => ex_if ex_ne0 9 7 lv st h), none, none, some (fun _ lv st h => ex_go 8 lv (.int (-1) :: st) h), some (fun _ lv st h => ex_ret (some (Jvm.ClassFile.FieldType.int)) st h), some (fun _ lv st h => ex_ald 0 10 lv st h), some (fun g lv st h => ex_gf g 11 7 13 lv st h), none, none, some (fun _ lv st h => ex_ild 1 14 lv st h), none, none],
  [none, some (fun _ lv st h => ex_if ex_ne0 22 20 lv st h), none, none, some (fun _ lv st h => ex_go 21 lv (.int 0 :: st) h), some (fun _ lv st h => ex_ret (some (Jvm.ClassFile.FieldType.int)) st h), some (fun _ lv st h => ex_ald 0 23 lv st h), some (fun g lv st h => ex_gf g 11 7 26 lv st h), none, none, some (fun _ lv st h => ex_ild 1 27 lv st h), none, none, none, some (fun _ lv st h => ex_ist 5 3 31 lv st h), some (fun _ lv st h => ex_ild 2 32 lv st h)],
  [some (fun _ lv st h => ex_tsw 126 0 6 #[44, 46, 46, 46, 46, 92, 117] 32 lv st h), none, none, none, none, none, none, none, none, none, none, none, none, none, none, none],
  [none, none, none, none, none, none, none, none, none, none, none, none, none, none, none, none],
  [none, none, none, none, none, none, none, none, none, none, none, none, some (fun _ lv st h => ex_ild 3 77 lv st h), some (fun _ lv st h => ex_ret (some (Jvm.ClassFile.FieldType.int)) st h), some (fun _ lv st h => ex_ald 0 79 lv st h), some (fun g lv st h => ex_gf g 11 3 82 lv st h)],
  [none, none, some (fun _ lv st h => ex_ald 0 83 lv st h), some (fun g lv st h => ex_gf g 11 7 86 lv st h), none, none, some (fun _ lv st h => ex_ild 3 87 lv st h), some (fun _ lv st h => ex_go 89 lv (.int 8 :: st) h), none, none, none, none, none, none, none, some (fun _ lv st h => ex_ist 5 4 97 lv st h)],
  [none, some (fun _ lv st h => ex_ald 0 98 lv st h), some (fun g lv st h => ex_gf g 11 2 101 lv st h), none, none, some (fun _ lv st h => ex_ald 0 102 lv st h), some (fun g lv st h => ex_gf g 11 3 105 lv st h), none, none, some (fun _ lv st h => ex_ald 0 106 lv st h), some (fun g lv st h => ex_gf g 11 2 109 lv st h), none, none, some (fun _ lv st h => ex_ild 4 111 lv st h), none, some (fun _ lv st h => ex_ild 2 112 lv st h)],
  [some (fun _ lv st h => ex_go 113 lv (.int 1 :: st) h), some (fun _ lv st h => ex_ii ex_sub 114 lv st h), none, none, none, none, none, none, none, none, none, some (fun _ lv st h => ex_ret (some (Jvm.ClassFile.FieldType.int)) st h), some (fun _ lv st h => ex_ald 0 125 lv st h), some (fun g lv st h => ex_gf g 11 2 128 lv st h), none, none],
  [some (fun _ lv st h => ex_ald 0 129 lv st h), some (fun g lv st h => ex_gf g 11 3 132 lv st h), none, none, some (fun _ lv st h => ex_ald 0 133 lv st h), some (fun g lv st h => ex_gf g 11 7 136 lv st h), none, none, some (fun _ lv st h => ex_ild 3 137 lv st h), some (fun _ lv st h => ex_go 139 lv (.int 10 :: st) h), none, none, none, none, none, none],
  [none, none, none, none, some (fun _ lv st h => ex_ret (some (Jvm.ClassFile.FieldType.int)) st h), some (fun _ lv st h => ex_ald 0 150 lv st h), some (fun g lv st h => ex_gf g 11 7 153 lv st h), none, none, some (fun _ lv st h => ex_ild 3 154 lv st h), none, none, none, some (fun _ lv st h => ex_ret (some (Jvm.ClassFile.FieldType.int)) st h), some (fun _ lv st h => ex_go 159 lv (.int 0 :: st) h), some (fun _ lv st h => ex_ret (some (Jvm.ClassFile.FieldType.int)) st h)]]
theorem ex_k49_eq : ex_k49 = ex_rows 5 (some (Jvm.ClassFile.FieldType.int)) 0 ex_m49.2.2.2.2 := rfl
noncomputable def ex_k50 : List (List (Option ex_K)) := [[some (fun _ lv st h => ex_ald 0 1 lv st h), some (fun g lv st h => ex_gf g 11 14 4 lv st h), none, none, some (fun _ lv st h => ex_if ex_eq0 17 7 lv st h), none, none, some (fun _ lv st h => ex_ald 0 8 lv st h), some (fun g lv st h => ex_gf g 11 7 11 lv st h), none, none, some (fun g lv st h => ex_gf g 9 7 14 lv st h), none, none, some (fun _ lv st h => ex_go 18 lv st h), none],
  [none, some (fun _ lv st h => ex_go 18 lv (.int (-1) :: st) h), some (fun _ lv st h => ex_ret (some (Jvm.ClassFile.FieldType.int)) st h), none, none, none, none, none, none, none, none, none, none, none, none, none]]
theorem ex_k50_eq : ex_k50 = ex_rows 1 (some (Jvm.ClassFile.FieldType.int)) 0 ex_m50.2.2.2.2 := rfl
noncomputable def ex_k51 : List (List (Option ex_K)) := [[some (fun _ lv st h => ex_ald 0 1 lv st h), some (fun g lv st h => ex_gf g 11 14 4 lv st h), none, none, some (fun _ lv st h => ex_if ex_eq0 18 7 lv st h), none, none, some (fun _ lv st h => ex_ald 0 8 lv st h), some (fun g lv st h => ex_gf g 11 7 11 lv st h), none, none, some (fun _ lv st h => ex_ild 1 12 lv st h), none, none, none, some (fun _ lv st h => ex_if ex_ne0 20 18 lv st h)],
  [none, none, some (fun _ lv st h => ex_go 19 lv (.int (-1) :: st) h), some (fun _ lv st h => ex_ret (some (Jvm.ClassFile.FieldType.int)) st h), some (fun _ lv st h => ex_ald 0 21 lv st h), some (fun g lv st h => ex_gf g 11 8 24 lv st h), none, none, some (fun _ lv st h => ex_ald 0 25 lv st h), some (fun g lv st h => ex_gf g 11 7 28 lv st h), none, none, some (fun _ lv st h => ex_ild 1 29 lv st h), none, none, none],
  [none, none, none, some (fun _ lv st h => ex_ald 0 36 lv st h), some (fun _ lv st h => ex_ald 0 37 lv st h), some (fun g lv st h => ex_gf g 11 8 40 lv st h), none, none, none, none, none, some (fun g lv st h => ex_pf g (ex_ft 11) 11 17 46 lv st h), none, none, some (fun _ lv st h => ex_ald 0 47 lv st h), some (fun _ lv st h => ex_ald 0 48 lv st h)],
  [some (fun g lv st h => ex_gf g 11 17 51 lv st h), none, none, some (fun _ lv st h => ex_if ex_ne0 58 54 lv st h), none, none, some (fun _ lv st h => ex_go 55 lv (.int (-1) :: st) h), some (fun _ lv st h => ex_go 65 lv st h), none, none, some (fun _ lv st h => ex_ald 0 59 lv st h), some (fun g lv st h => ex_gf g 11 8 62 lv st h), none, none, none, none],
  [none, some (fun g lv st h => ex_pf g (ex_ft 11) 11 18 68 lv st h), none, none, some (fun _ lv st h => ex_ald 0 69 lv st h), some (fun g lv st h => ex_gf g 11 17 72 lv st h), none, none, some (fun _ lv st h => ex_if ex_ne0 85 75 lv st h), none, none, some (fun _ lv st h => ex_ald 0 76 lv st h), some (fun g lv st h => ex_gf g 11 8 79 lv st h), none, none, some (fun g lv st h => ex_gf g 4 18 82 lv st h)],
  [none, none, some (fun _ lv st h => ex_go 92 lv st h), none, none, some (fun _ lv st h => ex_go 87 lv (.int (-100) :: st) h), none, some (fun _ lv st h => ex_ald 0 88 lv st h), some (fun g lv st h => ex_gf g 11 17 91 lv st h), none, none, some (fun _ lv st h => ex_ii ex_sub 92 lv st h), some (fun _ lv st h => ex_ret (some (Jvm.ClassFile.FieldType.int)) st h), none, none, none]]
theorem ex_k51_eq : ex_k51 = ex_rows 2 (some (Jvm.ClassFile.FieldType.int)) 0 ex_m51.2.2.2.2 := rfl
noncomputable def ex_k52 : List (List (Option ex_K)) := [[some (fun _ lv st h => ex_ald 0 1 lv st h), some (fun g lv st h => ex_gf g 11 14 4 lv st h), none, none, some (fun _ lv st h => ex_if ex_eq0 29 7 lv st h), none, none, some (fun _ lv st h => ex_ald 0 8 lv st h), some (fun g lv st h => ex_gf g 11 3 11 lv st h), none, none, some (fun _ lv st h => ex_ild 1 12 lv st h), none, none, none, some (fun _ lv st h => ex_if ex_eq0 29 18 lv st h)],
  [none, none, some (fun _ lv st h => ex_ald 0 19 lv st h), some (fun g lv st h => ex_gf g 11 3 22 lv st h), none, none, some (fun _ lv st h => ex_ild 1 23 lv st h), none, none, none, some (fun _ lv st h => ex_go 30 lv st h), none, none, some (fun _ lv st h => ex_go 30 lv (.int (-1) :: st) h), some (fun _ lv st h => ex_ret (some (Jvm.ClassFile.FieldType.int)) st h), none]]
theorem ex_k52_eq : ex_k52 = ex_rows 2 (some (Jvm.ClassFile.FieldType.int)) 0 ex_m52.2.2.2.2 := rfl
noncomputable def ex_k53 : List (List (Option ex_K)) := [[some (fun _ lv st h => ex_ald 0 1 lv st h), some (fun g lv st h => ex_gf g 11 10 4 lv st h), none, none, some (fun g lv st h => ex_gf g 10 2 7 lv st h), none, none, some (fun _ lv st h => ex_go 8 lv (.int 0 :: st) h), some (fun _ lv st h => ex_ald 0 9 lv st h), some (fun g lv st h => ex_gf g 11 10 12 lv st h), none, none, some (fun g lv st h => ex_gf g 10 3 15 lv st h), none, none, some (fun g lv st h => ex_callS g 23 3 18 lv st h)],
  [none, none, some (fun _ lv st h => ex_ret (some (Jvm.ClassFile.FieldType.int)) st h), none, none, none, none, none, none, none, none, none, none, none, none, none]]
theorem ex_k53_eq : ex_k53 = ex_rows 1 (some (Jvm.ClassFile.FieldType.int)) 0 ex_m53.2.2.2.2 := rfl
noncomputable def ex_k54 : List (List (Option ex_K)) := [[some (fun _ lv st h => ex_ald 0 1 lv st h), some (fun g lv st h => ex_gf g 11 10 4 lv st h), none, none, some (fun g lv st h => ex_gf g 10 3 7 lv st h), none, none, some (fun _ lv st h => ex_go 10 lv (.int 8000 :: st) h), none, none, some (fun _ lv st h => ex_ic ex_le 15 13 lv st h), none, none, some (fun _ lv st h => ex_go 14 lv (.int (-1) :: st) h), some (fun _ lv st h => ex_ret (some (Jvm.ClassFile.FieldType.int)) st h), some (fun _ lv st h => ex_ald 0 16 lv st h)],
  [some (fun _ lv st h => ex_go 17 lv (.int 0 :: st) h), some (fun g lv st h => ex_pf g (ex_ft 11) 11 1 20 lv st h), none, none, some (fun _ lv st h => ex_go 21 lv (.int 0 :: st) h), some (fun _ lv st h => ex_ist 2 1 22 lv st h), some (fun _ lv st h => ex_ild 1 23 lv st h), some (fun _ lv st h => ex_ald 0 24 lv st h), some (fun g lv st h => ex_gf g 11 10 27 lv st h), none, none, some (fun g lv st h => ex_gf g 10 3 30 lv st h), none, none, some (fun _ lv st h => ex_ic ex_ge 73 33 lv st h), none],
  [none, some (fun _ lv st h => ex_ild 1 34 lv st h), some (fun _ lv st h => ex_ald 0 35 lv st h), some (fun g lv st h => ex_gf g 11 0 38 lv st h), none, none, some (fun g lv st h => ex_len g 39 lv st h), some (fun _ lv st h => ex_ic ex_ge 73 42 lv st h), none, none, some (fun _ lv st h => ex_ald 0 43 lv st h), some (fun g lv st h => ex_gf g 11 0 46 lv st h), none, none, some (fun _ lv st h => ex_ild 1 47 lv st h), some (fun _ lv st h => ex_ald 0 48 lv st h)],
  [some (fun g lv st h => ex_gf g 11 10 51 lv st h), none, none, some (fun _ lv st h => ex_ild 1 52 lv st h), some (fun g lv st h => ex_callV g 24 1 10 55 lv st h), none, none, some (fun _ lv st h => ex_i (fun x => .int x.toInt8.toInt32) 56 lv st h), some (fun g lv st h => ex_xbst g 57 lv st h), some (fun _ lv st h => ex_ald 0 58 lv st h), some (fun _ lv st h => ex_dup 59 lv st h), some (fun g lv st h => ex_gf g 11 1 62 lv st h), none, none, some (fun _ lv st h => ex_go 63 lv (.int 1 :: st) h), some (fun _ lv st h => ex_ii ex_add 64 lv st h)],
  [some (fun g lv st h => ex_pf g (ex_ft 11) 11 1 67 lv st h), none, none, some (fun _ lv st h => ex_inc 2 1 1 70 lv st h), none, none, some (fun _ lv st h => ex_go 22 lv st h), none, none, some (fun _ lv st h => ex_ald 0 74 lv st h), some (fun g lv st h => ex_gf g 11 1 77 lv st h), none, none, some (fun _ lv st h => ex_ret (some (Jvm.ClassFile.FieldType.int)) st h), none, none]]
theorem ex_k54_eq : ex_k54 = ex_rows 2 (some (Jvm.ClassFile.FieldType.int)) 0 ex_m54.2.2.2.2 := rfl
noncomputable def ex_k55 : List (List (Option ex_K)) := [[some (fun _ lv st h => ex_ald 0 1 lv st h), some (fun g lv st h => ex_gf g 11 14 4 lv st h), none, none, some (fun _ lv st h => ex_if ex_eq0 28 7 lv st h), none, none, some (fun _ lv st h => ex_ald 0 8 lv st h), some (fun _ lv st h => ex_ald 0 9 lv st h), some (fun g lv st h => ex_gf g 11 9 12 lv st h), none, none, some (fun _ lv st h => ex_ild 1 13 lv st h), some (fun _ lv st h => ex_ild 2 14 lv st h), none, none],
  [none, none, none, none, some (fun _ lv st h => ex_go 21 lv (.int (-1) :: st) h), some (fun _ lv st h => ex_ic ex_eq 28 24 lv st h), none, none, some (fun _ lv st h => ex_go 25 lv (.int 1 :: st) h), some (fun _ lv st h => ex_go 29 lv st h), none, none, some (fun _ lv st h => ex_go 29 lv (.int 0 :: st) h), some (fun _ lv st h => ex_ret (some (Jvm.ClassFile.FieldType.boolean)) st h), none, none]]
theorem ex_k55_eq : ex_k55 = ex_rows 3 (some (Jvm.ClassFile.FieldType.boolean)) 0 ex_m55.2.2.2.2 := rfl
noncomputable def ex_k56 : List (List (Option ex_K)) := [[some (fun _ lv st h => ex_ald 0 1 lv st h), some (fun g lv st h => ex_callV g 40 0 11 4 lv st h), none, none, some (fun _ lv st h => ex_if ex_ne0 14 7 lv st h), none, none, some (fun _ lv st h => ex_ald 0 8 lv st h), some (fun g lv st h => ex_gf g 11 12 11 lv st h), none, none, some (fun _ lv st h => ex_if ex_ne0 16 14 lv st h), none, none, some (fun _ lv st h => ex_go 15 lv (.int (-1) :: st) h), some (fun _ lv st h => ex_ret (some (Jvm.ClassFile.FieldType.int)) st h)],
  [some (fun _ lv st h => ex_ald 0 17 lv st h), some (fun _ lv st h => ex_dup 18 lv st h), some (fun g lv st h => ex_gf g 11 12 21 lv st h), none, none, some (fun _ lv st h => ex_go 22 lv (.int 1 :: st) h), some (fun _ lv st h => ex_ii ex_sub 23 lv st h), some (fun g lv st h => ex_pf g (ex_ft 11) 11 12 26 lv st h), none, none, some (fun _ lv st h => ex_ald 0 27 lv st h), some (fun g lv st h => ex_gf g 11 12 30 lv st h), none, none, some (fun _ lv st h => ex_ret (some (Jvm.ClassFile.FieldType.int)) st h), none]]
theorem ex_k56_eq : ex_k56 = ex_rows 1 (some (Jvm.ClassFile.FieldType.int)) 0 ex_m56.2.2.2.2 := rfl
noncomputable def ex_k57 : List (List (Option ex_K)) := [[some (fun _ lv st h => ex_ald 0 1 lv st h), some (fun g lv st h => ex_gf g 11 10 4 lv st h), none, none, some (fun g lv st h => ex_callV g 25 0 10 7 lv st h), none, none, some (fun _ lv st h => ex_ald 0 8 lv st h), some (fun g lv st h => ex_gf g 11 14 11 lv st h), none, none, some (fun _ lv st h => ex_if ex_eq0 24 14 lv st h), none, none, some (fun _ lv st h => ex_ald 0 15 lv st h), some (fun g lv st h => ex_gf g 11 10 18 lv st h)],
  [none, none, none, none, none, some (fun _ lv st h => ex_go 25 lv st h), none, none, some (fun _ lv st h => ex_go 25 lv (.int (-1) :: st) h), some (fun _ lv st h => ex_ret (some (Jvm.ClassFile.FieldType.int)) st h), none, none, none, none, none, none]]
theorem ex_k57_eq : ex_k57 = ex_rows 1 (some (Jvm.ClassFile.FieldType.int)) 0 ex_m57.2.2.2.2 := rfl
noncomputable def ex_k58 : List (List (Option ex_K)) := [[some (fun _ lv st h => ex_ald 0 1 lv st h), some (fun _ lv st h => ex_callI 1000000 0 4 lv st h), none, none, some (fun _ lv st h => ex_ald 0 5 lv st h), some (fun _ lv st h => ex_go 8 lv (.int 8000 :: st) h), none, none, some (fun g lv st h => ex_newa g .byte 10 lv st h), none, some (fun g lv st h => ex_pf g (ex_ft 12) 12 0 13 lv st h), none, none, some (fun _ lv st h => ex_ald 0 14 lv st h), some (fun _ lv st h => ex_go 17 lv (.int 8000 :: st) h), none],
  [none, some (fun g lv st h => ex_newa g .byte 19 lv st h), none, some (fun g lv st h => ex_pf g (ex_ft 12) 12 2 22 lv st h), none, none, some (fun _ lv st h => ex_ald 0 23 lv st h), some (fun _ lv st h => ex_go 26 lv (.int 30100 :: st) h), none, none, some (fun g lv st h => ex_newa g .byte 28 lv st h), none, some (fun g lv st h => ex_pf g (ex_ft 12) 12 4 31 lv st h), none, none, some (fun _ lv st h => ex_ald 0 32 lv st h)],
  [some (fun _ lv st h => ex_go 34 lv (.int 40000 :: st) h), none, some (fun g lv st h => ex_newa g .byte 36 lv st h), none, some (fun g lv st h => ex_pf g (ex_ft 12) 12 7 39 lv st h), none, none, some (fun _ lv st h => ex_ald 0 40 lv st h), some (fun _ lv st h => ex_go 42 lv (.int 40000 :: st) h), none, some (fun g lv st h => ex_newa g .int 44 lv st h), none, some (fun g lv st h => ex_pf g (ex_ft 12) 12 8 47 lv st h), none, none, some (fun _ lv st h => ex_ald 0 48 lv st h)],
  [some (fun _ lv st h => ex_go 50 lv (.int 40000 :: st) h), none, some (fun g lv st h => ex_newa g .int 52 lv st h), none, some (fun g lv st h => ex_pf g (ex_ft 12) 12 9 55 lv st h), none, none, some (fun _ lv st h => ex_ald 0 56 lv st h), some (fun _ lv st h => ex_go 58 lv (.int 40000 :: st) h), none, some (fun g lv st h => ex_newa g .int 60 lv st h), none, some (fun g lv st h => ex_pf g (ex_ft 12) 12 10 63 lv st h), none, none, some (fun _ lv st h => ex_ald 0 64 lv st h)],
  [some (fun _ lv st h => ex_go 66 lv (.int 40000 :: st) h), none, some (fun g lv st h => ex_newa g .int 68 lv st h), none, some (fun g lv st h => ex_pf g (ex_ft 12) 12 11 71 lv st h), none, none, some (fun _ lv st h => ex_ald 0 72 lv st h), some (fun _ lv st h => ex_go 74 lv (.int 40000 :: st) h), none, some (fun g lv st h => ex_newa g .int 76 lv st h), none, some (fun g lv st h => ex_pf g (ex_ft 12) 12 12 79 lv st h), none, none, some (fun _ lv st h => ex_ald 0 80 lv st h)],
  [some (fun _ lv st h => ex_go 82 lv (.int 40000 :: st) h), none, some (fun g lv st h => ex_newa g .int 84 lv st h), none, some (fun g lv st h => ex_pf g (ex_ft 12) 12 13 87 lv st h), none, none, some (fun _ lv st h => ex_ald 0 88 lv st h), some (fun _ lv st h => ex_go 90 lv (.int 40000 :: st) h), none, some (fun g lv st h => ex_newa g .int 92 lv st h), none, some (fun g lv st h => ex_pf g (ex_ft 12) 12 14 95 lv st h), none, none, some (fun _ lv st h => ex_ald 0 96 lv st h)],
  [some (fun _ lv st h => ex_go 98 lv (.int 150000 :: st) h), none, some (fun g lv st h => ex_newa g .byte 100 lv st h), none, some (fun g lv st h => ex_pf g (ex_ft 12) 12 16 103 lv st h), none, none, some (fun _ lv st h => ex_ald 0 104 lv st h), some (fun _ lv st h => ex_go 106 lv (.int 57000 :: st) h), none, some (fun g lv st h => ex_newa g .byte 108 lv st h), none, some (fun g lv st h => ex_pf g (ex_ft 12) 12 33 111 lv st h), none, none, some (fun _ lv st h => ex_ald 0 112 lv st h)],
  [some (fun _ lv st h => ex_go 115 lv (.int 8200 :: st) h), none, none, some (fun g lv st h => ex_newa g .byte 117 lv st h), none, some (fun g lv st h => ex_pf g (ex_ft 12) 12 35 120 lv st h), none, none, some (fun _ lv st h => ex_ald 0 121 lv st h), some (fun _ lv st h => ex_go 124 lv (.int 8200 :: st) h), none, none, some (fun g lv st h => ex_newa g .byte 126 lv st h), none, some (fun g lv st h => ex_pf g (ex_ft 12) 12 36 129 lv st h), none],
  [none, some (fun _ lv st h => ex_ald 0 130 lv st h), some (fun _ lv st h => ex_go 133 lv (.int 320 :: st) h), none, none, some (fun g lv st h => ex_newa g .int 135 lv st h), none, some (fun g lv st h => ex_pf g (ex_ft 12) 12 41 138 lv st h), none, none, some (fun _ lv st h => ex_ald 0 139 lv st h), some (fun _ lv st h => ex_go 141 lv (.int 16 :: st) h), none, some (fun g lv st h => ex_newa g .int 143 lv st h), none, some (fun g lv st h => ex_pf g (ex_ft 12) 12 42 146 lv st h)],
  [none, none, some (fun _ lv st h => ex_ald 0 147 lv st h), some (fun _ lv st h => ex_go 150 lv (.int 288 :: st) h), none, none, some (fun g lv st h => ex_newa g .int 152 lv st h), none, some (fun g lv st h => ex_pf g (ex_ft 12) 12 43 155 lv st h), none, none, some (fun _ lv st h => ex_ald 0 156 lv st h), some (fun _ lv st h => ex_go 158 lv (.int 16 :: st) h), none, some (fun g lv st h => ex_newa g .int 160 lv st h), none],
  [some (fun g lv st h => ex_pf g (ex_ft 12) 12 44 163 lv st h), none, none, some (fun _ lv st h => ex_ald 0 164 lv st h), some (fun _ lv st h => ex_go 166 lv (.int 32 :: st) h), none, some (fun g lv st h => ex_newa g .int 168 lv st h), none, some (fun g lv st h => ex_pf g (ex_ft 12) 12 45 171 lv st h), none, none, some (fun _ lv st h => ex_ald 0 172 lv st h), some (fun _ lv st h => ex_go 174 lv (.int 16 :: st) h), none, some (fun g lv st h => ex_newa g .int 176 lv st h), none],
  [some (fun g lv st h => ex_pf g (ex_ft 12) 12 46 179 lv st h), none, none, some (fun _ lv st h => ex_ald 0 180 lv st h), some (fun _ lv st h => ex_go 183 lv (.int 340 :: st) h), none, none, some (fun g lv st h => ex_newa g .int 185 lv st h), none, some (fun g lv st h => ex_pf g (ex_ft 12) 12 47 188 lv st h), none, none, some (fun _ lv st h => ex_ald 0 189 lv st h), some (fun _ lv st h => ex_go 192 lv (.int 200 :: st) h), none, none],
  [some (fun g lv st h => ex_newa g .byte 194 lv st h), none, some (fun g lv st h => ex_pf g (ex_ft 12) 12 48 197 lv st h), none, none, some (fun _ lv st h => ex_ald 0 198 lv st h), some (fun _ lv st h => ex_go 201 lv (.int 200 :: st) h), none, none, some (fun g lv st h => ex_newa g .long 203 lv st h), none, some (fun g lv st h => ex_pf g (ex_ft 12) 12 49 206 lv st h), none, none, some (fun _ lv st h => ex_ald 0 207 lv st h), some (fun _ lv st h => ex_go 210 lv (.int 200 :: st) h)],
  [none, none, some (fun g lv st h => ex_newa g .long 212 lv st h), none, some (fun g lv st h => ex_pf g (ex_ft 12) 12 50 215 lv st h), none, none, some (fun _ lv st h => ex_ald 0 216 lv st h), some (fun _ lv st h => ex_go 219 lv (.int 200 :: st) h), none, none, some (fun g lv st h => ex_newa g .boolean 221 lv st h), none, some (fun g lv st h => ex_pf g (ex_ft 12) 12 51 224 lv st h), none, none],
  [some (fun _ lv st h => ex_ald 0 225 lv st h), some (fun _ lv st h => ex_go 228 lv (.int 200 :: st) h), none, none, some (fun g lv st h => ex_newa g .int 230 lv st h), none, some (fun g lv st h => ex_pf g (ex_ft 12) 12 52 233 lv st h), none, none, some (fun _ lv st h => ex_ald 0 234 lv st h), some (fun _ lv st h => ex_go 237 lv (.int 200 :: st) h), none, none, some (fun g lv st h => ex_newa g .byte 239 lv st h), none, some (fun g lv st h => ex_pf g (ex_ft 12) 12 53 242 lv st h)],
  [none, none, some (fun _ lv st h => ex_ald 0 243 lv st h), some (fun _ lv st h => ex_go 246 lv (.int 200 :: st) h), none, none, some (fun g lv st h => ex_newa g .boolean 248 lv st h), none, some (fun g lv st h => ex_pf g (ex_ft 12) 12 54 251 lv st h), none, none, some (fun _ lv st h => ex_ald 0 252 lv st h), some (fun _ lv st h => ex_go 255 lv (.int 200 :: st) h), none, none, some (fun g lv st h => ex_newa g .int 257 lv st h)],
  [none, some (fun g lv st h => ex_pf g (ex_ft 12) 12 55 260 lv st h), none, none, some (fun _ lv st h => ex_ald 0 261 lv st h), some (fun _ lv st h => ex_go 264 lv (.int 200 :: st) h), none, none, some (fun g lv st h => ex_newa g .int 266 lv st h), none, some (fun g lv st h => ex_pf g (ex_ft 12) 12 56 269 lv st h), none, none, some (fun _ lv st h => ex_ald 0 270 lv st h), some (fun _ lv st h => ex_go 273 lv (.int 200 :: st) h), none],
  [none, some (fun g lv st h => ex_newa g .boolean 275 lv st h), none, some (fun g lv st h => ex_pf g (ex_ft 12) 12 57 278 lv st h), none, none, some (fun _ lv st h => ex_ald 0 279 lv st h), some (fun _ lv st h => ex_go 282 lv (.int 200 :: st) h), none, none, some (fun g lv st h => ex_newa g .boolean 284 lv st h), none, some (fun g lv st h => ex_pf g (ex_ft 12) 12 58 287 lv st h), none, none, some (fun _ lv st h => ex_ald 0 288 lv st h)],
  [some (fun _ lv st h => ex_go 291 lv (.int 200 :: st) h), none, none, some (fun g lv st h => ex_newa g .boolean 293 lv st h), none, some (fun g lv st h => ex_pf g (ex_ft 12) 12 59 296 lv st h), none, none, some (fun _ lv st h => ex_ald 0 297 lv st h), some (fun _ lv st h => ex_go 299 lv (.int 12 :: st) h), none, some (fun g lv st h => ex_newa g .long 301 lv st h), none, some (fun g lv st h => ex_pf g (ex_ft 12) 12 62 304 lv st h), none, none],
  [some (fun _ lv st h => ex_ald 0 305 lv st h), some (fun _ lv st h => ex_go 308 lv (.int 200 :: st) h), none, none, some (fun g lv st h => ex_newa g .byte 310 lv st h), none, some (fun g lv st h => ex_pf g (ex_ft 12) 12 72 313 lv st h), none, none, some (fun _ lv st h => ex_ald 0 314 lv st h), some (fun _ lv st h => ex_go 317 lv (.int 200 :: st) h), none, none, some (fun g lv st h => ex_newa g .long 319 lv st h), none, some (fun g lv st h => ex_pf g (ex_ft 12) 12 73 322 lv st h)],
  [none, none, some (fun _ lv st h => ex_ald 0 323 lv st h), some (fun _ lv st h => ex_go 326 lv (.int 200 :: st) h), none, none, some (fun g lv st h => ex_newa g .long 328 lv st h), none, some (fun g lv st h => ex_pf g (ex_ft 12) 12 74 331 lv st h), none, none, some (fun _ lv st h => ex_ald 0 332 lv st h), some (fun _ lv st h => ex_go 333 lv (.int 3 :: st) h), some (fun g lv st h => ex_newa g .int 335 lv st h), none, some (fun g lv st h => ex_pf g (ex_ft 12) 12 76 338 lv st h)],
  [none, none, some (fun _ lv st h => ex_ald 0 339 lv st h), some (fun _ lv st h => ex_go 341 lv (.int 61 :: st) h), none, some (fun g lv st h => ex_newa g .int 343 lv st h), none, some (fun g lv st h => ex_pf g (ex_ft 12) 12 85 346 lv st h), none, none, some (fun _ lv st h => ex_ald 0 347 lv st h), some (fun _ lv st h => ex_go 350 lv (.int 200 :: st) h), none, none, some (fun g lv st h => ex_newa g .int 352 lv st h), none],
  [some (fun g lv st h => ex_pf g (ex_ft 12) 12 86 355 lv st h), none, none, some (fun _ lv st h => ex_ald 0 356 lv st h), some (fun _ lv st h => ex_go 359 lv (.int 200 :: st) h), none, none, some (fun g lv st h => ex_newa g .boolean 361 lv st h), none, some (fun g lv st h => ex_pf g (ex_ft 12) 12 87 364 lv st h), none, none, some (fun _ lv st h => ex_ald 0 365 lv st h), some (fun _ lv st h => ex_go 366 lv (.int (-1) :: st) h), some (fun g lv st h => ex_pf g (ex_ft 12) 12 88 369 lv st h), none],
  [none, some (fun _ lv st h => ex_ald 0 370 lv st h), some (fun _ lv st h => ex_go 372 lv (.int 26 :: st) h), none, some (fun g lv st h => ex_newa g .int 374 lv st h), none, some (fun g lv st h => ex_pf g (ex_ft 12) 12 90 377 lv st h), none, none, some (fun _ lv st h => ex_ald 0 378 lv st h), some (fun _ lv st h => ex_go 380 lv (.int 40100 :: st) h), none, some (fun g lv st h => ex_newa g .byte 382 lv st h), none, some (fun g lv st h => ex_pf g (ex_ft 12) 12 91 385 lv st h), none],
  [none, some (fun _ lv st h => ex_ald 0 386 lv st h), some (fun _ lv st h => ex_go 388 lv (.int 40 :: st) h), none, some (fun g lv st h => ex_newa g .int 390 lv st h), none, some (fun g lv st h => ex_pf g (ex_ft 12) 12 93 393 lv st h), none, none, some (fun _ lv st h => ex_ald 0 394 lv st h), some (fun _ lv st h => ex_go 396 lv (.int 6 :: st) h), none, some (fun g lv st h => ex_newa g .int 398 lv st h), none, some (fun g lv st h => ex_pf g (ex_ft 12) 12 95 401 lv st h), none],
  [none, some (fun _ lv st h => ex_ald 0 402 lv st h), some (fun _ lv st h => ex_go 404 lv (.int 6 :: st) h), none, some (fun g lv st h => ex_newa g .int 406 lv st h), none, some (fun g lv st h => ex_pf g (ex_ft 12) 12 96 409 lv st h), none, none, some (fun _ lv st h => ex_ald 0 410 lv st h), some (fun _ lv st h => ex_go 412 lv (.int 6 :: st) h), none, some (fun g lv st h => ex_newa g .int 414 lv st h), none, some (fun g lv st h => ex_pf g (ex_ft 12) 12 97 417 lv st h), none],
  [none, some (fun _ lv st h => ex_ald 0 418 lv st h), some (fun _ lv st h => ex_go 420 lv (.int 6 :: st) h), none, some (fun g lv st h => ex_newa g .int 422 lv st h), none, some (fun g lv st h => ex_pf g (ex_ft 12) 12 98 425 lv st h), none, none, some (fun _ lv st h => ex_ald 0 426 lv st h), some (fun _ lv st h => ex_go 428 lv (.int 6 :: st) h), none, some (fun g lv st h => ex_newa g .long 430 lv st h), none, some (fun g lv st h => ex_pf g (ex_ft 12) 12 99 433 lv st h), none],
  [none, some (fun _ lv st h => ex_ald 0 434 lv st h), some (fun _ lv st h => ex_go 436 lv (.int 9 :: st) h), none, some (fun g lv st h => ex_newa g .int 438 lv st h), none, some (fun g lv st h => ex_pf g (ex_ft 12) 12 100 441 lv st h), none, none, some (fun _ lv st h => ex_ald 0 442 lv st h), some (fun _ lv st h => ex_go 445 lv (.int 300 :: st) h), none, none, some (fun g lv st h => ex_newa g .int 447 lv st h), none, some (fun g lv st h => ex_pf g (ex_ft 12) 12 101 450 lv st h)],
  [none, none, some (fun _ lv st h => ex_ald 0 451 lv st h), some (fun _ lv st h => ex_go 454 lv (.int 7500 :: st) h), none, none, some (fun g lv st h => ex_newa g .int 456 lv st h), none, some (fun g lv st h => ex_pf g (ex_ft 12) 12 105 459 lv st h), none, none, some (fun _ lv st h => ex_ald 0 460 lv st h), some (fun _ lv st h => ex_go 462 lv (.int 47 :: st) h), none, some (fun g lv st h => ex_newq g 465 lv st h), none],
  [none, some (fun _ lv st h => ex_dup 466 lv st h), some (fun _ lv st h => ex_go 467 lv (.int 0 :: st) h), some (fun _ lv st h => ex_go 469 lv (.ref 6 :: st) h), none, some (fun g lv st h => ex_xast g 470 lv st h), some (fun _ lv st h => ex_dup 471 lv st h), some (fun _ lv st h => ex_go 472 lv (.int 1 :: st) h), some (fun _ lv st h => ex_go 474 lv (.ref 8 :: st) h), none, some (fun g lv st h => ex_xast g 475 lv st h), some (fun _ lv st h => ex_dup 476 lv st h), some (fun _ lv st h => ex_go 477 lv (.int 2 :: st) h), some (fun _ lv st h => ex_go 479 lv (.ref 10 :: st) h), none, some (fun g lv st h => ex_xast g 480 lv st h)],
  [some (fun _ lv st h => ex_dup 481 lv st h), some (fun _ lv st h => ex_go 482 lv (.int 3 :: st) h), some (fun _ lv st h => ex_go 484 lv (.ref 12 :: st) h), none, some (fun g lv st h => ex_xast g 485 lv st h), some (fun _ lv st h => ex_dup 486 lv st h), some (fun _ lv st h => ex_go 487 lv (.int 4 :: st) h), some (fun _ lv st h => ex_go 489 lv (.ref 14 :: st) h), none, some (fun g lv st h => ex_xast g 490 lv st h), some (fun _ lv st h => ex_dup 491 lv st h), some (fun _ lv st h => ex_go 492 lv (.int 5 :: st) h), some (fun _ lv st h => ex_go 494 lv (.ref 16 :: st) h), none, some (fun g lv st h => ex_xast g 495 lv st h), some (fun _ lv st h => ex_dup 496 lv st h)],
  [some (fun _ lv st h => ex_go 498 lv (.int 6 :: st) h), none, some (fun _ lv st h => ex_go 500 lv (.ref 18 :: st) h), none, some (fun g lv st h => ex_xast g 501 lv st h), some (fun _ lv st h => ex_dup 502 lv st h), some (fun _ lv st h => ex_go 504 lv (.int 7 :: st) h), none, some (fun _ lv st h => ex_go 506 lv (.ref 20 :: st) h), none, some (fun g lv st h => ex_xast g 507 lv st h), some (fun _ lv st h => ex_dup 508 lv st h), some (fun _ lv st h => ex_go 510 lv (.int 8 :: st) h), none, some (fun _ lv st h => ex_go 512 lv (.ref 22 :: st) h), none],
  [some (fun g lv st h => ex_xast g 513 lv st h), some (fun _ lv st h => ex_dup 514 lv st h), some (fun _ lv st h => ex_go 516 lv (.int 9 :: st) h), none, some (fun _ lv st h => ex_go 518 lv (.ref 24 :: st) h), none, some (fun g lv st h => ex_xast g 519 lv st h), some (fun _ lv st h => ex_dup 520 lv st h), some (fun _ lv st h => ex_go 522 lv (.int 10 :: st) h), none, some (fun _ lv st h => ex_go 524 lv (.ref 26 :: st) h), none, some (fun g lv st h => ex_xast g 525 lv st h), some (fun _ lv st h => ex_dup 526 lv st h), some (fun _ lv st h => ex_go 528 lv (.int 11 :: st) h), none],
  [some (fun _ lv st h => ex_go 530 lv (.ref 28 :: st) h), none, some (fun g lv st h => ex_xast g 531 lv st h), some (fun _ lv st h => ex_dup 532 lv st h), some (fun _ lv st h => ex_go 534 lv (.int 12 :: st) h), none, some (fun _ lv st h => ex_go 536 lv (.ref 30 :: st) h), none, some (fun g lv st h => ex_xast g 537 lv st h), some (fun _ lv st h => ex_dup 538 lv st h), some (fun _ lv st h => ex_go 540 lv (.int 13 :: st) h), none, some (fun _ lv st h => ex_go 542 lv (.ref 32 :: st) h), none, some (fun g lv st h => ex_xast g 543 lv st h), some (fun _ lv st h => ex_dup 544 lv st h)],
  [some (fun _ lv st h => ex_go 546 lv (.int 14 :: st) h), none, some (fun _ lv st h => ex_go 548 lv (.ref 34 :: st) h), none, some (fun g lv st h => ex_xast g 549 lv st h), some (fun _ lv st h => ex_dup 550 lv st h), some (fun _ lv st h => ex_go 552 lv (.int 15 :: st) h), none, some (fun _ lv st h => ex_go 554 lv (.ref 36 :: st) h), none, some (fun g lv st h => ex_xast g 555 lv st h), some (fun _ lv st h => ex_dup 556 lv st h), some (fun _ lv st h => ex_go 558 lv (.int 16 :: st) h), none, some (fun _ lv st h => ex_go 560 lv (.ref 38 :: st) h), none],
  [some (fun g lv st h => ex_xast g 561 lv st h), some (fun _ lv st h => ex_dup 562 lv st h), some (fun _ lv st h => ex_go 564 lv (.int 17 :: st) h), none, some (fun _ lv st h => ex_go 566 lv (.ref 40 :: st) h), none, some (fun g lv st h => ex_xast g 567 lv st h), some (fun _ lv st h => ex_dup 568 lv st h), some (fun _ lv st h => ex_go 570 lv (.int 18 :: st) h), none, some (fun _ lv st h => ex_go 572 lv (.ref 42 :: st) h), none, some (fun g lv st h => ex_xast g 573 lv st h), some (fun _ lv st h => ex_dup 574 lv st h), some (fun _ lv st h => ex_go 576 lv (.int 19 :: st) h), none],
  [some (fun _ lv st h => ex_go 578 lv (.ref 44 :: st) h), none, some (fun g lv st h => ex_xast g 579 lv st h), some (fun _ lv st h => ex_dup 580 lv st h), some (fun _ lv st h => ex_go 582 lv (.int 20 :: st) h), none, some (fun _ lv st h => ex_go 584 lv (.ref 46 :: st) h), none, some (fun g lv st h => ex_xast g 585 lv st h), some (fun _ lv st h => ex_dup 586 lv st h), some (fun _ lv st h => ex_go 588 lv (.int 21 :: st) h), none, some (fun _ lv st h => ex_go 590 lv (.ref 48 :: st) h), none, some (fun g lv st h => ex_xast g 591 lv st h), some (fun _ lv st h => ex_dup 592 lv st h)],
  [some (fun _ lv st h => ex_go 594 lv (.int 22 :: st) h), none, some (fun _ lv st h => ex_go 596 lv (.ref 50 :: st) h), none, some (fun g lv st h => ex_xast g 597 lv st h), some (fun _ lv st h => ex_dup 598 lv st h), some (fun _ lv st h => ex_go 600 lv (.int 23 :: st) h), none, some (fun _ lv st h => ex_go 602 lv (.ref 52 :: st) h), none, some (fun g lv st h => ex_xast g 603 lv st h), some (fun _ lv st h => ex_dup 604 lv st h), some (fun _ lv st h => ex_go 606 lv (.int 24 :: st) h), none, some (fun _ lv st h => ex_go 608 lv (.ref 54 :: st) h), none],
  [some (fun g lv st h => ex_xast g 609 lv st h), some (fun _ lv st h => ex_dup 610 lv st h), some (fun _ lv st h => ex_go 612 lv (.int 25 :: st) h), none, some (fun _ lv st h => ex_go 614 lv (.ref 56 :: st) h), none, some (fun g lv st h => ex_xast g 615 lv st h), some (fun _ lv st h => ex_dup 616 lv st h), some (fun _ lv st h => ex_go 618 lv (.int 26 :: st) h), none, some (fun _ lv st h => ex_go 620 lv (.ref 58 :: st) h), none, some (fun g lv st h => ex_xast g 621 lv st h), some (fun _ lv st h => ex_dup 622 lv st h), some (fun _ lv st h => ex_go 624 lv (.int 27 :: st) h), none],
  [some (fun _ lv st h => ex_go 626 lv (.ref 60 :: st) h), none, some (fun g lv st h => ex_xast g 627 lv st h), some (fun _ lv st h => ex_dup 628 lv st h), some (fun _ lv st h => ex_go 630 lv (.int 28 :: st) h), none, some (fun _ lv st h => ex_go 632 lv (.ref 62 :: st) h), none, some (fun g lv st h => ex_xast g 633 lv st h), some (fun _ lv st h => ex_dup 634 lv st h), some (fun _ lv st h => ex_go 636 lv (.int 29 :: st) h), none, some (fun _ lv st h => ex_go 638 lv (.ref 64 :: st) h), none, some (fun g lv st h => ex_xast g 639 lv st h), some (fun _ lv st h => ex_dup 640 lv st h)],
  [some (fun _ lv st h => ex_go 642 lv (.int 30 :: st) h), none, some (fun _ lv st h => ex_go 644 lv (.ref 66 :: st) h), none, some (fun g lv st h => ex_xast g 645 lv st h), some (fun _ lv st h => ex_dup 646 lv st h), some (fun _ lv st h => ex_go 648 lv (.int 31 :: st) h), none, some (fun _ lv st h => ex_go 650 lv (.ref 68 :: st) h), none, some (fun g lv st h => ex_xast g 651 lv st h), some (fun _ lv st h => ex_dup 652 lv st h), some (fun _ lv st h => ex_go 654 lv (.int 32 :: st) h), none, some (fun _ lv st h => ex_go 656 lv (.ref 70 :: st) h), none],
  [some (fun g lv st h => ex_xast g 657 lv st h), some (fun _ lv st h => ex_dup 658 lv st h), some (fun _ lv st h => ex_go 660 lv (.int 33 :: st) h), none, some (fun _ lv st h => ex_go 662 lv (.ref 72 :: st) h), none, some (fun g lv st h => ex_xast g 663 lv st h), some (fun _ lv st h => ex_dup 664 lv st h), some (fun _ lv st h => ex_go 666 lv (.int 34 :: st) h), none, some (fun _ lv st h => ex_go 668 lv (.ref 74 :: st) h), none, some (fun g lv st h => ex_xast g 669 lv st h), some (fun _ lv st h => ex_dup 670 lv st h), some (fun _ lv st h => ex_go 672 lv (.int 35 :: st) h), none],
  [some (fun _ lv st h => ex_go 674 lv (.ref 76 :: st) h), none, some (fun g lv st h => ex_xast g 675 lv st h), some (fun _ lv st h => ex_dup 676 lv st h), some (fun _ lv st h => ex_go 678 lv (.int 36 :: st) h), none, some (fun _ lv st h => ex_go 680 lv (.ref 78 :: st) h), none, some (fun g lv st h => ex_xast g 681 lv st h), some (fun _ lv st h => ex_dup 682 lv st h), some (fun _ lv st h => ex_go 684 lv (.int 37 :: st) h), none, some (fun _ lv st h => ex_go 687 lv (.ref 80 :: st) h), none, none, some (fun g lv st h => ex_xast g 688 lv st h)],
  [some (fun _ lv st h => ex_dup 689 lv st h), some (fun _ lv st h => ex_go 691 lv (.int 38 :: st) h), none, some (fun _ lv st h => ex_go 694 lv (.ref 82 :: st) h), none, none, some (fun g lv st h => ex_xast g 695 lv st h), some (fun _ lv st h => ex_dup 696 lv st h), some (fun _ lv st h => ex_go 698 lv (.int 39 :: st) h), none, some (fun _ lv st h => ex_go 701 lv (.ref 84 :: st) h), none, none, some (fun g lv st h => ex_xast g 702 lv st h), some (fun _ lv st h => ex_dup 703 lv st h), some (fun _ lv st h => ex_go 705 lv (.int 40 :: st) h)],
  [none, some (fun _ lv st h => ex_go 708 lv (.ref 86 :: st) h), none, none, some (fun g lv st h => ex_xast g 709 lv st h), some (fun _ lv st h => ex_dup 710 lv st h), some (fun _ lv st h => ex_go 712 lv (.int 41 :: st) h), none, some (fun _ lv st h => ex_go 715 lv (.ref 88 :: st) h), none, none, some (fun g lv st h => ex_xast g 716 lv st h), some (fun _ lv st h => ex_dup 717 lv st h), some (fun _ lv st h => ex_go 719 lv (.int 42 :: st) h), none, some (fun _ lv st h => ex_go 722 lv (.ref 90 :: st) h)],
  [none, none, some (fun g lv st h => ex_xast g 723 lv st h), some (fun _ lv st h => ex_dup 724 lv st h), some (fun _ lv st h => ex_go 726 lv (.int 43 :: st) h), none, some (fun _ lv st h => ex_go 729 lv (.ref 92 :: st) h), none, none, some (fun g lv st h => ex_xast g 730 lv st h), some (fun _ lv st h => ex_dup 731 lv st h), some (fun _ lv st h => ex_go 733 lv (.int 44 :: st) h), none, some (fun _ lv st h => ex_go 736 lv (.ref 94 :: st) h), none, none],
  [some (fun g lv st h => ex_xast g 737 lv st h), some (fun _ lv st h => ex_dup 738 lv st h), some (fun _ lv st h => ex_go 740 lv (.int 45 :: st) h), none, some (fun _ lv st h => ex_go 743 lv (.ref 96 :: st) h), none, none, some (fun g lv st h => ex_xast g 744 lv st h), some (fun _ lv st h => ex_dup 745 lv st h), some (fun _ lv st h => ex_go 747 lv (.int 46 :: st) h), none, some (fun _ lv st h => ex_go 750 lv (.ref 98 :: st) h), none, none, some (fun g lv st h => ex_xast g 751 lv st h), some (fun g lv st h => ex_pf g (ex_ft 12) 12 108 754 lv st h)],
  [none, none, some (fun _ lv st h => ex_ald 0 755 lv st h), some (fun _ lv st h => ex_go 758 lv (.int 200 :: st) h), none, none, some (fun g lv st h => ex_newa g .int 760 lv st h), none, some (fun g lv st h => ex_pf g (ex_ft 12) 12 110 763 lv st h), none, none, some (fun _ lv st h => ex_ald 0 764 lv st h), some (fun _ lv st h => ex_go 767 lv (.int 200 :: st) h), none, none, some (fun g lv st h => ex_newa g .int 769 lv st h)],
  [none, some (fun g lv st h => ex_pf g (ex_ft 12) 12 111 772 lv st h), none, none, some (fun _ lv st h => ex_ald 0 773 lv st h), some (fun _ lv st h => ex_go 776 lv (.int 201 :: st) h), none, none, some (fun g lv st h => ex_newa g .int 778 lv st h), none, some (fun g lv st h => ex_pf g (ex_ft 12) 12 113 781 lv st h), none, none, some (fun _ lv st h => ex_ald 0 782 lv st h), some (fun _ lv st h => ex_go 785 lv (.int 50000 :: st) h), none],
  [none, some (fun g lv st h => ex_newa g .byte 787 lv st h), none, some (fun g lv st h => ex_pf g (ex_ft 12) 12 114 790 lv st h), none, none, some (fun _ lv st h => ex_ald 0 791 lv st h), some (fun _ lv st h => ex_go 794 lv (.int 4096 :: st) h), none, none, some (fun g lv st h => ex_newa g .int 796 lv st h), none, some (fun g lv st h => ex_pf g (ex_ft 12) 12 117 799 lv st h), none, none, some (fun _ lv st h => ex_ald 0 800 lv st h)],
  [some (fun _ lv st h => ex_go 802 lv (.int 57000 :: st) h), none, some (fun g lv st h => ex_newa g .int 804 lv st h), none, some (fun g lv st h => ex_pf g (ex_ft 12) 12 118 807 lv st h), none, none, some (fun _ lv st h => ex_ald 0 808 lv st h), some (fun _ lv st h => ex_go 811 lv (.int 1400 :: st) h), none, none, some (fun g lv st h => ex_newa g .byte 813 lv st h), none, some (fun g lv st h => ex_pf g (ex_ft 12) 12 119 816 lv st h), none, none],
  [some (fun _ lv st h => ex_ald 0 817 lv st h), some (fun _ lv st h => ex_go 818 lv (.int 0 :: st) h), some (fun g lv st h => ex_pf g (ex_ft 12) 12 6 821 lv st h), none, none, some (fun _ lv st h => ex_ald 0 822 lv st h), some (fun _ lv st h => ex_go 823 lv (.int (-1) :: st) h), some (fun g lv st h => ex_pf g (ex_ft 12) 12 69 826 lv st h), none, none, some (fun _ lv st h => ex_ald 0 827 lv st h), some (fun _ lv st h => ex_go 828 lv (.int (-1) :: st) h), some (fun g lv st h => ex_pf g (ex_ft 12) 12 71 831 lv st h), none, none, some (fun _ lv st h => ex_vret (none) st h)]]
theorem ex_k58_eq : ex_k58 = ex_rows 1 (none) 0 ex_m58.2.2.2.2 := rfl
noncomputable def ex_k59 : List (List (Option ex_K)) := [[some (fun _ lv st h => ex_go 1 lv (.int 1 :: st) h), some (fun _ lv st h => ex_ist 5 2 2 lv st h), some (fun _ lv st h => ex_go 3 lv (.int 0 :: st) h), some (fun _ lv st h => ex_ist 5 3 4 lv st h), some (fun _ lv st h => ex_go 5 lv (.int 0 :: st) h), some (fun _ lv st h => ex_ist 5 4 7 lv st h), none, some (fun _ lv st h => ex_ild 4 9 lv st h), none, some (fun _ lv st h => ex_ild 1 10 lv st h), some (fun _ lv st h => ex_ic ex_ge 42 13 lv st h), none, none, some (fun _ lv st h => ex_ild 2 14 lv st h), some (fun _ lv st h => ex_ald 0 15 lv st h), some (fun _ lv st h => ex_ild 4 17 lv st h)],
  [none, some (fun g lv st h => ex_xld g 1 2 18 lv st h), some (fun _ lv st h => ex_go 21 lv (.int 255 :: st) h), none, none, some (fun _ lv st h => ex_ii (fun x y => x &&& y) 22 lv st h), some (fun _ lv st h => ex_ii ex_add 23 lv st h), some (fun _ lv st h => ex_go 26 lv (.int 65521 :: st) h), none, none, some (fun _ lv st h => ex_iid (fun x y => x - x / y * y) 27 lv st h), some (fun _ lv st h => ex_ist 5 2 28 lv st h), some (fun _ lv st h => ex_ild 3 29 lv st h), some (fun _ lv st h => ex_ild 2 30 lv st h), some (fun _ lv st h => ex_ii ex_add 31 lv st h), some (fun _ lv st h => ex_go 34 lv (.int 65521 :: st) h)],
  [none, none, some (fun _ lv st h => ex_iid (fun x y => x - x / y * y) 35 lv st h), some (fun _ lv st h => ex_ist 5 3 36 lv st h), some (fun _ lv st h => ex_inc 5 4 1 39 lv st h), none, none, some (fun _ lv st h => ex_go 7 lv st h), none, none, some (fun _ lv st h => ex_ild 3 43 lv st h), some (fun _ lv st h => ex_i (fun x => .long x.toInt64) 44 lv st h), some (fun _ lv st h => ex_go 46 lv (.int 16 :: st) h), none, some (fun _ lv st h => ex_li (fun x y => x <<< (y.toInt64 &&& 63)) 47 lv st h), some (fun _ lv st h => ex_ild 2 48 lv st h)],
  [some (fun _ lv st h => ex_i (fun x => .long x.toInt64) 49 lv st h), some (fun _ lv st h => ex_ll (fun x y => x ||| y) 50 lv st h), some (fun _ lv st h => ex_lret (some (Jvm.ClassFile.FieldType.long)) st h), none, none, none, none, none, none, none, none, none, none, none, none, none]]
theorem ex_k59_eq : ex_k59 = ex_rows 5 (some (Jvm.ClassFile.FieldType.long)) 0 ex_m59.2.2.2.2 := rfl
noncomputable def ex_k60 : List (List (Option ex_K)) := [[some (fun _ lv st h => ex_ild 1 1 lv st h), some (fun _ lv st h => ex_ald 0 2 lv st h), some (fun g lv st h => ex_gf g 12 3 5 lv st h), none, none, some (fun _ lv st h => ex_ic ex_ge 21 8 lv st h), none, none, some (fun _ lv st h => ex_ald 0 9 lv st h), some (fun g lv st h => ex_gf g 12 2 12 lv st h), none, none, some (fun _ lv st h => ex_ild 1 13 lv st h), some (fun g lv st h => ex_xld g 1 2 14 lv st h), some (fun _ lv st h => ex_go 17 lv (.int 255 :: st) h), none],
  [none, some (fun _ lv st h => ex_ii (fun x y => x &&& y) 18 lv st h), some (fun _ lv st h => ex_go 22 lv st h), none, none, some (fun _ lv st h => ex_go 22 lv (.int (-1) :: st) h), some (fun _ lv st h => ex_ret (some (Jvm.ClassFile.FieldType.int)) st h), none, none, none, none, none, none, none, none, none]]
theorem ex_k60_eq : ex_k60 = ex_rows 2 (some (Jvm.ClassFile.FieldType.int)) 0 ex_m60.2.2.2.2 := rfl
noncomputable def ex_k61 : List (List (Option ex_K)) := [[some (fun _ lv st h => ex_ald 0 1 lv st h), some (fun g lv st h => ex_gf g 12 1 4 lv st h), none, none, some (fun _ lv st h => ex_ist 5 2 5 lv st h), some (fun _ lv st h => ex_ald 0 6 lv st h), some (fun _ lv st h => ex_go 7 lv (.int 0 :: st) h), some (fun g lv st h => ex_pf g (ex_ft 12) 12 1 10 lv st h), none, none, some (fun _ lv st h => ex_ald 0 11 lv st h), some (fun _ lv st h => ex_ild 1 12 lv st h), some (fun g lv st h => ex_callV g 77 1 12 15 lv st h), none, none, some (fun _ lv st h => ex_if ex_eq0 39 18 lv st h)],
  [none, none, some (fun _ lv st h => ex_ald 0 19 lv st h), none, none, none, some (fun _ lv st h => ex_go 25 lv (.int 200 :: st) h), none, none, some (fun _ lv st h => ex_ic ex_eq 39 28 lv st h), none, none, some (fun _ lv st h => ex_ald 0 29 lv st h), some (fun g lv st h => ex_gf g 12 67 32 lv st h), none, none],
  [some (fun _ lv st h => ex_ild 2 33 lv st h), some (fun _ lv st h => ex_ii ex_add 34 lv st h), some (fun _ lv st h => ex_go 36 lv (.int 40000 :: st) h), none, some (fun _ lv st h => ex_ic ex_le 41 39 lv st h), none, none, some (fun _ lv st h => ex_go 40 lv (.int (-1) :: st) h), some (fun _ lv st h => ex_ret (some (Jvm.ClassFile.FieldType.int)) st h), some (fun _ lv st h => ex_ald 0 42 lv st h), some (fun _ lv st h => ex_ald 0 43 lv st h), some (fun _ lv st h => ex_go 45 lv (.int 7 :: st) h), none, some (fun _ lv st h => ex_go 46 lv (.int 0 :: st) h), none, none],
  [none, none, none, none, some (fun _ lv st h => ex_ist 5 3 53 lv st h), some (fun _ lv st h => ex_ald 0 54 lv st h), some (fun g lv st h => ex_gf g 12 54 57 lv st h), none, none, some (fun _ lv st h => ex_ild 3 58 lv st h), some (fun _ lv st h => ex_go 59 lv (.int 1 :: st) h), some (fun g lv st h => ex_xbst g 60 lv st h), some (fun _ lv st h => ex_ald 0 61 lv st h), some (fun g lv st h => ex_gf g 12 55 64 lv st h), none, none],
  [some (fun _ lv st h => ex_ild 3 65 lv st h), some (fun _ lv st h => ex_ald 0 66 lv st h), some (fun g lv st h => ex_gf g 12 34 69 lv st h), none, none, some (fun g lv st h => ex_xst g 70 lv st h), some (fun _ lv st h => ex_ald 0 71 lv st h), some (fun g lv st h => ex_gf g 12 56 74 lv st h), none, none, some (fun _ lv st h => ex_ild 3 75 lv st h), some (fun _ lv st h => ex_ild 2 76 lv st h), some (fun g lv st h => ex_xst g 77 lv st h), some (fun _ lv st h => ex_go 78 lv (.int 0 :: st) h), some (fun _ lv st h => ex_ist 5 4 80 lv st h), none],
  [some (fun _ lv st h => ex_ild 4 82 lv st h), none, some (fun _ lv st h => ex_ild 2 83 lv st h), some (fun _ lv st h => ex_ic ex_ge 111 86 lv st h), none, none, some (fun _ lv st h => ex_ald 0 87 lv st h), some (fun g lv st h => ex_gf g 12 33 90 lv st h), none, none, some (fun _ lv st h => ex_ald 0 91 lv st h), some (fun g lv st h => ex_gf g 12 34 94 lv st h), none, none, some (fun _ lv st h => ex_ild 4 96 lv st h), none],
  [some (fun _ lv st h => ex_ii ex_add 97 lv st h), some (fun _ lv st h => ex_ald 0 98 lv st h), some (fun g lv st h => ex_gf g 12 0 101 lv st h), none, none, some (fun _ lv st h => ex_ild 4 103 lv st h), none, some (fun g lv st h => ex_xld g 1 2 104 lv st h), some (fun g lv st h => ex_xbst g 105 lv st h), some (fun _ lv st h => ex_inc 5 4 1 108 lv st h), none, none, some (fun _ lv st h => ex_go 80 lv st h), none, none, some (fun _ lv st h => ex_ald 0 112 lv st h)],
  [some (fun _ lv st h => ex_dup 113 lv st h), some (fun g lv st h => ex_gf g 12 34 116 lv st h), none, none, some (fun _ lv st h => ex_ild 2 117 lv st h), some (fun _ lv st h => ex_ii ex_add 118 lv st h), some (fun g lv st h => ex_pf g (ex_ft 12) 12 34 121 lv st h), none, none, some (fun _ lv st h => ex_ald 0 122 lv st h), some (fun _ lv st h => ex_dup 123 lv st h), some (fun g lv st h => ex_gf g 12 67 126 lv st h), none, none, some (fun _ lv st h => ex_ild 2 127 lv st h), some (fun _ lv st h => ex_ii ex_add 128 lv st h)],
  [some (fun g lv st h => ex_pf g (ex_ft 12) 12 67 131 lv st h), none, none, some (fun _ lv st h => ex_ald 0 132 lv st h), some (fun _ lv st h => ex_ald 0 133 lv st h), some (fun g lv st h => ex_gf g 12 52 136 lv st h), none, none, some (fun _ lv st h => ex_ald 0 137 lv st h), some (fun g lv st h => ex_gf g 12 85 140 lv st h), none, none, some (fun _ lv st h => ex_ild 1 141 lv st h), some (fun g lv st h => ex_xld g 0 0 142 lv st h), some (fun g lv st h => ex_xld g 0 0 143 lv st h), some (fun _ lv st h => ex_go 146 lv (.ref 100 :: st) h)],
  [none, none, some (fun _ lv st h => ex_go 148 lv (.int 8 :: st) h), none, some (fun _ lv st h => ex_ild 3 149 lv st h), some (fun _ lv st h => ex_go 150 lv (.int 0 :: st) h), none, none, none, some (fun _ lv st h => ex_pop 154 lv st h), some (fun _ lv st h => ex_ald 0 155 lv st h), some (fun _ lv st h => ex_ald 0 156 lv st h), some (fun g lv st h => ex_gf g 12 85 159 lv st h), none, none, some (fun _ lv st h => ex_ild 1 160 lv st h)],
  [some (fun g lv st h => ex_xld g 0 0 161 lv st h), none, none, none, some (fun _ lv st h => ex_ald 0 165 lv st h), some (fun _ lv st h => ex_go 166 lv (.int (-1) :: st) h), some (fun g lv st h => ex_pf g (ex_ft 12) 12 88 169 lv st h), none, none, some (fun _ lv st h => ex_ild 3 170 lv st h), some (fun _ lv st h => ex_ret (some (Jvm.ClassFile.FieldType.int)) st h), none, none, none, none, none]]
theorem ex_k61_eq : ex_k61 = ex_rows 5 (some (Jvm.ClassFile.FieldType.int)) 0 ex_m61.2.2.2.2 := rfl
noncomputable def ex_k62 : List (List (Option ex_K)) := [[some (fun _ lv st h => ex_ald 0 1 lv st h), some (fun g lv st h => ex_gf g 12 6 4 lv st h), none, none, some (fun _ lv st h => ex_if ex_ne0 9 7 lv st h), none, none, some (fun _ lv st h => ex_go 8 lv (.int (-1) :: st) h), some (fun _ lv st h => ex_ret (some (Jvm.ClassFile.FieldType.int)) st h), some (fun _ lv st h => ex_go 10 lv (.int 0 :: st) h), some (fun _ lv st h => ex_ist 4 2 11 lv st h), some (fun _ lv st h => ex_go 12 lv (.int 0 :: st) h), some (fun _ lv st h => ex_ist 4 3 13 lv st h), some (fun _ lv st h => ex_ild 3 14 lv st h), some (fun _ lv st h => ex_ald 0 15 lv st h), some (fun g lv st h => ex_gf g 12 60 18 lv st h)],
  [none, none, some (fun _ lv st h => ex_ic ex_ge 44 21 lv st h), none, none, some (fun _ lv st h => ex_ild 2 22 lv st h), some (fun _ lv st h => ex_ald 0 23 lv st h), some (fun g lv st h => ex_gf g 12 57 26 lv st h), none, none, some (fun _ lv st h => ex_ild 3 27 lv st h), some (fun g lv st h => ex_xld g 1 2 28 lv st h), some (fun _ lv st h => ex_if ex_eq0 35 31 lv st h), none, none, some (fun _ lv st h => ex_go 32 lv (.int 1 :: st) h)],
  [some (fun _ lv st h => ex_go 36 lv st h), none, none, some (fun _ lv st h => ex_go 36 lv (.int 0 :: st) h), some (fun _ lv st h => ex_ii ex_add 37 lv st h), some (fun _ lv st h => ex_ist 4 2 38 lv st h), some (fun _ lv st h => ex_inc 4 3 1 41 lv st h), none, none, some (fun _ lv st h => ex_go 13 lv st h), none, none, some (fun _ lv st h => ex_ild 1 45 lv st h), some (fun _ lv st h => ex_tsw 86 0 6 #[43, 48, 53, 58, 63, 76, 84] 45 lv st h), none, none],
  [none, none, none, none, none, none, none, none, none, none, none, none, none, none, none, none],
  [none, none, none, none, none, none, none, none, none, none, none, none, none, none, none, none],
  [none, none, none, none, none, none, none, none, some (fun _ lv st h => ex_ald 0 89 lv st h), some (fun g lv st h => ex_gf g 12 60 92 lv st h), none, none, some (fun _ lv st h => ex_ret (some (Jvm.ClassFile.FieldType.int)) st h), some (fun _ lv st h => ex_ald 0 94 lv st h), some (fun g lv st h => ex_gf g 12 81 97 lv st h), none],
  [none, some (fun _ lv st h => ex_ret (some (Jvm.ClassFile.FieldType.int)) st h), some (fun _ lv st h => ex_ald 0 99 lv st h), some (fun g lv st h => ex_gf g 12 82 102 lv st h), none, none, some (fun _ lv st h => ex_ret (some (Jvm.ClassFile.FieldType.int)) st h), some (fun _ lv st h => ex_ald 0 104 lv st h), some (fun g lv st h => ex_gf g 12 61 107 lv st h), none, none, some (fun _ lv st h => ex_ret (some (Jvm.ClassFile.FieldType.int)) st h), some (fun _ lv st h => ex_ald 0 109 lv st h), some (fun g lv st h => ex_gf g 12 63 112 lv st h), none, none],
  [some (fun _ lv st h => ex_if ex_eq0 119 115 lv st h), none, none, some (fun _ lv st h => ex_go 116 lv (.int 1 :: st) h), some (fun _ lv st h => ex_go 120 lv st h), none, none, some (fun _ lv st h => ex_go 120 lv (.int 0 :: st) h), some (fun _ lv st h => ex_ret (some (Jvm.ClassFile.FieldType.int)) st h), some (fun _ lv st h => ex_ald 0 122 lv st h), some (fun g lv st h => ex_gf g 12 62 125 lv st h), none, none, some (fun _ lv st h => ex_go 126 lv (.int 0 :: st) h), some (fun g lv st h => ex_xlld g 127 lv st h), some (fun _ lv st h => ex_l (fun x => .int x.toInt32) 128 lv st h)],
  [some (fun _ lv st h => ex_ret (some (Jvm.ClassFile.FieldType.int)) st h), some (fun _ lv st h => ex_ild 2 130 lv st h), some (fun _ lv st h => ex_ret (some (Jvm.ClassFile.FieldType.int)) st h), some (fun _ lv st h => ex_go 132 lv (.int (-1) :: st) h), some (fun _ lv st h => ex_ret (some (Jvm.ClassFile.FieldType.int)) st h), none, none, none, none, none, none, none, none, none, none, none]]
theorem ex_k62_eq : ex_k62 = ex_rows 4 (some (Jvm.ClassFile.FieldType.int)) 0 ex_m62.2.2.2.2 := rfl
noncomputable def ex_k63 : List (List (Option ex_K)) := [[some (fun _ lv st h => ex_ild 1 1 lv st h), some (fun _ lv st h => ex_if ex_lt0 12 4 lv st h), none, none, some (fun _ lv st h => ex_ild 1 5 lv st h), some (fun _ lv st h => ex_ald 0 6 lv st h), some (fun g lv st h => ex_gf g 12 1 9 lv st h), none, none, some (fun _ lv st h => ex_ic ex_le 14 12 lv st h), none, none, some (fun _ lv st h => ex_go 13 lv (.int (-1) :: st) h), some (fun _ lv st h => ex_ret (some (Jvm.ClassFile.FieldType.int)) st h), some (fun _ lv st h => ex_ald 0 15 lv st h), some (fun g lv st h => ex_gf g 12 1 18 lv st h)],
  [none, none, some (fun _ lv st h => ex_ild 1 19 lv st h), some (fun _ lv st h => ex_ii ex_sub 20 lv st h), some (fun _ lv st h => ex_ist 3 2 21 lv st h), some (fun _ lv st h => ex_ald 0 22 lv st h), some (fun _ lv st h => ex_ild 1 23 lv st h), some (fun g lv st h => ex_pf g (ex_ft 12) 12 1 26 lv st h), none, none, some (fun _ lv st h => ex_ild 2 27 lv st h), some (fun _ lv st h => ex_ret (some (Jvm.ClassFile.FieldType.int)) st h), none, none, none, none]]
theorem ex_k63_eq : ex_k63 = ex_rows 3 (some (Jvm.ClassFile.FieldType.int)) 0 ex_m63.2.2.2.2 := rfl
noncomputable def ex_k64 : List (List (Option ex_K)) := [[some (fun _ lv st h => ex_ald 0 1 lv st h), some (fun _ lv st h => ex_ild 1 2 lv st h), some (fun g lv st h => ex_callV g 76 1 12 5 lv st h), none, none, some (fun _ lv st h => ex_if ex_eq0 51 8 lv st h), none, none, some (fun _ lv st h => ex_ald 0 9 lv st h), some (fun g lv st h => ex_gf g 12 54 12 lv st h), none, none, some (fun _ lv st h => ex_ild 1 13 lv st h), some (fun g lv st h => ex_xld g 1 2 14 lv st h), some (fun _ lv st h => ex_if ex_eq0 51 17 lv st h), none],
  [none, some (fun _ lv st h => ex_ild 2 18 lv st h), some (fun _ lv st h => ex_if ex_lt0 51 21 lv st h), none, none, some (fun _ lv st h => ex_ild 2 22 lv st h), some (fun _ lv st h => ex_ald 0 23 lv st h), some (fun g lv st h => ex_gf g 12 56 26 lv st h), none, none, some (fun _ lv st h => ex_ild 1 27 lv st h), some (fun g lv st h => ex_xld g 0 0 28 lv st h), some (fun _ lv st h => ex_ic ex_ge 51 31 lv st h), none, none, some (fun _ lv st h => ex_ald 0 32 lv st h)],
  [some (fun g lv st h => ex_gf g 12 33 35 lv st h), none, none, some (fun _ lv st h => ex_ald 0 36 lv st h), some (fun g lv st h => ex_gf g 12 55 39 lv st h), none, none, some (fun _ lv st h => ex_ild 1 40 lv st h), some (fun g lv st h => ex_xld g 0 0 41 lv st h), some (fun _ lv st h => ex_ild 2 42 lv st h), some (fun _ lv st h => ex_ii ex_add 43 lv st h), some (fun g lv st h => ex_xld g 1 2 44 lv st h), some (fun _ lv st h => ex_go 47 lv (.int 255 :: st) h), none, none, some (fun _ lv st h => ex_ii (fun x y => x &&& y) 48 lv st h)],
  [some (fun _ lv st h => ex_go 52 lv st h), none, none, some (fun _ lv st h => ex_go 52 lv (.int (-1) :: st) h), some (fun _ lv st h => ex_ret (some (Jvm.ClassFile.FieldType.int)) st h), none, none, none, none, none, none, none, none, none, none, none]]
theorem ex_k64_eq : ex_k64 = ex_rows 3 (some (Jvm.ClassFile.FieldType.int)) 0 ex_m64.2.2.2.2 := rfl
noncomputable def ex_k65 : List (List (Option ex_K)) := [[some (fun _ lv st h => ex_ald 0 1 lv st h), some (fun _ lv st h => ex_ild 1 2 lv st h), some (fun g lv st h => ex_callV g 77 1 12 5 lv st h), none, none, some (fun _ lv st h => ex_if ex_ne0 10 8 lv st h), none, none, some (fun _ lv st h => ex_go 9 lv (.int (-1) :: st) h), some (fun _ lv st h => ex_ret (some (Jvm.ClassFile.FieldType.int)) st h), some (fun _ lv st h => ex_ald 0 11 lv st h), some (fun _ lv st h => ex_ild 1 12 lv st h), none, none, none, some (fun _ lv st h => ex_pop 16 lv st h)],
  [some (fun _ lv st h => ex_ald 0 17 lv st h), some (fun g lv st h => ex_gf g 12 84 20 lv st h), none, none, some (fun _ lv st h => ex_ret (some (Jvm.ClassFile.FieldType.int)) st h), none, none, none, none, none, none, none, none, none, none, none]]
theorem ex_k65_eq : ex_k65 = ex_rows 2 (some (Jvm.ClassFile.FieldType.int)) 0 ex_m65.2.2.2.2 := rfl
noncomputable def ex_k66 : List (List (Option ex_K)) := [[some (fun _ lv st h => ex_ald 0 1 lv st h), some (fun g lv st h => ex_gf g 12 88 4 lv st h), none, none, some (fun _ lv st h => ex_if ex_lt0 20 7 lv st h), none, none, some (fun _ lv st h => ex_ald 0 8 lv st h), some (fun g lv st h => ex_gf g 12 88 11 lv st h), none, none, some (fun _ lv st h => ex_go 13 lv (.int 24 :: st) h), none, some (fun _ lv st h => ex_ic ex_eq 20 16 lv st h), none, none],
  [some (fun _ lv st h => ex_ild 1 17 lv st h), some (fun _ lv st h => ex_if ex_ge0 22 20 lv st h), none, none, some (fun _ lv st h => ex_go 21 lv (.int (-1) :: st) h), some (fun _ lv st h => ex_ret (some (Jvm.ClassFile.FieldType.int)) st h), some (fun _ lv st h => ex_ald 0 23 lv st h), some (fun g lv st h => ex_gf g 12 7 26 lv st h), none, none, some (fun _ lv st h => ex_ald 0 27 lv st h), some (fun g lv st h => ex_gf g 12 90 30 lv st h), none, none, some (fun _ lv st h => ex_ald 0 31 lv st h), some (fun g lv st h => ex_gf g 12 88 34 lv st h)],
  [none, none, some (fun g lv st h => ex_xld g 0 0 35 lv st h), some (fun g lv st h => ex_xld g 1 2 36 lv st h), some (fun _ lv st h => ex_ist 5 2 37 lv st h), some (fun _ lv st h => ex_ild 2 38 lv st h), some (fun _ lv st h => ex_go 40 lv (.int 6 :: st) h), none, some (fun _ lv st h => ex_ic ex_eq 49 43 lv st h), none, none, some (fun _ lv st h => ex_ild 2 44 lv st h), some (fun _ lv st h => ex_go 46 lv (.int 7 :: st) h), none, some (fun _ lv st h => ex_ic ex_ne 67 49 lv st h), none],
  [none, some (fun _ lv st h => ex_ild 1 50 lv st h), some (fun _ lv st h => ex_ald 0 51 lv st h), some (fun g lv st h => ex_gf g 12 10 54 lv st h), none, none, some (fun _ lv st h => ex_ald 0 55 lv st h), some (fun g lv st h => ex_gf g 12 90 58 lv st h), none, none, some (fun _ lv st h => ex_ald 0 59 lv st h), some (fun g lv st h => ex_gf g 12 88 62 lv st h), none, none, some (fun g lv st h => ex_xld g 0 0 63 lv st h), some (fun g lv st h => ex_xld g 0 0 64 lv st h)],
  [some (fun _ lv st h => ex_ic ex_lt 69 67 lv st h), none, none, some (fun _ lv st h => ex_go 68 lv (.int (-1) :: st) h), some (fun _ lv st h => ex_ret (some (Jvm.ClassFile.FieldType.int)) st h), some (fun _ lv st h => ex_ald 0 70 lv st h), some (fun g lv st h => ex_gf g 12 11 73 lv st h), none, none, some (fun _ lv st h => ex_ald 0 74 lv st h), some (fun g lv st h => ex_gf g 12 90 77 lv st h), none, none, some (fun _ lv st h => ex_ald 0 78 lv st h), some (fun g lv st h => ex_gf g 12 88 81 lv st h), none],
  [none, some (fun g lv st h => ex_xld g 0 0 82 lv st h), some (fun g lv st h => ex_xld g 0 0 83 lv st h), some (fun _ lv st h => ex_ist 5 3 84 lv st h), some (fun _ lv st h => ex_go 85 lv (.int 0 :: st) h), some (fun _ lv st h => ex_ist 5 4 87 lv st h), none, some (fun _ lv st h => ex_ild 4 89 lv st h), none, some (fun _ lv st h => ex_ild 1 90 lv st h), some (fun _ lv st h => ex_ic ex_ge 106 93 lv st h), none, none, some (fun _ lv st h => ex_ald 0 94 lv st h), some (fun g lv st h => ex_gf g 12 12 97 lv st h), none],
  [none, some (fun _ lv st h => ex_ild 3 98 lv st h), some (fun g lv st h => ex_xld g 0 0 99 lv st h), some (fun _ lv st h => ex_ist 5 3 100 lv st h), some (fun _ lv st h => ex_inc 5 4 1 103 lv st h), none, none, some (fun _ lv st h => ex_go 87 lv st h), none, none, some (fun _ lv st h => ex_ald 0 107 lv st h), some (fun _ lv st h => ex_dup 108 lv st h), some (fun g lv st h => ex_gf g 12 88 111 lv st h), none, none, some (fun _ lv st h => ex_go 112 lv (.int 1 :: st) h)],
  [some (fun _ lv st h => ex_ii ex_add 113 lv st h), some (fun g lv st h => ex_pf g (ex_ft 12) 12 88 116 lv st h), none, none, some (fun _ lv st h => ex_ald 0 117 lv st h), some (fun g lv st h => ex_gf g 12 90 120 lv st h), none, none, some (fun _ lv st h => ex_ald 0 121 lv st h), some (fun g lv st h => ex_gf g 12 88 124 lv st h), none, none, some (fun _ lv st h => ex_ild 3 125 lv st h), some (fun g lv st h => ex_xst g 126 lv st h), some (fun _ lv st h => ex_ald 0 127 lv st h), none],
  [none, none, some (fun _ lv st h => ex_ret (some (Jvm.ClassFile.FieldType.int)) st h), none, none, none, none, none, none, none, none, none, none, none, none, none]]
theorem ex_k66_eq : ex_k66 = ex_rows 5 (some (Jvm.ClassFile.FieldType.int)) 0 ex_m66.2.2.2.2 := rfl
noncomputable def ex_k67 : List (List (Option ex_K)) := [[some (fun _ lv st h => ex_ald 0 1 lv st h), some (fun g lv st h => ex_gf g 12 27 4 lv st h), none, none, some (fun _ lv st h => ex_if ex_ne0 17 7 lv st h), none, none, some (fun _ lv st h => ex_ald 0 8 lv st h), some (fun _ lv st h => ex_ild 1 9 lv st h), some (fun g lv st h => ex_pf g (ex_ft 12) 12 27 12 lv st h), none, none, some (fun _ lv st h => ex_ald 0 13 lv st h), some (fun _ lv st h => ex_ild 2 14 lv st h), some (fun g lv st h => ex_pf g (ex_ft 12) 12 28 17 lv st h), none],
  [none, some (fun _ lv st h => ex_vret (none) st h), none, none, none, none, none, none, none, none, none, none, none, none, none, none]]
theorem ex_k67_eq : ex_k67 = ex_rows 3 (none) 0 ex_m67.2.2.2.2 := rfl
noncomputable def ex_k68 : List (List (Option ex_K)) := [[some (fun _ lv st h => ex_ild 1 1 lv st h), some (fun _ lv st h => ex_if ex_ne0 11 4 lv st h), none, none, some (fun _ lv st h => ex_ald 0 5 lv st h), some (fun g lv st h => ex_gf g 12 68 8 lv st h), none, none, some (fun _ lv st h => ex_go 48 lv st h), none, none, some (fun _ lv st h => ex_ild 1 12 lv st h), some (fun _ lv st h => ex_go 13 lv (.int 1 :: st) h), some (fun _ lv st h => ex_ic ex_ne 23 16 lv st h), none, none],
  [some (fun _ lv st h => ex_ald 0 17 lv st h), some (fun g lv st h => ex_gf g 12 69 20 lv st h), none, none, some (fun _ lv st h => ex_go 48 lv st h), none, none, some (fun _ lv st h => ex_ild 1 24 lv st h), some (fun _ lv st h => ex_go 25 lv (.int 2 :: st) h), some (fun _ lv st h => ex_ic ex_ne 35 28 lv st h), none, none, some (fun _ lv st h => ex_ald 0 29 lv st h), some (fun g lv st h => ex_gf g 12 70 32 lv st h), none, none],
  [some (fun _ lv st h => ex_go 48 lv st h), none, none, some (fun _ lv st h => ex_ild 1 36 lv st h), some (fun _ lv st h => ex_go 37 lv (.int 3 :: st) h), some (fun _ lv st h => ex_ic ex_ne 47 40 lv st h), none, none, some (fun _ lv st h => ex_ald 0 41 lv st h), some (fun g lv st h => ex_gf g 12 71 44 lv st h), none, none, some (fun _ lv st h => ex_go 48 lv st h), none, none, some (fun _ lv st h => ex_go 48 lv (.int (-1) :: st) h)],
  [some (fun _ lv st h => ex_ret (some (Jvm.ClassFile.FieldType.int)) st h), none, none, none, none, none, none, none, none, none, none, none, none, none, none, none]]
theorem ex_k68_eq : ex_k68 = ex_rows 2 (some (Jvm.ClassFile.FieldType.int)) 0 ex_m68.2.2.2.2 := rfl
noncomputable def ex_k69 : List (List (Option ex_K)) := [[some (fun _ lv st h => ex_ald 0 1 lv st h), some (fun g lv st h => ex_gf g 12 1 4 lv st h), none, none, some (fun _ lv st h => ex_go 6 lv (.int 20 :: st) h), none, some (fun _ lv st h => ex_ii ex_add 7 lv st h), some (fun _ lv st h => ex_go 10 lv (.int 8000 :: st) h), none, none, some (fun _ lv st h => ex_ic ex_le 15 13 lv st h), none, none, some (fun _ lv st h => ex_go 14 lv (.int (-1) :: st) h), some (fun _ lv st h => ex_ret (some (Jvm.ClassFile.FieldType.int)) st h), some (fun _ lv st h => ex_ald 0 16 lv st h)],
  [some (fun _ lv st h => ex_ild 1 17 lv st h), some (fun g lv st h => ex_callV g 78 1 12 20 lv st h), none, none, some (fun _ lv st h => ex_ald 0 21 lv st h), some (fun _ lv st h => ex_ild 2 22 lv st h), some (fun g lv st h => ex_callV g 78 1 12 25 lv st h), none, none, some (fun _ lv st h => ex_ald 0 26 lv st h), some (fun _ lv st h => ex_ild 3 27 lv st h), some (fun g lv st h => ex_callV g 78 1 12 30 lv st h), none, none, some (fun _ lv st h => ex_ald 0 31 lv st h), some (fun _ lv st h => ex_ild 4 33 lv st h)],
  [none, some (fun g lv st h => ex_callV g 78 1 12 36 lv st h), none, none, some (fun _ lv st h => ex_ald 0 37 lv st h), some (fun _ lv st h => ex_ild 5 39 lv st h), none, some (fun g lv st h => ex_callV g 78 1 12 42 lv st h), none, none, some (fun _ lv st h => ex_ald 0 43 lv st h), some (fun g lv st h => ex_gf g 12 1 46 lv st h), none, none, some (fun _ lv st h => ex_ret (some (Jvm.ClassFile.FieldType.int)) st h), none]]
theorem ex_k69_eq : ex_k69 = ex_rows 6 (some (Jvm.ClassFile.FieldType.int)) 0 ex_m69.2.2.2.2 := rfl
noncomputable def ex_k70 : List (List (Option ex_K)) := [[some (fun _ lv st h => ex_ild 1 1 lv st h), some (fun _ lv st h => ex_if ex_lt0 34 4 lv st h), none, none, some (fun _ lv st h => ex_ild 1 5 lv st h), some (fun _ lv st h => ex_ald 0 6 lv st h), some (fun g lv st h => ex_gf g 12 104 9 lv st h), none, none, some (fun _ lv st h => ex_ic ex_ge 34 12 lv st h), none, none, some (fun _ lv st h => ex_ild 2 13 lv st h), some (fun _ lv st h => ex_if ex_lt0 34 16 lv st h), none, none],
  [some (fun _ lv st h => ex_ild 2 17 lv st h), some (fun _ lv st h => ex_go 18 lv (.int 4 :: st) h), some (fun _ lv st h => ex_ic ex_gt 34 21 lv st h), none, none, some (fun _ lv st h => ex_ald 0 22 lv st h), some (fun g lv st h => ex_gf g 12 105 25 lv st h), none, none, some (fun _ lv st h => ex_go 26 lv (.int 5 :: st) h), some (fun _ lv st h => ex_ild 1 27 lv st h), some (fun _ lv st h => ex_ii (fun x y => x * y) 28 lv st h), some (fun _ lv st h => ex_ild 2 29 lv st h), some (fun _ lv st h => ex_ii ex_add 30 lv st h), some (fun g lv st h => ex_xld g 0 0 31 lv st h), some (fun _ lv st h => ex_go 35 lv st h)],
  [none, none, some (fun _ lv st h => ex_go 35 lv (.int (-1) :: st) h), some (fun _ lv st h => ex_ret (some (Jvm.ClassFile.FieldType.int)) st h), none, none, none, none, none, none, none, none, none, none, none, none]]
theorem ex_k70_eq : ex_k70 = ex_rows 3 (some (Jvm.ClassFile.FieldType.int)) 0 ex_m70.2.2.2.2 := rfl
noncomputable def ex_k71 : List (List (Option ex_K)) := [[some (fun _ lv st h => ex_ald 0 1 lv st h), some (fun _ lv st h => ex_go 2 lv (.int (-1) :: st) h), some (fun g lv st h => ex_pf g (ex_ft 12) 12 88 5 lv st h), none, none, some (fun _ lv st h => ex_ald 0 6 lv st h), some (fun _ lv st h => ex_ild 1 7 lv st h), some (fun g lv st h => ex_callV g 76 1 12 10 lv st h), none, none, some (fun _ lv st h => ex_if ex_ne0 15 13 lv st h), none, none, some (fun _ lv st h => ex_go 14 lv (.int (-1) :: st) h), some (fun _ lv st h => ex_ret (some (Jvm.ClassFile.FieldType.int)) st h), some (fun _ lv st h => ex_ald 0 16 lv st h)],
  [some (fun _ lv st h => ex_go 17 lv (.int 0 :: st) h), some (fun g lv st h => ex_pf g (ex_ft 12) 12 88 20 lv st h), none, none, some (fun _ lv st h => ex_ald 0 21 lv st h), some (fun _ lv st h => ex_ild 1 22 lv st h), some (fun g lv st h => ex_pf g (ex_ft 12) 12 89 25 lv st h), none, none, some (fun _ lv st h => ex_ald 0 26 lv st h), some (fun g lv st h => ex_gf g 12 90 29 lv st h), none, none, some (fun _ lv st h => ex_go 30 lv (.int 0 :: st) h), some (fun _ lv st h => ex_ald 0 31 lv st h), some (fun g lv st h => ex_gf g 12 52 34 lv st h)],
  [none, none, some (fun _ lv st h => ex_ild 1 35 lv st h), some (fun g lv st h => ex_xld g 0 0 36 lv st h), some (fun g lv st h => ex_xst g 37 lv st h), some (fun _ lv st h => ex_ald 0 38 lv st h), none, none, none, some (fun _ lv st h => ex_ret (some (Jvm.ClassFile.FieldType.int)) st h), none, none, none, none, none, none]]
theorem ex_k71_eq : ex_k71 = ex_rows 2 (some (Jvm.ClassFile.FieldType.int)) 0 ex_m71.2.2.2.2 := rfl
noncomputable def ex_k72 : List (List (Option ex_K)) := [[some (fun _ lv st h => ex_ald 0 1 lv st h), some (fun g lv st h => ex_gf g 12 27 4 lv st h), none, none, some (fun _ lv st h => ex_if ex_ne0 11 7 lv st h), none, none, some (fun _ lv st h => ex_go 8 lv (.int 1 :: st) h), some (fun _ lv st h => ex_go 12 lv st h), none, none, some (fun _ lv st h => ex_go 12 lv (.int 0 :: st) h), some (fun _ lv st h => ex_ret (some (Jvm.ClassFile.FieldType.boolean)) st h), none, none, none]]
theorem ex_k72_eq : ex_k72 = ex_rows 1 (some (Jvm.ClassFile.FieldType.boolean)) 0 ex_m72.2.2.2.2 := rfl
noncomputable def ex_k73 : List (List (Option ex_K)) := [[some (fun _ lv st h => ex_ald 0 1 lv st h), some (fun g lv st h => ex_gf g 12 88 4 lv st h), none, none, some (fun _ lv st h => ex_if ex_lt0 16 7 lv st h), none, none, some (fun _ lv st h => ex_ild 1 8 lv st h), some (fun _ lv st h => ex_if ex_lt0 16 11 lv st h), none, none, some (fun _ lv st h => ex_ild 1 12 lv st h), some (fun _ lv st h => ex_go 13 lv (.int 4 :: st) h), some (fun _ lv st h => ex_ic ex_le 18 16 lv st h), none, none],
  [some (fun _ lv st h => ex_go 17 lv (.int (-1) :: st) h), some (fun _ lv st h => ex_ret (some (Jvm.ClassFile.FieldType.int)) st h), some (fun _ lv st h => ex_ald 0 19 lv st h), some (fun g lv st h => ex_gf g 12 90 22 lv st h), none, none, some (fun _ lv st h => ex_ald 0 23 lv st h), some (fun g lv st h => ex_gf g 12 88 26 lv st h), none, none, some (fun g lv st h => ex_xld g 0 0 27 lv st h), some (fun _ lv st h => ex_ist 3 2 28 lv st h), some (fun _ lv st h => ex_ild 1 29 lv st h), some (fun _ lv st h => ex_tsw 132 0 3 #[31, 36, 78, 110] 29 lv st h), none, none],
  [none, none, none, none, none, none, none, none, none, none, none, none, none, none, none, none],
  [none, none, none, none, none, none, none, none, none, none, none, none, some (fun _ lv st h => ex_ald 0 61 lv st h), none, none, none],
  [some (fun _ lv st h => ex_ret (some (Jvm.ClassFile.FieldType.int)) st h), some (fun _ lv st h => ex_ald 0 66 lv st h), some (fun g lv st h => ex_gf g 12 7 69 lv st h), none, none, some (fun _ lv st h => ex_ild 2 70 lv st h), some (fun g lv st h => ex_xld g 1 2 71 lv st h), some (fun _ lv st h => ex_go 72 lv (.int 1 :: st) h), some (fun _ lv st h => ex_ic ex_lt 85 75 lv st h), none, none, some (fun _ lv st h => ex_ald 0 76 lv st h), some (fun g lv st h => ex_gf g 12 7 79 lv st h), none, none, some (fun _ lv st h => ex_ild 2 80 lv st h)],
  [some (fun g lv st h => ex_xld g 1 2 81 lv st h), some (fun _ lv st h => ex_go 82 lv (.int 3 :: st) h), some (fun _ lv st h => ex_ic ex_le 96 85 lv st h), none, none, some (fun _ lv st h => ex_ald 0 86 lv st h), some (fun g lv st h => ex_gf g 12 7 89 lv st h), none, none, some (fun _ lv st h => ex_ild 2 90 lv st h), some (fun g lv st h => ex_xld g 1 2 91 lv st h), some (fun _ lv st h => ex_go 93 lv (.int 8 :: st) h), none, some (fun _ lv st h => ex_ic ex_ne 105 96 lv st h), none, none],
  [some (fun _ lv st h => ex_ald 0 97 lv st h), some (fun g lv st h => ex_gf g 12 8 100 lv st h), none, none, some (fun _ lv st h => ex_ild 2 101 lv st h), some (fun g lv st h => ex_xld g 0 0 102 lv st h), some (fun _ lv st h => ex_go 106 lv st h), none, none, some (fun _ lv st h => ex_go 106 lv (.int 0 :: st) h), some (fun _ lv st h => ex_ret (some (Jvm.ClassFile.FieldType.int)) st h), some (fun _ lv st h => ex_ald 0 108 lv st h), some (fun g lv st h => ex_gf g 12 7 111 lv st h), none, none, some (fun _ lv st h => ex_ild 2 112 lv st h)],
  [some (fun g lv st h => ex_xld g 1 2 113 lv st h), some (fun _ lv st h => ex_go 114 lv (.int 4 :: st) h), some (fun _ lv st h => ex_ic ex_lt 137 117 lv st h), none, none, some (fun _ lv st h => ex_ald 0 118 lv st h), some (fun g lv st h => ex_gf g 12 7 121 lv st h), none, none, some (fun _ lv st h => ex_ild 2 122 lv st h), some (fun g lv st h => ex_xld g 1 2 123 lv st h), some (fun _ lv st h => ex_go 125 lv (.int 7 :: st) h), none, some (fun _ lv st h => ex_ic ex_gt 137 128 lv st h), none, none],
  [some (fun _ lv st h => ex_ald 0 129 lv st h), some (fun g lv st h => ex_gf g 12 10 132 lv st h), none, none, some (fun _ lv st h => ex_ild 2 133 lv st h), some (fun g lv st h => ex_xld g 0 0 134 lv st h), some (fun _ lv st h => ex_go 138 lv st h), none, none, some (fun _ lv st h => ex_go 138 lv (.int 0 :: st) h), some (fun _ lv st h => ex_ret (some (Jvm.ClassFile.FieldType.int)) st h), some (fun _ lv st h => ex_ald 0 140 lv st h), some (fun g lv st h => ex_gf g 12 7 143 lv st h), none, none, some (fun _ lv st h => ex_ild 2 144 lv st h)],
  [some (fun g lv st h => ex_xld g 1 2 145 lv st h), some (fun _ lv st h => ex_go 147 lv (.int 8 :: st) h), none, some (fun _ lv st h => ex_ic ex_ne 159 150 lv st h), none, none, some (fun _ lv st h => ex_ald 0 151 lv st h), some (fun g lv st h => ex_gf g 12 9 154 lv st h), none, none, some (fun _ lv st h => ex_ild 2 155 lv st h), some (fun g lv st h => ex_xld g 0 0 156 lv st h), some (fun _ lv st h => ex_go 160 lv st h), none, none, some (fun _ lv st h => ex_go 160 lv (.int 0 :: st) h)],
  [some (fun _ lv st h => ex_ret (some (Jvm.ClassFile.FieldType.int)) st h), some (fun _ lv st h => ex_ald 0 162 lv st h), some (fun g lv st h => ex_gf g 12 88 165 lv st h), none, none, some (fun _ lv st h => ex_if ex_ne0 172 168 lv st h), none, none, some (fun _ lv st h => ex_go 169 lv (.int 0 :: st) h), some (fun _ lv st h => ex_go 178 lv st h), none, none, some (fun _ lv st h => ex_ald 0 173 lv st h), some (fun g lv st h => ex_gf g 12 14 176 lv st h), none, none],
  [some (fun _ lv st h => ex_ild 2 177 lv st h), some (fun g lv st h => ex_xld g 0 0 178 lv st h), some (fun _ lv st h => ex_ret (some (Jvm.ClassFile.FieldType.int)) st h), none, none, none, none, none, none, none, none, none, none, none, none, none]]
theorem ex_k73_eq : ex_k73 = ex_rows 3 (some (Jvm.ClassFile.FieldType.int)) 0 ex_m73.2.2.2.2 := rfl
noncomputable def ex_k74 : List (List (Option ex_K)) := [[some (fun _ lv st h => ex_ald 0 1 lv st h), some (fun g lv st h => ex_gf g 12 1 4 lv st h), none, none, some (fun _ lv st h => ex_ist 6 2 5 lv st h), some (fun _ lv st h => ex_ald 0 6 lv st h), some (fun _ lv st h => ex_go 7 lv (.int 0 :: st) h), some (fun g lv st h => ex_pf g (ex_ft 12) 12 1 10 lv st h), none, none, some (fun _ lv st h => ex_ald 0 11 lv st h), some (fun g lv st h => ex_gf g 12 6 14 lv st h), none, none, some (fun _ lv st h => ex_if ex_eq0 50 17 lv st h), none],
  [none, some (fun _ lv st h => ex_ild 1 18 lv st h), some (fun _ lv st h => ex_if ex_lt0 50 21 lv st h), none, none, some (fun _ lv st h => ex_ild 1 22 lv st h), some (fun _ lv st h => ex_go 23 lv (.int 3 :: st) h), some (fun _ lv st h => ex_ic ex_gt 50 26 lv st h), none, none, some (fun _ lv st h => ex_ild 2 27 lv st h), some (fun _ lv st h => ex_go 30 lv (.int 2000 :: st) h), none, none, some (fun _ lv st h => ex_ic ex_gt 50 33 lv st h), none],
  [none, some (fun _ lv st h => ex_ald 0 34 lv st h), some (fun g lv st h => ex_gf g 12 82 37 lv st h), none, none, some (fun _ lv st h => ex_if ex_ne0 52 40 lv st h), none, none, some (fun _ lv st h => ex_ald 0 41 lv st h), none, none, none, some (fun _ lv st h => ex_go 47 lv (.int 200 :: st) h), none, none, some (fun _ lv st h => ex_ic ex_ne 52 50 lv st h)],
  [none, none, some (fun _ lv st h => ex_go 51 lv (.int (-1) :: st) h), some (fun _ lv st h => ex_ret (some (Jvm.ClassFile.FieldType.int)) st h), some (fun _ lv st h => ex_ald 0 53 lv st h), some (fun g lv st h => ex_gf g 12 82 56 lv st h), none, none, some (fun _ lv st h => ex_if ex_ne0 74 59 lv st h), none, none, some (fun _ lv st h => ex_ald 0 60 lv st h), some (fun _ lv st h => ex_ald 0 61 lv st h), some (fun _ lv st h => ex_ald 0 62 lv st h), some (fun _ lv st h => ex_go 64 lv (.int 7 :: st) h), none],
  [some (fun _ lv st h => ex_go 65 lv (.int 0 :: st) h), none, none, none, none, none, none, some (fun g lv st h => ex_pf g (ex_ft 12) 12 82 74 lv st h), none, none, some (fun _ lv st h => ex_ild 1 75 lv st h), some (fun _ lv st h => ex_if ex_ne0 84 78 lv st h), none, none, some (fun _ lv st h => ex_go 81 lv (.ref 102 :: st) h), none],
  [none, some (fun _ lv st h => ex_go 109 lv st h), none, none, some (fun _ lv st h => ex_ild 1 85 lv st h), some (fun _ lv st h => ex_go 86 lv (.int 1 :: st) h), some (fun _ lv st h => ex_ic ex_ne 95 89 lv st h), none, none, some (fun _ lv st h => ex_go 92 lv (.ref 104 :: st) h), none, none, some (fun _ lv st h => ex_go 109 lv st h), none, none, some (fun _ lv st h => ex_ild 1 96 lv st h)],
  [some (fun _ lv st h => ex_go 97 lv (.int 2 :: st) h), some (fun _ lv st h => ex_ic ex_ne 106 100 lv st h), none, none, some (fun _ lv st h => ex_go 103 lv (.ref 106 :: st) h), none, none, some (fun _ lv st h => ex_go 109 lv st h), none, none, some (fun _ lv st h => ex_go 109 lv (.ref 108 :: st) h), none, none, some (fun _ lv st h => ex_ast 6 3 110 lv st h), some (fun _ lv st h => ex_ald 0 111 lv st h), some (fun _ lv st h => ex_ald 0 112 lv st h)],
  [some (fun g lv st h => ex_gf g 12 52 115 lv st h), none, none, some (fun _ lv st h => ex_ald 0 116 lv st h), some (fun g lv st h => ex_gf g 12 82 119 lv st h), none, none, some (fun g lv st h => ex_xld g 0 0 120 lv st h), some (fun _ lv st h => ex_ald 3 121 lv st h), some (fun _ lv st h => ex_go 122 lv (.int 5 :: st) h), some (fun _ lv st h => ex_go 123 lv (.int 0 :: st) h), some (fun _ lv st h => ex_go 124 lv (.int 0 :: st) h), none, none, none, some (fun _ lv st h => ex_ist 6 4 129 lv st h)],
  [none, some (fun _ lv st h => ex_ald 0 130 lv st h), some (fun g lv st h => ex_gf g 12 11 133 lv st h), none, none, some (fun _ lv st h => ex_ild 4 135 lv st h), none, some (fun _ lv st h => ex_go 138 lv (.int 140000 :: st) h), none, none, some (fun _ lv st h => ex_go 141 lv (.int 2000 :: st) h), none, none, some (fun _ lv st h => ex_ild 1 142 lv st h), some (fun _ lv st h => ex_ii (fun x y => x * y) 143 lv st h), some (fun _ lv st h => ex_ii ex_add 144 lv st h)],
  [some (fun g lv st h => ex_xst g 145 lv st h), some (fun _ lv st h => ex_ald 0 146 lv st h), some (fun g lv st h => ex_gf g 12 10 149 lv st h), none, none, some (fun _ lv st h => ex_ild 4 151 lv st h), none, some (fun _ lv st h => ex_ild 2 152 lv st h), some (fun g lv st h => ex_xst g 153 lv st h), some (fun _ lv st h => ex_go 154 lv (.int 0 :: st) h), some (fun _ lv st h => ex_ist 6 5 156 lv st h), none, some (fun _ lv st h => ex_ild 5 158 lv st h), none, some (fun _ lv st h => ex_ild 2 159 lv st h), some (fun _ lv st h => ex_ic ex_ge 190 162 lv st h)],
  [none, none, some (fun _ lv st h => ex_ald 0 163 lv st h), some (fun g lv st h => ex_gf g 12 16 166 lv st h), none, none, some (fun _ lv st h => ex_ald 0 167 lv st h), some (fun g lv st h => ex_gf g 12 11 170 lv st h), none, none, some (fun _ lv st h => ex_ild 4 172 lv st h), none, some (fun g lv st h => ex_xld g 0 0 173 lv st h), some (fun _ lv st h => ex_ild 5 175 lv st h), none, some (fun _ lv st h => ex_ii ex_add 176 lv st h)],
  [some (fun _ lv st h => ex_ald 0 177 lv st h), some (fun g lv st h => ex_gf g 12 0 180 lv st h), none, none, some (fun _ lv st h => ex_ild 5 182 lv st h), none, some (fun g lv st h => ex_xld g 1 2 183 lv st h), some (fun g lv st h => ex_xbst g 184 lv st h), some (fun _ lv st h => ex_inc 6 5 1 187 lv st h), none, none, some (fun _ lv st h => ex_go 156 lv st h), none, none, some (fun _ lv st h => ex_ald 0 191 lv st h), some (fun _ lv st h => ex_ald 0 192 lv st h)],
  [some (fun g lv st h => ex_gf g 12 82 195 lv st h), none, none, none, none, none, some (fun _ lv st h => ex_ald 0 199 lv st h), some (fun _ lv st h => ex_go 200 lv (.int (-1) :: st) h), some (fun g lv st h => ex_pf g (ex_ft 12) 12 88 203 lv st h), none, none, some (fun _ lv st h => ex_ald 0 204 lv st h), some (fun g lv st h => ex_gf g 12 82 207 lv st h), none, none, some (fun _ lv st h => ex_ret (some (Jvm.ClassFile.FieldType.int)) st h)]]
theorem ex_k74_eq : ex_k74 = ex_rows 6 (some (Jvm.ClassFile.FieldType.int)) 0 ex_m74.2.2.2.2 := rfl
noncomputable def ex_k75 : List (List (Option ex_K)) := [[some (fun _ lv st h => ex_ald 0 1 lv st h), some (fun g lv st h => ex_gf g 12 6 4 lv st h), none, none, some (fun _ lv st h => ex_if ex_eq0 62 7 lv st h), none, none, some (fun _ lv st h => ex_ild 1 8 lv st h), some (fun _ lv st h => ex_if ex_lt0 62 11 lv st h), none, none, some (fun _ lv st h => ex_ild 1 12 lv st h), some (fun _ lv st h => ex_ald 0 13 lv st h), some (fun g lv st h => ex_gf g 12 84 16 lv st h), none, none],
  [some (fun _ lv st h => ex_ic ex_gt 62 19 lv st h), none, none, some (fun _ lv st h => ex_ild 2 20 lv st h), some (fun _ lv st h => ex_go 21 lv (.int 1 :: st) h), some (fun _ lv st h => ex_ic ex_lt 62 24 lv st h), none, none, some (fun _ lv st h => ex_ild 2 25 lv st h), some (fun _ lv st h => ex_go 28 lv (.int 14400 :: st) h), none, none, some (fun _ lv st h => ex_ic ex_gt 62 31 lv st h), none, none, some (fun _ lv st h => ex_ild 3 32 lv st h)],
  [some (fun _ lv st h => ex_go 33 lv (.int 1 :: st) h), some (fun _ lv st h => ex_ic ex_lt 62 36 lv st h), none, none, some (fun _ lv st h => ex_ild 3 37 lv st h), some (fun _ lv st h => ex_go 40 lv (.int 14400 :: st) h), none, none, some (fun _ lv st h => ex_ic ex_gt 62 43 lv st h), none, none, some (fun _ lv st h => ex_ald 0 44 lv st h), some (fun g lv st h => ex_gf g 12 84 47 lv st h), none, none, some (fun _ lv st h => ex_go 49 lv (.int 60 :: st) h)],
  [none, some (fun _ lv st h => ex_ic ex_eq 62 52 lv st h), none, none, some (fun _ lv st h => ex_ald 0 53 lv st h), none, none, none, some (fun _ lv st h => ex_go 59 lv (.int 200 :: st) h), none, none, some (fun _ lv st h => ex_ic ex_ne 64 62 lv st h), none, none, some (fun _ lv st h => ex_go 63 lv (.int (-1) :: st) h), some (fun _ lv st h => ex_ret (some (Jvm.ClassFile.FieldType.int)) st h)],
  [some (fun _ lv st h => ex_ald 0 65 lv st h), some (fun _ lv st h => ex_go 67 lv (.int 7 :: st) h), none, some (fun _ lv st h => ex_go 68 lv (.int 0 :: st) h), none, none, none, some (fun _ lv st h => ex_ist 8 4 73 lv st h), none, some (fun _ lv st h => ex_ald 0 74 lv st h), some (fun _ lv st h => ex_go 77 lv (.ref 110 :: st) h), none, none, none, none, none],
  [some (fun _ lv st h => ex_ist 8 5 82 lv st h), none, some (fun _ lv st h => ex_ald 0 83 lv st h), some (fun _ lv st h => ex_ild 5 85 lv st h), none, some (fun _ lv st h => ex_go 88 lv (.ref 112 :: st) h), none, none, none, none, none, some (fun _ lv st h => ex_ald 0 92 lv st h), some (fun _ lv st h => ex_ild 4 94 lv st h), none, some (fun _ lv st h => ex_ild 5 96 lv st h), none],
  [none, none, none, some (fun _ lv st h => ex_ald 0 100 lv st h), some (fun _ lv st h => ex_ild 4 102 lv st h), none, some (fun _ lv st h => ex_go 105 lv (.ref 114 :: st) h), none, none, some (fun _ lv st h => ex_go 107 lv (.int 8 :: st) h), none, some (fun _ lv st h => ex_go 108 lv (.int 0 :: st) h), some (fun _ lv st h => ex_go 109 lv (.int 0 :: st) h), none, none, none],
  [some (fun _ lv st h => ex_pop 113 lv st h), some (fun _ lv st h => ex_ald 0 114 lv st h), some (fun _ lv st h => ex_ild 4 116 lv st h), none, some (fun _ lv st h => ex_go 119 lv (.ref 116 :: st) h), none, none, some (fun _ lv st h => ex_go 121 lv (.int 6 :: st) h), none, some (fun _ lv st h => ex_go 122 lv (.int 0 :: st) h), some (fun _ lv st h => ex_go 123 lv (.int 0 :: st) h), none, none, none, some (fun _ lv st h => ex_ist 8 6 128 lv st h), none],
  [some (fun _ lv st h => ex_ald 0 129 lv st h), some (fun _ lv st h => ex_ild 6 131 lv st h), none, some (fun _ lv st h => ex_ald 0 132 lv st h), some (fun _ lv st h => ex_go 133 lv (.int 2 :: st) h), some (fun _ lv st h => ex_go 134 lv (.int 0 :: st) h), none, none, none, none, none, none, some (fun _ lv st h => ex_ald 0 141 lv st h), some (fun _ lv st h => ex_ild 6 143 lv st h), none, some (fun _ lv st h => ex_ald 0 144 lv st h)],
  [some (fun _ lv st h => ex_go 145 lv (.int 2 :: st) h), some (fun _ lv st h => ex_go 146 lv (.int 0 :: st) h), none, none, none, none, none, none, some (fun _ lv st h => ex_ald 0 153 lv st h), some (fun _ lv st h => ex_ild 6 155 lv st h), none, some (fun _ lv st h => ex_ald 0 156 lv st h), some (fun _ lv st h => ex_go 157 lv (.int 2 :: st) h), some (fun _ lv st h => ex_ild 2 158 lv st h), none, none],
  [none, none, none, none, some (fun _ lv st h => ex_ald 0 165 lv st h), some (fun _ lv st h => ex_ild 6 167 lv st h), none, some (fun _ lv st h => ex_ald 0 168 lv st h), some (fun _ lv st h => ex_go 169 lv (.int 2 :: st) h), some (fun _ lv st h => ex_ild 3 170 lv st h), none, none, none, none, none, none],
  [some (fun _ lv st h => ex_ald 0 177 lv st h), some (fun _ lv st h => ex_ild 4 179 lv st h), none, none, none, none, some (fun _ lv st h => ex_ist 8 7 184 lv st h), none, some (fun _ lv st h => ex_ald 0 185 lv st h), some (fun _ lv st h => ex_ild 7 187 lv st h), none, some (fun _ lv st h => ex_ild 1 188 lv st h), some (fun _ lv st h => ex_go 189 lv (.int (-1) :: st) h), none, none, none],
  [some (fun _ lv st h => ex_ild 7 194 lv st h), none, some (fun _ lv st h => ex_ret (some (Jvm.ClassFile.FieldType.int)) st h), none, none, none, none, none, none, none, none, none, none, none, none, none]]
theorem ex_k75_eq : ex_k75 = ex_rows 8 (some (Jvm.ClassFile.FieldType.int)) 0 ex_m75.2.2.2.2 := rfl
noncomputable def ex_k76 : List (List (Option ex_K)) := [[some (fun _ lv st h => ex_ald 0 1 lv st h), some (fun g lv st h => ex_gf g 12 6 4 lv st h), none, none, some (fun _ lv st h => ex_if ex_eq0 32 7 lv st h), none, none, some (fun _ lv st h => ex_ild 1 8 lv st h), some (fun _ lv st h => ex_if ex_le0 32 11 lv st h), none, none, some (fun _ lv st h => ex_ild 1 12 lv st h), some (fun _ lv st h => ex_ald 0 13 lv st h), some (fun g lv st h => ex_gf g 12 60 16 lv st h), none, none],
  [some (fun _ lv st h => ex_ic ex_ge 32 19 lv st h), none, none, some (fun _ lv st h => ex_ald 0 20 lv st h), some (fun g lv st h => ex_gf g 12 48 23 lv st h), none, none, some (fun _ lv st h => ex_ild 1 24 lv st h), some (fun g lv st h => ex_xld g 1 2 25 lv st h), some (fun _ lv st h => ex_if ex_eq0 32 28 lv st h), none, none, some (fun _ lv st h => ex_go 29 lv (.int 1 :: st) h), some (fun _ lv st h => ex_go 33 lv st h), none, none],
  [some (fun _ lv st h => ex_go 33 lv (.int 0 :: st) h), some (fun _ lv st h => ex_ret (some (Jvm.ClassFile.FieldType.boolean)) st h), none, none, none, none, none, none, none, none, none, none, none, none, none, none]]
theorem ex_k76_eq : ex_k76 = ex_rows 2 (some (Jvm.ClassFile.FieldType.boolean)) 0 ex_m76.2.2.2.2 := rfl
noncomputable def ex_k77 : List (List (Option ex_K)) := [[some (fun _ lv st h => ex_ald 0 1 lv st h), some (fun g lv st h => ex_gf g 12 6 4 lv st h), none, none, some (fun _ lv st h => ex_if ex_eq0 23 7 lv st h), none, none, some (fun _ lv st h => ex_ild 1 8 lv st h), some (fun _ lv st h => ex_if ex_lt0 23 11 lv st h), none, none, some (fun _ lv st h => ex_ild 1 12 lv st h), some (fun _ lv st h => ex_ald 0 13 lv st h), some (fun g lv st h => ex_gf g 12 84 16 lv st h), none, none],
  [some (fun _ lv st h => ex_ic ex_ge 23 19 lv st h), none, none, some (fun _ lv st h => ex_go 20 lv (.int 1 :: st) h), some (fun _ lv st h => ex_go 24 lv st h), none, none, some (fun _ lv st h => ex_go 24 lv (.int 0 :: st) h), some (fun _ lv st h => ex_ret (some (Jvm.ClassFile.FieldType.boolean)) st h), none, none, none, none, none, none, none]]
theorem ex_k77_eq : ex_k77 = ex_rows 2 (some (Jvm.ClassFile.FieldType.boolean)) 0 ex_m77.2.2.2.2 := rfl
noncomputable def ex_k78 : List (List (Option ex_K)) := [[some (fun _ lv st h => ex_go 2 lv (.int 24 :: st) h), none, some (fun _ lv st h => ex_ist 3 2 3 lv st h), some (fun _ lv st h => ex_ild 2 4 lv st h), some (fun _ lv st h => ex_if ex_lt0 36 7 lv st h), none, none, some (fun _ lv st h => ex_ald 0 8 lv st h), some (fun g lv st h => ex_gf g 12 0 11 lv st h), none, none, some (fun _ lv st h => ex_ald 0 12 lv st h), some (fun g lv st h => ex_gf g 12 1 15 lv st h), none, none, some (fun _ lv st h => ex_ild 1 16 lv st h)],
  [some (fun _ lv st h => ex_ild 2 17 lv st h), some (fun _ lv st h => ex_ii (fun x y => x >>> (y &&& 31)) 18 lv st h), some (fun _ lv st h => ex_i (fun x => .int x.toInt8.toInt32) 19 lv st h), some (fun g lv st h => ex_xbst g 20 lv st h), some (fun _ lv st h => ex_ald 0 21 lv st h), some (fun _ lv st h => ex_dup 22 lv st h), some (fun g lv st h => ex_gf g 12 1 25 lv st h), none, none, some (fun _ lv st h => ex_go 26 lv (.int 1 :: st) h), some (fun _ lv st h => ex_ii ex_add 27 lv st h), some (fun g lv st h => ex_pf g (ex_ft 12) 12 1 30 lv st h), none, none, some (fun _ lv st h => ex_inc 3 2 (-8) 33 lv st h), none],
  [none, some (fun _ lv st h => ex_go 3 lv st h), none, none, some (fun _ lv st h => ex_vret (none) st h), none, none, none, none, none, none, none, none, none, none, none]]
theorem ex_k78_eq : ex_k78 = ex_rows 3 (none) 0 ex_m78.2.2.2.2 := rfl
noncomputable def ex_k79 : List (List (Option ex_K)) := [[some (fun _ lv st h => ex_ald 0 1 lv st h), some (fun g lv st h => ex_gf g 12 88 4 lv st h), none, none, some (fun _ lv st h => ex_if ex_ge0 9 7 lv st h), none, none, some (fun _ lv st h => ex_go 8 lv (.int (-1) :: st) h), some (fun _ lv st h => ex_ret (some (Jvm.ClassFile.FieldType.int)) st h), some (fun _ lv st h => ex_ald 0 10 lv st h), some (fun g lv st h => ex_gf g 12 90 13 lv st h), none, none, some (fun _ lv st h => ex_ald 0 14 lv st h), some (fun g lv st h => ex_gf g 12 88 17 lv st h), none],
  [none, some (fun g lv st h => ex_xld g 0 0 18 lv st h), some (fun _ lv st h => ex_ist 7 3 19 lv st h), some (fun _ lv st h => ex_ald 0 20 lv st h), some (fun g lv st h => ex_gf g 12 7 23 lv st h), none, none, some (fun _ lv st h => ex_ild 3 24 lv st h), some (fun g lv st h => ex_xld g 1 2 25 lv st h), some (fun _ lv st h => ex_go 26 lv (.int 4 :: st) h), some (fun _ lv st h => ex_ic ex_eq 39 29 lv st h), none, none, some (fun _ lv st h => ex_ald 0 30 lv st h), some (fun g lv st h => ex_gf g 12 7 33 lv st h), none],
  [none, some (fun _ lv st h => ex_ild 3 34 lv st h), some (fun g lv st h => ex_xld g 1 2 35 lv st h), some (fun _ lv st h => ex_go 36 lv (.int 5 :: st) h), some (fun _ lv st h => ex_ic ex_ne 43 39 lv st h), none, none, some (fun _ lv st h => ex_go 40 lv (.int 1 :: st) h), some (fun _ lv st h => ex_go 44 lv st h), none, none, some (fun _ lv st h => ex_go 44 lv (.int 0 :: st) h), some (fun _ lv st h => ex_ist 7 4 46 lv st h), none, some (fun _ lv st h => ex_ild 2 47 lv st h), some (fun _ lv st h => ex_if ex_eq0 59 50 lv st h)],
  [none, none, some (fun _ lv st h => ex_ald 0 51 lv st h), some (fun g lv st h => ex_gf g 12 13 54 lv st h), none, none, some (fun _ lv st h => ex_ild 3 55 lv st h), some (fun g lv st h => ex_xld g 0 0 56 lv st h), some (fun _ lv st h => ex_go 65 lv st h), none, none, some (fun _ lv st h => ex_ald 0 60 lv st h), some (fun g lv st h => ex_gf g 12 11 63 lv st h), none, none, some (fun _ lv st h => ex_ild 3 64 lv st h)],
  [some (fun g lv st h => ex_xld g 0 0 65 lv st h), some (fun _ lv st h => ex_ist 7 5 67 lv st h), none, some (fun _ lv st h => ex_ild 2 68 lv st h), some (fun _ lv st h => ex_if ex_eq0 91 71 lv st h), none, none, some (fun _ lv st h => ex_ald 0 72 lv st h), some (fun g lv st h => ex_gf g 12 88 75 lv st h), none, none, some (fun _ lv st h => ex_if ex_ne0 82 78 lv st h), none, none, some (fun _ lv st h => ex_go 79 lv (.int 0 :: st) h), some (fun _ lv st h => ex_go 106 lv st h)],
  [none, none, some (fun _ lv st h => ex_ald 0 83 lv st h), some (fun g lv st h => ex_gf g 12 14 86 lv st h), none, none, some (fun _ lv st h => ex_ild 3 87 lv st h), some (fun g lv st h => ex_xld g 0 0 88 lv st h), some (fun _ lv st h => ex_go 106 lv st h), none, none, some (fun _ lv st h => ex_ild 4 93 lv st h), none, some (fun _ lv st h => ex_if ex_eq0 105 96 lv st h), none, none],
  [some (fun _ lv st h => ex_ald 0 97 lv st h), some (fun g lv st h => ex_gf g 12 10 100 lv st h), none, none, some (fun _ lv st h => ex_ild 3 101 lv st h), some (fun g lv st h => ex_xld g 0 0 102 lv st h), some (fun _ lv st h => ex_go 106 lv st h), none, none, some (fun _ lv st h => ex_go 106 lv (.int 0 :: st) h), some (fun _ lv st h => ex_ist 7 6 108 lv st h), none, some (fun _ lv st h => ex_ild 1 109 lv st h), some (fun _ lv st h => ex_if ex_lt0 134 112 lv st h), none, none],
  [some (fun _ lv st h => ex_ild 1 113 lv st h), some (fun _ lv st h => ex_ild 6 115 lv st h), none, some (fun _ lv st h => ex_ic ex_ge 134 118 lv st h), none, none, some (fun _ lv st h => ex_ald 0 119 lv st h), some (fun g lv st h => ex_gf g 12 16 122 lv st h), none, none, some (fun _ lv st h => ex_ild 5 124 lv st h), none, some (fun _ lv st h => ex_ild 1 125 lv st h), some (fun _ lv st h => ex_ii ex_add 126 lv st h), some (fun g lv st h => ex_xld g 1 2 127 lv st h), some (fun _ lv st h => ex_go 130 lv (.int 255 :: st) h)],
  [none, none, some (fun _ lv st h => ex_ii (fun x y => x &&& y) 131 lv st h), some (fun _ lv st h => ex_go 135 lv st h), none, none, some (fun _ lv st h => ex_go 135 lv (.int (-1) :: st) h), some (fun _ lv st h => ex_ret (some (Jvm.ClassFile.FieldType.int)) st h), none, none, none, none, none, none, none, none]]
theorem ex_k79_eq : ex_k79 = ex_rows 7 (some (Jvm.ClassFile.FieldType.int)) 0 ex_m79.2.2.2.2 := rfl
noncomputable def ex_k80 : List (List (Option ex_K)) := [[some (fun _ lv st h => ex_ald 0 1 lv st h), some (fun g lv st h => ex_gf g 12 1 4 lv st h), none, none, some (fun _ lv st h => ex_ist 3 1 5 lv st h), some (fun _ lv st h => ex_ald 0 6 lv st h), some (fun _ lv st h => ex_go 7 lv (.int 0 :: st) h), some (fun g lv st h => ex_pf g (ex_ft 12) 12 1 10 lv st h), none, none, some (fun _ lv st h => ex_go 11 lv (.int 0 :: st) h), some (fun _ lv st h => ex_ist 3 2 12 lv st h), some (fun _ lv st h => ex_ild 2 13 lv st h), some (fun _ lv st h => ex_ild 1 14 lv st h), some (fun _ lv st h => ex_ic ex_ge 35 17 lv st h), none],
  [none, some (fun _ lv st h => ex_ald 0 18 lv st h), some (fun g lv st h => ex_gf g 12 2 21 lv st h), none, none, some (fun _ lv st h => ex_ild 2 22 lv st h), some (fun _ lv st h => ex_ald 0 23 lv st h), some (fun g lv st h => ex_gf g 12 0 26 lv st h), none, none, some (fun _ lv st h => ex_ild 2 27 lv st h), some (fun g lv st h => ex_xld g 1 2 28 lv st h), some (fun g lv st h => ex_xbst g 29 lv st h), some (fun _ lv st h => ex_inc 3 2 1 32 lv st h), none, none],
  [some (fun _ lv st h => ex_go 12 lv st h), none, none, some (fun _ lv st h => ex_ald 0 36 lv st h), some (fun _ lv st h => ex_ild 1 37 lv st h), some (fun g lv st h => ex_pf g (ex_ft 12) 12 3 40 lv st h), none, none, some (fun _ lv st h => ex_ald 0 41 lv st h), some (fun _ lv st h => ex_go 42 lv (.int 0 :: st) h), some (fun g lv st h => ex_pf g (ex_ft 12) 12 6 45 lv st h), none, none, some (fun _ lv st h => ex_ald 0 46 lv st h), some (fun _ lv st h => ex_go 47 lv (.int (-1) :: st) h), some (fun g lv st h => ex_pf g (ex_ft 12) 12 88 50 lv st h)],
  [none, none, some (fun _ lv st h => ex_ald 0 51 lv st h), some (fun _ lv st h => ex_go 52 lv (.int 0 :: st) h), some (fun g lv st h => ex_pf g (ex_ft 12) 12 104 55 lv st h), none, none, some (fun _ lv st h => ex_ald 0 56 lv st h), some (fun _ lv st h => ex_go 57 lv (.int 0 :: st) h), some (fun g lv st h => ex_pf g (ex_ft 12) 12 15 60 lv st h), none, none, some (fun _ lv st h => ex_ald 0 61 lv st h), some (fun _ lv st h => ex_go 62 lv (.int 0 :: st) h), some (fun g lv st h => ex_pf g (ex_ft 12) 12 17 65 lv st h), none],
  [none, some (fun _ lv st h => ex_ald 0 66 lv st h), some (fun _ lv st h => ex_go 67 lv (.int 0 :: st) h), some (fun g lv st h => ex_pf g (ex_ft 12) 12 34 70 lv st h), none, none, some (fun _ lv st h => ex_ald 0 71 lv st h), some (fun _ lv st h => ex_go 72 lv (.int 0 :: st) h), some (fun g lv st h => ex_pf g (ex_ft 12) 12 67 75 lv st h), none, none, some (fun _ lv st h => ex_ald 0 76 lv st h), some (fun _ lv st h => ex_go 77 lv (.int 0 :: st) h), some (fun g lv st h => ex_pf g (ex_ft 12) 12 29 80 lv st h), none, none],
  [some (fun _ lv st h => ex_ald 0 81 lv st h), some (fun _ lv st h => ex_go 84 lv (.int 6000 :: st) h), none, none, some (fun g lv st h => ex_pf g (ex_ft 12) 12 30 87 lv st h), none, none, some (fun _ lv st h => ex_ald 0 88 lv st h), some (fun _ lv st h => ex_go 89 lv (.int 0 :: st) h), some (fun g lv st h => ex_pf g (ex_ft 12) 12 31 92 lv st h), none, none, some (fun _ lv st h => ex_ald 0 93 lv st h), some (fun _ lv st h => ex_go 94 lv (.int 1 :: st) h), some (fun g lv st h => ex_pf g (ex_ft 12) 12 32 97 lv st h), none],
  [none, some (fun _ lv st h => ex_ald 0 98 lv st h), some (fun _ lv st h => ex_go 99 lv (.int 0 :: st) h), some (fun g lv st h => ex_pf g (ex_ft 12) 12 27 102 lv st h), none, none, some (fun _ lv st h => ex_ald 0 103 lv st h), some (fun _ lv st h => ex_go 104 lv (.int (-1) :: st) h), some (fun g lv st h => ex_pf g (ex_ft 12) 12 28 107 lv st h), none, none, some (fun _ lv st h => ex_ald 0 108 lv st h), some (fun _ lv st h => ex_go 109 lv (.int 0 :: st) h), some (fun g lv st h => ex_pf g (ex_ft 12) 12 84 112 lv st h), none, none],
  [some (fun _ lv st h => ex_ald 0 113 lv st h), some (fun g lv st h => ex_callV g 88 0 12 116 lv st h), none, none, some (fun _ lv st h => ex_go 117 lv (.int 0 :: st) h), some (fun _ lv st h => ex_ist 3 2 118 lv st h), some (fun _ lv st h => ex_ild 2 119 lv st h), some (fun _ lv st h => ex_ald 0 120 lv st h), some (fun g lv st h => ex_gf g 12 60 123 lv st h), none, none, some (fun _ lv st h => ex_ic ex_ge 162 126 lv st h), none, none, some (fun _ lv st h => ex_ald 0 127 lv st h), some (fun g lv st h => ex_callV g 72 0 12 130 lv st h)],
  [none, none, some (fun _ lv st h => ex_if ex_eq0 162 133 lv st h), none, none, some (fun _ lv st h => ex_ald 0 134 lv st h), some (fun g lv st h => ex_gf g 12 48 137 lv st h), none, none, some (fun _ lv st h => ex_ild 2 138 lv st h), some (fun g lv st h => ex_xld g 1 2 139 lv st h), some (fun _ lv st h => ex_if ex_eq0 156 142 lv st h), none, none, some (fun _ lv st h => ex_ald 0 143 lv st h), some (fun g lv st h => ex_gf g 12 53 146 lv st h)],
  [none, none, some (fun _ lv st h => ex_ild 2 147 lv st h), some (fun g lv st h => ex_xld g 1 2 148 lv st h), some (fun _ lv st h => ex_if ex_ne0 156 151 lv st h), none, none, some (fun _ lv st h => ex_ald 0 152 lv st h), some (fun _ lv st h => ex_ild 2 153 lv st h), none, none, none, some (fun _ lv st h => ex_inc 3 2 1 159 lv st h), none, none, some (fun _ lv st h => ex_go 118 lv st h)],
  [none, none, some (fun _ lv st h => ex_ald 0 163 lv st h), some (fun g lv st h => ex_callV g 72 0 12 166 lv st h), none, none, some (fun _ lv st h => ex_if ex_eq0 173 169 lv st h), none, none, some (fun _ lv st h => ex_ald 0 170 lv st h), none, none, none, some (fun _ lv st h => ex_ald 0 174 lv st h), some (fun _ lv st h => ex_ald 0 175 lv st h), some (fun g lv st h => ex_gf g 12 27 178 lv st h)],
  [none, none, some (fun g lv st h => ex_pf g (ex_ft 12) 12 68 181 lv st h), none, none, some (fun _ lv st h => ex_ald 0 182 lv st h), some (fun _ lv st h => ex_ald 0 183 lv st h), some (fun g lv st h => ex_callV g 72 0 12 186 lv st h), none, none, some (fun _ lv st h => ex_if ex_eq0 193 189 lv st h), none, none, some (fun _ lv st h => ex_go 190 lv (.int (-1) :: st) h), some (fun _ lv st h => ex_go 197 lv st h), none],
  [none, some (fun _ lv st h => ex_ald 0 194 lv st h), some (fun g lv st h => ex_gf g 12 28 197 lv st h), none, none, some (fun g lv st h => ex_pf g (ex_ft 12) 12 69 200 lv st h), none, none, some (fun _ lv st h => ex_ald 0 201 lv st h), some (fun _ lv st h => ex_go 202 lv (.int 0 :: st) h), some (fun g lv st h => ex_pf g (ex_ft 12) 12 70 205 lv st h), none, none, some (fun _ lv st h => ex_ald 0 206 lv st h), some (fun _ lv st h => ex_go 207 lv (.int (-1) :: st) h), some (fun g lv st h => ex_pf g (ex_ft 12) 12 71 210 lv st h)],
  [none, none, some (fun _ lv st h => ex_ald 0 211 lv st h), some (fun g lv st h => ex_callV g 72 0 12 214 lv st h), none, none, some (fun _ lv st h => ex_if ex_ne0 230 217 lv st h), none, none, some (fun _ lv st h => ex_ald 0 218 lv st h), some (fun _ lv st h => ex_go 219 lv (.int 0 :: st) h), some (fun g lv st h => ex_pf g (ex_ft 12) 12 84 222 lv st h), none, none, some (fun _ lv st h => ex_go 224 lv (.int (-100) :: st) h), none],
  [some (fun _ lv st h => ex_ald 0 225 lv st h), some (fun g lv st h => ex_gf g 12 27 228 lv st h), none, none, some (fun _ lv st h => ex_ii ex_sub 229 lv st h), some (fun _ lv st h => ex_ret (some (Jvm.ClassFile.FieldType.int)) st h), some (fun _ lv st h => ex_go 231 lv (.int 0 :: st) h), some (fun _ lv st h => ex_ist 3 2 232 lv st h), some (fun _ lv st h => ex_ild 2 233 lv st h), some (fun _ lv st h => ex_go 236 lv (.int 200 :: st) h), none, none, some (fun _ lv st h => ex_ic ex_ge 259 239 lv st h), none, none, some (fun _ lv st h => ex_ald 0 240 lv st h)],
  [some (fun g lv st h => ex_gf g 12 58 243 lv st h), none, none, some (fun _ lv st h => ex_ild 2 244 lv st h), some (fun _ lv st h => ex_go 245 lv (.int 0 :: st) h), some (fun g lv st h => ex_xbst g 246 lv st h), some (fun _ lv st h => ex_ald 0 247 lv st h), some (fun g lv st h => ex_gf g 12 59 250 lv st h), none, none, some (fun _ lv st h => ex_ild 2 251 lv st h), some (fun _ lv st h => ex_go 252 lv (.int 0 :: st) h), some (fun g lv st h => ex_xbst g 253 lv st h), some (fun _ lv st h => ex_inc 3 2 1 256 lv st h), none, none],
  [some (fun _ lv st h => ex_go 232 lv st h), none, none, some (fun _ lv st h => ex_ald 0 260 lv st h), some (fun _ lv st h => ex_ald 0 261 lv st h), some (fun g lv st h => ex_gf g 12 64 264 lv st h), none, none, none, none, none, some (fun _ lv st h => ex_go 268 lv (.int 0 :: st) h), some (fun _ lv st h => ex_ist 3 2 269 lv st h), some (fun _ lv st h => ex_ild 2 270 lv st h), some (fun _ lv st h => ex_ald 0 271 lv st h), some (fun g lv st h => ex_gf g 12 60 274 lv st h)],
  [none, none, some (fun _ lv st h => ex_ic ex_ge 302 277 lv st h), none, none, some (fun _ lv st h => ex_ald 0 278 lv st h), some (fun g lv st h => ex_gf g 12 48 281 lv st h), none, none, some (fun _ lv st h => ex_ild 2 282 lv st h), some (fun g lv st h => ex_xld g 1 2 283 lv st h), some (fun _ lv st h => ex_if ex_eq0 296 286 lv st h), none, none, some (fun _ lv st h => ex_ald 0 287 lv st h), some (fun _ lv st h => ex_ald 0 288 lv st h)],
  [some (fun g lv st h => ex_gf g 12 52 291 lv st h), none, none, some (fun _ lv st h => ex_ild 2 292 lv st h), some (fun g lv st h => ex_xld g 0 0 293 lv st h), none, none, none, some (fun _ lv st h => ex_inc 3 2 1 299 lv st h), none, none, some (fun _ lv st h => ex_go 269 lv st h), none, none, some (fun _ lv st h => ex_ald 0 303 lv st h), some (fun _ lv st h => ex_go 304 lv (.int 1 :: st) h)],
  [some (fun g lv st h => ex_pf g (ex_ft 12) 12 6 307 lv st h), none, none, some (fun _ lv st h => ex_ald 0 308 lv st h), some (fun g lv st h => ex_gf g 12 84 311 lv st h), none, none, some (fun _ lv st h => ex_ret (some (Jvm.ClassFile.FieldType.int)) st h), none, none, none, none, none, none, none, none]]
theorem ex_k80_eq : ex_k80 = ex_rows 3 (some (Jvm.ClassFile.FieldType.int)) 0 ex_m80.2.2.2.2 := rfl
noncomputable def ex_k81 : List (List (Option ex_K)) := [[some (fun _ lv st h => ex_ald 0 1 lv st h), some (fun _ lv st h => ex_go 2 lv (.int 0 :: st) h), some (fun g lv st h => ex_pf g (ex_ft 12) 12 5 5 lv st h), none, none, some (fun _ lv st h => ex_ald 0 6 lv st h), some (fun g lv st h => ex_gf g 12 6 9 lv st h), none, none, some (fun _ lv st h => ex_if ex_eq0 29 12 lv st h), none, none, some (fun _ lv st h => ex_ald 0 13 lv st h), some (fun g lv st h => ex_gf g 12 63 16 lv st h), none, none],
  [some (fun _ lv st h => ex_if ex_eq0 31 19 lv st h), none, none, some (fun _ lv st h => ex_ald 0 20 lv st h), none, none, none, some (fun _ lv st h => ex_go 26 lv (.int 200 :: st) h), none, none, some (fun _ lv st h => ex_ic ex_ne 31 29 lv st h), none, none, some (fun _ lv st h => ex_go 30 lv (.int (-1) :: st) h), some (fun _ lv st h => ex_ret (some (Jvm.ClassFile.FieldType.int)) st h), some (fun _ lv st h => ex_ald 0 32 lv st h)],
  [some (fun _ lv st h => ex_go 33 lv (.int 0 :: st) h), some (fun g lv st h => ex_pf g (ex_ft 12) 12 109 36 lv st h), none, none, some (fun _ lv st h => ex_go 37 lv (.int 0 :: st) h), some (fun _ lv st h => ex_ist 2 1 38 lv st h), some (fun _ lv st h => ex_ild 1 39 lv st h), some (fun _ lv st h => ex_ald 0 40 lv st h), some (fun g lv st h => ex_gf g 12 3 43 lv st h), none, none, some (fun _ lv st h => ex_ic ex_ge 62 46 lv st h), none, none, some (fun _ lv st h => ex_ald 0 47 lv st h), some (fun _ lv st h => ex_ald 0 48 lv st h)],
  [some (fun g lv st h => ex_gf g 12 2 51 lv st h), none, none, some (fun _ lv st h => ex_ild 1 52 lv st h), some (fun g lv st h => ex_xld g 1 2 53 lv st h), none, none, none, some (fun _ lv st h => ex_inc 2 1 1 59 lv st h), none, none, some (fun _ lv st h => ex_go 38 lv st h), none, none, some (fun _ lv st h => ex_ald 0 63 lv st h), some (fun g lv st h => ex_gf g 12 3 66 lv st h)],
  [none, none, some (fun _ lv st h => ex_if ex_le0 91 69 lv st h), none, none, some (fun _ lv st h => ex_ald 0 70 lv st h), some (fun g lv st h => ex_gf g 12 2 73 lv st h), none, none, some (fun _ lv st h => ex_ald 0 74 lv st h), some (fun g lv st h => ex_gf g 12 3 77 lv st h), none, none, some (fun _ lv st h => ex_go 78 lv (.int 1 :: st) h), some (fun _ lv st h => ex_ii ex_sub 79 lv st h), some (fun g lv st h => ex_xld g 1 2 80 lv st h)],
  [some (fun _ lv st h => ex_go 82 lv (.int 10 :: st) h), none, some (fun _ lv st h => ex_ic ex_eq 91 85 lv st h), none, none, some (fun _ lv st h => ex_ald 0 86 lv st h), some (fun _ lv st h => ex_go 88 lv (.int 10 :: st) h), none, none, none, none, some (fun _ lv st h => ex_go 92 lv (.int 0 :: st) h), some (fun _ lv st h => ex_ist 2 1 93 lv st h), some (fun _ lv st h => ex_ild 1 94 lv st h), some (fun _ lv st h => ex_ald 0 95 lv st h), some (fun g lv st h => ex_gf g 12 60 98 lv st h)],
  [none, none, some (fun _ lv st h => ex_ic ex_ge 137 101 lv st h), none, none, some (fun _ lv st h => ex_ald 0 102 lv st h), some (fun g lv st h => ex_gf g 12 57 105 lv st h), none, none, some (fun _ lv st h => ex_ild 1 106 lv st h), some (fun g lv st h => ex_xld g 1 2 107 lv st h), some (fun _ lv st h => ex_if ex_eq0 131 110 lv st h), none, none, some (fun _ lv st h => ex_ald 0 111 lv st h), some (fun g lv st h => ex_gf g 12 113 114 lv st h)],
  [none, none, some (fun _ lv st h => ex_ild 1 115 lv st h), some (fun _ lv st h => ex_ald 0 116 lv st h), some (fun g lv st h => ex_gf g 12 5 119 lv st h), none, none, some (fun g lv st h => ex_xst g 120 lv st h), some (fun _ lv st h => ex_ald 0 121 lv st h), some (fun _ lv st h => ex_ild 1 122 lv st h), some (fun _ lv st h => ex_ild 1 123 lv st h), some (fun _ lv st h => ex_ald 0 124 lv st h), some (fun _ lv st h => ex_ild 1 125 lv st h), none, none, none],
  [none, none, none, some (fun _ lv st h => ex_inc 2 1 1 134 lv st h), none, none, some (fun _ lv st h => ex_go 93 lv st h), none, none, some (fun _ lv st h => ex_ald 0 138 lv st h), some (fun g lv st h => ex_gf g 12 5 141 lv st h), none, none, some (fun _ lv st h => ex_ist 2 1 142 lv st h), some (fun _ lv st h => ex_ald 0 143 lv st h), some (fun g lv st h => ex_gf g 12 63 146 lv st h)],
  [none, none, some (fun _ lv st h => ex_if ex_eq0 157 149 lv st h), none, none, some (fun _ lv st h => ex_ald 0 150 lv st h), some (fun _ lv st h => ex_ild 1 151 lv st h), none, none, none, some (fun _ lv st h => ex_go 161 lv st h), none, none, some (fun _ lv st h => ex_ald 0 158 lv st h), none, none],
  [none, some (fun _ lv st h => ex_ald 0 162 lv st h), some (fun _ lv st h => ex_ild 1 163 lv st h), none, none, none, some (fun _ lv st h => ex_ret (some (Jvm.ClassFile.FieldType.int)) st h), none, none, none, none, none, none, none, none, none]]
theorem ex_k81_eq : ex_k81 = ex_rows 2 (some (Jvm.ClassFile.FieldType.int)) 0 ex_m81.2.2.2.2 := rfl
noncomputable def ex_k82 : List (List (Option ex_K)) := [[some (fun _ lv st h => ex_ald 0 1 lv st h), some (fun _ lv st h => ex_ild 1 2 lv st h), some (fun g lv st h => ex_callV g 77 1 12 5 lv st h), none, none, some (fun _ lv st h => ex_if ex_eq0 22 8 lv st h), none, none, some (fun _ lv st h => ex_ild 2 9 lv st h), some (fun _ lv st h => ex_if ex_lt0 22 12 lv st h), none, none, some (fun _ lv st h => ex_ild 2 13 lv st h), some (fun _ lv st h => ex_ald 0 14 lv st h), some (fun g lv st h => ex_gf g 12 84 17 lv st h), none],
  [none, some (fun _ lv st h => ex_go 18 lv (.int 1 :: st) h), some (fun _ lv st h => ex_ii ex_sub 19 lv st h), some (fun _ lv st h => ex_ic ex_le 24 22 lv st h), none, none, some (fun _ lv st h => ex_go 23 lv (.int (-1) :: st) h), some (fun _ lv st h => ex_ret (some (Jvm.ClassFile.FieldType.int)) st h), some (fun _ lv st h => ex_ald 0 25 lv st h), some (fun g lv st h => ex_gf g 12 85 28 lv st h), none, none, some (fun _ lv st h => ex_ild 1 29 lv st h), some (fun g lv st h => ex_xld g 0 0 30 lv st h), some (fun _ lv st h => ex_ist 5 3 31 lv st h), some (fun _ lv st h => ex_ald 0 32 lv st h)],
  [some (fun _ lv st h => ex_ild 3 33 lv st h), some (fun _ lv st h => ex_go 36 lv (.ref 116 :: st) h), none, none, none, none, none, some (fun _ lv st h => ex_ald 0 40 lv st h), some (fun _ lv st h => ex_ild 3 41 lv st h), some (fun _ lv st h => ex_go 44 lv (.ref 118 :: st) h), none, none, none, none, none, some (fun _ lv st h => ex_ald 0 48 lv st h)],
  [some (fun _ lv st h => ex_ild 3 49 lv st h), some (fun _ lv st h => ex_go 52 lv (.ref 120 :: st) h), none, none, none, none, none, some (fun _ lv st h => ex_ald 0 56 lv st h), some (fun _ lv st h => ex_ild 1 57 lv st h), none, none, none, some (fun _ lv st h => ex_ist 5 4 62 lv st h), none, some (fun _ lv st h => ex_ald 0 63 lv st h), some (fun _ lv st h => ex_ild 3 64 lv st h)],
  [some (fun _ lv st h => ex_ild 2 65 lv st h), some (fun _ lv st h => ex_ild 4 67 lv st h), none, none, none, none, some (fun _ lv st h => ex_ild 3 71 lv st h), some (fun _ lv st h => ex_ret (some (Jvm.ClassFile.FieldType.int)) st h), none, none, none, none, none, none, none, none]]
theorem ex_k82_eq : ex_k82 = ex_rows 5 (some (Jvm.ClassFile.FieldType.int)) 0 ex_m82.2.2.2.2 := rfl
noncomputable def ex_k83 : List (List (Option ex_K)) := [[some (fun _ lv st h => ex_ald 0 1 lv st h), some (fun g lv st h => ex_gf g 12 6 4 lv st h), none, none, some (fun _ lv st h => ex_if ex_ne0 9 7 lv st h), none, none, some (fun _ lv st h => ex_go 8 lv (.int (-1) :: st) h), some (fun _ lv st h => ex_ret (some (Jvm.ClassFile.FieldType.int)) st h), some (fun _ lv st h => ex_go 10 lv (.int 0 :: st) h), some (fun _ lv st h => ex_ist 3 1 11 lv st h), some (fun _ lv st h => ex_go 12 lv (.int 0 :: st) h), some (fun _ lv st h => ex_ist 3 2 13 lv st h), some (fun _ lv st h => ex_ild 2 14 lv st h), some (fun _ lv st h => ex_ald 0 15 lv st h), some (fun g lv st h => ex_gf g 12 60 18 lv st h)],
  [none, none, some (fun _ lv st h => ex_ic ex_ge 44 21 lv st h), none, none, some (fun _ lv st h => ex_ild 1 22 lv st h), some (fun _ lv st h => ex_ald 0 23 lv st h), some (fun g lv st h => ex_gf g 12 48 26 lv st h), none, none, some (fun _ lv st h => ex_ild 2 27 lv st h), some (fun g lv st h => ex_xld g 1 2 28 lv st h), some (fun _ lv st h => ex_if ex_eq0 35 31 lv st h), none, none, some (fun _ lv st h => ex_go 32 lv (.int 1 :: st) h)],
  [some (fun _ lv st h => ex_go 36 lv st h), none, none, some (fun _ lv st h => ex_go 36 lv (.int 0 :: st) h), some (fun _ lv st h => ex_ii ex_add 37 lv st h), some (fun _ lv st h => ex_ist 3 1 38 lv st h), some (fun _ lv st h => ex_inc 3 2 1 41 lv st h), none, none, some (fun _ lv st h => ex_go 13 lv st h), none, none, some (fun _ lv st h => ex_ild 1 45 lv st h), some (fun _ lv st h => ex_ret (some (Jvm.ClassFile.FieldType.int)) st h), none, none]]
theorem ex_k83_eq : ex_k83 = ex_rows 3 (some (Jvm.ClassFile.FieldType.int)) 0 ex_m83.2.2.2.2 := rfl
noncomputable def ex_k84 : List (List (Option ex_K)) := [[some (fun _ lv st h => ex_ild 1 1 lv st h), some (fun _ lv st h => ex_if ex_lt0 25 4 lv st h), none, none, some (fun _ lv st h => ex_ild 1 5 lv st h), some (fun _ lv st h => ex_ald 0 6 lv st h), some (fun g lv st h => ex_gf g 12 5 9 lv st h), none, none, some (fun _ lv st h => ex_ic ex_ge 25 12 lv st h), none, none, some (fun _ lv st h => ex_ald 0 13 lv st h), some (fun g lv st h => ex_gf g 12 4 16 lv st h), none, none],
  [some (fun _ lv st h => ex_ild 1 17 lv st h), some (fun g lv st h => ex_xld g 1 2 18 lv st h), some (fun _ lv st h => ex_go 21 lv (.int 255 :: st) h), none, none, some (fun _ lv st h => ex_ii (fun x y => x &&& y) 22 lv st h), some (fun _ lv st h => ex_go 26 lv st h), none, none, some (fun _ lv st h => ex_go 26 lv (.int (-1) :: st) h), some (fun _ lv st h => ex_ret (some (Jvm.ClassFile.FieldType.int)) st h), none, none, none, none, none]]
theorem ex_k84_eq : ex_k84 = ex_rows 2 (some (Jvm.ClassFile.FieldType.int)) 0 ex_m84.2.2.2.2 := rfl
noncomputable def ex_k85 : List (List (Option ex_K)) := [[some (fun _ lv st h => ex_ald 0 1 lv st h), some (fun g lv st h => ex_gf g 12 5 4 lv st h), none, none, some (fun _ lv st h => ex_ret (some (Jvm.ClassFile.FieldType.int)) st h), none, none, none, none, none, none, none, none, none, none, none]]
theorem ex_k85_eq : ex_k85 = ex_rows 1 (some (Jvm.ClassFile.FieldType.int)) 0 ex_m85.2.2.2.2 := rfl
noncomputable def ex_k86 : List (List (Option ex_K)) := [[some (fun _ lv st h => ex_ald 0 1 lv st h), some (fun g lv st h => ex_gf g 12 6 4 lv st h), none, none, some (fun _ lv st h => ex_if ex_ne0 9 7 lv st h), none, none, some (fun _ lv st h => ex_go 8 lv (.int (-1) :: st) h), some (fun _ lv st h => ex_ret (some (Jvm.ClassFile.FieldType.int)) st h), some (fun _ lv st h => ex_ald 0 10 lv st h), some (fun _ lv st h => ex_ild 1 11 lv st h), some (fun g lv st h => ex_callV g 77 1 12 14 lv st h), none, none, some (fun _ lv st h => ex_if ex_eq0 27 17 lv st h), none],
  [none, some (fun _ lv st h => ex_ild 2 18 lv st h), some (fun _ lv st h => ex_if ex_lt0 27 21 lv st h), none, none, some (fun _ lv st h => ex_ild 2 22 lv st h), some (fun _ lv st h => ex_go 24 lv (.int 6 :: st) h), none, some (fun _ lv st h => ex_ic ex_le 29 27 lv st h), none, none, some (fun _ lv st h => ex_go 28 lv (.int 0 :: st) h), some (fun _ lv st h => ex_ret (some (Jvm.ClassFile.FieldType.int)) st h), some (fun _ lv st h => ex_ald 0 30 lv st h), some (fun g lv st h => ex_gf g 12 85 33 lv st h), none],
  [none, some (fun _ lv st h => ex_ild 1 34 lv st h), some (fun g lv st h => ex_xld g 0 0 35 lv st h), some (fun _ lv st h => ex_ist 6 3 36 lv st h), some (fun _ lv st h => ex_ild 2 37 lv st h), some (fun _ lv st h => ex_if ex_ne0 42 40 lv st h), none, none, some (fun _ lv st h => ex_ild 3 41 lv st h), some (fun _ lv st h => ex_ret (some (Jvm.ClassFile.FieldType.int)) st h), some (fun _ lv st h => ex_ild 2 43 lv st h), some (fun _ lv st h => ex_go 44 lv (.int 4 :: st) h), some (fun _ lv st h => ex_ic ex_gt 97 47 lv st h), none, none, some (fun _ lv st h => ex_ald 0 48 lv st h)],
  [some (fun g lv st h => ex_gf g 12 11 51 lv st h), none, none, some (fun _ lv st h => ex_ald 0 52 lv st h), some (fun _ lv st h => ex_ild 3 53 lv st h), some (fun _ lv st h => ex_go 56 lv (.ref 116 :: st) h), none, none, none, none, none, some (fun g lv st h => ex_xld g 0 0 60 lv st h), some (fun _ lv st h => ex_ist 6 4 62 lv st h), none, some (fun _ lv st h => ex_go 63 lv (.int 1 :: st) h), some (fun _ lv st h => ex_ist 6 5 65 lv st h)],
  [none, some (fun _ lv st h => ex_ild 5 67 lv st h), none, some (fun _ lv st h => ex_ild 2 68 lv st h), some (fun _ lv st h => ex_ic ex_ge 86 71 lv st h), none, none, some (fun _ lv st h => ex_ald 0 72 lv st h), some (fun g lv st h => ex_gf g 12 12 75 lv st h), none, none, some (fun _ lv st h => ex_ild 4 77 lv st h), none, some (fun g lv st h => ex_xld g 0 0 78 lv st h), some (fun _ lv st h => ex_ist 6 4 80 lv st h), none],
  [some (fun _ lv st h => ex_inc 6 5 1 83 lv st h), none, none, some (fun _ lv st h => ex_go 65 lv st h), none, none, some (fun _ lv st h => ex_ald 0 87 lv st h), some (fun _ lv st h => ex_ald 0 88 lv st h), some (fun _ lv st h => ex_ild 4 90 lv st h), none, none, none, none, none, none, none],
  [some (fun _ lv st h => ex_ret (some (Jvm.ClassFile.FieldType.int)) st h), some (fun _ lv st h => ex_ild 2 98 lv st h), some (fun _ lv st h => ex_go 99 lv (.int 5 :: st) h), some (fun _ lv st h => ex_ic ex_ne 129 102 lv st h), none, none, some (fun _ lv st h => ex_ald 0 103 lv st h), some (fun _ lv st h => ex_ild 3 104 lv st h), some (fun _ lv st h => ex_go 107 lv (.ref 120 :: st) h), none, none, none, none, none, some (fun _ lv st h => ex_ist 6 4 112 lv st h), none],
  [some (fun _ lv st h => ex_ild 4 114 lv st h), none, some (fun _ lv st h => ex_if ex_ge0 121 117 lv st h), none, none, some (fun _ lv st h => ex_go 118 lv (.int 0 :: st) h), some (fun _ lv st h => ex_go 128 lv st h), none, none, some (fun _ lv st h => ex_ald 0 122 lv st h), some (fun g lv st h => ex_gf g 12 8 125 lv st h), none, none, some (fun _ lv st h => ex_ild 4 127 lv st h), none, some (fun g lv st h => ex_xld g 0 0 128 lv st h)],
  [some (fun _ lv st h => ex_ret (some (Jvm.ClassFile.FieldType.int)) st h), some (fun _ lv st h => ex_ald 0 130 lv st h), some (fun _ lv st h => ex_ild 3 131 lv st h), none, none, none, some (fun _ lv st h => ex_ret (some (Jvm.ClassFile.FieldType.int)) st h), none, none, none, none, none, none, none, none, none]]
theorem ex_k86_eq : ex_k86 = ex_rows 6 (some (Jvm.ClassFile.FieldType.int)) 0 ex_m86.2.2.2.2 := rfl
noncomputable def ex_k87 : List (List (Option ex_K)) := [[some (fun _ lv st h => ex_ald 0 1 lv st h), some (fun g lv st h => ex_gf g 12 6 4 lv st h), none, none, some (fun _ lv st h => ex_if ex_eq0 14 7 lv st h), none, none, some (fun _ lv st h => ex_ald 0 8 lv st h), some (fun g lv st h => ex_gf g 12 84 11 lv st h), none, none, some (fun _ lv st h => ex_go 15 lv st h), none, none, some (fun _ lv st h => ex_go 15 lv (.int (-1) :: st) h), some (fun _ lv st h => ex_ret (some (Jvm.ClassFile.FieldType.int)) st h)]]
theorem ex_k87_eq : ex_k87 = ex_rows 1 (some (Jvm.ClassFile.FieldType.int)) 0 ex_m87.2.2.2.2 := rfl
noncomputable def ex_k88 : List (List (Option ex_K)) := [[some (fun _ lv st h => ex_go 1 lv (.int 0 :: st) h), some (fun _ lv st h => ex_ist 5 1 2 lv st h), some (fun _ lv st h => ex_ild 1 3 lv st h), some (fun _ lv st h => ex_go 6 lv (.int 200 :: st) h), none, none, some (fun _ lv st h => ex_ic ex_ge 57 9 lv st h), none, none, some (fun _ lv st h => ex_ald 0 10 lv st h), some (fun g lv st h => ex_gf g 12 48 13 lv st h), none, none, some (fun _ lv st h => ex_ild 1 14 lv st h), some (fun _ lv st h => ex_go 15 lv (.int 0 :: st) h), some (fun g lv st h => ex_xbst g 16 lv st h)],
  [some (fun _ lv st h => ex_ald 0 17 lv st h), some (fun g lv st h => ex_gf g 12 51 20 lv st h), none, none, some (fun _ lv st h => ex_ild 1 21 lv st h), some (fun _ lv st h => ex_go 22 lv (.int 0 :: st) h), some (fun g lv st h => ex_xbst g 23 lv st h), some (fun _ lv st h => ex_ald 0 24 lv st h), some (fun g lv st h => ex_gf g 12 53 27 lv st h), none, none, some (fun _ lv st h => ex_ild 1 28 lv st h), some (fun _ lv st h => ex_go 29 lv (.int 0 :: st) h), some (fun g lv st h => ex_xbst g 30 lv st h), some (fun _ lv st h => ex_ald 0 31 lv st h), some (fun g lv st h => ex_gf g 12 54 34 lv st h)],
  [none, none, some (fun _ lv st h => ex_ild 1 35 lv st h), some (fun _ lv st h => ex_go 36 lv (.int 0 :: st) h), some (fun g lv st h => ex_xbst g 37 lv st h), some (fun _ lv st h => ex_ald 0 38 lv st h), some (fun g lv st h => ex_gf g 12 57 41 lv st h), none, none, some (fun _ lv st h => ex_ild 1 42 lv st h), some (fun _ lv st h => ex_go 43 lv (.int 0 :: st) h), some (fun g lv st h => ex_xbst g 44 lv st h), some (fun _ lv st h => ex_ald 0 45 lv st h), some (fun g lv st h => ex_gf g 12 52 48 lv st h), none, none],
  [some (fun _ lv st h => ex_ild 1 49 lv st h), some (fun _ lv st h => ex_go 50 lv (.int (-1) :: st) h), some (fun g lv st h => ex_xst g 51 lv st h), some (fun _ lv st h => ex_inc 5 1 1 54 lv st h), none, none, some (fun _ lv st h => ex_go 2 lv st h), none, none, some (fun _ lv st h => ex_ald 0 58 lv st h), some (fun _ lv st h => ex_go 59 lv (.int 0 :: st) h), some (fun g lv st h => ex_pf g (ex_ft 12) 12 60 62 lv st h), none, none, some (fun _ lv st h => ex_ald 0 63 lv st h), some (fun _ lv st h => ex_go 64 lv (.int 0 :: st) h)],
  [some (fun g lv st h => ex_pf g (ex_ft 12) 12 61 67 lv st h), none, none, some (fun _ lv st h => ex_go 70 lv (.ref 122 :: st) h), none, none, some (fun _ lv st h => ex_ast 5 1 71 lv st h), some (fun _ lv st h => ex_go 72 lv (.int 0 :: st) h), some (fun _ lv st h => ex_ist 5 2 73 lv st h), some (fun _ lv st h => ex_ild 2 74 lv st h), some (fun _ lv st h => ex_go 76 lv (.int 8 :: st) h), none, some (fun _ lv st h => ex_ic ex_ge 143 79 lv st h), none, none, some (fun _ lv st h => ex_ald 0 80 lv st h)],
  [some (fun _ lv st h => ex_ild 2 81 lv st h), some (fun g lv st h => ex_callV g 60 1 12 84 lv st h), none, none, some (fun _ lv st h => ex_ist 5 3 85 lv st h), some (fun _ lv st h => ex_ild 2 86 lv st h), some (fun _ lv st h => ex_go 88 lv (.int 7 :: st) h), none, some (fun _ lv st h => ex_ic ex_ge 103 91 lv st h), none, none, some (fun _ lv st h => ex_ild 3 92 lv st h), some (fun _ lv st h => ex_ald 1 93 lv st h), some (fun _ lv st h => ex_ild 2 94 lv st h), some (fun g lv st h => ex_callV g 96 1 13 97 lv st h), none],
  [none, some (fun _ lv st h => ex_ic ex_eq 137 100 lv st h), none, none, some (fun _ lv st h => ex_go 115 lv st h), none, none, some (fun _ lv st h => ex_ild 3 104 lv st h), some (fun _ lv st h => ex_go 106 lv (.int 48 :: st) h), none, some (fun _ lv st h => ex_ic ex_lt 115 109 lv st h), none, none, some (fun _ lv st h => ex_ild 3 110 lv st h), some (fun _ lv st h => ex_go 112 lv (.int 55 :: st) h), none],
  [some (fun _ lv st h => ex_ic ex_le 137 115 lv st h), none, none, some (fun _ lv st h => ex_ald 0 116 lv st h), some (fun _ lv st h => ex_go 117 lv (.int 1 :: st) h), some (fun _ lv st h => ex_ild 2 118 lv st h), some (fun _ lv st h => ex_ald 0 119 lv st h), some (fun g lv st h => ex_gf g 12 3 122 lv st h), none, none, some (fun _ lv st h => ex_ic ex_ge 129 125 lv st h), none, none, some (fun _ lv st h => ex_ild 2 126 lv st h), some (fun _ lv st h => ex_go 133 lv st h), none],
  [none, some (fun _ lv st h => ex_ald 0 130 lv st h), some (fun g lv st h => ex_gf g 12 3 133 lv st h), none, none, some (fun g lv st h => ex_callV g 67 2 12 136 lv st h), none, none, some (fun _ lv st h => ex_vret (none) st h), some (fun _ lv st h => ex_inc 5 2 1 140 lv st h), none, none, some (fun _ lv st h => ex_go 73 lv st h), none, none, some (fun _ lv st h => ex_ald 0 144 lv st h)],
  [some (fun g lv st h => ex_gf g 12 3 147 lv st h), none, none, some (fun _ lv st h => ex_go 149 lv (.int 9 :: st) h), none, some (fun _ lv st h => ex_ii ex_sub 150 lv st h), some (fun _ lv st h => ex_ist 5 2 151 lv st h), some (fun _ lv st h => ex_ild 2 152 lv st h), some (fun _ lv st h => ex_if ex_lt0 172 155 lv st h), none, none, some (fun _ lv st h => ex_ald 0 156 lv st h), some (fun _ lv st h => ex_go 159 lv (.ref 124 :: st) h), none, none, some (fun _ lv st h => ex_ild 2 160 lv st h)],
  [none, none, none, some (fun _ lv st h => ex_if ex_ne0 172 166 lv st h), none, none, some (fun _ lv st h => ex_inc 5 2 (-1) 169 lv st h), none, none, some (fun _ lv st h => ex_go 151 lv st h), none, none, some (fun _ lv st h => ex_ild 2 173 lv st h), some (fun _ lv st h => ex_if ex_ge0 186 176 lv st h), none, none],
  [some (fun _ lv st h => ex_ald 0 177 lv st h), some (fun _ lv st h => ex_go 178 lv (.int 2 :: st) h), some (fun _ lv st h => ex_ald 0 179 lv st h), some (fun g lv st h => ex_gf g 12 3 182 lv st h), none, none, some (fun g lv st h => ex_callV g 67 2 12 185 lv st h), none, none, some (fun _ lv st h => ex_vret (none) st h), some (fun _ lv st h => ex_ald 0 187 lv st h), some (fun _ lv st h => ex_ild 2 188 lv st h), some (fun _ lv st h => ex_go 190 lv (.int 9 :: st) h), none, some (fun _ lv st h => ex_ii ex_add 191 lv st h), none],
  [none, none, some (fun _ lv st h => ex_lst 5 3 195 lv st h), some (fun _ lv st h => ex_ald 0 196 lv st h), some (fun g lv st h => ex_callV g 72 0 12 199 lv st h), none, none, some (fun _ lv st h => ex_if ex_eq0 217 202 lv st h), none, none, some (fun _ lv st h => ex_lld1 3 203 lv st h), some (fun _ lv st h => ex_go 204 lv (.long 0 :: st) h), some (fun _ lv st h => ex_lc 205 lv st h), some (fun _ lv st h => ex_if ex_lt0 217 208 lv st h), none, none],
  [some (fun _ lv st h => ex_ald 0 209 lv st h), some (fun _ lv st h => ex_lld1 3 210 lv st h), none, none, none, some (fun _ lv st h => ex_lst 5 3 214 lv st h), some (fun _ lv st h => ex_go 195 lv st h), none, none, some (fun _ lv st h => ex_vret (none) st h), none, none, none, none, none, none]]
theorem ex_k88_eq : ex_k88 = ex_rows 5 (none) 0 ex_m88.2.2.2.2 := rfl
noncomputable def ex_k89 : List (List (Option ex_K)) := [[some (fun _ lv st h => ex_ald 0 1 lv st h), some (fun _ lv st h => ex_ild 1 2 lv st h), some (fun g lv st h => ex_callV g 77 1 12 5 lv st h), none, none, some (fun _ lv st h => ex_if ex_ne0 10 8 lv st h), none, none, some (fun _ lv st h => ex_go 9 lv (.int (-1) :: st) h), some (fun _ lv st h => ex_ret (some (Jvm.ClassFile.FieldType.int)) st h), some (fun _ lv st h => ex_ald 0 11 lv st h), some (fun _ lv st h => ex_ald 0 12 lv st h), some (fun g lv st h => ex_gf g 12 85 15 lv st h), none, none, some (fun _ lv st h => ex_ild 1 16 lv st h)],
  [some (fun g lv st h => ex_xld g 0 0 17 lv st h), none, none, none, some (fun _ lv st h => ex_ald 0 21 lv st h), some (fun _ lv st h => ex_ald 0 22 lv st h), some (fun g lv st h => ex_gf g 12 85 25 lv st h), none, none, some (fun _ lv st h => ex_ild 1 26 lv st h), some (fun g lv st h => ex_xld g 0 0 27 lv st h), some (fun _ lv st h => ex_go 30 lv (.ref 118 :: st) h), none, none, none, none],
  [none, some (fun _ lv st h => ex_ist 6 2 34 lv st h), some (fun _ lv st h => ex_ald 0 35 lv st h), some (fun _ lv st h => ex_ild 2 36 lv st h), some (fun _ lv st h => ex_if ex_ne0 43 39 lv st h), none, none, some (fun _ lv st h => ex_go 40 lv (.int (-1) :: st) h), some (fun _ lv st h => ex_go 60 lv st h), none, none, some (fun _ lv st h => ex_ald 0 44 lv st h), some (fun _ lv st h => ex_ald 0 45 lv st h), some (fun _ lv st h => ex_ald 0 46 lv st h), some (fun g lv st h => ex_gf g 12 52 49 lv st h), none],
  [none, some (fun _ lv st h => ex_ild 2 50 lv st h), some (fun g lv st h => ex_xld g 0 0 51 lv st h), some (fun _ lv st h => ex_go 54 lv (.ref 118 :: st) h), none, none, none, none, none, none, none, none, some (fun g lv st h => ex_pf g (ex_ft 12) 12 107 63 lv st h), none, none, some (fun _ lv st h => ex_ald 0 64 lv st h)],
  [some (fun g lv st h => ex_gf g 12 15 67 lv st h), none, none, some (fun _ lv st h => ex_ist 6 3 68 lv st h), some (fun _ lv st h => ex_ald 0 69 lv st h), some (fun g lv st h => ex_gf g 12 17 72 lv st h), none, none, some (fun _ lv st h => ex_ist 6 4 74 lv st h), none, some (fun _ lv st h => ex_ald 0 75 lv st h), some (fun _ lv st h => ex_go 76 lv (.int 0 :: st) h), some (fun g lv st h => ex_pf g (ex_ft 12) 12 27 79 lv st h), none, none, some (fun _ lv st h => ex_ald 0 80 lv st h)],
  [some (fun _ lv st h => ex_go 81 lv (.int (-1) :: st) h), some (fun g lv st h => ex_pf g (ex_ft 12) 12 28 84 lv st h), none, none, some (fun _ lv st h => ex_ald 0 85 lv st h), some (fun _ lv st h => ex_go 86 lv (.int 0 :: st) h), some (fun g lv st h => ex_pf g (ex_ft 12) 12 29 89 lv st h), none, none, some (fun _ lv st h => ex_ald 0 90 lv st h), some (fun _ lv st h => ex_go 91 lv (.int 0 :: st) h), some (fun g lv st h => ex_pf g (ex_ft 12) 12 32 94 lv st h), none, none, some (fun _ lv st h => ex_ald 0 95 lv st h), some (fun _ lv st h => ex_go 96 lv (.int 0 :: st) h)],
  [some (fun g lv st h => ex_pf g (ex_ft 12) 12 104 99 lv st h), none, none, some (fun _ lv st h => ex_ald 0 100 lv st h), some (fun _ lv st h => ex_go 101 lv (.int 0 :: st) h), some (fun g lv st h => ex_pf g (ex_ft 12) 12 94 104 lv st h), none, none, some (fun _ lv st h => ex_ald 0 105 lv st h), some (fun _ lv st h => ex_go 106 lv (.int 0 :: st) h), some (fun g lv st h => ex_pf g (ex_ft 12) 12 102 109 lv st h), none, none, some (fun _ lv st h => ex_ald 0 110 lv st h), some (fun _ lv st h => ex_go 111 lv (.int 0 :: st) h), some (fun g lv st h => ex_pf g (ex_ft 12) 12 103 114 lv st h)],
  [none, none, some (fun _ lv st h => ex_ald 0 115 lv st h), some (fun g lv st h => ex_gf g 12 95 118 lv st h), none, none, none, none, none, some (fun _ lv st h => ex_go 122 lv (.int 0 :: st) h), some (fun _ lv st h => ex_ist 6 5 124 lv st h), none, some (fun _ lv st h => ex_ild 5 126 lv st h), none, some (fun _ lv st h => ex_go 128 lv (.int 9 :: st) h), none],
  [some (fun _ lv st h => ex_ic ex_ge 145 131 lv st h), none, none, some (fun _ lv st h => ex_ald 0 132 lv st h), some (fun g lv st h => ex_gf g 12 100 135 lv st h), none, none, some (fun _ lv st h => ex_ild 5 137 lv st h), none, some (fun _ lv st h => ex_go 138 lv (.int 0 :: st) h), some (fun g lv st h => ex_xst g 139 lv st h), some (fun _ lv st h => ex_inc 6 5 1 142 lv st h), none, none, some (fun _ lv st h => ex_go 124 lv st h), none],
  [none, some (fun _ lv st h => ex_ald 0 146 lv st h), some (fun g lv st h => ex_gf g 12 100 149 lv st h), none, none, some (fun _ lv st h => ex_go 150 lv (.int 0 :: st) h), some (fun _ lv st h => ex_go 151 lv (.int (-1) :: st) h), some (fun g lv st h => ex_xst g 152 lv st h), some (fun _ lv st h => ex_ald 0 153 lv st h), some (fun _ lv st h => ex_ald 0 154 lv st h), some (fun g lv st h => ex_gf g 12 91 157 lv st h), none, none, some (fun _ lv st h => ex_go 158 lv (.int 0 :: st) h), some (fun _ lv st h => ex_ald 0 159 lv st h), some (fun g lv st h => ex_gf g 12 92 162 lv st h)],
  [none, none, none, none, none, some (fun _ lv st h => ex_ald 0 166 lv st h), none, none, none, some (fun _ lv st h => ex_ald 0 170 lv st h), some (fun g lv st h => ex_callV g 72 0 12 173 lv st h), none, none, some (fun _ lv st h => ex_if ex_eq0 329 176 lv st h), none, none],
  [some (fun _ lv st h => ex_ald 0 177 lv st h), some (fun g lv st h => ex_gf g 12 22 180 lv st h), none, none, some (fun _ lv st h => ex_if ex_eq0 329 183 lv st h), none, none, some (fun _ lv st h => ex_ald 0 184 lv st h), some (fun g lv st h => ex_gf g 12 22 187 lv st h), none, none, some (fun _ lv st h => ex_go 188 lv (.int 3 :: st) h), some (fun _ lv st h => ex_ic ex_ne 257 191 lv st h), none, none, some (fun _ lv st h => ex_ald 0 192 lv st h)],
  [some (fun _ lv st h => ex_go 195 lv (.ref 126 :: st) h), none, none, none, none, none, some (fun _ lv st h => ex_if ex_ne0 257 201 lv st h), none, none, some (fun _ lv st h => ex_ald 0 202 lv st h), some (fun _ lv st h => ex_go 205 lv (.ref 128 :: st) h), none, none, none, none, none],
  [some (fun _ lv st h => ex_if ex_ne0 257 211 lv st h), none, none, some (fun _ lv st h => ex_ald 0 212 lv st h), some (fun _ lv st h => ex_go 215 lv (.ref 130 :: st) h), none, none, none, none, none, some (fun _ lv st h => ex_if ex_ne0 257 221 lv st h), none, none, some (fun _ lv st h => ex_ald 0 222 lv st h), some (fun _ lv st h => ex_ald 0 223 lv st h), some (fun g lv st h => ex_gf g 12 23 226 lv st h)],
  [none, none, some (fun g lv st h => ex_pf g (ex_ft 12) 12 106 229 lv st h), none, none, some (fun _ lv st h => ex_ald 0 230 lv st h), none, none, none, some (fun _ lv st h => ex_ald 0 234 lv st h), some (fun _ lv st h => ex_go 235 lv (.int 0 :: st) h), some (fun g lv st h => ex_pf g (ex_ft 12) 12 94 238 lv st h), none, none, some (fun _ lv st h => ex_ald 0 239 lv st h), some (fun _ lv st h => ex_go 240 lv (.int 0 :: st) h)],
  [some (fun g lv st h => ex_pf g (ex_ft 12) 12 29 243 lv st h), none, none, some (fun _ lv st h => ex_ald 0 244 lv st h), some (fun _ lv st h => ex_ild 3 245 lv st h), some (fun g lv st h => ex_pf g (ex_ft 12) 12 15 248 lv st h), none, none, some (fun _ lv st h => ex_ald 0 249 lv st h), some (fun _ lv st h => ex_ild 4 251 lv st h), none, some (fun g lv st h => ex_pf g (ex_ft 12) 12 17 254 lv st h), none, none, some (fun _ lv st h => ex_go 315 lv st h), none],
  [none, some (fun _ lv st h => ex_ald 0 258 lv st h), some (fun g lv st h => ex_gf g 12 94 261 lv st h), none, none, some (fun _ lv st h => ex_go 263 lv (.int 40 :: st) h), none, some (fun _ lv st h => ex_ic ex_ne 279 266 lv st h), none, none, some (fun _ lv st h => ex_ald 0 267 lv st h), some (fun _ lv st h => ex_go 269 lv (.int 11 :: st) h), none, some (fun _ lv st h => ex_ald 0 270 lv st h), some (fun g lv st h => ex_gf g 12 23 273 lv st h), none],
  [none, some (fun g lv st h => ex_callV g 67 2 12 276 lv st h), none, none, some (fun _ lv st h => ex_go 315 lv st h), none, none, some (fun _ lv st h => ex_ald 0 280 lv st h), some (fun _ lv st h => ex_go 281 lv (.int 0 :: st) h), some (fun _ lv st h => ex_go 282 lv (.int 0 :: st) h), none, none, none, some (fun _ lv st h => ex_ist 6 5 287 lv st h), none, some (fun _ lv st h => ex_ald 0 288 lv st h)],
  [some (fun g lv st h => ex_callV g 72 0 12 291 lv st h), none, none, some (fun _ lv st h => ex_if ex_eq0 315 294 lv st h), none, none, some (fun _ lv st h => ex_ald 0 295 lv st h), some (fun g lv st h => ex_gf g 12 93 298 lv st h), none, none, some (fun _ lv st h => ex_ald 0 299 lv st h), some (fun g lv st h => ex_gf g 12 94 302 lv st h), none, none, some (fun _ lv st h => ex_ild 5 304 lv st h), none],
  [some (fun g lv st h => ex_xst g 305 lv st h), some (fun _ lv st h => ex_ald 0 306 lv st h), some (fun _ lv st h => ex_dup 307 lv st h), some (fun g lv st h => ex_gf g 12 94 310 lv st h), none, none, some (fun _ lv st h => ex_go 311 lv (.int 1 :: st) h), some (fun _ lv st h => ex_ii ex_add 312 lv st h), some (fun g lv st h => ex_pf g (ex_ft 12) 12 94 315 lv st h), none, none, some (fun _ lv st h => ex_ald 0 316 lv st h), some (fun g lv st h => ex_callV g 72 0 12 319 lv st h), none, none, some (fun _ lv st h => ex_if ex_eq0 169 322 lv st h)],
  [none, none, some (fun _ lv st h => ex_ald 0 323 lv st h), none, none, none, some (fun _ lv st h => ex_go 169 lv st h), none, none, some (fun _ lv st h => ex_ald 0 330 lv st h), some (fun g lv st h => ex_gf g 12 103 333 lv st h), none, none, some (fun _ lv st h => ex_if ex_ne0 343 336 lv st h), none, none],
  [some (fun _ lv st h => ex_ald 0 337 lv st h), some (fun g lv st h => ex_gf g 12 102 340 lv st h), none, none, some (fun _ lv st h => ex_if ex_le0 353 343 lv st h), none, none, some (fun _ lv st h => ex_ald 0 344 lv st h), some (fun _ lv st h => ex_go 346 lv (.int 12 :: st) h), none, some (fun _ lv st h => ex_ald 0 347 lv st h), some (fun g lv st h => ex_gf g 12 92 350 lv st h), none, none, some (fun g lv st h => ex_callV g 67 2 12 353 lv st h), none],
  [none, some (fun _ lv st h => ex_ald 0 354 lv st h), some (fun _ lv st h => ex_ild 3 355 lv st h), some (fun g lv st h => ex_pf g (ex_ft 12) 12 15 358 lv st h), none, none, some (fun _ lv st h => ex_ald 0 359 lv st h), some (fun _ lv st h => ex_ild 4 361 lv st h), none, some (fun g lv st h => ex_pf g (ex_ft 12) 12 17 364 lv st h), none, none, some (fun _ lv st h => ex_ald 0 365 lv st h), some (fun _ lv st h => ex_ald 0 366 lv st h), some (fun g lv st h => ex_gf g 12 27 369 lv st h), none],
  [none, some (fun g lv st h => ex_pf g (ex_ft 12) 12 70 372 lv st h), none, none, some (fun _ lv st h => ex_ald 0 373 lv st h), some (fun _ lv st h => ex_ald 0 374 lv st h), some (fun g lv st h => ex_callV g 72 0 12 377 lv st h), none, none, some (fun _ lv st h => ex_if ex_eq0 384 380 lv st h), none, none, some (fun _ lv st h => ex_go 381 lv (.int (-1) :: st) h), some (fun _ lv st h => ex_go 388 lv st h), none, none],
  [some (fun _ lv st h => ex_ald 0 385 lv st h), some (fun g lv st h => ex_gf g 12 28 388 lv st h), none, none, some (fun g lv st h => ex_pf g (ex_ft 12) 12 71 391 lv st h), none, none, some (fun _ lv st h => ex_ald 0 392 lv st h), some (fun g lv st h => ex_callV g 72 0 12 395 lv st h), none, none, some (fun _ lv st h => ex_if ex_ne0 411 398 lv st h), none, none, some (fun _ lv st h => ex_ald 0 399 lv st h), some (fun _ lv st h => ex_go 400 lv (.int 0 :: st) h)],
  [some (fun g lv st h => ex_pf g (ex_ft 12) 12 104 403 lv st h), none, none, some (fun _ lv st h => ex_go 405 lv (.int (-100) :: st) h), none, some (fun _ lv st h => ex_ald 0 406 lv st h), some (fun g lv st h => ex_gf g 12 27 409 lv st h), none, none, some (fun _ lv st h => ex_ii ex_sub 410 lv st h), some (fun _ lv st h => ex_ret (some (Jvm.ClassFile.FieldType.int)) st h), some (fun _ lv st h => ex_ald 0 412 lv st h), some (fun g lv st h => ex_gf g 12 104 415 lv st h), none, none, some (fun _ lv st h => ex_ret (some (Jvm.ClassFile.FieldType.int)) st h)]]
theorem ex_k89_eq : ex_k89 = ex_rows 6 (some (Jvm.ClassFile.FieldType.int)) 0 ex_m89.2.2.2.2 := rfl
noncomputable def ex_k90 : List (List (Option ex_K)) := [[some (fun _ lv st h => ex_ald 0 1 lv st h), some (fun _ lv st h => ex_ild 1 2 lv st h), some (fun g lv st h => ex_callV g 76 1 12 5 lv st h), none, none, some (fun _ lv st h => ex_if ex_eq0 26 8 lv st h), none, none, some (fun _ lv st h => ex_ald 0 9 lv st h), some (fun g lv st h => ex_gf g 12 54 12 lv st h), none, none, some (fun _ lv st h => ex_ild 1 13 lv st h), some (fun g lv st h => ex_xld g 1 2 14 lv st h), some (fun _ lv st h => ex_if ex_eq0 26 17 lv st h), none],
  [none, some (fun _ lv st h => ex_ald 0 18 lv st h), some (fun g lv st h => ex_gf g 12 56 21 lv st h), none, none, some (fun _ lv st h => ex_ild 1 22 lv st h), some (fun g lv st h => ex_xld g 0 0 23 lv st h), some (fun _ lv st h => ex_go 27 lv st h), none, none, some (fun _ lv st h => ex_go 27 lv (.int (-1) :: st) h), some (fun _ lv st h => ex_ret (some (Jvm.ClassFile.FieldType.int)) st h), none, none, none, none]]
theorem ex_k90_eq : ex_k90 = ex_rows 2 (some (Jvm.ClassFile.FieldType.int)) 0 ex_m90.2.2.2.2 := rfl
noncomputable def ex_k91 : List (List (Option ex_K)) := [[some (fun _ lv st h => ex_ald 0 1 lv st h), some (fun g lv st h => ex_gf g 12 4 4 lv st h), none, none, some (fun _ lv st h => ex_ald 0 5 lv st h), some (fun g lv st h => ex_gf g 12 5 8 lv st h), none, none, some (fun g lv st h => ex_callS g 59 2 11 lv st h), none, none, some (fun _ lv st h => ex_l (fun x => .int x.toInt32) 12 lv st h), some (fun _ lv st h => ex_ret (some (Jvm.ClassFile.FieldType.int)) st h), none, none, none]]
theorem ex_k91_eq : ex_k91 = ex_rows 1 (some (Jvm.ClassFile.FieldType.int)) 0 ex_m91.2.2.2.2 := rfl
noncomputable def ex_k92 : List (List (Option ex_K)) := [[some (fun _ lv st h => ex_ald 0 1 lv st h), some (fun g lv st h => ex_gf g 12 5 4 lv st h), none, none, some (fun _ lv st h => ex_go 7 lv (.int 8000 :: st) h), none, none, some (fun _ lv st h => ex_ic ex_le 12 10 lv st h), none, none, some (fun _ lv st h => ex_go 11 lv (.int (-1) :: st) h), some (fun _ lv st h => ex_ret (some (Jvm.ClassFile.FieldType.int)) st h), some (fun _ lv st h => ex_go 13 lv (.int 0 :: st) h), some (fun _ lv st h => ex_ist 2 1 14 lv st h), some (fun _ lv st h => ex_ild 1 15 lv st h), some (fun _ lv st h => ex_ald 0 16 lv st h)],
  [some (fun g lv st h => ex_gf g 12 5 19 lv st h), none, none, some (fun _ lv st h => ex_ic ex_ge 40 22 lv st h), none, none, some (fun _ lv st h => ex_ald 0 23 lv st h), some (fun g lv st h => ex_gf g 12 0 26 lv st h), none, none, some (fun _ lv st h => ex_ild 1 27 lv st h), some (fun _ lv st h => ex_ald 0 28 lv st h), some (fun g lv st h => ex_gf g 12 4 31 lv st h), none, none, some (fun _ lv st h => ex_ild 1 32 lv st h)],
  [some (fun g lv st h => ex_xld g 1 2 33 lv st h), some (fun g lv st h => ex_xbst g 34 lv st h), some (fun _ lv st h => ex_inc 2 1 1 37 lv st h), none, none, some (fun _ lv st h => ex_go 14 lv st h), none, none, some (fun _ lv st h => ex_ald 0 41 lv st h), some (fun _ lv st h => ex_ald 0 42 lv st h), some (fun g lv st h => ex_gf g 12 5 45 lv st h), none, none, some (fun g lv st h => ex_pf g (ex_ft 12) 12 1 48 lv st h), none, none],
  [some (fun _ lv st h => ex_ald 0 49 lv st h), some (fun g lv st h => ex_gf g 12 5 52 lv st h), none, none, some (fun _ lv st h => ex_ret (some (Jvm.ClassFile.FieldType.int)) st h), none, none, none, none, none, none, none, none, none, none, none]]
theorem ex_k92_eq : ex_k92 = ex_rows 2 (some (Jvm.ClassFile.FieldType.int)) 0 ex_m92.2.2.2.2 := rfl
noncomputable def ex_k93 : List (List (Option ex_K)) := [[some (fun _ lv st h => ex_ald 0 1 lv st h), some (fun _ lv st h => ex_ild 1 2 lv st h), some (fun g lv st h => ex_callV g 77 1 12 5 lv st h), none, none, some (fun _ lv st h => ex_if ex_eq0 29 8 lv st h), none, none, some (fun _ lv st h => ex_ild 2 9 lv st h), some (fun _ lv st h => ex_go 12 lv (.int (-360) :: st) h), none, none, some (fun _ lv st h => ex_ic ex_lt 29 15 lv st h), none, none, some (fun _ lv st h => ex_ild 2 16 lv st h)],
  [some (fun _ lv st h => ex_go 19 lv (.int 360 :: st) h), none, none, some (fun _ lv st h => ex_ic ex_gt 29 22 lv st h), none, none, some (fun _ lv st h => ex_ild 2 23 lv st h), some (fun _ lv st h => ex_go 25 lv (.int 90 :: st) h), none, some (fun _ lv st h => ex_iid (fun x y => x - x / y * y) 26 lv st h), some (fun _ lv st h => ex_if ex_eq0 31 29 lv st h), none, none, some (fun _ lv st h => ex_go 30 lv (.int 0 :: st) h), some (fun _ lv st h => ex_ret (some (Jvm.ClassFile.FieldType.boolean)) st h), some (fun _ lv st h => ex_ald 0 32 lv st h)],
  [some (fun _ lv st h => ex_ald 0 33 lv st h), some (fun g lv st h => ex_gf g 12 52 36 lv st h), none, none, some (fun _ lv st h => ex_ald 0 37 lv st h), some (fun g lv st h => ex_gf g 12 85 40 lv st h), none, none, some (fun _ lv st h => ex_ild 1 41 lv st h), some (fun g lv st h => ex_xld g 0 0 42 lv st h), some (fun g lv st h => ex_xld g 0 0 43 lv st h), some (fun _ lv st h => ex_go 46 lv (.ref 120 :: st) h), none, none, some (fun _ lv st h => ex_go 47 lv (.int 2 :: st) h), some (fun _ lv st h => ex_ild 2 48 lv st h)],
  [some (fun _ lv st h => ex_go 49 lv (.int 0 :: st) h), none, none, none, some (fun _ lv st h => ex_pop 53 lv st h), some (fun _ lv st h => ex_ald 0 54 lv st h), some (fun _ lv st h => ex_ald 0 55 lv st h), some (fun g lv st h => ex_gf g 12 85 58 lv st h), none, none, some (fun _ lv st h => ex_ild 1 59 lv st h), some (fun g lv st h => ex_xld g 0 0 60 lv st h), none, none, none, some (fun _ lv st h => ex_ald 0 64 lv st h)],
  [some (fun _ lv st h => ex_go 65 lv (.int (-1) :: st) h), some (fun g lv st h => ex_pf g (ex_ft 12) 12 88 68 lv st h), none, none, some (fun _ lv st h => ex_go 69 lv (.int 1 :: st) h), some (fun _ lv st h => ex_ret (some (Jvm.ClassFile.FieldType.boolean)) st h), none, none, none, none, none, none, none, none, none, none]]
theorem ex_k93_eq : ex_k93 = ex_rows 3 (some (Jvm.ClassFile.FieldType.boolean)) 0 ex_m93.2.2.2.2 := rfl
noncomputable def ex_k94 : List (List (Option ex_K)) := [[some (fun _ lv st h => ex_ald 0 1 lv st h), some (fun g lv st h => ex_gf g 12 88 4 lv st h), none, none, some (fun _ lv st h => ex_go 5 lv (.int 1 :: st) h), some (fun _ lv st h => ex_ic ex_ge 10 8 lv st h), none, none, some (fun _ lv st h => ex_go 9 lv (.int (-1) :: st) h), some (fun _ lv st h => ex_ret (some (Jvm.ClassFile.FieldType.int)) st h), some (fun _ lv st h => ex_ald 0 11 lv st h), some (fun _ lv st h => ex_dup 12 lv st h), some (fun g lv st h => ex_gf g 12 88 15 lv st h), none, none, some (fun _ lv st h => ex_go 16 lv (.int 1 :: st) h)],
  [some (fun _ lv st h => ex_ii ex_sub 17 lv st h), some (fun g lv st h => ex_pf g (ex_ft 12) 12 88 20 lv st h), none, none, some (fun _ lv st h => ex_ald 0 21 lv st h), some (fun g lv st h => ex_gf g 12 88 24 lv st h), none, none, some (fun _ lv st h => ex_ret (some (Jvm.ClassFile.FieldType.int)) st h), none, none, none, none, none, none, none]]
theorem ex_k94_eq : ex_k94 = ex_rows 1 (some (Jvm.ClassFile.FieldType.int)) 0 ex_m94.2.2.2.2 := rfl
noncomputable def ex_k95 : List (List (Option ex_K)) := [[some (fun _ lv st h => ex_ald 0 1 lv st h), some (fun _ lv st h => ex_go 2 lv (.int 0 :: st) h), some (fun g lv st h => ex_pf g (ex_ft 12) 12 5 5 lv st h), none, none, some (fun _ lv st h => ex_ald 0 6 lv st h), some (fun g lv st h => ex_gf g 12 6 9 lv st h), none, none, some (fun _ lv st h => ex_if ex_ne0 14 12 lv st h), none, none, some (fun _ lv st h => ex_go 13 lv (.int (-1) :: st) h), some (fun _ lv st h => ex_ret (some (Jvm.ClassFile.FieldType.int)) st h), some (fun _ lv st h => ex_ald 0 15 lv st h), some (fun _ lv st h => ex_go 16 lv (.int 1 :: st) h)],
  [some (fun g lv st h => ex_pf g (ex_ft 12) 12 109 19 lv st h), none, none, some (fun _ lv st h => ex_ald 0 20 lv st h), some (fun _ lv st h => ex_go 21 lv (.int 0 :: st) h), some (fun g lv st h => ex_pf g (ex_ft 12) 12 112 24 lv st h), none, none, some (fun _ lv st h => ex_go 25 lv (.int 0 :: st) h), some (fun _ lv st h => ex_ist 3 1 26 lv st h), some (fun _ lv st h => ex_ild 1 27 lv st h), some (fun _ lv st h => ex_go 30 lv (.int 200 :: st) h), none, none, some (fun _ lv st h => ex_ic ex_ge 46 33 lv st h), none],
  [none, some (fun _ lv st h => ex_ald 0 34 lv st h), some (fun g lv st h => ex_gf g 12 110 37 lv st h), none, none, some (fun _ lv st h => ex_ild 1 38 lv st h), some (fun _ lv st h => ex_go 39 lv (.int 0 :: st) h), some (fun g lv st h => ex_xst g 40 lv st h), some (fun _ lv st h => ex_inc 3 1 1 43 lv st h), none, none, some (fun _ lv st h => ex_go 26 lv st h), none, none, some (fun _ lv st h => ex_ald 0 47 lv st h), some (fun _ lv st h => ex_go 50 lv (.ref 132 :: st) h)],
  [none, none, none, none, none, some (fun _ lv st h => ex_ald 0 54 lv st h), some (fun _ lv st h => ex_ald 0 55 lv st h), some (fun g lv st h => ex_gf g 12 81 58 lv st h), none, none, none, none, none, some (fun _ lv st h => ex_pop 62 lv st h), some (fun _ lv st h => ex_ald 0 63 lv st h), some (fun g lv st h => ex_gf g 12 82 66 lv st h)],
  [none, none, some (fun _ lv st h => ex_if ex_eq0 78 69 lv st h), none, none, some (fun _ lv st h => ex_ald 0 70 lv st h), some (fun _ lv st h => ex_ald 0 71 lv st h), some (fun g lv st h => ex_gf g 12 82 74 lv st h), none, none, none, none, none, some (fun _ lv st h => ex_pop 78 lv st h), some (fun _ lv st h => ex_go 79 lv (.int 0 :: st) h), some (fun _ lv st h => ex_ist 3 1 80 lv st h)],
  [some (fun _ lv st h => ex_ild 1 81 lv st h), some (fun _ lv st h => ex_ald 0 82 lv st h), some (fun g lv st h => ex_gf g 12 112 85 lv st h), none, none, some (fun _ lv st h => ex_ic ex_ge 118 88 lv st h), none, none, some (fun _ lv st h => ex_ald 0 89 lv st h), some (fun g lv st h => ex_gf g 12 113 92 lv st h), none, none, some (fun _ lv st h => ex_ild 1 93 lv st h), some (fun _ lv st h => ex_ald 0 94 lv st h), some (fun g lv st h => ex_gf g 12 5 97 lv st h), none],
  [none, some (fun g lv st h => ex_xst g 98 lv st h), some (fun _ lv st h => ex_ald 0 99 lv st h), some (fun _ lv st h => ex_ald 0 100 lv st h), some (fun g lv st h => ex_gf g 12 111 103 lv st h), none, none, some (fun _ lv st h => ex_ild 1 104 lv st h), some (fun g lv st h => ex_xld g 0 0 105 lv st h), some (fun _ lv st h => ex_ild 1 106 lv st h), some (fun _ lv st h => ex_go 107 lv (.int 1 :: st) h), some (fun _ lv st h => ex_ii ex_add 108 lv st h), some (fun _ lv st h => ex_go 109 lv (.long 0 :: st) h), none, none, none],
  [some (fun _ lv st h => ex_inc 3 1 1 115 lv st h), none, none, some (fun _ lv st h => ex_go 80 lv st h), none, none, some (fun _ lv st h => ex_ald 0 119 lv st h), some (fun g lv st h => ex_gf g 12 5 122 lv st h), none, none, some (fun _ lv st h => ex_ist 3 1 123 lv st h), some (fun _ lv st h => ex_ald 0 124 lv st h), some (fun _ lv st h => ex_go 127 lv (.ref 134 :: st) h), none, none, none],
  [none, none, some (fun _ lv st h => ex_ald 0 131 lv st h), some (fun _ lv st h => ex_ald 0 132 lv st h), some (fun g lv st h => ex_gf g 12 112 135 lv st h), none, none, some (fun _ lv st h => ex_go 136 lv (.int 1 :: st) h), some (fun _ lv st h => ex_ii ex_add 137 lv st h), some (fun _ lv st h => ex_i (fun x => .long x.toInt64) 138 lv st h), none, none, none, some (fun _ lv st h => ex_ald 0 142 lv st h), some (fun _ lv st h => ex_go 145 lv (.ref 136 :: st) h), none],
  [none, none, none, none, some (fun _ lv st h => ex_go 149 lv (.int 0 :: st) h), some (fun _ lv st h => ex_ist 3 2 150 lv st h), some (fun _ lv st h => ex_ild 2 151 lv st h), some (fun _ lv st h => ex_ald 0 152 lv st h), some (fun g lv st h => ex_gf g 12 112 155 lv st h), none, none, some (fun _ lv st h => ex_ic ex_ge 176 158 lv st h), none, none, some (fun _ lv st h => ex_ald 0 159 lv st h), some (fun _ lv st h => ex_ald 0 160 lv st h)],
  [some (fun g lv st h => ex_gf g 12 113 163 lv st h), none, none, some (fun _ lv st h => ex_ild 2 164 lv st h), some (fun g lv st h => ex_xld g 0 0 165 lv st h), some (fun _ lv st h => ex_i (fun x => .long x.toInt64) 166 lv st h), some (fun _ lv st h => ex_go 167 lv (.long 0 :: st) h), none, none, none, some (fun _ lv st h => ex_inc 3 2 1 173 lv st h), none, none, some (fun _ lv st h => ex_go 150 lv st h), none, none],
  [some (fun _ lv st h => ex_ald 0 177 lv st h), some (fun _ lv st h => ex_go 180 lv (.ref 138 :: st) h), none, none, none, none, none, some (fun _ lv st h => ex_ald 0 184 lv st h), some (fun _ lv st h => ex_ald 0 185 lv st h), some (fun g lv st h => ex_gf g 12 112 188 lv st h), none, none, some (fun _ lv st h => ex_go 189 lv (.int 1 :: st) h), some (fun _ lv st h => ex_ii ex_add 190 lv st h), some (fun _ lv st h => ex_i (fun x => .long x.toInt64) 191 lv st h), none],
  [none, none, some (fun _ lv st h => ex_ald 0 195 lv st h), some (fun _ lv st h => ex_go 198 lv (.ref 140 :: st) h), none, none, none, none, none, some (fun _ lv st h => ex_ald 0 202 lv st h), some (fun g lv st h => ex_gf g 12 82 205 lv st h), none, none, some (fun _ lv st h => ex_if ex_eq0 235 208 lv st h), none, none],
  [some (fun _ lv st h => ex_ald 0 209 lv st h), some (fun _ lv st h => ex_go 212 lv (.ref 142 :: st) h), none, none, none, none, none, some (fun _ lv st h => ex_ald 0 216 lv st h), some (fun _ lv st h => ex_ald 0 217 lv st h), some (fun g lv st h => ex_gf g 12 110 220 lv st h), none, none, some (fun _ lv st h => ex_ald 0 221 lv st h), some (fun g lv st h => ex_gf g 12 82 224 lv st h), none, none],
  [some (fun g lv st h => ex_xld g 0 0 225 lv st h), some (fun _ lv st h => ex_go 226 lv (.long 0 :: st) h), none, none, none, some (fun _ lv st h => ex_ald 0 230 lv st h), some (fun _ lv st h => ex_go 232 lv (.int 32 :: st) h), none, none, none, none, some (fun _ lv st h => ex_ald 0 236 lv st h), some (fun _ lv st h => ex_go 239 lv (.ref 144 :: st) h), none, none, none],
  [none, none, some (fun _ lv st h => ex_ald 0 243 lv st h), some (fun _ lv st h => ex_ild 1 244 lv st h), none, none, none, some (fun _ lv st h => ex_ret (some (Jvm.ClassFile.FieldType.int)) st h), none, none, none, none, none, none, none, none]]
theorem ex_k95_eq : ex_k95 = ex_rows 3 (some (Jvm.ClassFile.FieldType.int)) 0 ex_m95.2.2.2.2 := rfl
noncomputable def ex_k96 : List (List (Option ex_K)) := [[some (fun _ lv st h => ex_ald 0 1 lv st h), some (fun g lv st h => ex_callV g 99 0 13 4 lv st h), none, none, some (fun _ lv st h => ex_if ex_eq0 16 7 lv st h), none, none, some (fun _ lv st h => ex_ald 0 8 lv st h), some (fun g lv st h => ex_gf g 13 0 11 lv st h), none, none, some (fun _ lv st h => ex_ild 1 12 lv st h), some (fun g lv st h => ex_callS g 101 2 15 lv st h), none, none, some (fun _ lv st h => ex_ret (some (Jvm.ClassFile.FieldType.char)) st h)],
  [some (fun _ lv st h => ex_ald 0 17 lv st h), some (fun g lv st h => ex_gf g 13 0 20 lv st h), none, none, some (fun _ lv st h => ex_ild 1 21 lv st h), none, none, none, some (fun _ lv st h => ex_ret (some (Jvm.ClassFile.FieldType.char)) st h), none, none, none, none, none, none, none]]
theorem ex_k96_eq : ex_k96 = ex_rows 2 (some (Jvm.ClassFile.FieldType.char)) 0 ex_m96.2.2.2.2 := rfl
noncomputable def ex_k97 : List (List (Option ex_K)) := [[some (fun _ lv st h => ex_ild 0 1 lv st h), some (fun _ lv st h => ex_ild 1 2 lv st h), some (fun _ lv st h => ex_go 5 lv (.retAddr 0 :: st) h), none, none, some (fun g lv st h => ex_callS g 103 3 8 lv st h), none, none, some (fun _ lv st h => ex_pop 9 lv st h), some (fun _ lv st h => ex_vret (none) st h), none, none, none, none, none, none]]
theorem ex_k97_eq : ex_k97 = ex_rows 2 (none) 0 ex_m97.2.2.2.2 := rfl
noncomputable def ex_k98 : List (List (Option ex_K)) := [[some (fun _ lv st h => ex_go 3 lv (.int 1 :: st) h), none, none, some (fun _ lv st h => ex_if ex_eq0 13 6 lv st h), none, none, some (fun _ lv st h => ex_ald 0 7 lv st h), some (fun g lv st h => ex_gf g 13 1 10 lv st h), none, none, some (fun _ lv st h => ex_go 14 lv st h), none, none, some (fun _ lv st h => ex_go 14 lv (.int 1 :: st) h), some (fun _ lv st h => ex_ret (some (Jvm.ClassFile.FieldType.byte)) st h), none]]
theorem ex_k98_eq : ex_k98 = ex_rows 1 (some (Jvm.ClassFile.FieldType.byte)) 0 ex_m98.2.2.2.2 := rfl
noncomputable def ex_k99 : List (List (Option ex_K)) := [[some (fun _ lv st h => ex_go 3 lv (.int 1 :: st) h), none, none, some (fun _ lv st h => ex_if ex_eq0 17 6 lv st h), none, none, some (fun _ lv st h => ex_ald 0 7 lv st h), some (fun g lv st h => ex_gf g 13 1 10 lv st h), none, none, some (fun _ lv st h => ex_if ex_ne0 17 13 lv st h), none, none, some (fun _ lv st h => ex_go 14 lv (.int 1 :: st) h), some (fun _ lv st h => ex_go 18 lv st h), none],
  [none, some (fun _ lv st h => ex_go 18 lv (.int 0 :: st) h), some (fun _ lv st h => ex_ret (some (Jvm.ClassFile.FieldType.boolean)) st h), none, none, none, none, none, none, none, none, none, none, none, none, none]]
theorem ex_k99_eq : ex_k99 = ex_rows 1 (some (Jvm.ClassFile.FieldType.boolean)) 0 ex_m99.2.2.2.2 := rfl
noncomputable def ex_k100 : List (List (Option ex_K)) := [[some (fun _ lv st h => ex_ald 0 1 lv st h), some (fun g lv st h => ex_gf g 13 0 4 lv st h), none, none, some (fun g lv st h => ex_len g 5 lv st h), some (fun _ lv st h => ex_ald 0 6 lv st h), some (fun g lv st h => ex_callV g 98 0 13 9 lv st h), none, none, some (fun _ lv st h => ex_ii (fun x y => x >>> (y &&& 31)) 10 lv st h), some (fun _ lv st h => ex_ret (some (Jvm.ClassFile.FieldType.int)) st h), none, none, none, none, none]]
theorem ex_k100_eq : ex_k100 = ex_rows 1 (some (Jvm.ClassFile.FieldType.int)) 0 ex_m100.2.2.2.2 := rfl
noncomputable def ex_k101 : List (List (Option ex_K)) := [[some (fun _ lv st h => ex_ild 1 1 lv st h), some (fun _ lv st h => ex_ald 0 2 lv st h), some (fun g lv st h => ex_len g 3 lv st h), some (fun g lv st h => ex_callS g 97 2 6 lv st h), none, none, some (fun _ lv st h => ex_ald 0 7 lv st h), some (fun _ lv st h => ex_ild 1 8 lv st h), some (fun g lv st h => ex_xld g 1 2 9 lv st h), some (fun _ lv st h => ex_go 12 lv (.int 255 :: st) h), none, none, some (fun _ lv st h => ex_ii (fun x y => x &&& y) 13 lv st h), some (fun _ lv st h => ex_i (fun x => .int (x.toUInt32 % 65536).toInt32) 14 lv st h), some (fun _ lv st h => ex_ret (some (Jvm.ClassFile.FieldType.char)) st h), none]]
theorem ex_k101_eq : ex_k101 = ex_rows 2 (some (Jvm.ClassFile.FieldType.char)) 0 ex_m101.2.2.2.2 := rfl
noncomputable def ex_k102 : List (List (Option ex_K)) := [[some (fun _ lv st h => ex_go 1 lv (.int 0 :: st) h), some (fun _ lv st h => ex_ist 4 2 2 lv st h), some (fun _ lv st h => ex_ald 0 3 lv st h), some (fun g lv st h => ex_len g 4 lv st h), some (fun _ lv st h => ex_ist 4 3 5 lv st h), some (fun _ lv st h => ex_ild 2 6 lv st h), some (fun _ lv st h => ex_ild 3 7 lv st h), some (fun _ lv st h => ex_ic ex_ge 20 10 lv st h), none, none, some (fun _ lv st h => ex_ald 0 11 lv st h), some (fun _ lv st h => ex_ild 2 12 lv st h), some (fun _ lv st h => ex_ild 1 13 lv st h), some (fun g lv st h => ex_xst g 14 lv st h), some (fun _ lv st h => ex_inc 4 2 1 17 lv st h), none],
  [none, some (fun _ lv st h => ex_go 5 lv st h), none, none, some (fun _ lv st h => ex_vret (none) st h), none, none, none, none, none, none, none, none, none, none, none]]
theorem ex_k102_eq : ex_k102 = ex_rows 4 (none) 0 ex_m102.2.2.2.2 := rfl
noncomputable def ex_k103 : List (List (Option ex_K)) := [[some (fun _ lv st h => ex_ild 0 1 lv st h), some (fun _ lv st h => ex_if ex_lt0 9 4 lv st h), none, none, some (fun _ lv st h => ex_ild 0 5 lv st h), some (fun _ lv st h => ex_ild 1 6 lv st h), some (fun _ lv st h => ex_ic ex_lt 16 9 lv st h), none, none, some (fun _ lv st h => ex_ald 2 10 lv st h), some (fun _ lv st h => ex_ild 0 11 lv st h), some (fun _ lv st h => ex_ild 1 12 lv st h), none, none, none, some (fun _ _ _ _ => none)],
  [some (fun _ lv st h => ex_ild 0 17 lv st h), some (fun _ lv st h => ex_ret (some (Jvm.ClassFile.FieldType.int)) st h), none, none, none, none, none, none, none, none, none, none, none, none, none, none]]
theorem ex_k103_eq : ex_k103 = ex_rows 3 (some (Jvm.ClassFile.FieldType.int)) 0 ex_m103.2.2.2.2 := rfl
noncomputable def ex_klaw : List (List (Option ex_K)) := [[some (fun g lv st h => ex_new g (ex_ft 11) 11 3 lv st h), none, none, some (fun _ lv st h => ex_dup 4 lv st h), some (fun _ lv st h => ex_callI 26 0 7 lv st h), none, none, some (fun _ lv st h => ex_ast 4 1 8 lv st h), some (fun g lv st h => ex_new g (ex_ft 12) 12 11 lv st h), none, none, some (fun _ lv st h => ex_dup 12 lv st h), some (fun _ lv st h => ex_callI 58 0 15 lv st h), none, none, some (fun _ lv st h => ex_ast 4 2 16 lv st h)],
  [some (fun _ lv st h => ex_go 17 lv (.int 0 :: st) h), some (fun _ lv st h => ex_ist 4 3 18 lv st h), some (fun _ lv st h => ex_ild 3 19 lv st h), some (fun _ lv st h => ex_ald 0 20 lv st h), some (fun g lv st h => ex_len g 21 lv st h), some (fun _ lv st h => ex_go 23 lv (.int 6 :: st) h), none, some (fun _ lv st h => ex_ii ex_sub 24 lv st h), some (fun _ lv st h => ex_ic ex_gt 883 27 lv st h), none, none, some (fun _ lv st h => ex_ald 0 28 lv st h), some (fun _ lv st h => ex_ild 3 29 lv st h), some (fun g lv st h => ex_xld g 0 0 30 lv st h), some (fun _ lv st h => ex_go 32 lv (.int 31 :: st) h), none],
  [some (fun _ lv st h => ex_ii (fun x y => x &&& y) 33 lv st h), some (fun _ lv st h => ex_tsw 844 0 28 #[131, 194, 217, 230, 253, 266, 289, 312, 325, 348, 397, 420, 453, 476, 489, 522, 545, 578, 621, 644, 677, 710, 733, 756, 769, 782, 795, 818, 831] 33 lv st h), none, none, none, none, none, none, none, none, none, none, none, none, none, none],
  [none, none, none, none, none, none, none, none, none, none, none, none, none, none, none, none],
  [none, none, none, none, none, none, none, none, none, none, none, none, none, none, none, none],
  [none, none, none, none, none, none, none, none, none, none, none, none, none, none, none, none],
  [none, none, none, none, none, none, none, none, none, none, none, none, none, none, none, none],
  [none, none, none, none, none, none, none, none, none, none, none, none, none, none, none, none],
  [none, none, none, none, none, none, none, none, none, none, none, none, none, none, none, none],
  [none, none, none, none, none, none, none, none, none, none, none, none, none, none, none, none],
  [none, none, none, none, some (fun _ lv st h => ex_ald 1 165 lv st h), some (fun _ lv st h => ex_ald 0 166 lv st h), some (fun _ lv st h => ex_ild 3 167 lv st h), some (fun _ lv st h => ex_go 168 lv (.int 1 :: st) h), some (fun _ lv st h => ex_ii ex_add 169 lv st h), some (fun g lv st h => ex_xld g 0 0 170 lv st h), some (fun _ lv st h => ex_ald 0 171 lv st h), some (fun _ lv st h => ex_ild 3 172 lv st h), some (fun _ lv st h => ex_go 173 lv (.int 2 :: st) h), some (fun _ lv st h => ex_ii ex_add 174 lv st h), some (fun g lv st h => ex_xld g 0 0 175 lv st h), some (fun _ lv st h => ex_ald 0 176 lv st h)],
  [some (fun _ lv st h => ex_ild 3 177 lv st h), some (fun _ lv st h => ex_go 178 lv (.int 3 :: st) h), some (fun _ lv st h => ex_ii ex_add 179 lv st h), some (fun g lv st h => ex_xld g 0 0 180 lv st h), some (fun _ lv st h => ex_ald 0 181 lv st h), some (fun _ lv st h => ex_ild 3 182 lv st h), some (fun _ lv st h => ex_go 183 lv (.int 4 :: st) h), some (fun _ lv st h => ex_ii ex_add 184 lv st h), some (fun g lv st h => ex_xld g 0 0 185 lv st h), some (fun _ lv st h => ex_ald 0 186 lv st h), some (fun _ lv st h => ex_ild 3 187 lv st h), some (fun _ lv st h => ex_go 188 lv (.int 5 :: st) h), some (fun _ lv st h => ex_ii ex_add 189 lv st h), some (fun g lv st h => ex_xld g 0 0 190 lv st h), some (fun g lv st h => ex_callV g 34 5 11 193 lv st h), none],
  [none, some (fun _ lv st h => ex_ald 2 194 lv st h), some (fun _ lv st h => ex_ald 0 195 lv st h), some (fun _ lv st h => ex_ild 3 196 lv st h), some (fun _ lv st h => ex_go 197 lv (.int 1 :: st) h), some (fun _ lv st h => ex_ii ex_add 198 lv st h), some (fun g lv st h => ex_xld g 0 0 199 lv st h), some (fun _ lv st h => ex_ald 0 200 lv st h), some (fun _ lv st h => ex_ild 3 201 lv st h), some (fun _ lv st h => ex_go 202 lv (.int 2 :: st) h), some (fun _ lv st h => ex_ii ex_add 203 lv st h), some (fun g lv st h => ex_xld g 0 0 204 lv st h), some (fun _ lv st h => ex_ald 0 205 lv st h), some (fun _ lv st h => ex_ild 3 206 lv st h), some (fun _ lv st h => ex_go 207 lv (.int 3 :: st) h), some (fun _ lv st h => ex_ii ex_add 208 lv st h)],
  [some (fun g lv st h => ex_xld g 0 0 209 lv st h), some (fun _ lv st h => ex_ald 0 210 lv st h), some (fun _ lv st h => ex_ild 3 211 lv st h), some (fun _ lv st h => ex_go 212 lv (.int 4 :: st) h), some (fun _ lv st h => ex_ii ex_add 213 lv st h), some (fun g lv st h => ex_xld g 0 0 214 lv st h), some (fun _ lv st h => ex_ald 0 215 lv st h), some (fun _ lv st h => ex_ild 3 216 lv st h), some (fun _ lv st h => ex_go 217 lv (.int 5 :: st) h), some (fun _ lv st h => ex_ii ex_add 218 lv st h), some (fun g lv st h => ex_xld g 0 0 219 lv st h), some (fun g lv st h => ex_callV g 69 5 12 222 lv st h), none, none, some (fun _ lv st h => ex_ic ex_eq 877 225 lv st h), none],
  [none, some (fun _ lv st h => ex_go 226 lv (.int 0 :: st) h), some (fun _ lv st h => ex_ret (some .boolean) st h), some (fun _ lv st h => ex_ald 1 228 lv st h), some (fun _ lv st h => ex_ald 0 229 lv st h), some (fun _ lv st h => ex_ild 3 230 lv st h), some (fun _ lv st h => ex_go 231 lv (.int 1 :: st) h), some (fun _ lv st h => ex_ii ex_add 232 lv st h), some (fun g lv st h => ex_xld g 0 0 233 lv st h), some (fun g lv st h => ex_callV g 29 1 11 236 lv st h), none, none, some (fun _ lv st h => ex_ald 2 237 lv st h), some (fun _ lv st h => ex_ald 0 238 lv st h), some (fun _ lv st h => ex_ild 3 239 lv st h), some (fun _ lv st h => ex_go 240 lv (.int 1 :: st) h)],
  [some (fun _ lv st h => ex_ii ex_add 241 lv st h), some (fun g lv st h => ex_xld g 0 0 242 lv st h), some (fun g lv st h => ex_callV g 63 1 12 245 lv st h), none, none, some (fun _ lv st h => ex_ic ex_eq 877 248 lv st h), none, none, some (fun _ lv st h => ex_go 249 lv (.int 0 :: st) h), some (fun _ lv st h => ex_ret (some .boolean) st h), some (fun _ lv st h => ex_ald 1 251 lv st h), some (fun g lv st h => ex_callV g 43 0 11 254 lv st h), none, none, some (fun _ lv st h => ex_ald 2 255 lv st h), some (fun g lv st h => ex_callV g 80 0 12 258 lv st h)],
  [none, none, some (fun _ lv st h => ex_ic ex_eq 877 261 lv st h), none, none, some (fun _ lv st h => ex_go 262 lv (.int 0 :: st) h), some (fun _ lv st h => ex_ret (some .boolean) st h), some (fun _ lv st h => ex_ald 1 264 lv st h), some (fun _ lv st h => ex_ald 0 265 lv st h), some (fun _ lv st h => ex_ild 3 266 lv st h), some (fun _ lv st h => ex_go 267 lv (.int 1 :: st) h), some (fun _ lv st h => ex_ii ex_add 268 lv st h), some (fun g lv st h => ex_xld g 0 0 269 lv st h), some (fun g lv st h => ex_callV g 33 1 11 272 lv st h), none, none],
  [some (fun _ lv st h => ex_ald 2 273 lv st h), some (fun _ lv st h => ex_ald 0 274 lv st h), some (fun _ lv st h => ex_ild 3 275 lv st h), some (fun _ lv st h => ex_go 276 lv (.int 1 :: st) h), some (fun _ lv st h => ex_ii ex_add 277 lv st h), some (fun g lv st h => ex_xld g 0 0 278 lv st h), some (fun g lv st h => ex_callV g 68 1 12 281 lv st h), none, none, some (fun _ lv st h => ex_ic ex_eq 877 284 lv st h), none, none, some (fun _ lv st h => ex_go 285 lv (.int 0 :: st) h), some (fun _ lv st h => ex_ret (some .boolean) st h), some (fun _ lv st h => ex_ald 1 287 lv st h), some (fun g lv st h => ex_callV g 46 0 11 290 lv st h)],
  [none, none, some (fun _ lv st h => ex_ald 2 291 lv st h), some (fun g lv st h => ex_callV g 83 0 12 294 lv st h), none, none, some (fun _ lv st h => ex_ic ex_eq 877 297 lv st h), none, none, some (fun _ lv st h => ex_go 298 lv (.int 0 :: st) h), some (fun _ lv st h => ex_ret (some .boolean) st h), some (fun _ lv st h => ex_ald 1 300 lv st h), some (fun _ lv st h => ex_ald 0 301 lv st h), some (fun _ lv st h => ex_ild 3 302 lv st h), some (fun _ lv st h => ex_go 303 lv (.int 1 :: st) h), some (fun _ lv st h => ex_ii ex_add 304 lv st h)],
  [some (fun g lv st h => ex_xld g 0 0 305 lv st h), some (fun g lv st h => ex_callV g 36 1 11 308 lv st h), none, none, some (fun _ lv st h => ex_ald 2 309 lv st h), some (fun _ lv st h => ex_ald 0 310 lv st h), some (fun _ lv st h => ex_ild 3 311 lv st h), some (fun _ lv st h => ex_go 312 lv (.int 1 :: st) h), some (fun _ lv st h => ex_ii ex_add 313 lv st h), some (fun g lv st h => ex_xld g 0 0 314 lv st h), some (fun g lv st h => ex_callV g 71 1 12 317 lv st h), none, none, some (fun _ lv st h => ex_ic ex_eq 877 320 lv st h), none, none],
  [some (fun _ lv st h => ex_go 321 lv (.int 0 :: st) h), some (fun _ lv st h => ex_ret (some .boolean) st h), some (fun _ lv st h => ex_ald 1 323 lv st h), some (fun _ lv st h => ex_ald 0 324 lv st h), some (fun _ lv st h => ex_ild 3 325 lv st h), some (fun _ lv st h => ex_go 326 lv (.int 1 :: st) h), some (fun _ lv st h => ex_ii ex_add 327 lv st h), some (fun g lv st h => ex_xld g 0 0 328 lv st h), some (fun g lv st h => ex_callV g 32 1 11 331 lv st h), none, none, some (fun _ lv st h => ex_ald 2 332 lv st h), some (fun _ lv st h => ex_ald 0 333 lv st h), some (fun _ lv st h => ex_ild 3 334 lv st h), some (fun _ lv st h => ex_go 335 lv (.int 1 :: st) h), some (fun _ lv st h => ex_ii ex_add 336 lv st h)],
  [some (fun g lv st h => ex_xld g 0 0 337 lv st h), some (fun g lv st h => ex_callV g 66 1 12 340 lv st h), none, none, some (fun _ lv st h => ex_ic ex_eq 877 343 lv st h), none, none, some (fun _ lv st h => ex_go 344 lv (.int 0 :: st) h), some (fun _ lv st h => ex_ret (some .boolean) st h), some (fun _ lv st h => ex_ald 1 346 lv st h), some (fun g lv st h => ex_callV g 56 0 11 349 lv st h), none, none, some (fun _ lv st h => ex_ald 2 350 lv st h), some (fun g lv st h => ex_callV g 94 0 12 353 lv st h), none],
  [none, some (fun _ lv st h => ex_ic ex_eq 877 356 lv st h), none, none, some (fun _ lv st h => ex_go 357 lv (.int 0 :: st) h), some (fun _ lv st h => ex_ret (some .boolean) st h), some (fun _ lv st h => ex_ald 1 359 lv st h), some (fun _ lv st h => ex_ald 0 360 lv st h), some (fun _ lv st h => ex_ild 3 361 lv st h), some (fun _ lv st h => ex_go 362 lv (.int 1 :: st) h), some (fun _ lv st h => ex_ii ex_add 363 lv st h), some (fun g lv st h => ex_xld g 0 0 364 lv st h), some (fun g lv st h => ex_callV g 37 1 11 367 lv st h), none, none, some (fun _ lv st h => ex_ald 2 368 lv st h)],
  [some (fun _ lv st h => ex_ald 0 369 lv st h), some (fun _ lv st h => ex_ild 3 370 lv st h), some (fun _ lv st h => ex_go 371 lv (.int 1 :: st) h), some (fun _ lv st h => ex_ii ex_add 372 lv st h), some (fun g lv st h => ex_xld g 0 0 373 lv st h), some (fun g lv st h => ex_callV g 73 1 12 376 lv st h), none, none, some (fun _ lv st h => ex_ic ex_eq 877 379 lv st h), none, none, some (fun _ lv st h => ex_go 380 lv (.int 0 :: st) h), some (fun _ lv st h => ex_ret (some .boolean) st h), some (fun _ lv st h => ex_ald 1 382 lv st h), some (fun _ lv st h => ex_ald 0 383 lv st h), some (fun _ lv st h => ex_ild 3 384 lv st h)],
  [some (fun _ lv st h => ex_go 385 lv (.int 1 :: st) h), some (fun _ lv st h => ex_ii ex_add 386 lv st h), some (fun g lv st h => ex_xld g 0 0 387 lv st h), some (fun _ lv st h => ex_ald 0 388 lv st h), some (fun _ lv st h => ex_ild 3 389 lv st h), some (fun _ lv st h => ex_go 390 lv (.int 2 :: st) h), some (fun _ lv st h => ex_ii ex_add 391 lv st h), some (fun g lv st h => ex_xld g 0 0 392 lv st h), some (fun _ lv st h => ex_if ex_eq0 399 395 lv st h), none, none, some (fun _ lv st h => ex_go 396 lv (.int 1 :: st) h), some (fun _ lv st h => ex_go 400 lv st h), none, none, some (fun _ lv st h => ex_go 400 lv (.int 0 :: st) h)],
  [some (fun g lv st h => ex_callV g 42 2 11 403 lv st h), none, none, some (fun _ lv st h => ex_ald 2 404 lv st h), some (fun _ lv st h => ex_ald 0 405 lv st h), some (fun _ lv st h => ex_ild 3 406 lv st h), some (fun _ lv st h => ex_go 407 lv (.int 1 :: st) h), some (fun _ lv st h => ex_ii ex_add 408 lv st h), some (fun g lv st h => ex_xld g 0 0 409 lv st h), some (fun _ lv st h => ex_ald 0 410 lv st h), some (fun _ lv st h => ex_ild 3 411 lv st h), some (fun _ lv st h => ex_go 412 lv (.int 2 :: st) h), some (fun _ lv st h => ex_ii ex_add 413 lv st h), some (fun g lv st h => ex_xld g 0 0 414 lv st h), some (fun _ lv st h => ex_if ex_eq0 421 417 lv st h), none],
  [none, some (fun _ lv st h => ex_go 418 lv (.int 1 :: st) h), some (fun _ lv st h => ex_go 422 lv st h), none, none, some (fun _ lv st h => ex_go 422 lv (.int 0 :: st) h), some (fun g lv st h => ex_callV g 79 2 12 425 lv st h), none, none, some (fun _ lv st h => ex_ic ex_eq 877 428 lv st h), none, none, some (fun _ lv st h => ex_go 429 lv (.int 0 :: st) h), some (fun _ lv st h => ex_ret (some .boolean) st h), some (fun _ lv st h => ex_ald 1 431 lv st h), some (fun _ lv st h => ex_ald 0 432 lv st h)],
  [some (fun _ lv st h => ex_ild 3 433 lv st h), some (fun _ lv st h => ex_go 434 lv (.int 1 :: st) h), some (fun _ lv st h => ex_ii ex_add 435 lv st h), some (fun g lv st h => ex_xld g 0 0 436 lv st h), some (fun g lv st h => ex_callV g 52 1 11 439 lv st h), none, none, some (fun _ lv st h => ex_ald 2 440 lv st h), some (fun _ lv st h => ex_ald 0 441 lv st h), some (fun _ lv st h => ex_ild 3 442 lv st h), some (fun _ lv st h => ex_go 443 lv (.int 1 :: st) h), some (fun _ lv st h => ex_ii ex_add 444 lv st h), some (fun g lv st h => ex_xld g 0 0 445 lv st h), some (fun g lv st h => ex_callV g 90 1 12 448 lv st h), none, none],
  [some (fun _ lv st h => ex_ic ex_eq 877 451 lv st h), none, none, some (fun _ lv st h => ex_go 452 lv (.int 0 :: st) h), some (fun _ lv st h => ex_ret (some .boolean) st h), some (fun _ lv st h => ex_ald 1 454 lv st h), some (fun _ lv st h => ex_ald 0 455 lv st h), some (fun _ lv st h => ex_ild 3 456 lv st h), some (fun _ lv st h => ex_go 457 lv (.int 1 :: st) h), some (fun _ lv st h => ex_ii ex_add 458 lv st h), some (fun g lv st h => ex_xld g 0 0 459 lv st h), some (fun _ lv st h => ex_ald 0 460 lv st h), some (fun _ lv st h => ex_ild 3 461 lv st h), some (fun _ lv st h => ex_go 462 lv (.int 2 :: st) h), some (fun _ lv st h => ex_ii ex_add 463 lv st h), some (fun g lv st h => ex_xld g 0 0 464 lv st h)],
  [some (fun g lv st h => ex_callV g 30 2 11 467 lv st h), none, none, some (fun _ lv st h => ex_ald 2 468 lv st h), some (fun _ lv st h => ex_ald 0 469 lv st h), some (fun _ lv st h => ex_ild 3 470 lv st h), some (fun _ lv st h => ex_go 471 lv (.int 1 :: st) h), some (fun _ lv st h => ex_ii ex_add 472 lv st h), some (fun g lv st h => ex_xld g 0 0 473 lv st h), some (fun _ lv st h => ex_ald 0 474 lv st h), some (fun _ lv st h => ex_ild 3 475 lv st h), some (fun _ lv st h => ex_go 476 lv (.int 2 :: st) h), some (fun _ lv st h => ex_ii ex_add 477 lv st h), some (fun g lv st h => ex_xld g 0 0 478 lv st h), some (fun g lv st h => ex_callV g 64 2 12 481 lv st h), none],
  [none, some (fun _ lv st h => ex_ic ex_eq 877 484 lv st h), none, none, some (fun _ lv st h => ex_go 485 lv (.int 0 :: st) h), some (fun _ lv st h => ex_ret (some .boolean) st h), some (fun _ lv st h => ex_ald 1 487 lv st h), some (fun _ lv st h => ex_ald 0 488 lv st h), some (fun _ lv st h => ex_ild 3 489 lv st h), some (fun _ lv st h => ex_go 490 lv (.int 1 :: st) h), some (fun _ lv st h => ex_ii ex_add 491 lv st h), some (fun g lv st h => ex_xld g 0 0 492 lv st h), some (fun g lv st h => ex_callV g 28 1 11 495 lv st h), none, none, some (fun _ lv st h => ex_ald 2 496 lv st h)],
  [some (fun _ lv st h => ex_ald 0 497 lv st h), some (fun _ lv st h => ex_ild 3 498 lv st h), some (fun _ lv st h => ex_go 499 lv (.int 1 :: st) h), some (fun _ lv st h => ex_ii ex_add 500 lv st h), some (fun g lv st h => ex_xld g 0 0 501 lv st h), some (fun g lv st h => ex_callV g 62 1 12 504 lv st h), none, none, some (fun _ lv st h => ex_ic ex_eq 877 507 lv st h), none, none, some (fun _ lv st h => ex_go 508 lv (.int 0 :: st) h), some (fun _ lv st h => ex_ret (some .boolean) st h), some (fun _ lv st h => ex_ald 1 510 lv st h), some (fun g lv st h => ex_callV g 50 0 11 513 lv st h), none],
  [none, some (fun _ lv st h => ex_ald 2 514 lv st h), some (fun g lv st h => ex_callV g 87 0 12 517 lv st h), none, none, some (fun _ lv st h => ex_ic ex_eq 877 520 lv st h), none, none, some (fun _ lv st h => ex_go 521 lv (.int 0 :: st) h), some (fun _ lv st h => ex_ret (some .boolean) st h), some (fun _ lv st h => ex_ald 1 523 lv st h), some (fun _ lv st h => ex_ald 0 524 lv st h), some (fun _ lv st h => ex_ild 3 525 lv st h), some (fun _ lv st h => ex_go 526 lv (.int 1 :: st) h), some (fun _ lv st h => ex_ii ex_add 527 lv st h), some (fun g lv st h => ex_xld g 0 0 528 lv st h)],
  [some (fun _ lv st h => ex_ald 0 529 lv st h), some (fun _ lv st h => ex_ild 3 530 lv st h), some (fun _ lv st h => ex_go 531 lv (.int 2 :: st) h), some (fun _ lv st h => ex_ii ex_add 532 lv st h), some (fun g lv st h => ex_xld g 0 0 533 lv st h), some (fun g lv st h => ex_callV g 49 2 11 536 lv st h), none, none, some (fun _ lv st h => ex_ald 2 537 lv st h), some (fun _ lv st h => ex_ald 0 538 lv st h), some (fun _ lv st h => ex_ild 3 539 lv st h), some (fun _ lv st h => ex_go 540 lv (.int 1 :: st) h), some (fun _ lv st h => ex_ii ex_add 541 lv st h), some (fun g lv st h => ex_xld g 0 0 542 lv st h), some (fun _ lv st h => ex_ald 0 543 lv st h), some (fun _ lv st h => ex_ild 3 544 lv st h)],
  [some (fun _ lv st h => ex_go 545 lv (.int 2 :: st) h), some (fun _ lv st h => ex_ii ex_add 546 lv st h), some (fun g lv st h => ex_xld g 0 0 547 lv st h), some (fun g lv st h => ex_callV g 86 2 12 550 lv st h), none, none, some (fun _ lv st h => ex_ic ex_eq 877 553 lv st h), none, none, some (fun _ lv st h => ex_go 554 lv (.int 0 :: st) h), some (fun _ lv st h => ex_ret (some .boolean) st h), some (fun _ lv st h => ex_ald 1 556 lv st h), some (fun _ lv st h => ex_ald 0 557 lv st h), some (fun _ lv st h => ex_ild 3 558 lv st h), some (fun _ lv st h => ex_go 559 lv (.int 1 :: st) h), some (fun _ lv st h => ex_ii ex_add 560 lv st h)],
  [some (fun g lv st h => ex_xld g 0 0 561 lv st h), some (fun g lv st h => ex_callV g 51 1 11 564 lv st h), none, none, some (fun _ lv st h => ex_ald 2 565 lv st h), some (fun _ lv st h => ex_ald 0 566 lv st h), some (fun _ lv st h => ex_ild 3 567 lv st h), some (fun _ lv st h => ex_go 568 lv (.int 1 :: st) h), some (fun _ lv st h => ex_ii ex_add 569 lv st h), some (fun g lv st h => ex_xld g 0 0 570 lv st h), some (fun g lv st h => ex_callV g 89 1 12 573 lv st h), none, none, some (fun _ lv st h => ex_ic ex_eq 877 576 lv st h), none, none],
  [some (fun _ lv st h => ex_go 577 lv (.int 0 :: st) h), some (fun _ lv st h => ex_ret (some .boolean) st h), some (fun _ lv st h => ex_ald 1 579 lv st h), some (fun _ lv st h => ex_ald 0 580 lv st h), some (fun _ lv st h => ex_ild 3 581 lv st h), some (fun _ lv st h => ex_go 582 lv (.int 1 :: st) h), some (fun _ lv st h => ex_ii ex_add 583 lv st h), some (fun g lv st h => ex_xld g 0 0 584 lv st h), some (fun _ lv st h => ex_ald 0 585 lv st h), some (fun _ lv st h => ex_ild 3 586 lv st h), some (fun _ lv st h => ex_go 587 lv (.int 2 :: st) h), some (fun _ lv st h => ex_ii ex_add 588 lv st h), some (fun g lv st h => ex_xld g 0 0 589 lv st h), some (fun g lv st h => ex_callV g 35 2 11 592 lv st h), none, none],
  [some (fun _ lv st h => ex_ald 2 593 lv st h), some (fun _ lv st h => ex_ald 0 594 lv st h), some (fun _ lv st h => ex_ild 3 595 lv st h), some (fun _ lv st h => ex_go 596 lv (.int 1 :: st) h), some (fun _ lv st h => ex_ii ex_add 597 lv st h), some (fun g lv st h => ex_xld g 0 0 598 lv st h), some (fun _ lv st h => ex_ald 0 599 lv st h), some (fun _ lv st h => ex_ild 3 600 lv st h), some (fun _ lv st h => ex_go 601 lv (.int 2 :: st) h), some (fun _ lv st h => ex_ii ex_add 602 lv st h), some (fun g lv st h => ex_xld g 0 0 603 lv st h), some (fun g lv st h => ex_callV g 70 2 12 606 lv st h), none, none, some (fun _ lv st h => ex_ic ex_eq 877 609 lv st h), none],
  [none, some (fun _ lv st h => ex_go 610 lv (.int 0 :: st) h), some (fun _ lv st h => ex_ret (some .boolean) st h), some (fun _ lv st h => ex_ald 1 612 lv st h), some (fun _ lv st h => ex_ald 0 613 lv st h), some (fun _ lv st h => ex_ild 3 614 lv st h), some (fun _ lv st h => ex_go 615 lv (.int 1 :: st) h), some (fun _ lv st h => ex_ii ex_add 616 lv st h), some (fun g lv st h => ex_xld g 0 0 617 lv st h), some (fun _ lv st h => ex_ald 0 618 lv st h), some (fun _ lv st h => ex_ild 3 619 lv st h), some (fun _ lv st h => ex_go 620 lv (.int 2 :: st) h), some (fun _ lv st h => ex_ii ex_add 621 lv st h), some (fun g lv st h => ex_xld g 0 0 622 lv st h), some (fun _ lv st h => ex_ald 0 623 lv st h), some (fun _ lv st h => ex_ild 3 624 lv st h)],
  [some (fun _ lv st h => ex_go 625 lv (.int 3 :: st) h), some (fun _ lv st h => ex_ii ex_add 626 lv st h), some (fun g lv st h => ex_xld g 0 0 627 lv st h), some (fun g lv st h => ex_callV g 39 3 11 630 lv st h), none, none, some (fun _ lv st h => ex_ald 2 631 lv st h), some (fun _ lv st h => ex_ald 0 632 lv st h), some (fun _ lv st h => ex_ild 3 633 lv st h), some (fun _ lv st h => ex_go 634 lv (.int 1 :: st) h), some (fun _ lv st h => ex_ii ex_add 635 lv st h), some (fun g lv st h => ex_xld g 0 0 636 lv st h), some (fun _ lv st h => ex_ald 0 637 lv st h), some (fun _ lv st h => ex_ild 3 638 lv st h), some (fun _ lv st h => ex_go 639 lv (.int 2 :: st) h), some (fun _ lv st h => ex_ii ex_add 640 lv st h)],
  [some (fun g lv st h => ex_xld g 0 0 641 lv st h), some (fun _ lv st h => ex_ald 0 642 lv st h), some (fun _ lv st h => ex_ild 3 643 lv st h), some (fun _ lv st h => ex_go 644 lv (.int 3 :: st) h), some (fun _ lv st h => ex_ii ex_add 645 lv st h), some (fun g lv st h => ex_xld g 0 0 646 lv st h), some (fun g lv st h => ex_callV g 75 3 12 649 lv st h), none, none, some (fun _ lv st h => ex_ic ex_eq 877 652 lv st h), none, none, some (fun _ lv st h => ex_go 653 lv (.int 0 :: st) h), some (fun _ lv st h => ex_ret (some .boolean) st h), some (fun _ lv st h => ex_ald 1 655 lv st h), some (fun _ lv st h => ex_ald 0 656 lv st h)],
  [some (fun _ lv st h => ex_ild 3 657 lv st h), some (fun _ lv st h => ex_go 658 lv (.int 1 :: st) h), some (fun _ lv st h => ex_ii ex_add 659 lv st h), some (fun g lv st h => ex_xld g 0 0 660 lv st h), some (fun g lv st h => ex_callV g 31 1 11 663 lv st h), none, none, some (fun _ lv st h => ex_ald 2 664 lv st h), some (fun _ lv st h => ex_ald 0 665 lv st h), some (fun _ lv st h => ex_ild 3 666 lv st h), some (fun _ lv st h => ex_go 667 lv (.int 1 :: st) h), some (fun _ lv st h => ex_ii ex_add 668 lv st h), some (fun g lv st h => ex_xld g 0 0 669 lv st h), some (fun g lv st h => ex_callV g 65 1 12 672 lv st h), none, none],
  [some (fun _ lv st h => ex_ic ex_eq 877 675 lv st h), none, none, some (fun _ lv st h => ex_go 676 lv (.int 0 :: st) h), some (fun _ lv st h => ex_ret (some .boolean) st h), some (fun _ lv st h => ex_ald 1 678 lv st h), some (fun _ lv st h => ex_ald 0 679 lv st h), some (fun _ lv st h => ex_ild 3 680 lv st h), some (fun _ lv st h => ex_go 681 lv (.int 1 :: st) h), some (fun _ lv st h => ex_ii ex_add 682 lv st h), some (fun g lv st h => ex_xld g 0 0 683 lv st h), some (fun _ lv st h => ex_ald 0 684 lv st h), some (fun _ lv st h => ex_ild 3 685 lv st h), some (fun _ lv st h => ex_go 686 lv (.int 2 :: st) h), some (fun _ lv st h => ex_ii ex_add 687 lv st h), some (fun g lv st h => ex_xld g 0 0 688 lv st h)],
  [some (fun g lv st h => ex_callV g 45 2 11 691 lv st h), none, none, some (fun _ lv st h => ex_ald 2 692 lv st h), some (fun _ lv st h => ex_ald 0 693 lv st h), some (fun _ lv st h => ex_ild 3 694 lv st h), some (fun _ lv st h => ex_go 695 lv (.int 1 :: st) h), some (fun _ lv st h => ex_ii ex_add 696 lv st h), some (fun g lv st h => ex_xld g 0 0 697 lv st h), some (fun _ lv st h => ex_ald 0 698 lv st h), some (fun _ lv st h => ex_ild 3 699 lv st h), some (fun _ lv st h => ex_go 700 lv (.int 2 :: st) h), some (fun _ lv st h => ex_ii ex_add 701 lv st h), some (fun g lv st h => ex_xld g 0 0 702 lv st h), some (fun g lv st h => ex_callV g 82 2 12 705 lv st h), none],
  [none, some (fun _ lv st h => ex_ic ex_eq 877 708 lv st h), none, none, some (fun _ lv st h => ex_go 709 lv (.int 0 :: st) h), some (fun _ lv st h => ex_ret (some .boolean) st h), some (fun _ lv st h => ex_ald 1 711 lv st h), some (fun _ lv st h => ex_ald 0 712 lv st h), some (fun _ lv st h => ex_ild 3 713 lv st h), some (fun _ lv st h => ex_go 714 lv (.int 1 :: st) h), some (fun _ lv st h => ex_ii ex_add 715 lv st h), some (fun g lv st h => ex_xld g 0 0 716 lv st h), some (fun _ lv st h => ex_ald 0 717 lv st h), some (fun _ lv st h => ex_ild 3 718 lv st h), some (fun _ lv st h => ex_go 719 lv (.int 2 :: st) h), some (fun _ lv st h => ex_ii ex_add 720 lv st h)],
  [some (fun g lv st h => ex_xld g 0 0 721 lv st h), some (fun g lv st h => ex_callV g 55 2 11 724 lv st h), none, none, some (fun _ lv st h => ex_ald 2 725 lv st h), some (fun _ lv st h => ex_ald 0 726 lv st h), some (fun _ lv st h => ex_ild 3 727 lv st h), some (fun _ lv st h => ex_go 728 lv (.int 1 :: st) h), some (fun _ lv st h => ex_ii ex_add 729 lv st h), some (fun g lv st h => ex_xld g 0 0 730 lv st h), some (fun _ lv st h => ex_ald 0 731 lv st h), some (fun _ lv st h => ex_ild 3 732 lv st h), some (fun _ lv st h => ex_go 733 lv (.int 2 :: st) h), some (fun _ lv st h => ex_ii ex_add 734 lv st h), some (fun g lv st h => ex_xld g 0 0 735 lv st h), some (fun g lv st h => ex_callV g 93 2 12 738 lv st h)],
  [none, none, some (fun _ lv st h => ex_ic ex_eq 877 741 lv st h), none, none, some (fun _ lv st h => ex_go 742 lv (.int 0 :: st) h), some (fun _ lv st h => ex_ret (some .boolean) st h), some (fun _ lv st h => ex_ald 1 744 lv st h), some (fun _ lv st h => ex_ald 0 745 lv st h), some (fun _ lv st h => ex_ild 3 746 lv st h), some (fun _ lv st h => ex_go 747 lv (.int 1 :: st) h), some (fun _ lv st h => ex_ii ex_add 748 lv st h), some (fun g lv st h => ex_xld g 0 0 749 lv st h), some (fun g lv st h => ex_callV g 27 1 11 752 lv st h), none, none],
  [some (fun _ lv st h => ex_ald 2 753 lv st h), some (fun _ lv st h => ex_ald 0 754 lv st h), some (fun _ lv st h => ex_ild 3 755 lv st h), some (fun _ lv st h => ex_go 756 lv (.int 1 :: st) h), some (fun _ lv st h => ex_ii ex_add 757 lv st h), some (fun g lv st h => ex_xld g 0 0 758 lv st h), some (fun g lv st h => ex_callV g 61 1 12 761 lv st h), none, none, some (fun _ lv st h => ex_ic ex_eq 877 764 lv st h), none, none, some (fun _ lv st h => ex_go 765 lv (.int 0 :: st) h), some (fun _ lv st h => ex_ret (some .boolean) st h), some (fun _ lv st h => ex_ald 1 767 lv st h), some (fun _ lv st h => ex_ald 0 768 lv st h)],
  [some (fun _ lv st h => ex_ild 3 769 lv st h), some (fun _ lv st h => ex_go 770 lv (.int 1 :: st) h), some (fun _ lv st h => ex_ii ex_add 771 lv st h), some (fun g lv st h => ex_xld g 0 0 772 lv st h), some (fun g lv st h => ex_callV g 38 1 11 775 lv st h), none, none, some (fun _ lv st h => ex_ald 2 776 lv st h), some (fun _ lv st h => ex_ald 0 777 lv st h), some (fun _ lv st h => ex_ild 3 778 lv st h), some (fun _ lv st h => ex_go 779 lv (.int 1 :: st) h), some (fun _ lv st h => ex_ii ex_add 780 lv st h), some (fun g lv st h => ex_xld g 0 0 781 lv st h), some (fun g lv st h => ex_callV g 74 1 12 784 lv st h), none, none],
  [some (fun _ lv st h => ex_ic ex_eq 877 787 lv st h), none, none, some (fun _ lv st h => ex_go 788 lv (.int 0 :: st) h), some (fun _ lv st h => ex_ret (some .boolean) st h), some (fun _ lv st h => ex_ald 1 790 lv st h), some (fun g lv st h => ex_callV g 57 0 11 793 lv st h), none, none, some (fun _ lv st h => ex_ald 2 794 lv st h), some (fun g lv st h => ex_callV g 95 0 12 797 lv st h), none, none, some (fun _ lv st h => ex_ic ex_eq 877 800 lv st h), none, none],
  [some (fun _ lv st h => ex_go 801 lv (.int 0 :: st) h), some (fun _ lv st h => ex_ret (some .boolean) st h), some (fun _ lv st h => ex_ald 1 803 lv st h), some (fun g lv st h => ex_callV g 44 0 11 806 lv st h), none, none, some (fun _ lv st h => ex_ald 2 807 lv st h), some (fun g lv st h => ex_callV g 81 0 12 810 lv st h), none, none, some (fun _ lv st h => ex_ic ex_eq 877 813 lv st h), none, none, some (fun _ lv st h => ex_go 814 lv (.int 0 :: st) h), some (fun _ lv st h => ex_ret (some .boolean) st h), some (fun _ lv st h => ex_ald 1 816 lv st h)],
  [some (fun g lv st h => ex_callV g 48 0 11 819 lv st h), none, none, some (fun _ lv st h => ex_ald 2 820 lv st h), some (fun g lv st h => ex_callV g 85 0 12 823 lv st h), none, none, some (fun _ lv st h => ex_ic ex_eq 877 826 lv st h), none, none, some (fun _ lv st h => ex_go 827 lv (.int 0 :: st) h), some (fun _ lv st h => ex_ret (some .boolean) st h), some (fun _ lv st h => ex_ald 1 829 lv st h), some (fun _ lv st h => ex_ald 0 830 lv st h), some (fun _ lv st h => ex_ild 3 831 lv st h), some (fun _ lv st h => ex_go 832 lv (.int 1 :: st) h)],
  [some (fun _ lv st h => ex_ii ex_add 833 lv st h), some (fun g lv st h => ex_xld g 0 0 834 lv st h), some (fun g lv st h => ex_callV g 47 1 11 837 lv st h), none, none, some (fun _ lv st h => ex_ald 2 838 lv st h), some (fun _ lv st h => ex_ald 0 839 lv st h), some (fun _ lv st h => ex_ild 3 840 lv st h), some (fun _ lv st h => ex_go 841 lv (.int 1 :: st) h), some (fun _ lv st h => ex_ii ex_add 842 lv st h), some (fun g lv st h => ex_xld g 0 0 843 lv st h), some (fun g lv st h => ex_callV g 84 1 12 846 lv st h), none, none, some (fun _ lv st h => ex_ic ex_eq 877 849 lv st h), none],
  [none, some (fun _ lv st h => ex_go 850 lv (.int 0 :: st) h), some (fun _ lv st h => ex_ret (some .boolean) st h), some (fun _ lv st h => ex_ald 1 852 lv st h), some (fun g lv st h => ex_callV g 53 0 11 855 lv st h), none, none, some (fun _ lv st h => ex_ald 2 856 lv st h), some (fun g lv st h => ex_callV g 91 0 12 859 lv st h), none, none, some (fun _ lv st h => ex_ic ex_eq 877 862 lv st h), none, none, some (fun _ lv st h => ex_go 863 lv (.int 0 :: st) h), some (fun _ lv st h => ex_ret (some .boolean) st h)],
  [some (fun _ lv st h => ex_ald 1 865 lv st h), some (fun g lv st h => ex_callV g 54 0 11 868 lv st h), none, none, some (fun _ lv st h => ex_ald 2 869 lv st h), some (fun g lv st h => ex_callV g 92 0 12 872 lv st h), none, none, some (fun _ lv st h => ex_ic ex_eq 877 875 lv st h), none, none, some (fun _ lv st h => ex_go 876 lv (.int 0 :: st) h), some (fun _ lv st h => ex_ret (some .boolean) st h), some (fun _ lv st h => ex_inc 4 3 6 880 lv st h), none, none],
  [some (fun _ lv st h => ex_go 18 lv st h), none, none, some (fun _ lv st h => ex_go 884 lv (.int 1 :: st) h), some (fun _ lv st h => ex_ret (some .boolean) st h), none, none, none, none, none, none, none, none, none, none, none]]
theorem ex_klaw_eq : ex_klaw = ex_rows 4 (some .boolean) 0 ex_lawcd := rfl
noncomputable def ex_progF : List (Nat × List (List (Option ex_K))) := [(3, ex_k0), (2, ex_k1), (1, ex_k2), (4, ex_k3), (5, ex_k4), (4, ex_k5), (3, ex_k6), (1, ex_k7), (2, ex_k8), (2, ex_k9), (1, ex_k10), (3, ex_k11), (4, ex_k12), (2, ex_k13), (4, ex_k14), (1, ex_k15), (4, ex_k16), (5, ex_k17), (1, ex_k18), (2, ex_k19), (2, ex_k20), (3, ex_k21), (2, ex_k22), (6, ex_k23), (2, ex_k24), (1, ex_k25), (2, ex_k26), (3, ex_k27), (2, ex_k28), (3, ex_k29), (3, ex_k30), (2, ex_k31), (3, ex_k32), (2, ex_k33), (6, ex_k34), (3, ex_k35), (2, ex_k36), (4, ex_k37), (3, ex_k38), (4, ex_k39), (1, ex_k40), (3, ex_k41), (3, ex_k42), (7, ex_k43), (1, ex_k44), (3, ex_k45), (3, ex_k46), (2, ex_k47), (1, ex_k48), (5, ex_k49), (1, ex_k50), (2, ex_k51), (2, ex_k52), (1, ex_k53), (2, ex_k54), (3, ex_k55), (1, ex_k56), (1, ex_k57), (1, ex_k58), (5, ex_k59), (2, ex_k60), (5, ex_k61), (4, ex_k62), (3, ex_k63), (3, ex_k64), (2, ex_k65), (5, ex_k66), (3, ex_k67), (2, ex_k68), (6, ex_k69), (3, ex_k70), (2, ex_k71), (1, ex_k72), (3, ex_k73), (6, ex_k74), (8, ex_k75), (2, ex_k76), (2, ex_k77), (3, ex_k78), (7, ex_k79), (3, ex_k80), (2, ex_k81), (5, ex_k82), (3, ex_k83), (2, ex_k84), (1, ex_k85), (6, ex_k86), (1, ex_k87), (5, ex_k88), (6, ex_k89), (2, ex_k90), (1, ex_k91), (2, ex_k92), (3, ex_k93), (1, ex_k94), (3, ex_k95), (2, ex_k96), (2, ex_k97), (1, ex_k98), (1, ex_k99), (1, ex_k100), (2, ex_k101), (4, ex_k102), (3, ex_k103)]
noncomputable def ex_Q0 (k : Nat) : Option (Nat × List (List (Option ex_K))) := ex_nth ex_progF k
end
section
/-! ===== the rows of the methods, looked at by program ===== -/
/-- the tables in their pieces: a word's place is 1000 times its piece's, and its own there -/
def ex_tabs : List (List Jvm.Cond) := [k2_sels lw_privs, tables_1_1, tables_1_2, tables_1_3, tables_1_4, tables_1_5, tables_1_6, tables_1_7, tables_1_8, tables_1_9, tables_1_10, tables_1_11, tables_1_12, tables_1_13, tables_1_14, tables_1_15]
theorem ex_tabs_in : ∀ l ∈ ex_tabs, ∀ w ∈ l, w ∈ lw_tbl := by
  intro l hl w hw
  unfold ex_tabs at hl
  unfold lw_tbl tables_1
  simp only [List.mem_append]
  simp only [List.mem_cons, List.not_mem_nil, or_false] at hl
  rcases hl with rfl | rfl | rfl | rfl | rfl | rfl | rfl | rfl | rfl | rfl | rfl | rfl | rfl | rfl | rfl | rfl
  · exact Or.inl hw
  · exact Or.inr (Or.inl hw)
  · exact Or.inr (Or.inr (Or.inl hw))
  · exact Or.inr (Or.inr (Or.inr (Or.inl hw)))
  · exact Or.inr (Or.inr (Or.inr (Or.inr (Or.inl hw))))
  · exact Or.inr (Or.inr (Or.inr (Or.inr (Or.inr (Or.inl hw)))))
  · exact Or.inr (Or.inr (Or.inr (Or.inr (Or.inr (Or.inr (Or.inl hw))))))
  · exact Or.inr (Or.inr (Or.inr (Or.inr (Or.inr (Or.inr (Or.inr (Or.inl hw)))))))
  · exact Or.inr (Or.inr (Or.inr (Or.inr (Or.inr (Or.inr (Or.inr (Or.inr (Or.inl hw))))))))
  · exact Or.inr (Or.inr (Or.inr (Or.inr (Or.inr (Or.inr (Or.inr (Or.inr (Or.inr (Or.inl hw)))))))))
  · exact Or.inr (Or.inr (Or.inr (Or.inr (Or.inr (Or.inr (Or.inr (Or.inr (Or.inr (Or.inr (Or.inl hw))))))))))
  · exact Or.inr (Or.inr (Or.inr (Or.inr (Or.inr (Or.inr (Or.inr (Or.inr (Or.inr (Or.inr (Or.inr (Or.inl hw)))))))))))
  · exact Or.inr (Or.inr (Or.inr (Or.inr (Or.inr (Or.inr (Or.inr (Or.inr (Or.inr (Or.inr (Or.inr (Or.inr (Or.inl hw))))))))))))
  · exact Or.inr (Or.inr (Or.inr (Or.inr (Or.inr (Or.inr (Or.inr (Or.inr (Or.inr (Or.inr (Or.inr (Or.inr (Or.inr (Or.inl hw)))))))))))))
  · exact Or.inr (Or.inr (Or.inr (Or.inr (Or.inr (Or.inr (Or.inr (Or.inr (Or.inr (Or.inr (Or.inr (Or.inr (Or.inr (Or.inr (Or.inl hw))))))))))))))
  · exact Or.inr (Or.inr (Or.inr (Or.inr (Or.inr (Or.inr (Or.inr (Or.inr (Or.inr (Or.inr (Or.inr (Or.inr (Or.inr (Or.inr (Or.inr (hw)))))))))))))))
noncomputable def ex_inb (i : Nat) (w : Jvm.Cond) : Bool := (match ex_nth ex_tabs (Nat.div i 1000) with
  | some l => decide (ex_nth l (Nat.mod i 1000) = some w)
  | none => false) && goodWord w
theorem ex_inb_s {i : Nat} {w : Jvm.Cond} (h : ex_inb i w = true) : w ∈ ex_wall := by
  unfold ex_inb at h
  rw [Bool.and_eq_true] at h
  refine List.mem_filter.mpr ⟨?_, h.2⟩
  have h1 := h.1
  cases hl : ex_nth ex_tabs (Nat.div i 1000) with
  | none => rw [hl] at h1; cases h1
  | some l =>
    rw [hl] at h1
    have h2 := of_decide_eq_true h1
    rw [ex_nth_eq] at hl h2
    exact ex_tabs_in l (List.mem_of_getElem? hl) w (List.mem_of_getElem? h2)
def ex_decb (cc : ByteArray) (pc : Nat) (e : ex_I) : Bool := match e with
  | (ins, _, _, _, nx) => match ins with
    | .tableswitch d lo hi offs => (match decode cc pc with | .ok (i, _) => decide (i = .tableswitch d lo hi offs) | .error _ => false)
    | .lookupswitch d ps => (match decode cc pc with | .ok (i, _) => decide (i = .lookupswitch d ps) | .error _ => false) && (ps.toList.zip (ps.toList.drop 1)).all (fun (a, next) => a.1 < next.1)
    | _ => decide (decode cc pc = .ok (ins, ex_ln ins)) && Nat.beq nx (pc + ex_ln ins)
theorem ex_decb_s {cc : ByteArray} {pc : Nat} {e : ex_I} (h : ex_decb cc pc e = true) : ex_dec cc pc e := by
  obtain ⟨ins, x, y, z, nx⟩ := e
  cases ins with
  | tableswitch d lo hi offs =>
    have h : (match decode cc pc with | .ok (i, _) => decide (i = Instr.tableswitch d lo hi offs) | .error _ => false) = true := h
    show ∃ len, decode cc pc = .ok (Instr.tableswitch d lo hi offs, len)
    cases hd : decode cc pc with
    | error _ => rw [hd] at h; cases h
    | ok q =>
      obtain ⟨i, n⟩ := q
      rw [hd] at h
      have e1 : i = Instr.tableswitch d lo hi offs := of_decide_eq_true h
      exact ⟨n, by rw [e1]⟩
  | lookupswitch d ps =>
    have h : ((match decode cc pc with | .ok (i, _) => decide (i = Instr.lookupswitch d ps) | .error _ => false) && (ps.toList.zip (ps.toList.drop 1)).all (fun (a, next) => a.1 < next.1)) = true := h
    rw [Bool.and_eq_true] at h
    refine ⟨?_, h.2⟩
    show ∃ len, decode cc pc = .ok (Instr.lookupswitch d ps, len)
    have h1 := h.1
    cases hd : decode cc pc with
    | error _ => rw [hd] at h1; cases h1
    | ok q =>
      obtain ⟨i, n⟩ := q
      rw [hd] at h1
      have e1 : i = Instr.lookupswitch d ps := of_decide_eq_true h1
      exact ⟨n, by rw [e1]⟩
  | _ =>
    unfold ex_decb at h
    simp only [Bool.and_eq_true] at h
    exact ⟨of_decide_eq_true h.1, Nat.eq_of_beq_eq_true h.2⟩
noncomputable def ex_lkb (g : ex_G) (P : Nat → Option ex_M) (own mn : String) (pc : Nat) (zs : List Nat) (e : ex_I) : Bool := match e with
  | (ins, x, y, z, _) => match ins with
    | .ldc i | .ldc_w i => bif Nat.beq y 0 then ex_inb (zs.getD 0 0) (Jvm.Cond.constant own i (Int32.ofNat x)) else Nat.beq y 1 && g.2.2.1.any (fun q => decide (q.1 = own) && Nat.beq q.2.1 i && Nat.beq q.2.2.1 x)
    | .ldc2_w i => ex_inb (zs.getD 0 0) (Jvm.Cond.constantLong own i (Int64.ofNat x))
    | .ifCond _ off | .if_icmp _ off | .goto off => decide ((pc : Int) + off = (x : Int))
    | .getfield i => (match ex_cl[x]? with | some r => Nat.blt y r.2.2 | none => true) && ex_inb (zs.getD 0 0) (Jvm.Cond.fieldLink own i (ex_fd x y).1 (ex_fd x y).2.1 (ex_fd x y).2.2.1)
    | .putfield i => (match ex_cl[x]? with
      | some r => Nat.blt y r.2.2 && ex_inb (zs.getD 0 0) (Jvm.Cond.fieldLink own i (r.2.1 y).1 (r.2.1 y).2.1 (r.2.1 y).2.2.1) && (!(r.2.1 y).2.2.2 || (decide (mn = "<init>") && decide ((r.2.1 y).1 = own)))
      | none => false)
    | .getstatic i => g.2.2.2.any (fun q => ex_inb (zs.getD 0 0) (Jvm.Cond.fieldLink own i q.1 q.2.1 q.2.2.1) && decide (q.2.2.2 = (bif Nat.beq y 0 then Value.int (Int32.ofNat x) else bif Nat.beq y 1 then Value.ref x else Value.retAddr 0)))
    | .new i => (match ex_cl[x]? with
      | some r => ex_inb (zs.getD 0 0) (Jvm.Cond.classLink own i r.1) && ex_inb (zs.getD 1 0) (Jvm.Cond.instantiable r.1 r.2.2) && ex_inb (zs.getD 2 0) (Jvm.Cond.initialized r.1)
      | none => false)
    | .newarray t => ex_inb (zs.getD 0 0) (Jvm.Cond.arrayClass (newarray.typeOf t))
    | .anewarray i => ex_inb (zs.getD 0 0) (Jvm.Cond.classLink own i "java/lang/String")
    | .invokevirtual i => (match P x with
      | some M => decide (M.1.cls = ex_cn z) && ex_inb (zs.getD 0 0) (Jvm.Cond.methodLink own i M.1) && ex_inb (zs.getD 1 0) (Jvm.Cond.instanceMethod M.1) && ex_inb (zs.getD 2 0) (Jvm.Cond.selects M.1.cls M.1 M.1) && decide ((parseMethodDescriptor M.1.desc).map (fun d => d.parameters.length) = some y)
      | none => false)
    | .invokespecial i => bif Nat.beq x 1000000 then ex_inb (zs.getD 0 0) (Jvm.Cond.methodLink own i objectInit) && ex_inb (zs.getD 1 0) (Jvm.Cond.instanceMethod objectInit) && ex_inb (zs.getD 2 0) (Jvm.Cond.code objectInit ⟨#[0xb1]⟩ 1 none) else
      (match P x with
      | some M => decide (M.1.name = "<init>") && decide (M.2.2.2.1 = none) && ex_inb (zs.getD 0 0) (Jvm.Cond.methodLink own i M.1) && ex_inb (zs.getD 1 0) (Jvm.Cond.instanceMethod M.1) && decide ((parseMethodDescriptor M.1.desc).map (fun d => d.parameters.length) = some y)
      | none => false)
    | .invokestatic i => bif Nat.beq x 1000000 then ex_inb (zs.getD 0 0) (Jvm.Cond.methodLink own i arraycopyName) && ex_inb (zs.getD 1 0) (Jvm.Cond.native arraycopyName) && ex_inb (zs.getD 2 0) (Jvm.Cond.static arraycopyName) && ex_inb (zs.getD 3 0) (Jvm.Cond.initialized "java/lang/System") else
      bif Nat.beq x 1000001 then ex_inb (zs.getD 0 0) (Jvm.Cond.methodLink own i Lib.Math.max.name) && ex_inb (zs.getD 1 0) (Jvm.Cond.static Lib.Math.max.name) && ex_inb (zs.getD 2 0) (Jvm.Cond.initialized "java/lang/Math") && ex_inb (zs.getD 3 0) (Jvm.Cond.code Lib.Math.max.name Lib.Math.max.code 2 (some .int)) else
      bif Nat.beq x 1000002 then ex_inb (zs.getD 0 0) (Jvm.Cond.methodLink own i Lib.Math.min.name) && ex_inb (zs.getD 1 0) (Jvm.Cond.static Lib.Math.min.name) && ex_inb (zs.getD 2 0) (Jvm.Cond.initialized "java/lang/Math") && ex_inb (zs.getD 3 0) (Jvm.Cond.code Lib.Math.min.name Lib.Math.min.code 2 (some .int)) else
      Nat.blt x 1000000 && (match P x with
      | some M => ex_inb (zs.getD 0 0) (Jvm.Cond.methodLink own i M.1) && ex_inb (zs.getD 1 0) (Jvm.Cond.static M.1) && decide ((parseMethodDescriptor M.1.desc).map (fun d => d.parameters.length) = some y)
      | none => false)
    | _ => true
theorem ex_nb {a b : Nat} (h : ¬ a = b) : Nat.beq a b = false := by
  cases hq : Nat.beq a b with
  | false => rfl
  | true => exact absurd (Nat.eq_of_beq_eq_true hq) h
theorem ex_ldcb_s {g : ex_G} {own : String} {i x y : Nat} {zs : List Nat} (h : (bif Nat.beq y 0 then ex_inb (zs.getD 0 0) (Jvm.Cond.constant own i (Int32.ofNat x)) else Nat.beq y 1 && g.2.2.1.any (fun q => decide (q.1 = own) && Nat.beq q.2.1 i && Nat.beq q.2.2.1 x)) = true) : (y = 0 ∧ Jvm.Cond.constant own i (Int32.ofNat x) ∈ ex_wall) ∨ (y = 1 ∧ ∃ tx, (own, i, x, tx) ∈ g.2.2.1) := by
  by_cases hy : y = 0
  · subst hy
    exact Or.inl ⟨rfl, ex_inb_s h⟩
  · rw [ex_nb hy] at h
    simp only [cond_false, Bool.and_eq_true] at h
    have hy1 := Nat.eq_of_beq_eq_true h.1
    obtain ⟨q, hq, h1⟩ := List.any_eq_true.mp h.2
    simp only [Bool.and_eq_true] at h1
    obtain ⟨⟨e1, e2⟩, e3⟩ := h1
    have e1 := of_decide_eq_true e1
    have e2 := Nat.eq_of_beq_eq_true e2
    have e3 := Nat.eq_of_beq_eq_true e3
    obtain ⟨a, b, c, d⟩ := q
    simp only at e1 e2 e3
    subst e1 e2 e3
    exact Or.inr ⟨hy1, d, hq⟩
theorem ex_lkb_s {g : ex_G} {P : Nat → Option ex_M} {own mn : String} {pc : Nat} {zs : List Nat} {e : ex_I} (h : ex_lkb g P own mn pc zs e = true) : ex_lk g P own mn pc e := by
  obtain ⟨ins, x, y, z, nx⟩ := e
  cases ins with
  | ldc i => exact ex_ldcb_s h
  | ldc_w i => exact ex_ldcb_s h
  | ldc2_w i => exact ex_inb_s h
  | ifCond c off =>
    have h2 : (pc : Int) + off = (x : Int) := of_decide_eq_true h
    exact h2
  | if_icmp c off =>
    have h2 : (pc : Int) + off = (x : Int) := of_decide_eq_true h
    exact h2
  | goto off =>
    have h2 : (pc : Int) + off = (x : Int) := of_decide_eq_true h
    exact h2
  | getfield i =>
    have h : ((match ex_cl[x]? with | some r => Nat.blt y r.2.2 | none => true) && ex_inb (zs.getD 0 0) (Jvm.Cond.fieldLink own i (ex_fd x y).1 (ex_fd x y).2.1 (ex_fd x y).2.2.1)) = true := h
    rw [Bool.and_eq_true] at h
    refine ⟨fun r hr => ?_, ex_inb_s h.2⟩
    have h1 := h.1
    rw [hr] at h1
    exact Nat.blt_eq.mp h1
  | putfield i =>
    have h : (match ex_cl[x]? with
      | some r => Nat.blt y r.2.2 && ex_inb (zs.getD 0 0) (Jvm.Cond.fieldLink own i (r.2.1 y).1 (r.2.1 y).2.1 (r.2.1 y).2.2.1) && (!(r.2.1 y).2.2.2 || (decide (mn = "<init>") && decide ((r.2.1 y).1 = own)))
      | none => false) = true := h
    cases hr : ex_cl[x]? with
    | none => rw [hr] at h; cases h
    | some r =>
      rw [hr] at h
      simp only [Bool.and_eq_true, Bool.or_eq_true, Bool.not_eq_true'] at h
      refine ⟨r, hr, Nat.blt_eq.mp h.1.1, ex_inb_s h.1.2, ?_⟩
      cases hf : (r.2.1 y).2.2.2 with
      | false => exact Or.inl rfl
      | true =>
        rcases h.2 with h2 | h2
        · rw [hf] at h2; cases h2
        · exact Or.inr ⟨rfl, of_decide_eq_true h2.1, of_decide_eq_true h2.2⟩
  | getstatic i =>
    obtain ⟨q, hq, h1⟩ := List.any_eq_true.mp (show g.2.2.2.any (fun q => ex_inb (zs.getD 0 0) (Jvm.Cond.fieldLink own i q.1 q.2.1 q.2.2.1) && decide (q.2.2.2 = (bif Nat.beq y 0 then Value.int (Int32.ofNat x) else bif Nat.beq y 1 then Value.ref x else Value.retAddr 0))) = true from h)
    rw [Bool.and_eq_true] at h1
    exact ⟨q, hq, ex_inb_s h1.1, of_decide_eq_true h1.2⟩
  | new i =>
    have h : (match ex_cl[x]? with
      | some r => ex_inb (zs.getD 0 0) (Jvm.Cond.classLink own i r.1) && ex_inb (zs.getD 1 0) (Jvm.Cond.instantiable r.1 r.2.2) && ex_inb (zs.getD 2 0) (Jvm.Cond.initialized r.1)
      | none => false) = true := h
    cases hr : ex_cl[x]? with
    | none => rw [hr] at h; cases h
    | some r =>
      rw [hr] at h
      simp only [Bool.and_eq_true] at h
      exact ⟨r, hr, ex_inb_s h.1.1, ex_inb_s h.1.2, ex_inb_s h.2⟩
  | newarray t => exact ex_inb_s h
  | anewarray i => exact ex_inb_s h
  | invokevirtual i =>
    have h : (match P x with
      | some M => decide (M.1.cls = ex_cn z) && ex_inb (zs.getD 0 0) (Jvm.Cond.methodLink own i M.1) && ex_inb (zs.getD 1 0) (Jvm.Cond.instanceMethod M.1) && ex_inb (zs.getD 2 0) (Jvm.Cond.selects M.1.cls M.1 M.1) && decide ((parseMethodDescriptor M.1.desc).map (fun d => d.parameters.length) = some y)
      | none => false) = true := h
    cases hr : P x with
    | none => rw [hr] at h; cases h
    | some M =>
      rw [hr] at h
      simp only [Bool.and_eq_true] at h
      exact ⟨M, hr, of_decide_eq_true h.1.1.1.1, ex_inb_s h.1.1.1.2, ex_inb_s h.1.1.2, ex_inb_s h.1.2, of_decide_eq_true h.2⟩
  | invokespecial i =>
    have h : (bif Nat.beq x 1000000 then ex_inb (zs.getD 0 0) (Jvm.Cond.methodLink own i objectInit) && ex_inb (zs.getD 1 0) (Jvm.Cond.instanceMethod objectInit) && ex_inb (zs.getD 2 0) (Jvm.Cond.code objectInit ⟨#[0xb1]⟩ 1 none) else
      (match P x with
      | some M => decide (M.1.name = "<init>") && decide (M.2.2.2.1 = none) && ex_inb (zs.getD 0 0) (Jvm.Cond.methodLink own i M.1) && ex_inb (zs.getD 1 0) (Jvm.Cond.instanceMethod M.1) && decide ((parseMethodDescriptor M.1.desc).map (fun d => d.parameters.length) = some y)
      | none => false)) = true := h
    by_cases hx : x = 1000000
    · subst hx
      rw [show Nat.beq 1000000 1000000 = true from rfl] at h
      simp only [cond_true, Bool.and_eq_true] at h
      exact Or.inl ⟨rfl, ex_inb_s h.1.1, ex_inb_s h.1.2, ex_inb_s h.2⟩
    · rw [ex_nb hx] at h
      simp only [cond_false] at h
      cases hr : P x with
      | none => rw [hr] at h; cases h
      | some M =>
        rw [hr] at h
        simp only [Bool.and_eq_true] at h
        exact Or.inr ⟨hx, M, hr, of_decide_eq_true h.1.1.1.1, of_decide_eq_true h.1.1.1.2, ex_inb_s h.1.1.2, ex_inb_s h.1.2, of_decide_eq_true h.2⟩
  | invokestatic i =>
    have h : (bif Nat.beq x 1000000 then ex_inb (zs.getD 0 0) (Jvm.Cond.methodLink own i arraycopyName) && ex_inb (zs.getD 1 0) (Jvm.Cond.native arraycopyName) && ex_inb (zs.getD 2 0) (Jvm.Cond.static arraycopyName) && ex_inb (zs.getD 3 0) (Jvm.Cond.initialized "java/lang/System") else
      bif Nat.beq x 1000001 then ex_inb (zs.getD 0 0) (Jvm.Cond.methodLink own i Lib.Math.max.name) && ex_inb (zs.getD 1 0) (Jvm.Cond.static Lib.Math.max.name) && ex_inb (zs.getD 2 0) (Jvm.Cond.initialized "java/lang/Math") && ex_inb (zs.getD 3 0) (Jvm.Cond.code Lib.Math.max.name Lib.Math.max.code 2 (some .int)) else
      bif Nat.beq x 1000002 then ex_inb (zs.getD 0 0) (Jvm.Cond.methodLink own i Lib.Math.min.name) && ex_inb (zs.getD 1 0) (Jvm.Cond.static Lib.Math.min.name) && ex_inb (zs.getD 2 0) (Jvm.Cond.initialized "java/lang/Math") && ex_inb (zs.getD 3 0) (Jvm.Cond.code Lib.Math.min.name Lib.Math.min.code 2 (some .int)) else
      Nat.blt x 1000000 && (match P x with
      | some M => ex_inb (zs.getD 0 0) (Jvm.Cond.methodLink own i M.1) && ex_inb (zs.getD 1 0) (Jvm.Cond.static M.1) && decide ((parseMethodDescriptor M.1.desc).map (fun d => d.parameters.length) = some y)
      | none => false)) = true := h
    by_cases hx : x = 1000000
    · subst hx
      rw [show Nat.beq 1000000 1000000 = true from rfl] at h
      simp only [cond_true, Bool.and_eq_true] at h
      exact Or.inl ⟨rfl, ex_inb_s h.1.1.1, ex_inb_s h.1.1.2, ex_inb_s h.1.2, ex_inb_s h.2⟩
    · rw [ex_nb hx] at h
      simp only [cond_false] at h
      by_cases hx1 : x = 1000001
      · subst hx1
        rw [show Nat.beq 1000001 1000001 = true from rfl] at h
        simp only [cond_true, Bool.and_eq_true] at h
        exact Or.inr (Or.inl ⟨rfl, ex_inb_s h.1.1.1, ex_inb_s h.1.1.2, ex_inb_s h.1.2, ex_inb_s h.2⟩)
      · rw [ex_nb hx1] at h
        simp only [cond_false] at h
        by_cases hx2 : x = 1000002
        · subst hx2
          rw [show Nat.beq 1000002 1000002 = true from rfl] at h
          simp only [cond_true, Bool.and_eq_true] at h
          exact Or.inr (Or.inr (Or.inl ⟨rfl, ex_inb_s h.1.1.1, ex_inb_s h.1.1.2, ex_inb_s h.1.2, ex_inb_s h.2⟩))
        · rw [ex_nb hx2] at h
          simp only [cond_false, Bool.and_eq_true] at h
          cases hr : P x with
          | none => rw [hr] at h; cases h.2
          | some M =>
            rw [hr] at h
            simp only [Bool.and_eq_true] at h
            exact Or.inr (Or.inr (Or.inr ⟨Nat.blt_eq.mp h.1, M, hr, ex_inb_s h.2.1.1, ex_inb_s h.2.1.2, of_decide_eq_true h.2.2⟩))
  | _ => exact trivial
/-- all instructions of a method, with the places of the words that they rest on -/
noncomputable def ex_chk (g : ex_G) (P : Nat → Option ex_M) (own mn : String) (cc : ByteArray) (cd : List (List (Option ex_I))) (zt : List (Nat × List Nat)) : Bool :=
  (List.range cd.length).all (fun q => (List.range 16).all (fun j => match ex_cd cd (16 * q + j) with
    | none => true
    | some e => ex_decb cc (16 * q + j) e && ex_lkb g P own mn (16 * q + j) ((zt.lookup (16 * q + j)).getD []) e))
theorem ex_chk_s {g : ex_G} {P : Nat → Option ex_M} {own mn : String} {cc : ByteArray} {cd : List (List (Option ex_I))} {zt : List (Nat × List Nat)} (h : ex_chk g P own mn cc cd zt = true) : ∀ (pc : Nat) (e : ex_I), ex_cd cd pc = some e → ex_dec cc pc e ∧ ex_lk g P own mn pc e := by
  intro pc e he
  have hq : pc / 16 < cd.length := by
    unfold ex_cd at he
    rw [ex_nth_eq] at he
    cases hr : cd[Nat.div pc 16]? with
    | none => rw [hr] at he; cases he
    | some r => exact (List.getElem?_eq_some_iff.mp hr).1
  have h1 := List.all_eq_true.mp (List.all_eq_true.mp h (pc / 16) (List.mem_range.mpr hq)) (pc % 16) (List.mem_range.mpr (Nat.mod_lt _ (by decide)))
  rw [Nat.div_add_mod, he] at h1
  simp only [Bool.and_eq_true] at h1
  exact ⟨ex_decb_s h1.1, ex_lkb_s h1.2⟩
/-- a code word of the tables, by its place (the bytes are compared by name) -/
theorem ex_cw {y : MethodName} {b : ByteArray} {n : Nat} {r : Option FieldType} {l : List Jvm.Cond} (c j : Nat) (h1 : ex_nth ex_tabs c = some l) (h2 : ex_nth l j = some (Jvm.Cond.code y b n r)) : Jvm.Cond.code y b n r ∈ ex_wall := by
  rw [ex_nth_eq] at h1 h2
  exact List.mem_filter.mpr ⟨ex_tabs_in l (List.mem_of_getElem? h1) _ (List.mem_of_getElem? h2), rfl⟩
/-- a method's own row -/
noncomputable def ex_chkM (g : ex_G) (P : Nat → Option ex_M) (M : ex_M) (zt : List (Nat × List Nat)) (ci : Nat) : Bool :=
  plainName M.1.cls && decide (M.1.cls ≠ "java/lang/invoke/MethodHandle") && decide (M.1.cls ≠ "java/lang/invoke/VarHandle") && ex_inb ci (Jvm.Cond.initialized M.1.cls) && Nat.ble M.2.2.1 41 && ex_chk g P M.1.cls M.1.name M.2.1 M.2.2.2.2 zt
theorem ex_chkM_s {g : ex_G} {P : Nat → Option ex_M} {M : ex_M} {zt : List (Nat × List Nat)} {ci : Nat} (hw : Jvm.Cond.code M.1 M.2.1 M.2.2.1 M.2.2.2.1 ∈ ex_wall) (h : ex_chkM g P M zt ci = true) : ex_okM g P M := by
  unfold ex_chkM at h
  simp only [Bool.and_eq_true] at h
  obtain ⟨⟨⟨⟨⟨h1, h2⟩, h3⟩, h4⟩, h6⟩, h7⟩ := h
  exact ⟨h1, ⟨of_decide_eq_true h2, of_decide_eq_true h3⟩, ex_inb_s h4, hw, Nat.le_of_ble_eq_true h6, ex_chk_s h7⟩
/-- a long method in pieces -/
noncomputable def ex_chkR (g : ex_G) (P : Nat → Option ex_M) (own mn : String) (cc : ByteArray) (cd : List (List (Option ex_I))) (zt : List (Nat × List Nat)) (a n : Nat) : Bool :=
  (List.range n).all (fun q => (List.range 16).all (fun j => match ex_cd cd (16 * (a + q) + j) with
    | none => true
    | some e => ex_decb cc (16 * (a + q) + j) e && ex_lkb g P own mn (16 * (a + q) + j) ((zt.lookup (16 * (a + q) + j)).getD []) e))
theorem ex_chkR_s {g : ex_G} {P : Nat → Option ex_M} {own mn : String} {cc : ByteArray} {cd : List (List (Option ex_I))} {zt : List (Nat × List Nat)} {a n : Nat} (h : ex_chkR g P own mn cc cd zt a n = true) : ∀ (pc : Nat) (e : ex_I), a ≤ pc / 16 → pc / 16 < a + n → ex_cd cd pc = some e → ex_dec cc pc e ∧ ex_lk g P own mn pc e := by
  intro pc e h1 h2 he
  have h3 := List.all_eq_true.mp (List.all_eq_true.mp h (pc / 16 - a) (List.mem_range.mpr (by omega))) (pc % 16) (List.mem_range.mpr (Nat.mod_lt _ (by decide)))
  rw [show a + (pc / 16 - a) = pc / 16 by omega, Nat.div_add_mod, he] at h3
  simp only [Bool.and_eq_true] at h3
  exact ⟨ex_decb_s h3.1, ex_lkb_s h3.2⟩
theorem ex_cd_lt {cd : List (List (Option ex_I))} {pc : Nat} {e : ex_I} (he : ex_cd cd pc = some e) : pc / 16 < cd.length := by
  unfold ex_cd at he
  rw [ex_nth_eq] at he
  cases hr : cd[Nat.div pc 16]? with
  | none => rw [hr] at he; cases he
  | some r => exact (List.getElem?_eq_some_iff.mp hr).1
end
section
/-! ===== the rows of the methods hold (by program) ===== -/
theorem ex_ck0 : ex_okM ex_g0 ex_P0 ex_m0 := ex_chkM_s (zt := [(1, [3084, 1028, 1029]), (6, [3085]), (11, [3087]), (16, [1143]), (19, [3086])]) (ci := 1015) (ex_cw 3 83 rfl rfl) (by decide +kernel)
theorem ex_ck1 : ex_okM ex_g0 ex_P0 ex_m1 := ex_chkM_s (zt := [(1, [2039, 1028, 1029]), (6, [2092]), (10, [2040, 2041, 1010]), (14, [2042, 2043]), (17, [2093]), (24, [1130]), (26, [2094]), (33, [1130]), (35, [2095]), (40, [1204]), (42, [2096]), (47, [1131]), (49, [2097]), (54, [2094]), (57, [2099])]) (ci := 1009) (ex_cw 2 38 rfl rfl) (by decide +kernel)
theorem ex_ck2 : ex_okM ex_g0 ex_P0 ex_m2 := ex_chkM_s (zt := [(1, [2045, 1028, 1029]), (8, [1131]), (10, [2046]), (16, [1131]), (18, [2047]), (25, [1131]), (27, [2048]), (33, [1131]), (35, [2049]), (41, [1131]), (43, [2050]), (49, [1131]), (51, [2051]), (56, [1130]), (58, [2052]), (63, [2052]), (66, [2055])]) (ci := 1010) (ex_cw 2 44 rfl rfl) (by decide +kernel)
theorem ex_ck3 : ex_okM ex_g0 ex_P0 ex_m3 := ex_chkM_s (zt := [(1, [2180, 1028, 1029]), (6, [2185]), (11, [2187]), (16, [2188]), (21, [1145]), (24, [2186]), (31, [1130]), (33, [2181]), (40, [1131]), (42, [2189]), (49, [1131]), (51, [2190]), (58, [1131]), (60, [2191])]) (ci := 1012) (ex_cw 2 179 rfl rfl) (by decide +kernel)
theorem ex_ck4 : ex_okM ex_g0 ex_P0 ex_m4 := ex_chkM_s (zt := [(6, [2181]), (10, [4003, 4004, 1019, 4005]), (13, [4003, 4004, 1019, 4005]), (16, [4006, 4007, 1019, 4008]), (19, [2183]), (25, [2181]), (30, [2183]), (33, [4009, 4011, 4010, 1020]), (37, [2186]), (40, [4012, 4013, 4014]), (44, [2187]), (47, [4016, 4017, 4018]), (52, [2192]), (56, [2185]), (60, [4020, 4021, 4022]), (64, [2185]), (68, [2181]), (73, [2183]), (76, [4028, 4029, 4030]), (83, [4035, 4037, 1]), (92, [2185]), (96, [2185]), (99, [1215]), (102, [4040, 4041, 4042]), (119, [2185]), (124, [2185]), (127, [1215]), (130, [4045, 4046, 4047]), (146, [2185]), (151, [2183]), (154, [4045, 4046, 4047]), (159, [2185]), (166, [4039, 1043, 1044]), (170, [1215])]) (ci := 1012) (ex_cw 4 2 rfl rfl) (by decide +kernel)
theorem ex_ck5 : ex_okM ex_g0 ex_P0 ex_m5 := ex_chkM_s (zt := [(4, [4039, 1043, 1044]), (11, [2185]), (15, [2185]), (18, [1215]), (21, [4040, 4041, 4042]), (26, [4044, 1053, 1054]), (33, [2185]), (38, [2185]), (41, [1215]), (44, [4045, 4046, 4047]), (51, [2185]), (55, [1215]), (60, [1215])]) (ci := 1012) (ex_cw 4 38 rfl rfl) (by decide +kernel)
theorem ex_ck6 : ex_okM ex_g0 ex_P0 ex_m6 := ex_chkM_s (zt := [(1, [3016, 1028, 1029]), (6, [3020]), (11, [3022]), (16, [1142]), (19, [3021]), (23, [3017, 1206, 1008]), (28, [3021]), (31, [3018, 1208]), (34, [3023]), (38, [3019]), (40, [1130]), (42, [3024]), (48, [1131]), (50, [3025]), (57, [1131]), (59, [3026]), (65, [1131]), (67, [3027]), (73, [1131]), (75, [3028]), (81, [1131]), (83, [3029]), (89, [1131]), (91, [3030]), (98, [1131]), (100, [3031]), (106, [1131]), (108, [3032]), (115, [1131]), (117, [3033])]) (ci := 1014) (ex_cw 3 15 rfl rfl) (by decide +kernel)
theorem ex_ck7 : ex_okM ex_g0 ex_P0 ex_m7 := ex_chkM_s (zt := [(2, [3038])]) (ci := 1014) (ex_cw 3 238 rfl rfl) (by decide +kernel)
theorem ex_ck8 : ex_okM ex_g0 ex_P0 ex_m8 := ex_chkM_s (zt := [(1, [1210, 1028, 1029]), (6, [1211]), (11, [1098]), (14, [1212]), (19, [1130]), (21, [1213])]) (ci := 1008) (ex_cw 1 209 rfl rfl) (by decide +kernel)
theorem ex_ck9 : ex_okM ex_g0 ex_P0 ex_m9 := ex_chkM_s (zt := [(2, [1214]), (10, [1219]), (18, [1213]), (26, [1213])]) (ci := 1008) (ex_cw 4 43 rfl rfl) (by decide +kernel)
theorem ex_ck10 : ex_okM ex_g0 ex_P0 ex_m10 := ex_chkM_s (zt := [(2, [1211]), (5, [1102]), (8, [1227]), (13, [1211]), (16, [1108]), (19, [1228])]) (ci := 1008) (ex_cw 4 27 rfl rfl) (by decide +kernel)
theorem ex_ck11 : ex_okM ex_g0 ex_P0 ex_m11 := ex_chkM_s (zt := [(1, [1221]), (9, [1221]), (14, [1224])]) (ci := 1008) (ex_cw 4 48 rfl rfl) (by decide +kernel)
theorem ex_ck12 : ex_okM ex_g0 ex_P0 ex_m12 := ex_chkM_s (zt := [(2, [1213]), (10, [4032, 4004, 1019, 4005]), (13, [4033, 4007, 1019, 4008]), (16, [1219]), (23, [1219]), (26, [4032, 4004, 1019, 4005]), (29, [4033, 4007, 1019, 4008]), (32, [1214]), (37, [1214]), (40, [1216]), (45, [1230])]) (ci := 1008) (ex_cw 4 31 rfl rfl) (by decide +kernel)
theorem ex_ck13 : ex_okM ex_g0 ex_P0 ex_m13 := ex_chkM_s (zt := [(2, [1221]), (7, [1224]), (12, [1229]), (16, [4024, 4025, 4026])]) (ci := 1008) (ex_cw 4 23 rfl rfl) (by decide +kernel)
theorem ex_ck14 : ex_okM ex_g0 ex_P0 ex_m14 := ex_chkM_s (zt := [(1, [2129, 1028, 1029]), (6, [2130]), (11, [2132]), (16, [2133]), (21, [1144]), (24, [2131]), (30, [1131]), (32, [2134]), (37, [1131]), (39, [2135])]) (ci := 1011) (ex_cw 2 128 rfl rfl) (by decide +kernel)
theorem ex_ck15 : ex_okM ex_g0 ex_P0 ex_m15 := ex_chkM_s (zt := [(2, [2136]), (7, [2138]), (12, [2144])]) (ci := 1011) (ex_cw 4 88 rfl rfl) (by decide +kernel)
theorem ex_ck16 : ex_okM ex_g0 ex_P0 ex_m16 := ex_chkM_s (zt := [(1, [1035, 1028, 1029]), (8, [1131]), (10, [1090]), (17, [1131]), (19, [1092]), (26, [1131]), (28, [1094]), (35, [1131]), (37, [1096]), (44, [1131]), (46, [1097]), (50, [1036]), (52, [1130]), (54, [1099]), (61, [1107]), (68, [1037, 1038, 1039]), (79, [1042, 1043, 1044]), (95, [1052, 1053, 1054]), (100, [1099]), (119, [1037, 1038, 1039]), (135, [1101]), (138, [1110])]) (ci := 1002) (ex_cw 1 34 rfl rfl) (by decide +kernel)
theorem ex_ck17 : ex_okM ex_g0 ex_P0 ex_m17 := ex_chkM_s (zt := [(1, [1101]), (8, [1101]), (12, [1090]), (22, [1101]), (29, [1101]), (34, [1101]), (38, [1090]), (46, [1092]), (54, [1094]), (62, [1096]), (70, [1097])]) (ci := 1002) (ex_cw 1 40 rfl rfl) (by decide +kernel)
theorem ex_ck18 : ex_okM ex_g0 ex_P0 ex_m18 := ex_chkM_s (zt := [(2, [1110]), (5, [1101]), (12, [1107])]) (ci := 1002) (ex_cw 4 15 rfl rfl) (by decide +kernel)
theorem ex_ck19 : ex_okM ex_g0 ex_P0 ex_m19 := ex_chkM_s (zt := [(1, [1137, 1028, 1029]), (6, [1139]), (13, [1131]), (15, [1146]), (22, [1131]), (24, [1147]), (31, [1131]), (33, [1148]), (40, [1131]), (42, [1149]), (49, [1131]), (51, [1150]), (58, [1131]), (60, [1151]), (67, [1204]), (69, [1152]), (76, [1204]), (78, [1153]), (82, [1138]), (84, [1130]), (86, [1154])]) (ci := 1007) (ex_cw 1 136 rfl rfl) (by decide +kernel)
theorem ex_ck20 : ex_okM ex_g0 ex_P0 ex_m20 := ex_chkM_s (zt := [(10, [1146]), (17, [1149]), (24, [1150]), (31, [1151]), (38, [1152]), (45, [1153]), (58, [1146]), (66, [1157]), (73, [1158]), (78, [1165]), (83, [1168])]) (ci := 1007) (ex_cw 4 19 rfl rfl) (by decide +kernel)
theorem ex_ck21 : ex_okM ex_g0 ex_P0 ex_m21 := ex_chkM_s (zt := [(1, [2219, 1028, 1029]), (6, [2220]), (11, [2221]), (16, [1141]), (19, [2222]), (25, [1131]), (27, [2223]), (34, [1131]), (36, [2224]), (43, [1204]), (45, [2225]), (50, [1130]), (52, [2226])]) (ci := 1013) (ex_cw 2 218 rfl rfl) (by decide +kernel)
theorem ex_ck22 : ex_okM ex_g0 ex_P0 ex_m22 := ex_chkM_s (zt := [(1, [3100, 1028, 1029]), (6, [3104]), (11, [1140]), (14, [3105]), (21, [1130]), (23, [3106]), (30, [1131]), (32, [3112]), (39, [1131]), (41, [3113]), (48, [1131]), (50, [3114]), (57, [1130]), (59, [3116]), (66, [1130]), (68, [3117]), (75, [1131]), (77, [3121]), (84, [1131]), (86, [3122]), (90, [3121]), (94, [3101, 3102])]) (ci := 1016) (ex_cw 3 99 rfl rfl) (by decide +kernel)
theorem ex_ck23 : ex_okM ex_g0 ex_P0 ex_m23 := ex_chkM_s (zt := [(7, [5203, 4007, 1019, 4008]), (37, [5204]), (45, [5204])]) (ci := 1016) (ex_cw 5 202 rfl rfl) (by decide +kernel)
theorem ex_ck24 : ex_okM ex_g0 ex_P0 ex_m24 := ex_chkM_s (zt := [(6, [3108]), (14, [3106]), (22, [3106])]) (ci := 1016) (ex_cw 9 87 rfl rfl) (by decide +kernel)
theorem ex_ck25 : ex_okM ex_g0 ex_P0 ex_m25 := ex_chkM_s (zt := [(2, [3108]), (7, [3110])]) (ci := 1016) (ex_cw 8 143 rfl rfl) (by decide +kernel)
theorem ex_ck26 : ex_okM ex_g0 ex_P0 ex_m26 := ex_chkM_s (zt := [(1, [1027, 1028, 1029]), (8, [1130]), (10, [3161]), (14, [1030, 1031, 1002]), (18, [1032, 1033]), (21, [3163]), (25, [1132, 1133, 1007]), (30, [3163]), (33, [1134, 1135]), (36, [3164]), (40, [1205, 1206, 1008]), (45, [3163]), (48, [1207, 1208]), (51, [3165]), (54, [2034, 2035, 1009]), (59, [3163]), (62, [2036, 2037]), (67, [2124, 2125, 1011]), (72, [3165]), (76, [3164]), (80, [2126, 2127]), (83, [3166]), (87, [2175, 2176, 1012]), (92, [3165]), (96, [3164]), (100, [2177, 2178]), (103, [3167]), (107, [2214, 2215, 1013]), (112, [3165]), (116, [3164]), (119, [2216, 2217]), (122, [3168]), (126, [3011, 3012, 1014]), (131, [3164]), (135, [3168]), (138, [3013, 3014]), (141, [3169]), (145, [3079, 3080, 1015]), (150, [3164]), (154, [3168]), (157, [3081, 3082]), (160, [3170]), (164, [3095, 3096, 1016]), (169, [3164]), (172, [3097, 3098]), (175, [3171]), (181, [1131]), (183, [3172]), (188, [3173]), (193, [3177]), (198, [3179])]) (ci := 1001) (ex_cw 1 26 rfl rfl) (by decide +kernel)
theorem ex_ck27 : ex_okM ex_g0 ex_P0 ex_m27 := ex_chkM_s (zt := [(1, [3162]), (7, [3162]), (11, [3175]), (19, [3170]), (24, [3161])]) (ci := 1001) (ex_cw 8 113 rfl rfl) (by decide +kernel)
theorem ex_ck28 : ex_okM ex_g0 ex_P0 ex_m28 := ex_chkM_s (zt := [(1, [3175]), (53, [3164]), (56, [1159]), (61, [3164]), (64, [1167]), (69, [3164]), (72, [1172]), (77, [3166]), (80, [2137]), (85, [3166]), (88, [2145]), (101, [3166]), (109, [3164])]) (ci := 1001) (ex_cw 7 31 rfl rfl) (by decide +kernel)
theorem ex_ck29 : ex_okM ex_g0 ex_P0 ex_m29 := ex_chkM_s (zt := [(6, [3162]), (15, [3162]), (23, [3162])]) (ci := 1001) (ex_cw 3 230 rfl rfl) (by decide +kernel)
theorem ex_ck30 : ex_okM ex_g0 ex_P0 ex_m30 := ex_chkM_s (zt := [(1, [3175]), (8, [3164])]) (ci := 1001) (ex_cw 7 23 rfl rfl) (by decide +kernel)
theorem ex_ck31 : ex_okM ex_g0 ex_P0 ex_m31 := ex_chkM_s (zt := [(1, [3175]), (9, [3170])]) (ci := 1001) (ex_cw 8 75 rfl rfl) (by decide +kernel)
theorem ex_ck32 : ex_okM ex_g0 ex_P0 ex_m32 := ex_chkM_s (zt := [(1, [6223, 6225, 62]), (8, [3173]), (19, [3163]), (23, [3172]), (27, [3173]), (44, [3173]), (49, [3173]), (53, [3172]), (57, [3173])]) (ci := 1001) (ex_cw 6 231 rfl rfl) (by decide +kernel)
theorem ex_ck33 : ex_okM ex_g0 ex_P0 ex_m33 := ex_chkM_s (zt := [(33, [3176]), (38, [3177]), (43, [3178]), (48, [3179])]) (ci := 1001) (ex_cw 6 203 rfl rfl) (by decide +kernel)
theorem ex_ck34 : ex_okM ex_g0 ex_P0 ex_m34 := ex_chkM_s (zt := [(1, [3162]), (17, [3223, 3225, 0]), (22, [3223, 3225, 0]), (27, [3223, 3225, 0]), (33, [3223, 3225, 0]), (39, [3223, 3225, 0]), (43, [3162])]) (ci := 1001) (ex_cw 3 222 rfl rfl) (by decide +kernel)
theorem ex_ck35 : ex_okM ex_g0 ex_P0 ex_m35 := ex_chkM_s (zt := [(1, [3175]), (8, [3169])]) (ci := 1001) (ex_cw 7 222 rfl rfl) (by decide +kernel)
end
section
/-! ===== the rows of the methods hold (by program) ===== -/
theorem ex_ck36 : ex_okM ex_g0 ex_P0 ex_m36 := ex_chkM_s (zt := [(2, [3173]), (6, [3175]), (13, [3164]), (27, [3173]), (32, [3174]), (36, [3172]), (41, [3164])]) (ci := 1001) (ex_cw 6 212 rfl rfl) (by decide +kernel)
theorem ex_ck37 : ex_okM ex_g0 ex_P0 ex_m37 := ex_chkM_s (zt := [(1, [6223, 6225, 62]), (84, [3163]), (114, [3163]), (133, [3163]), (147, [3163]), (157, [7009, 4007, 1019, 4008])]) (ci := 1001) (ex_cw 7 0 rfl rfl) (by decide +kernel)
theorem ex_ck38 : ex_okM ex_g0 ex_P0 ex_m38 := ex_chkM_s (zt := [(1, [3162]), (7, [3162]), (11, [3175]), (19, [3170]), (24, [3161])]) (ci := 1001) (ex_cw 8 126 rfl rfl) (by decide +kernel)
theorem ex_ck39 : ex_okM ex_g0 ex_P0 ex_m39 := ex_chkM_s (zt := [(1, [3175]), (9, [3170])]) (ci := 1001) (ex_cw 7 230 rfl rfl) (by decide +kernel)
theorem ex_ck40 : ex_okM ex_g0 ex_P0 ex_m40 := ex_chkM_s (zt := [(1, [3175]), (8, [3173]), (15, [3173]), (19, [3172])]) (ci := 1001) (ex_cw 6 226 rfl rfl) (by decide +kernel)
theorem ex_ck41 : ex_okM ex_g0 ex_P0 ex_m41 := ex_chkM_s (zt := [(8, [3162]), (15, [3162]), (19, [3161]), (27, [3161]), (31, [3162]), (41, [3162]), (46, [3162])]) (ci := 1001) (ex_cw 3 226 rfl rfl) (by decide +kernel)
theorem ex_ck42 : ex_okM ex_g0 ex_P0 ex_m42 := ex_chkM_s (zt := [(1, [6223, 6225, 62]), (10, [3163])]) (ci := 1001) (ex_cw 7 13 rfl rfl) (by decide +kernel)
theorem ex_ck43 : ex_okM ex_g0 ex_P0 ex_m43 := ex_chkM_s (zt := [(2, [3173]), (7, [3178]), (12, [3179]), (16, [3169]), (19, [3235, 3236, 3237]), (23, [3167]), (27, [3161]), (31, [3162]), (34, [3239, 4000, 4001]), (40, [3162]), (44, [3166]), (47, [4085, 4086, 4087]), (63, [3166]), (68, [3167]), (71, [2182]), (85, [3163]), (88, [1104]), (93, [3165]), (96, [1223]), (113, [3164]), (117, [3163]), (121, [3166]), (124, [2139]), (151, [3167]), (165, [3167]), (175, [3167]), (189, [3167]), (198, [3165]), (201, [1223]), (230, [3165]), (233, [1223]), (240, [3164]), (244, [3166]), (247, [2141]), (251, [3166]), (254, [2143]), (261, [3164]), (266, [3163]), (269, [1104]), (276, [3168]), (280, [3166]), (283, [2139]), (291, [3165]), (294, [1223]), (297, [3176]), (302, [3176]), (313, [3175]), (318, [3175]), (329, [3165]), (332, [1226]), (335, [3177]), (339, [3175]), (346, [3168]), (349, [2229]), (358, [3176])]) (ci := 1001) (ex_cw 3 234 rfl rfl) (by decide +kernel)
theorem ex_ck44 : ex_okM ex_g0 ex_P0 ex_m44 := ex_chkM_s (zt := [(1, [3171]), (4, [8140, 8141, 8142]), (8, [3175]), (15, [3171]), (19, [3167]), (22, [2182]), (26, [3167]), (29, [2184]), (33, [3166]), (40, [3166]), (43, [2145])]) (ci := 1001) (ex_cw 9 78 rfl rfl) (by decide +kernel)
theorem ex_ck45 : ex_okM ex_g0 ex_P0 ex_m45 := ex_chkM_s (zt := [(1, [3175]), (9, [3170])]) (ci := 1001) (ex_cw 8 92 rfl rfl) (by decide +kernel)
theorem ex_ck46 : ex_okM ex_g0 ex_P0 ex_m46 := ex_chkM_s (zt := [(1, [3175]), (15, [3164]), (18, [1159]), (25, [3164])]) (ci := 1001) (ex_cw 6 207 rfl rfl) (by decide +kernel)
theorem ex_ck47 : ex_okM ex_g0 ex_P0 ex_m47 := ex_chkM_s (zt := [(1, [3171]), (5, [9126, 9085, 9086])]) (ci := 1001) (ex_cw 9 125 rfl rfl) (by decide +kernel)
theorem ex_ck48 : ex_okM ex_g0 ex_P0 ex_m48 := ex_chkM_s (zt := [(1, [3171]), (4, [3109])]) (ci := 1001) (ex_cw 9 121 rfl rfl) (by decide +kernel)
theorem ex_ck49 : ex_okM ex_g0 ex_P0 ex_m49 := ex_chkM_s (zt := [(1, [3175]), (10, [3168]), (23, [3168]), (79, [3164]), (83, [3168]), (98, [3163]), (102, [3164]), (106, [3163]), (125, [3163]), (129, [3164]), (133, [3168]), (150, [3168])]) (ci := 1001) (ex_cw 7 51 rfl rfl) (by decide +kernel)
theorem ex_ck50 : ex_okM ex_g0 ex_P0 ex_m50 := ex_chkM_s (zt := [(1, [3175]), (8, [3168]), (11, [2229])]) (ci := 1001) (ex_cw 7 47 rfl rfl) (by decide +kernel)
theorem ex_ck51 : ex_okM ex_g0 ex_P0 ex_m51 := ex_chkM_s (zt := [(1, [3175]), (8, [3168]), (21, [3169]), (25, [3168]), (37, [3169]), (43, [3178]), (48, [3178]), (59, [3169]), (65, [3179]), (69, [3178]), (76, [3169]), (79, [3039]), (88, [3178])]) (ci := 1001) (ex_cw 7 75 rfl rfl) (by decide +kernel)
theorem ex_ck52 : ex_okM ex_g0 ex_P0 ex_m52 := ex_chkM_s (zt := [(1, [3175]), (8, [3164]), (19, [3164])]) (ci := 1001) (ex_cw 7 18 rfl rfl) (by decide +kernel)
theorem ex_ck53 : ex_okM ex_g0 ex_P0 ex_m53 := ex_chkM_s (zt := [(1, [3171]), (4, [3107]), (9, [3171]), (12, [3109]), (15, [9131, 5201])]) (ci := 1001) (ex_cw 9 130 rfl rfl) (by decide +kernel)
theorem ex_ck54 : ex_okM ex_g0 ex_P0 ex_m54 := ex_chkM_s (zt := [(1, [3171]), (4, [3109]), (17, [3162]), (24, [3171]), (27, [3109]), (35, [3161]), (43, [3161]), (48, [3171]), (52, [9126, 9085, 9086]), (59, [3162]), (64, [3162]), (74, [3162])]) (ci := 1001) (ex_cw 9 135 rfl rfl) (by decide +kernel)
theorem ex_ck55 : ex_okM ex_g0 ex_P0 ex_m55 := ex_chkM_s (zt := [(1, [3175]), (9, [3170])]) (ci := 1001) (ex_cw 8 105 rfl rfl) (by decide +kernel)
theorem ex_ck56 : ex_okM ex_g0 ex_P0 ex_m56 := ex_chkM_s (zt := [(1, [6223, 6225, 62]), (8, [3173]), (18, [3173]), (23, [3173]), (27, [3173])]) (ci := 1001) (ex_cw 6 236 rfl rfl) (by decide +kernel)
theorem ex_ck57 : ex_okM ex_g0 ex_P0 ex_m57 := ex_chkM_s (zt := [(1, [3171]), (4, [8140, 8141, 8142]), (8, [3175]), (15, [3171])]) (ci := 1001) (ex_cw 8 139 rfl rfl) (by decide +kernel)
theorem ex_ck59 : ex_okM ex_g0 ex_P0 ex_m59 := ex_chkM_s (zt := [(23, [12138]), (31, [12138])]) (ci := 1018) (ex_cw 12 137 rfl rfl) (by decide +kernel)
theorem ex_ck60 : ex_okM ex_g0 ex_P0 ex_m60 := ex_chkM_s (zt := [(2, [9199]), (9, [9198])]) (ci := 1018) (ex_cw 11 105 rfl rfl) (by decide +kernel)
theorem ex_ck61 : ex_okM ex_g0 ex_P0 ex_m61 := ex_chkM_s (zt := [(1, [9197]), (7, [9197]), (12, [13101, 13103, 209]), (29, [10023]), (34, [9142]), (54, [10010]), (61, [10011]), (66, [9230]), (71, [10012]), (87, [9229]), (91, [9230]), (98, [9196]), (113, [9230]), (118, [9230]), (123, [10023]), (128, [10023]), (133, [10008]), (137, [10041]), (156, [10041]), (166, [10044])]) (ci := 1018) (ex_cw 14 104 rfl rfl) (by decide +kernel)
theorem ex_ck62 : ex_okM ex_g0 ex_P0 ex_m62 := ex_chkM_s (zt := [(1, [9202]), (15, [10016]), (23, [10013]), (89, [10016]), (94, [10037]), (99, [10038]), (104, [10017]), (109, [10019]), (122, [10018])]) (ci := 1018) (ex_cw 13 92 rfl rfl) (by decide +kernel)
theorem ex_ck63 : ex_okM ex_g0 ex_P0 ex_m63 := ex_chkM_s (zt := [(6, [9197]), (15, [9197]), (23, [9197])]) (ci := 1018) (ex_cw 11 92 rfl rfl) (by decide +kernel)
theorem ex_ck64 : ex_okM ex_g0 ex_P0 ex_m64 := ex_chkM_s (zt := [(2, [13057, 13059, 207]), (9, [10010]), (23, [10012]), (32, [9229]), (36, [10011])]) (ci := 1018) (ex_cw 13 88 rfl rfl) (by decide +kernel)
theorem ex_ck65 : ex_okM ex_g0 ex_P0 ex_m65 := ex_chkM_s (zt := [(2, [13101, 13103, 209]), (17, [10040])]) (ci := 1018) (ex_cw 14 84 rfl rfl) (by decide +kernel)
theorem ex_ck66 : ex_okM ex_g0 ex_P0 ex_m66 := ex_chkM_s (zt := [(1, [10044]), (8, [10044]), (23, [9203]), (27, [10046]), (31, [10044]), (51, [9206]), (55, [10046]), (59, [10044]), (70, [9207]), (74, [10046]), (78, [10044]), (94, [9208]), (108, [10044]), (113, [10044]), (117, [10046]), (121, [10044])]) (ci := 1018) (ex_cw 13 68 rfl rfl) (by decide +kernel)
theorem ex_ck67 : ex_okM ex_g0 ex_P0 ex_m67 := ex_chkM_s (zt := [(1, [9223]), (9, [9223]), (14, [9224])]) (ci := 1018) (ex_cw 11 110 rfl rfl) (by decide +kernel)
theorem ex_ck68 : ex_okM ex_g0 ex_P0 ex_m68 := ex_chkM_s (zt := [(5, [10024]), (17, [10025]), (29, [10026]), (41, [10027])]) (ci := 1018) (ex_cw 13 48 rfl rfl) (by decide +kernel)
theorem ex_ck69 : ex_okM ex_g0 ex_P0 ex_m69 := ex_chkM_s (zt := [(1, [9197]), (17, [11085, 11087, 124]), (22, [11085, 11087, 124]), (27, [11085, 11087, 124]), (33, [11085, 11087, 124]), (39, [11085, 11087, 124]), (43, [9197])]) (ci := 1018) (ex_cw 11 84 rfl rfl) (by decide +kernel)
theorem ex_ck70 : ex_okM ex_g0 ex_P0 ex_m70 := ex_chkM_s (zt := [(6, [10060]), (22, [10061])]) (ci := 1018) (ex_cw 14 28 rfl rfl) (by decide +kernel)
theorem ex_ck71 : ex_okM ex_g0 ex_P0 ex_m71 := ex_chkM_s (zt := [(2, [10044]), (7, [13057, 13059, 207]), (17, [10044]), (22, [10045]), (26, [10046]), (31, [10008])]) (ci := 1018) (ex_cw 13 56 rfl rfl) (by decide +kernel)
end
section
/-! ===== the rows of the methods hold (by program) ===== -/
theorem ex_ck72 : ex_okM ex_g0 ex_P0 ex_m72 := ex_chkM_s (zt := [(1, [9223])]) (ci := 1018) (ex_cw 11 136 rfl rfl) (by decide +kernel)
theorem ex_ck73 : ex_okM ex_g0 ex_P0 ex_m73 := ex_chkM_s (zt := [(1, [10044]), (19, [10046]), (23, [10044]), (66, [9203]), (76, [9203]), (86, [9203]), (97, [9204]), (108, [9203]), (118, [9203]), (129, [9206]), (140, [9203]), (151, [9205]), (162, [10044]), (173, [9210])]) (ci := 1018) (ex_cw 13 76 rfl rfl) (by decide +kernel)
theorem ex_ck74 : ex_okM ex_g0 ex_P0 ex_m74 := ex_chkM_s (zt := [(1, [9197]), (7, [9197]), (11, [9202]), (34, [10038]), (53, [10038]), (71, [10038]), (112, [10008]), (116, [10038]), (130, [9207]), (135, [14113]), (146, [9206]), (163, [9212]), (167, [9207]), (177, [9196]), (192, [10038]), (200, [10044]), (204, [10038])]) (ci := 1018) (ex_cw 14 108 rfl rfl) (by decide +kernel)
theorem ex_ck75 : ex_okM ex_g0 ex_P0 ex_m75 := ex_chkM_s (zt := [(1, [9202]), (13, [10040]), (44, [10040])]) (ci := 1018) (ex_cw 14 32 rfl rfl) (by decide +kernel)
theorem ex_ck76 : ex_okM ex_g0 ex_P0 ex_m76 := ex_chkM_s (zt := [(1, [9202]), (13, [10016]), (20, [10004])]) (ci := 1018) (ex_cw 13 60 rfl rfl) (by decide +kernel)
theorem ex_ck77 : ex_okM ex_g0 ex_P0 ex_m77 := ex_chkM_s (zt := [(1, [9202]), (13, [10040])]) (ci := 1018) (ex_cw 13 104 rfl rfl) (by decide +kernel)
theorem ex_ck78 : ex_okM ex_g0 ex_P0 ex_m78 := ex_chkM_s (zt := [(8, [9196]), (12, [9197]), (22, [9197]), (27, [9197])]) (ci := 1018) (ex_cw 11 88 rfl rfl) (by decide +kernel)
theorem ex_ck79 : ex_okM ex_g0 ex_P0 ex_m79 := ex_chkM_s (zt := [(1, [10044]), (10, [10046]), (14, [10044]), (20, [9203]), (30, [9203]), (51, [9209]), (60, [9207]), (72, [10044]), (83, [9210]), (97, [9206]), (119, [9212])]) (ci := 1018) (ex_cw 13 80 rfl rfl) (by decide +kernel)
theorem ex_ck80 : ex_okM ex_g0 ex_P0 ex_m80 := ex_chkM_s (zt := [(1, [9197]), (7, [9197]), (18, [9198]), (23, [9196]), (37, [9199]), (42, [9202]), (47, [10044]), (52, [10060]), (57, [9211]), (62, [9213]), (67, [9230]), (72, [10023]), (77, [9225]), (84, [9226]), (89, [9227]), (94, [9228]), (99, [9223]), (104, [9224]), (109, [10040]), (113, [11097, 11099, 125]), (120, [10016]), (127, [11133, 11135, 130]), (134, [10004]), (143, [10009]), (163, [11133, 11135, 130]), (175, [9223]), (178, [10024]), (183, [11133, 11135, 130]), (194, [9224]), (197, [10025]), (202, [10026]), (207, [10027]), (211, [11133, 11135, 130]), (219, [10040]), (225, [9223]), (240, [10014]), (247, [10015]), (261, [10020]), (271, [10016]), (278, [10004]), (288, [10008]), (304, [9202]), (308, [10040])]) (ci := 1018) (ex_cw 11 96 rfl rfl) (by decide +kernel)
theorem ex_ck81 : ex_okM ex_g0 ex_P0 ex_m81 := ex_chkM_s (zt := [(2, [9201]), (6, [9202]), (13, [10019]), (33, [10065]), (40, [9199]), (48, [9198]), (63, [9199]), (70, [9198]), (74, [9199]), (95, [10016]), (102, [10013]), (111, [10069]), (116, [9201]), (138, [9201]), (143, [10019])]) (ci := 1018) (ex_cw 14 232 rfl rfl) (by decide +kernel)
theorem ex_ck82 : ex_okM ex_g0 ex_P0 ex_m82 := ex_chkM_s (zt := [(2, [13101, 13103, 209]), (14, [10040]), (25, [10041])]) (ci := 1018) (ex_cw 14 92 rfl rfl) (by decide +kernel)
theorem ex_ck83 : ex_okM ex_g0 ex_P0 ex_m83 := ex_chkM_s (zt := [(1, [9202]), (15, [10016]), (23, [10004])]) (ci := 1018) (ex_cw 13 52 rfl rfl) (by decide +kernel)
theorem ex_ck84 : ex_okM ex_g0 ex_P0 ex_m84 := ex_chkM_s (zt := [(6, [9201]), (13, [9200])]) (ci := 1018) (ex_cw 15 30 rfl rfl) (by decide +kernel)
theorem ex_ck85 : ex_okM ex_g0 ex_P0 ex_m85 := ex_chkM_s (zt := [(1, [9201])]) (ci := 1018) (ex_cw 15 26 rfl rfl) (by decide +kernel)
theorem ex_ck86 : ex_okM ex_g0 ex_P0 ex_m86 := ex_chkM_s (zt := [(1, [9202]), (11, [13101, 13103, 209]), (30, [10041]), (48, [9207]), (72, [9208]), (122, [9204])]) (ci := 1018) (ex_cw 13 100 rfl rfl) (by decide +kernel)
theorem ex_ck87 : ex_okM ex_g0 ex_P0 ex_m87 := ex_chkM_s (zt := [(1, [9202]), (8, [10040])]) (ci := 1018) (ex_cw 13 96 rfl rfl) (by decide +kernel)
theorem ex_ck88 : ex_okM ex_g0 ex_P0 ex_m88 := ex_chkM_s (zt := [(10, [10004]), (17, [10007]), (24, [10009]), (31, [10010]), (38, [10013]), (45, [10008]), (59, [10016]), (64, [10017]), (81, [11102, 11104, 126]), (94, [11106, 1053, 1054]), (119, [9199]), (130, [9199]), (133, [11107, 11109, 127]), (144, [9199]), (179, [9199]), (182, [11107, 11109, 127]), (196, [11133, 11135, 130])]) (ci := 1018) (ex_cw 11 100 rfl rfl) (by decide +kernel)
theorem ex_ck89 : ex_okM ex_g0 ex_P0 ex_m89 := ex_chkM_s (zt := [(2, [13101, 13103, 209]), (12, [10041]), (22, [10041]), (46, [10008]), (60, [10063]), (64, [9211]), (69, [9213]), (76, [9223]), (81, [9224]), (86, [9225]), (91, [9228]), (96, [10060]), (101, [10050]), (106, [10058]), (111, [10059]), (115, [10051]), (132, [10056]), (146, [10056]), (154, [10047]), (159, [10048]), (170, [11133, 11135, 130]), (177, [9218]), (184, [9218]), (223, [9219]), (226, [10062]), (235, [10050]), (240, [9225]), (245, [9211]), (251, [9213]), (258, [10050]), (270, [9219]), (273, [11107, 11109, 127]), (288, [11133, 11135, 130]), (295, [10049]), (299, [10050]), (307, [10050]), (312, [10050]), (316, [11133, 11135, 130]), (330, [10059]), (337, [10058]), (347, [10048]), (350, [11107, 11109, 127]), (355, [9211]), (361, [9213]), (366, [9223]), (369, [10026]), (374, [11133, 11135, 130]), (385, [9224]), (388, [10027]), (392, [11133, 11135, 130]), (400, [10060]), (406, [9223]), (412, [10060])]) (ci := 1018) (ex_cw 13 113 rfl rfl) (by decide +kernel)
theorem ex_ck90 : ex_okM ex_g0 ex_P0 ex_m90 := ex_chkM_s (zt := [(2, [13057, 13059, 207]), (9, [10010]), (18, [10012])]) (ci := 1018) (ex_cw 13 84 rfl rfl) (by decide +kernel)
theorem ex_ck91 : ex_okM ex_g0 ex_P0 ex_m91 := ex_chkM_s (zt := [(1, [9200]), (5, [9201]), (8, [12135, 12136])]) (ci := 1018) (ex_cw 15 34 rfl rfl) (by decide +kernel)
theorem ex_ck92 : ex_okM ex_g0 ex_P0 ex_m92 := ex_chkM_s (zt := [(1, [9201]), (16, [9201]), (23, [9196]), (28, [9200]), (42, [9201]), (45, [9197]), (49, [9201])]) (ci := 1018) (ex_cw 15 38 rfl rfl) (by decide +kernel)
theorem ex_ck93 : ex_okM ex_g0 ex_P0 ex_m93 := ex_chkM_s (zt := [(2, [13101, 13103, 209]), (33, [10008]), (37, [10041]), (55, [10041]), (65, [10044])]) (ci := 1018) (ex_cw 14 100 rfl rfl) (by decide +kernel)
theorem ex_ck94 : ex_okM ex_g0 ex_P0 ex_m94 := ex_chkM_s (zt := [(1, [10044]), (12, [10044]), (17, [10044]), (21, [10044])]) (ci := 1018) (ex_cw 13 72 rfl rfl) (by decide +kernel)
theorem ex_ck95 : ex_okM ex_g0 ex_P0 ex_m95 := ex_chkM_s (zt := [(2, [9201]), (6, [9202]), (16, [10065]), (21, [10068]), (34, [10066]), (55, [10037]), (63, [10038]), (71, [10038]), (82, [10068]), (89, [10069]), (94, [9201]), (100, [10067]), (119, [9201]), (132, [10068]), (152, [10068]), (160, [10069]), (185, [10068]), (202, [10038]), (217, [10066]), (221, [10038])]) (ci := 1018) (ex_cw 14 117 rfl rfl) (by decide +kernel)
theorem ex_ck96 : ex_okM ex_g0 ex_P0 ex_m96 := ex_chkM_s (zt := [(1, [1056, 1057, 1058]), (8, [15041]), (12, [1060, 1061]), (17, [15041])]) (ci := 1003) (ex_cw 1 55 rfl rfl) (by decide +kernel)
theorem ex_ck97 : ex_okM ex_g0 ex_P0 ex_m97 := ex_chkM_s (zt := [(2, [1066]), (5, [1068, 1069])]) (ci := 1003) (ex_cw 1 65 rfl rfl) (by decide +kernel)
theorem ex_ck98 : ex_okM ex_g0 ex_P0 ex_m98 := ex_chkM_s (zt := [(0, [1050]), (7, [15042])]) (ci := 1003) (ex_cw 1 49 rfl rfl) (by decide +kernel)
theorem ex_ck99 : ex_okM ex_g0 ex_P0 ex_m99 := ex_chkM_s (zt := [(0, [1050]), (7, [15042])]) (ci := 1003) (ex_cw 1 59 rfl rfl) (by decide +kernel)
theorem ex_ck100 : ex_okM ex_g0 ex_P0 ex_m100 := ex_chkM_s (zt := [(1, [15041]), (6, [1046, 1047, 1048])]) (ci := 1003) (ex_cw 1 45 rfl rfl) (by decide +kernel)
theorem ex_ck101 : ex_okM ex_g0 ex_P0 ex_m101 := ex_chkM_s (zt := [(3, [1063, 1064])]) (ci := 1004) (ex_cw 1 62 rfl rfl) (by decide +kernel)
theorem ex_ck102 : ex_okM ex_g0 ex_P0 ex_m102 := ex_chkM_s (zt := []) (ci := 1017) (ex_cw 3 103 rfl rfl) (by decide +kernel)
theorem ex_ck103 : ex_okM ex_g0 ex_P0 ex_m103 := ex_chkM_s (zt := []) (ci := 1005) (ex_cw 1 70 rfl rfl) (by decide +kernel)
end
section
/-! ===== the rows of the constructor of the reference (by program) ===== -/
def ex_z58 : List (Nat × List Nat) := [(1, [9141, 1028, 1029]), (8, [1130]), (10, [9196]), (17, [1130]), (19, [9198]), (26, [1130]), (28, [9200]), (32, [9142]), (34, [1130]), (36, [9203]), (40, [9142]), (42, [1131]), (44, [9204]), (48, [9142]), (50, [1131]), (52, [9205]), (56, [9142]), (58, [1131]), (60, [9206]), (64, [9142]), (66, [1131]), (68, [9207]), (72, [9142]), (74, [1131]), (76, [9208]), (80, [9142]), (82, [1131]), (84, [9209]), (88, [9142]), (90, [1131]), (92, [9210]), (96, [9143]), (98, [1130]), (100, [9212]), (104, [9144]), (106, [1130]), (108, [9229]), (115, [1130]), (117, [9231]), (124, [1130]), (126, [9232]), (133, [1131]), (135, [9237]), (141, [1131]), (143, [9238]), (150, [1131]), (152, [9239]), (158, [1131]), (160, [10000]), (166, [1131]), (168, [10001]), (174, [1131]), (176, [10002]), (183, [1131]), (185, [10003]), (192, [1130]), (194, [10004]), (201, [11080]), (203, [10005]), (210, [11080]), (212, [10006]), (219, [1204]), (221, [10007]), (228, [1131]), (230, [10008]), (237, [1130]), (239, [10009]), (246, [1204]), (248, [10010]), (255, [1131]), (257, [10011]), (264, [1131]), (266, [10012]), (273, [1204]), (275, [10013]), (282, [1204]), (284, [10014]), (291, [1204]), (293, [10015]), (299, [11080]), (301, [10018]), (308, [1130]), (310, [10028]), (317, [11080]), (319, [10029]), (326, [11080]), (328, [10030]), (333, [1131]), (335, [10032]), (341, [1131]), (343, [10041]), (350, [1131]), (352, [10042]), (359, [1204]), (361, [10043]), (366, [10044]), (372, [1131]), (374, [10046]), (378, [9145]), (380, [1130]), (382, [10047]), (388, [1131]), (390, [10049]), (396, [1131]), (398, [10051]), (404, [1131]), (406, [10052]), (412, [1131]), (414, [10053]), (420, [1131]), (422, [10054]), (428, [11080]), (430, [10055]), (436, [1131]), (438, [10056]), (445, [1131]), (447, [10057]), (454, [1131]), (456, [10061]), (462, [9146, 9147]), (751, [10064]), (758, [1131]), (760, [10066]), (767, [1131]), (769, [10067]), (776, [1131]), (778, [10069]), (782, [9195]), (785, [1130]), (787, [10070]), (794, [1131]), (796, [10073]), (800, [9144]), (802, [1131]), (804, [10074]), (811, [1130]), (813, [10075]), (818, [9202]), (823, [10025]), (828, [10027])]
theorem ex_ck58_0 : ex_chkR ex_g0 ex_P0 "PaperHouseModel" "<init>" ex_m58.2.1 ex_m58.2.2.2.2 ex_z58 0 5 = true := by decide +kernel
theorem ex_ck58_5 : ex_chkR ex_g0 ex_P0 "PaperHouseModel" "<init>" ex_m58.2.1 ex_m58.2.2.2.2 ex_z58 5 5 = true := by decide +kernel
theorem ex_ck58_10 : ex_chkR ex_g0 ex_P0 "PaperHouseModel" "<init>" ex_m58.2.1 ex_m58.2.2.2.2 ex_z58 10 5 = true := by decide +kernel
theorem ex_ck58_15 : ex_chkR ex_g0 ex_P0 "PaperHouseModel" "<init>" ex_m58.2.1 ex_m58.2.2.2.2 ex_z58 15 5 = true := by decide +kernel
theorem ex_ck58_20 : ex_chkR ex_g0 ex_P0 "PaperHouseModel" "<init>" ex_m58.2.1 ex_m58.2.2.2.2 ex_z58 20 5 = true := by decide +kernel
theorem ex_ck58_25 : ex_chkR ex_g0 ex_P0 "PaperHouseModel" "<init>" ex_m58.2.1 ex_m58.2.2.2.2 ex_z58 25 5 = true := by decide +kernel
end
section
/-! ===== the rows of the constructor of the reference (by program) ===== -/
theorem ex_ck58_30 : ex_chkR ex_g0 ex_P0 "PaperHouseModel" "<init>" ex_m58.2.1 ex_m58.2.2.2.2 ex_z58 30 5 = true := by decide +kernel
theorem ex_ck58_35 : ex_chkR ex_g0 ex_P0 "PaperHouseModel" "<init>" ex_m58.2.1 ex_m58.2.2.2.2 ex_z58 35 5 = true := by decide +kernel
theorem ex_ck58_40 : ex_chkR ex_g0 ex_P0 "PaperHouseModel" "<init>" ex_m58.2.1 ex_m58.2.2.2.2 ex_z58 40 5 = true := by decide +kernel
theorem ex_ck58_45 : ex_chkR ex_g0 ex_P0 "PaperHouseModel" "<init>" ex_m58.2.1 ex_m58.2.2.2.2 ex_z58 45 5 = true := by decide +kernel
theorem ex_ck58_50 : ex_chkR ex_g0 ex_P0 "PaperHouseModel" "<init>" ex_m58.2.1 ex_m58.2.2.2.2 ex_z58 50 2 = true := by decide +kernel
theorem ex_ck58_x : ex_chkM ex_g0 ex_P0 (ex_m58.1, ex_m58.2.1, ex_m58.2.2.1, ex_m58.2.2.2.1, []) [] 1018 = true := by decide +kernel
theorem ex_ck58 : ex_okM ex_g0 ex_P0 ex_m58 := by
  obtain ⟨h1, h2, h3, h4, h5, -⟩ := ex_chkM_s (M := (ex_m58.1, ex_m58.2.1, ex_m58.2.2.1, ex_m58.2.2.2.1, [])) (ex_cw 9 140 rfl rfl) ex_ck58_x
  refine ⟨h1, h2, h3, h4, h5, fun pc e he => ?_⟩
  have hl : pc / 16 < 52 := ex_cd_lt he
  by_cases q0 : pc / 16 < 5
  · exact ex_chkR_s ex_ck58_0 pc e (by omega) q0 he
  by_cases q1 : pc / 16 < 10
  · exact ex_chkR_s ex_ck58_5 pc e (by omega) q1 he
  by_cases q2 : pc / 16 < 15
  · exact ex_chkR_s ex_ck58_10 pc e (by omega) q2 he
  by_cases q3 : pc / 16 < 20
  · exact ex_chkR_s ex_ck58_15 pc e (by omega) q3 he
  by_cases q4 : pc / 16 < 25
  · exact ex_chkR_s ex_ck58_20 pc e (by omega) q4 he
  by_cases q5 : pc / 16 < 30
  · exact ex_chkR_s ex_ck58_25 pc e (by omega) q5 he
  by_cases q6 : pc / 16 < 35
  · exact ex_chkR_s ex_ck58_30 pc e (by omega) q6 he
  by_cases q7 : pc / 16 < 40
  · exact ex_chkR_s ex_ck58_35 pc e (by omega) q7 he
  by_cases q8 : pc / 16 < 45
  · exact ex_chkR_s ex_ck58_40 pc e (by omega) q8 he
  by_cases q9 : pc / 16 < 50
  · exact ex_chkR_s ex_ck58_45 pc e (by omega) q9 he
  exact ex_chkR_s ex_ck58_50 pc e (by omega) (by omega) he
end
section
/-! ===== what a heap looks like, its arrays' contents apart ===== -/
abbrev ex_Pt : Type := (Nat × List Value) ⊕ (Nat × Nat × Nat)
abbrev ex_Ct : Type := (Nat → Int32) × (Nat → Int64) × (Nat → Option Nat)
def ex_veq1 (a b : Value) : Bool := match a, b with
  | .int x, .int y => Nat.beq (ex_v x) (ex_v y)
  | .long x, .long y => Nat.beq x.toUInt64.toBitVec.toFin.val y.toUInt64.toBitVec.toFin.val
  | .ref x, .ref y => Nat.beq x y
  | .null, .null => true
  | _, _ => false
def ex_veq : List Value → List Value → Bool
  | [], [] => true
  | a :: l, b :: r => ex_veq1 a b && ex_veq l r
  | _, _ => false
def ex_like1 (c : ex_C) (p : ex_Pt) : Bool := match c, p with
  | .inl (ci, fs), .inl (cj, gs) => Nat.beq ci cj && ex_veq fs gs
  | .inr (t, n, .inl _), .inr (u, k, 0) => Nat.beq t u && Nat.beq n k
  | .inr (t, n, .inr (.inl _)), .inr (u, k, 1) => Nat.beq t u && Nat.beq n k
  | .inr (t, n, .inr (.inr (.inr (.inr _)))), .inr (u, k, 2) => Nat.beq t u && Nat.beq n k
  | _, _ => false
def ex_like : List ex_C → List ex_Pt → Bool
  | [], [] => true
  | c :: l, p :: r => ex_like1 c p && ex_like l r
  | _, _ => false
def ex_cell (p : ex_Pt) (c : ex_Ct) : ex_C := match p with
  | .inl o => .inl o
  | .inr (t, n, 0) => .inr (t, n, .inl c.1)
  | .inr (t, n, 1) => .inr (t, n, .inr (.inl c.2.1))
  | .inr (t, n, _) => .inr (t, n, .inr (.inr (.inr (.inr c.2.2))))
def ex_fill : List ex_Pt → (Nat → ex_Ct) → List ex_C
  | [], _ => []
  | p :: r, c => ex_cell p (c 0) :: ex_fill r (fun j => c (j + 1))
theorem ex_veq1_s {a b : Value} (h : ex_veq1 a b = true) : a = b := by
  unfold ex_veq1 at h
  split at h
  · rw [ex_v_inj.mp (Nat.eq_of_beq_eq_true h)]
  · rename_i x y
    have h1 := Nat.eq_of_beq_eq_true h
    congr 1
    obtain ⟨⟨⟨x⟩⟩⟩ := x
    obtain ⟨⟨⟨y⟩⟩⟩ := y
    have h2 : x = y := Fin.eq_of_val_eq h1
    rw [h2]
  · rw [Nat.eq_of_beq_eq_true h]
  · rfl
  · cases h
theorem ex_veq_s : ∀ {a b : List Value}, ex_veq a b = true → a = b := by
  intro a
  induction a with
  | nil =>
    intro b h
    cases b with
    | nil => rfl
    | cons b r => cases h
  | cons x l ih =>
    intro b h
    cases b with
    | nil => cases h
    | cons b r =>
      have h : (ex_veq1 x b && ex_veq l r) = true := h
      rw [Bool.and_eq_true] at h
      rw [ex_veq1_s h.1, ih h.2]
theorem ex_like1_s {c : ex_C} {p : ex_Pt} (h : ex_like1 c p = true) : ∃ k, c = ex_cell p k := by
  unfold ex_like1 at h
  split at h
  · rw [Bool.and_eq_true] at h
    rw [Nat.eq_of_beq_eq_true h.1, ex_veq_s h.2]
    exact ⟨(fun _ => 0, fun _ => 0, fun _ => none), rfl⟩
  · rename_i t n f u k
    rw [Bool.and_eq_true] at h
    rw [Nat.eq_of_beq_eq_true h.1, Nat.eq_of_beq_eq_true h.2]
    exact ⟨(f, fun _ => 0, fun _ => none), rfl⟩
  · rename_i t n f u k
    rw [Bool.and_eq_true] at h
    rw [Nat.eq_of_beq_eq_true h.1, Nat.eq_of_beq_eq_true h.2]
    exact ⟨(fun _ => 0, f, fun _ => none), rfl⟩
  · rename_i t n f u k
    rw [Bool.and_eq_true] at h
    rw [Nat.eq_of_beq_eq_true h.1, Nat.eq_of_beq_eq_true h.2]
    exact ⟨(fun _ => 0, fun _ => 0, f), rfl⟩
  · cases h
theorem ex_like_s : ∀ {l : List ex_C} {p : List ex_Pt}, ex_like l p = true → ∃ k, l = ex_fill p k := by
  intro l
  induction l with
  | nil =>
    intro p h
    cases p with
    | nil => exact ⟨fun _ => (fun _ => 0, fun _ => 0, fun _ => none), rfl⟩
    | cons b r => cases h
  | cons x l ih =>
    intro p h
    cases p with
    | nil => cases h
    | cons b r =>
      have h : (ex_like1 x b && ex_like l r) = true := h
      rw [Bool.and_eq_true] at h
      obtain ⟨k1, e1⟩ := ex_like1_s h.1
      obtain ⟨k2, e2⟩ := ih h.2
      refine ⟨fun j => match j with | 0 => k1 | j + 1 => k2 j, ?_⟩
      rw [e1, e2]
      rfl
/-- a run that ends without an answer, and leaves what looks so -/
noncomputable def ex_ends (r : Option (Option Value × ex_H)) (p : List ex_Pt) (n : Nat) : Bool := match r with
  | some (none, h) => ex_like h.1 p && Nat.beq h.2 n
  | _ => false
theorem ex_ends_s {r : Option (Option Value × ex_H)} {p : List ex_Pt} {n : Nat} (h : ex_ends r p n = true) : ∃ k, r = some (none, (ex_fill p k, n)) := by
  unfold ex_ends at h
  split at h
  · rename_i h0
    rw [Bool.and_eq_true] at h
    obtain ⟨k, e⟩ := ex_like_s h.1
    refine ⟨k, ?_⟩
    rw [← e, ← Nat.eq_of_beq_eq_true h.2]
  · cases h

def ex_pA : List ex_Pt := [.inl (11, [.ref 149, .int 0, .ref 150, .ref 157, .ref 167, .ref 182, .ref 185, .ref 190, .ref 195, .ref 208, .ref 209, .ref 218, .int (-1), .int 0, .int 0, .int 0, .int (-1), .int 0, .int (-1)]),
  .inr (1, 8000, 0),
  .inl (7, [.ref 151, .ref 152, .ref 153, .ref 154, .ref 155, .ref 156, .int 41, .int 8512, .int 41]),
  .inr (0, 16564, 0),
  .inr (0, 16564, 0),
  .inr (0, 16564, 0),
  .inr (0, 16564, 0),
  .inr (0, 16564, 0),
  .inr (1, 108612, 0),
  .inl (8, [.ref 150, .ref 158, .ref 159, .ref 160, .ref 161, .ref 162, .ref 163, .ref 164, .ref 165, .ref 166, .int 0, .int 0, .int 0, .int 0, .int 0]),
  .inr (0, 200, 0),
  .inr (0, 200, 0),
  .inr (0, 200, 0),
  .inr (0, 200, 0),
  .inr (0, 200, 0),
  .inr (0, 200, 0),
  .inr (2, 200, 0),
  .inr (2, 200, 0),
  .inr (1, 40000, 0),
  .inl (5, [.ref 150, .ref 156, .ref 168, .int 0, .int 0, .int 0, .int 0, .int 0, .int 0, .int 0, .int 0, .int 0, .int 0, .int 0, .int 0, .int 0, .int 0, .int 0]),
  .inr (1, 0, 0),
  .inl (1, [.ref 150, .ref 170, .ref 178, .ref 179, .ref 180, .ref 181, .int 0, .ref 178, .int 0]),
  .inl (2, [.ref 171, .ref 172, .ref 173, .ref 174, .ref 175, .ref 176, .ref 177, .int 0, .int 0, .ref 177, .int 0, .int 0, .int 0, .int 0, .int 0]),
  .inr (0, 320, 0),
  .inr (0, 16, 0),
  .inr (0, 288, 0),
  .inr (0, 16, 0),
  .inr (0, 32, 0),
  .inr (0, 16, 0),
  .inr (1, 0, 0),
  .inr (1, 8000, 0),
  .inr (1, 8000, 0),
  .inr (2, 3, 0),
  .inr (0, 3, 0),
  .inl (6, [.ref 167, .ref 150, .ref 157, .ref 169, .ref 183, .ref 184, .int 0, .int 0, .int 0, .int 0, .int 0, .int 0, .int 0]),
  .inr (0, 10, 0),
  .inr (0, 3, 0),
  .inl (3, [.ref 186, .int 0, .ref 167, .ref 150, .ref 157, .ref 169, .ref 187, .ref 188, .ref 189, .int 0]),
  .inr (1, 8000, 0),
  .inr (0, 200, 0),
  .inr (0, 200, 0),
  .inr (0, 200, 0),
  .inl (9, [.ref 167, .ref 157, .ref 150, .ref 191, .ref 192, .ref 193, .ref 194, .int 0, .int 0]),
  .inr (0, 60, 0),
  .inr (0, 200, 0),
  .inr (2, 200, 0),
  .inr (1, 0, 0),
  .inl (4, [.ref 157, .ref 150, .ref 190, .ref 196, .ref 198, .ref 199, .ref 200, .ref 201, .ref 202, .ref 203, .ref 204, .ref 205, .ref 206, .ref 207, .int 0, .int 0, .int 0, .int 0, .int 0]),
  .inl (5, [.ref 150, .ref 156, .ref 197, .int 0, .int 0, .int 0, .int 0, .int 0, .int 0, .int 0, .int 0, .int 0, .int 0, .int 0, .int 0, .int 0, .int 0, .int 0]),
  .inr (1, 0, 0),
  .inr (1, 40000, 0),
  .inr (0, 12, 0),
  .inr (0, 240, 0),
  .inr (0, 6, 0),
  .inr (0, 6, 0),
  .inr (0, 6, 0),
  .inr (0, 6, 0),
  .inr (0, 256, 0),
  .inr (0, 40, 0),
  .inr (0, 7500, 0),
  .inl (0, [.ref 157, .ref 150, .ref 190]),
  .inl (10, [.ref 157, .ref 150, .ref 210, .int 0, .int 0, .int 0, .ref 211, .ref 212, .ref 213, .int 0, .ref 214, .ref 215, .int 0, .int 0, .int 0, .ref 216, .ref 217, .int 0]),
  .inr (1, 30000, 0),
  .inr (0, 200, 0),
  .inr (0, 200, 0),
  .inr (0, 200, 0),
  .inr (1, 1400, 0),
  .inr (1, 9216, 0),
  .inr (0, 4096, 0),
  .inr (0, 8000, 0),
  .inr (0, 25, 0)]
def ex_pB : List ex_Pt := [.inl (11, [.ref 149, .int 0, .ref 150, .ref 157, .ref 167, .ref 182, .ref 185, .ref 190, .ref 195, .ref 208, .ref 209, .ref 218, .int (-1), .int 0, .int 0, .int 0, .int (-1), .int 0, .int (-1)]),
  .inr (1, 8000, 0),
  .inl (7, [.ref 151, .ref 152, .ref 153, .ref 154, .ref 155, .ref 156, .int 41, .int 8512, .int 41]),
  .inr (0, 16564, 0),
  .inr (0, 16564, 0),
  .inr (0, 16564, 0),
  .inr (0, 16564, 0),
  .inr (0, 16564, 0),
  .inr (1, 108612, 0),
  .inl (8, [.ref 150, .ref 158, .ref 159, .ref 160, .ref 161, .ref 162, .ref 163, .ref 164, .ref 165, .ref 166, .int 0, .int 0, .int 0, .int 0, .int 0]),
  .inr (0, 200, 0),
  .inr (0, 200, 0),
  .inr (0, 200, 0),
  .inr (0, 200, 0),
  .inr (0, 200, 0),
  .inr (0, 200, 0),
  .inr (2, 200, 0),
  .inr (2, 200, 0),
  .inr (1, 40000, 0),
  .inl (5, [.ref 150, .ref 156, .ref 168, .int 0, .int 0, .int 0, .int 0, .int 0, .int 0, .int 0, .int 0, .int 0, .int 0, .int 0, .int 0, .int 0, .int 0, .int 0]),
  .inr (1, 0, 0),
  .inl (1, [.ref 150, .ref 170, .ref 178, .ref 179, .ref 180, .ref 181, .int 0, .ref 178, .int 0]),
  .inl (2, [.ref 171, .ref 172, .ref 173, .ref 174, .ref 175, .ref 176, .ref 177, .int 0, .int 0, .ref 177, .int 0, .int 0, .int 0, .int 0, .int 0]),
  .inr (0, 320, 0),
  .inr (0, 16, 0),
  .inr (0, 288, 0),
  .inr (0, 16, 0),
  .inr (0, 32, 0),
  .inr (0, 16, 0),
  .inr (1, 0, 0),
  .inr (1, 8000, 0),
  .inr (1, 8000, 0),
  .inr (2, 3, 0),
  .inr (0, 3, 0),
  .inl (6, [.ref 167, .ref 150, .ref 157, .ref 169, .ref 183, .ref 184, .int 0, .int 0, .int 0, .int 0, .int 0, .int 0, .int 0]),
  .inr (0, 10, 0),
  .inr (0, 3, 0),
  .inl (3, [.ref 186, .int 0, .ref 167, .ref 150, .ref 157, .ref 169, .ref 187, .ref 188, .ref 189, .int 0]),
  .inr (1, 8000, 0),
  .inr (0, 200, 0),
  .inr (0, 200, 0),
  .inr (0, 200, 0),
  .inl (9, [.ref 167, .ref 157, .ref 150, .ref 191, .ref 192, .ref 193, .ref 194, .int 0, .int 0]),
  .inr (0, 60, 0),
  .inr (0, 200, 0),
  .inr (2, 200, 0),
  .inr (1, 0, 0),
  .inl (4, [.ref 157, .ref 150, .ref 190, .ref 196, .ref 198, .ref 199, .ref 200, .ref 201, .ref 202, .ref 203, .ref 204, .ref 205, .ref 206, .ref 207, .int 0, .int 0, .int 0, .int 0, .int 0]),
  .inl (5, [.ref 150, .ref 156, .ref 197, .int 0, .int 0, .int 0, .int 0, .int 0, .int 0, .int 0, .int 0, .int 0, .int 0, .int 0, .int 0, .int 0, .int 0, .int 0]),
  .inr (1, 0, 0),
  .inr (1, 40000, 0),
  .inr (0, 12, 0),
  .inr (0, 240, 0),
  .inr (0, 6, 0),
  .inr (0, 6, 0),
  .inr (0, 6, 0),
  .inr (0, 6, 0),
  .inr (0, 256, 0),
  .inr (0, 40, 0),
  .inr (0, 7500, 0),
  .inl (0, [.ref 157, .ref 150, .ref 190]),
  .inl (10, [.ref 157, .ref 150, .ref 210, .int 0, .int 0, .int 0, .ref 211, .ref 212, .ref 213, .int 0, .ref 214, .ref 215, .int 0, .int 0, .int 0, .ref 216, .ref 217, .int 0]),
  .inr (1, 30000, 0),
  .inr (0, 200, 0),
  .inr (0, 200, 0),
  .inr (0, 200, 0),
  .inr (1, 1400, 0),
  .inr (1, 9216, 0),
  .inr (0, 4096, 0),
  .inr (0, 8000, 0),
  .inr (0, 25, 0),
  .inl (12, [.ref 220, .int 0, .ref 221, .int 0, .ref 222, .int 0, .int 0, .ref 223, .ref 224, .ref 225, .ref 226, .ref 227, .ref 228, .ref 229, .ref 230, .int 0, .ref 231, .int 0, .null, .int 0, .int 0, .int 0, .int 0, .int 0, .int 0, .int 0, .int 0, .int 0, .int 0, .int 0, .int 0, .int 0, .int 0, .ref 232, .int 0, .ref 233, .ref 234, .int 0, .int 0, .int 0, .int 0, .ref 235, .ref 236, .ref 237, .ref 238, .ref 239, .ref 240, .ref 241, .ref 242, .ref 243, .ref 244, .ref 245, .ref 246, .ref 247, .ref 248, .ref 249, .ref 250, .ref 251, .ref 252, .ref 253, .int 0, .int 0, .ref 254, .int 0, .int 0, .int 0, .int 0, .int 0, .int 0, .int (-1), .int 0, .int (-1), .ref 255, .ref 256, .ref 257, .int 0, .ref 258, .int 0, .long 0, .int 0, .int 0, .int 0, .int 0, .int 0, .int 0, .ref 259, .ref 260, .ref 261, .int (-1), .int 0, .ref 262, .ref 263, .int 0, .ref 264, .int 0, .ref 265, .ref 266, .ref 267, .ref 268, .ref 269, .ref 270, .ref 271, .int 0, .int 0, .int 0, .ref 272, .int 0, .int 0, .ref 273, .int 0, .ref 274, .ref 275, .int 0, .ref 276, .ref 277, .int 0, .int 0, .ref 278, .ref 279, .ref 280, .int 0]),
  .inr (1, 8000, 0),
  .inr (1, 8000, 0),
  .inr (1, 30100, 0),
  .inr (1, 40000, 0),
  .inr (0, 40000, 0),
  .inr (0, 40000, 0),
  .inr (0, 40000, 0),
  .inr (0, 40000, 0),
  .inr (0, 40000, 0),
  .inr (0, 40000, 0),
  .inr (0, 40000, 0),
  .inr (1, 150000, 0),
  .inr (1, 57000, 0),
  .inr (1, 8200, 0),
  .inr (1, 8200, 0),
  .inr (0, 320, 0),
  .inr (0, 16, 0),
  .inr (0, 288, 0),
  .inr (0, 16, 0),
  .inr (0, 32, 0),
  .inr (0, 16, 0),
  .inr (0, 340, 0),
  .inr (1, 200, 0),
  .inr (3, 200, 1),
  .inr (3, 200, 1),
  .inr (2, 200, 0),
  .inr (0, 200, 0),
  .inr (1, 200, 0),
  .inr (2, 200, 0),
  .inr (0, 200, 0),
  .inr (0, 200, 0),
  .inr (2, 200, 0),
  .inr (2, 200, 0),
  .inr (2, 200, 0),
  .inr (3, 12, 1),
  .inr (1, 200, 0),
  .inr (3, 200, 1),
  .inr (3, 200, 1),
  .inr (0, 3, 0),
  .inr (0, 61, 0),
  .inr (0, 200, 0),
  .inr (2, 200, 0),
  .inr (0, 26, 0),
  .inr (1, 40100, 0),
  .inr (0, 40, 0),
  .inr (0, 6, 0),
  .inr (0, 6, 0),
  .inr (0, 6, 0),
  .inr (0, 6, 0),
  .inr (3, 6, 1),
  .inr (0, 9, 0),
  .inr (0, 300, 0),
  .inr (0, 7500, 0),
  .inr (4, 47, 2),
  .inr (0, 200, 0),
  .inr (0, 200, 0),
  .inr (0, 201, 0),
  .inr (1, 50000, 0),
  .inr (0, 4096, 0),
  .inr (0, 57000, 0),
  .inr (1, 1400, 0)]
/-- the class: what its constructor leaves -/
theorem ex_ctorA0 : ex_ends (ex_runF ex_g0 ex_Q0 1000000 20 26 [.ref 148] ([.inl (11, (ex_ft 11).map defaultValue)], 19)) ex_pA 368383 = true := by decide +kernel
end
section
noncomputable def ex_cA : Nat → ex_Ct := Classical.choose (ex_ends_s ex_ctorA0)
noncomputable def ex_hA : List ex_C := [.inl (11, [.ref 149, .int 0, .ref 150, .ref 157, .ref 167, .ref 182, .ref 185, .ref 190, .ref 195, .ref 208, .ref 209, .ref 218, .int (-1), .int 0, .int 0, .int 0, .int (-1), .int 0, .int (-1)]),
  .inr (1, 8000, .inl (ex_cA 1).1),
  .inl (7, [.ref 151, .ref 152, .ref 153, .ref 154, .ref 155, .ref 156, .int 41, .int 8512, .int 41]),
  .inr (0, 16564, .inl (ex_cA 3).1),
  .inr (0, 16564, .inl (ex_cA 4).1),
  .inr (0, 16564, .inl (ex_cA 5).1),
  .inr (0, 16564, .inl (ex_cA 6).1),
  .inr (0, 16564, .inl (ex_cA 7).1),
  .inr (1, 108612, .inl (ex_cA 8).1),
  .inl (8, [.ref 150, .ref 158, .ref 159, .ref 160, .ref 161, .ref 162, .ref 163, .ref 164, .ref 165, .ref 166, .int 0, .int 0, .int 0, .int 0, .int 0]),
  .inr (0, 200, .inl (ex_cA 10).1),
  .inr (0, 200, .inl (ex_cA 11).1),
  .inr (0, 200, .inl (ex_cA 12).1),
  .inr (0, 200, .inl (ex_cA 13).1),
  .inr (0, 200, .inl (ex_cA 14).1),
  .inr (0, 200, .inl (ex_cA 15).1),
  .inr (2, 200, .inl (ex_cA 16).1),
  .inr (2, 200, .inl (ex_cA 17).1),
  .inr (1, 40000, .inl (ex_cA 18).1),
  .inl (5, [.ref 150, .ref 156, .ref 168, .int 0, .int 0, .int 0, .int 0, .int 0, .int 0, .int 0, .int 0, .int 0, .int 0, .int 0, .int 0, .int 0, .int 0, .int 0]),
  .inr (1, 0, .inl (ex_cA 20).1),
  .inl (1, [.ref 150, .ref 170, .ref 178, .ref 179, .ref 180, .ref 181, .int 0, .ref 178, .int 0]),
  .inl (2, [.ref 171, .ref 172, .ref 173, .ref 174, .ref 175, .ref 176, .ref 177, .int 0, .int 0, .ref 177, .int 0, .int 0, .int 0, .int 0, .int 0]),
  .inr (0, 320, .inl (ex_cA 23).1),
  .inr (0, 16, .inl (ex_cA 24).1),
  .inr (0, 288, .inl (ex_cA 25).1),
  .inr (0, 16, .inl (ex_cA 26).1),
  .inr (0, 32, .inl (ex_cA 27).1),
  .inr (0, 16, .inl (ex_cA 28).1),
  .inr (1, 0, .inl (ex_cA 29).1),
  .inr (1, 8000, .inl (ex_cA 30).1),
  .inr (1, 8000, .inl (ex_cA 31).1),
  .inr (2, 3, .inl (ex_cA 32).1),
  .inr (0, 3, .inl (ex_cA 33).1),
  .inl (6, [.ref 167, .ref 150, .ref 157, .ref 169, .ref 183, .ref 184, .int 0, .int 0, .int 0, .int 0, .int 0, .int 0, .int 0]),
  .inr (0, 10, .inl (ex_cA 35).1),
  .inr (0, 3, .inl (ex_cA 36).1),
  .inl (3, [.ref 186, .int 0, .ref 167, .ref 150, .ref 157, .ref 169, .ref 187, .ref 188, .ref 189, .int 0]),
  .inr (1, 8000, .inl (ex_cA 38).1),
  .inr (0, 200, .inl (ex_cA 39).1),
  .inr (0, 200, .inl (ex_cA 40).1),
  .inr (0, 200, .inl (ex_cA 41).1),
  .inl (9, [.ref 167, .ref 157, .ref 150, .ref 191, .ref 192, .ref 193, .ref 194, .int 0, .int 0]),
  .inr (0, 60, .inl (ex_cA 43).1),
  .inr (0, 200, .inl (ex_cA 44).1),
  .inr (2, 200, .inl (ex_cA 45).1),
  .inr (1, 0, .inl (ex_cA 46).1),
  .inl (4, [.ref 157, .ref 150, .ref 190, .ref 196, .ref 198, .ref 199, .ref 200, .ref 201, .ref 202, .ref 203, .ref 204, .ref 205, .ref 206, .ref 207, .int 0, .int 0, .int 0, .int 0, .int 0]),
  .inl (5, [.ref 150, .ref 156, .ref 197, .int 0, .int 0, .int 0, .int 0, .int 0, .int 0, .int 0, .int 0, .int 0, .int 0, .int 0, .int 0, .int 0, .int 0, .int 0]),
  .inr (1, 0, .inl (ex_cA 49).1),
  .inr (1, 40000, .inl (ex_cA 50).1),
  .inr (0, 12, .inl (ex_cA 51).1),
  .inr (0, 240, .inl (ex_cA 52).1),
  .inr (0, 6, .inl (ex_cA 53).1),
  .inr (0, 6, .inl (ex_cA 54).1),
  .inr (0, 6, .inl (ex_cA 55).1),
  .inr (0, 6, .inl (ex_cA 56).1),
  .inr (0, 256, .inl (ex_cA 57).1),
  .inr (0, 40, .inl (ex_cA 58).1),
  .inr (0, 7500, .inl (ex_cA 59).1),
  .inl (0, [.ref 157, .ref 150, .ref 190]),
  .inl (10, [.ref 157, .ref 150, .ref 210, .int 0, .int 0, .int 0, .ref 211, .ref 212, .ref 213, .int 0, .ref 214, .ref 215, .int 0, .int 0, .int 0, .ref 216, .ref 217, .int 0]),
  .inr (1, 30000, .inl (ex_cA 62).1),
  .inr (0, 200, .inl (ex_cA 63).1),
  .inr (0, 200, .inl (ex_cA 64).1),
  .inr (0, 200, .inl (ex_cA 65).1),
  .inr (1, 1400, .inl (ex_cA 66).1),
  .inr (1, 9216, .inl (ex_cA 67).1),
  .inr (0, 4096, .inl (ex_cA 68).1),
  .inr (0, 8000, .inl (ex_cA 69).1),
  .inr (0, 25, .inl (ex_cA 70).1)]
theorem ex_hA_eq : ex_fill ex_pA ex_cA = ex_hA := rfl
theorem ex_ctorA : ex_runF ex_g0 ex_Q0 1000000 20 26 [.ref 148] ([.inl (11, (ex_ft 11).map defaultValue)], 19) = some (none, (ex_hA, 368383)) := (Classical.choose_spec (ex_ends_s ex_ctorA0)).trans (by rw [← ex_hA_eq]; rfl)
/-- the reference: what its constructor leaves -/
theorem ex_ctorB0 : ex_ends (ex_runF ex_g0 ex_Q0 1000000 20 58 [.ref 219] (ex_hA ++ [.inl (12, (ex_ft 12).map defaultValue)], 368383 + 121)) ex_pB 1123657 = true := by decide +kernel
noncomputable def ex_cB : Nat → ex_Ct := Classical.choose (ex_ends_s ex_ctorB0)
noncomputable def ex_hB : List ex_C := [.inl (11, [.ref 149, .int 0, .ref 150, .ref 157, .ref 167, .ref 182, .ref 185, .ref 190, .ref 195, .ref 208, .ref 209, .ref 218, .int (-1), .int 0, .int 0, .int 0, .int (-1), .int 0, .int (-1)]),
  .inr (1, 8000, .inl (ex_cB 1).1),
  .inl (7, [.ref 151, .ref 152, .ref 153, .ref 154, .ref 155, .ref 156, .int 41, .int 8512, .int 41]),
  .inr (0, 16564, .inl (ex_cB 3).1),
  .inr (0, 16564, .inl (ex_cB 4).1),
  .inr (0, 16564, .inl (ex_cB 5).1),
  .inr (0, 16564, .inl (ex_cB 6).1),
  .inr (0, 16564, .inl (ex_cB 7).1),
  .inr (1, 108612, .inl (ex_cB 8).1),
  .inl (8, [.ref 150, .ref 158, .ref 159, .ref 160, .ref 161, .ref 162, .ref 163, .ref 164, .ref 165, .ref 166, .int 0, .int 0, .int 0, .int 0, .int 0]),
  .inr (0, 200, .inl (ex_cB 10).1),
  .inr (0, 200, .inl (ex_cB 11).1),
  .inr (0, 200, .inl (ex_cB 12).1),
  .inr (0, 200, .inl (ex_cB 13).1),
  .inr (0, 200, .inl (ex_cB 14).1),
  .inr (0, 200, .inl (ex_cB 15).1),
  .inr (2, 200, .inl (ex_cB 16).1),
  .inr (2, 200, .inl (ex_cB 17).1),
  .inr (1, 40000, .inl (ex_cB 18).1),
  .inl (5, [.ref 150, .ref 156, .ref 168, .int 0, .int 0, .int 0, .int 0, .int 0, .int 0, .int 0, .int 0, .int 0, .int 0, .int 0, .int 0, .int 0, .int 0, .int 0]),
  .inr (1, 0, .inl (ex_cB 20).1),
  .inl (1, [.ref 150, .ref 170, .ref 178, .ref 179, .ref 180, .ref 181, .int 0, .ref 178, .int 0]),
  .inl (2, [.ref 171, .ref 172, .ref 173, .ref 174, .ref 175, .ref 176, .ref 177, .int 0, .int 0, .ref 177, .int 0, .int 0, .int 0, .int 0, .int 0]),
  .inr (0, 320, .inl (ex_cB 23).1),
  .inr (0, 16, .inl (ex_cB 24).1),
  .inr (0, 288, .inl (ex_cB 25).1),
  .inr (0, 16, .inl (ex_cB 26).1),
  .inr (0, 32, .inl (ex_cB 27).1),
  .inr (0, 16, .inl (ex_cB 28).1),
  .inr (1, 0, .inl (ex_cB 29).1),
  .inr (1, 8000, .inl (ex_cB 30).1),
  .inr (1, 8000, .inl (ex_cB 31).1),
  .inr (2, 3, .inl (ex_cB 32).1),
  .inr (0, 3, .inl (ex_cB 33).1),
  .inl (6, [.ref 167, .ref 150, .ref 157, .ref 169, .ref 183, .ref 184, .int 0, .int 0, .int 0, .int 0, .int 0, .int 0, .int 0]),
  .inr (0, 10, .inl (ex_cB 35).1),
  .inr (0, 3, .inl (ex_cB 36).1),
  .inl (3, [.ref 186, .int 0, .ref 167, .ref 150, .ref 157, .ref 169, .ref 187, .ref 188, .ref 189, .int 0]),
  .inr (1, 8000, .inl (ex_cB 38).1),
  .inr (0, 200, .inl (ex_cB 39).1),
  .inr (0, 200, .inl (ex_cB 40).1),
  .inr (0, 200, .inl (ex_cB 41).1),
  .inl (9, [.ref 167, .ref 157, .ref 150, .ref 191, .ref 192, .ref 193, .ref 194, .int 0, .int 0]),
  .inr (0, 60, .inl (ex_cB 43).1),
  .inr (0, 200, .inl (ex_cB 44).1),
  .inr (2, 200, .inl (ex_cB 45).1),
  .inr (1, 0, .inl (ex_cB 46).1),
  .inl (4, [.ref 157, .ref 150, .ref 190, .ref 196, .ref 198, .ref 199, .ref 200, .ref 201, .ref 202, .ref 203, .ref 204, .ref 205, .ref 206, .ref 207, .int 0, .int 0, .int 0, .int 0, .int 0]),
  .inl (5, [.ref 150, .ref 156, .ref 197, .int 0, .int 0, .int 0, .int 0, .int 0, .int 0, .int 0, .int 0, .int 0, .int 0, .int 0, .int 0, .int 0, .int 0, .int 0]),
  .inr (1, 0, .inl (ex_cB 49).1),
  .inr (1, 40000, .inl (ex_cB 50).1),
  .inr (0, 12, .inl (ex_cB 51).1),
  .inr (0, 240, .inl (ex_cB 52).1),
  .inr (0, 6, .inl (ex_cB 53).1),
  .inr (0, 6, .inl (ex_cB 54).1),
  .inr (0, 6, .inl (ex_cB 55).1),
  .inr (0, 6, .inl (ex_cB 56).1),
  .inr (0, 256, .inl (ex_cB 57).1),
  .inr (0, 40, .inl (ex_cB 58).1),
  .inr (0, 7500, .inl (ex_cB 59).1),
  .inl (0, [.ref 157, .ref 150, .ref 190]),
  .inl (10, [.ref 157, .ref 150, .ref 210, .int 0, .int 0, .int 0, .ref 211, .ref 212, .ref 213, .int 0, .ref 214, .ref 215, .int 0, .int 0, .int 0, .ref 216, .ref 217, .int 0]),
  .inr (1, 30000, .inl (ex_cB 62).1),
  .inr (0, 200, .inl (ex_cB 63).1),
  .inr (0, 200, .inl (ex_cB 64).1),
  .inr (0, 200, .inl (ex_cB 65).1),
  .inr (1, 1400, .inl (ex_cB 66).1),
  .inr (1, 9216, .inl (ex_cB 67).1),
  .inr (0, 4096, .inl (ex_cB 68).1),
  .inr (0, 8000, .inl (ex_cB 69).1),
  .inr (0, 25, .inl (ex_cB 70).1),
  .inl (12, [.ref 220, .int 0, .ref 221, .int 0, .ref 222, .int 0, .int 0, .ref 223, .ref 224, .ref 225, .ref 226, .ref 227, .ref 228, .ref 229, .ref 230, .int 0, .ref 231, .int 0, .null, .int 0, .int 0, .int 0, .int 0, .int 0, .int 0, .int 0, .int 0, .int 0, .int 0, .int 0, .int 0, .int 0, .int 0, .ref 232, .int 0, .ref 233, .ref 234, .int 0, .int 0, .int 0, .int 0, .ref 235, .ref 236, .ref 237, .ref 238, .ref 239, .ref 240, .ref 241, .ref 242, .ref 243, .ref 244, .ref 245, .ref 246, .ref 247, .ref 248, .ref 249, .ref 250, .ref 251, .ref 252, .ref 253, .int 0, .int 0, .ref 254, .int 0, .int 0, .int 0, .int 0, .int 0, .int 0, .int (-1), .int 0, .int (-1), .ref 255, .ref 256, .ref 257, .int 0, .ref 258, .int 0, .long 0, .int 0, .int 0, .int 0, .int 0, .int 0, .int 0, .ref 259, .ref 260, .ref 261, .int (-1), .int 0, .ref 262, .ref 263, .int 0, .ref 264, .int 0, .ref 265, .ref 266, .ref 267, .ref 268, .ref 269, .ref 270, .ref 271, .int 0, .int 0, .int 0, .ref 272, .int 0, .int 0, .ref 273, .int 0, .ref 274, .ref 275, .int 0, .ref 276, .ref 277, .int 0, .int 0, .ref 278, .ref 279, .ref 280, .int 0]),
  .inr (1, 8000, .inl (ex_cB 72).1),
  .inr (1, 8000, .inl (ex_cB 73).1),
  .inr (1, 30100, .inl (ex_cB 74).1),
  .inr (1, 40000, .inl (ex_cB 75).1),
  .inr (0, 40000, .inl (ex_cB 76).1),
  .inr (0, 40000, .inl (ex_cB 77).1),
  .inr (0, 40000, .inl (ex_cB 78).1),
  .inr (0, 40000, .inl (ex_cB 79).1),
  .inr (0, 40000, .inl (ex_cB 80).1),
  .inr (0, 40000, .inl (ex_cB 81).1),
  .inr (0, 40000, .inl (ex_cB 82).1),
  .inr (1, 150000, .inl (ex_cB 83).1),
  .inr (1, 57000, .inl (ex_cB 84).1),
  .inr (1, 8200, .inl (ex_cB 85).1),
  .inr (1, 8200, .inl (ex_cB 86).1),
  .inr (0, 320, .inl (ex_cB 87).1),
  .inr (0, 16, .inl (ex_cB 88).1),
  .inr (0, 288, .inl (ex_cB 89).1),
  .inr (0, 16, .inl (ex_cB 90).1),
  .inr (0, 32, .inl (ex_cB 91).1),
  .inr (0, 16, .inl (ex_cB 92).1),
  .inr (0, 340, .inl (ex_cB 93).1),
  .inr (1, 200, .inl (ex_cB 94).1),
  .inr (3, 200, .inr (.inl (ex_cB 95).2.1)),
  .inr (3, 200, .inr (.inl (ex_cB 96).2.1)),
  .inr (2, 200, .inl (ex_cB 97).1),
  .inr (0, 200, .inl (ex_cB 98).1),
  .inr (1, 200, .inl (ex_cB 99).1),
  .inr (2, 200, .inl (ex_cB 100).1),
  .inr (0, 200, .inl (ex_cB 101).1),
  .inr (0, 200, .inl (ex_cB 102).1),
  .inr (2, 200, .inl (ex_cB 103).1),
  .inr (2, 200, .inl (ex_cB 104).1),
  .inr (2, 200, .inl (ex_cB 105).1),
  .inr (3, 12, .inr (.inl (ex_cB 106).2.1)),
  .inr (1, 200, .inl (ex_cB 107).1),
  .inr (3, 200, .inr (.inl (ex_cB 108).2.1)),
  .inr (3, 200, .inr (.inl (ex_cB 109).2.1)),
  .inr (0, 3, .inl (ex_cB 110).1),
  .inr (0, 61, .inl (ex_cB 111).1),
  .inr (0, 200, .inl (ex_cB 112).1),
  .inr (2, 200, .inl (ex_cB 113).1),
  .inr (0, 26, .inl (ex_cB 114).1),
  .inr (1, 40100, .inl (ex_cB 115).1),
  .inr (0, 40, .inl (ex_cB 116).1),
  .inr (0, 6, .inl (ex_cB 117).1),
  .inr (0, 6, .inl (ex_cB 118).1),
  .inr (0, 6, .inl (ex_cB 119).1),
  .inr (0, 6, .inl (ex_cB 120).1),
  .inr (3, 6, .inr (.inl (ex_cB 121).2.1)),
  .inr (0, 9, .inl (ex_cB 122).1),
  .inr (0, 300, .inl (ex_cB 123).1),
  .inr (0, 7500, .inl (ex_cB 124).1),
  .inr (4, 47, .inr (.inr (.inr (.inr (ex_cB 125).2.2)))),
  .inr (0, 200, .inl (ex_cB 126).1),
  .inr (0, 200, .inl (ex_cB 127).1),
  .inr (0, 201, .inl (ex_cB 128).1),
  .inr (1, 50000, .inl (ex_cB 129).1),
  .inr (0, 4096, .inl (ex_cB 130).1),
  .inr (0, 57000, .inl (ex_cB 131).1),
  .inr (1, 1400, .inl (ex_cB 132).1)]
set_option maxRecDepth 100000 in
theorem ex_hB_eq : ex_fill ex_pB ex_cB = ex_hB := rfl
theorem ex_ctorB : ex_runF ex_g0 ex_Q0 1000000 20 58 [.ref 219] (ex_hA ++ [.inl (12, (ex_ft 12).map defaultValue)], 368383 + 121) = some (none, (ex_hB, 1123657)) := (Classical.choose_spec (ex_ends_s ex_ctorB0)).trans (by rw [← ex_hB_eq]; rfl)
end
section
/-! ===== the first call on fresh objects: class and reference answer alike ===== -/
noncomputable def ex_h0 : ex_H := (ex_hB, 1123657)
def ex_Both (N k j : Nat) (as bs : List Value) : Prop := ∃ (v : Int32) (h h' : ex_H), ex_runF ex_g0 ex_Q0 N 20 k as ex_h0 = some (some (.int v), h) ∧ ex_runF ex_g0 ex_Q0 N 20 j bs h = some (some (.int v), h') ∧ h'.1.length ≤ 1000 ∧ h'.2 ≤ 2000000
theorem ex_Both_i {N k j : Nat} {as bs : List Value} (v : Int32) {h h' : ex_H} (h1 : ex_runF ex_g0 ex_Q0 N 20 k as ex_h0 = some (some (.int v), h)) (h2 : ex_runF ex_g0 ex_Q0 N 20 j bs h = some (some (.int v), h')) (h3 : h'.1.length ≤ 1000) (h4 : h'.2 ≤ 2000000) : ex_Both N k j as bs := ⟨v, h, h', h1, h2, h3, h4⟩
/-- both end with the same int -/
noncomputable def ex_both (N k j : Nat) (as bs : List Value) : Bool := match ex_runF ex_g0 ex_Q0 N 20 k as ex_h0 with
  | some (some (.int v), h) => (match ex_runF ex_g0 ex_Q0 N 20 j bs h with
    | some (some (.int u), h) => Nat.beq (ex_v v) (ex_v u) && Nat.ble h.1.length 1000 && Nat.ble h.2 2000000
    | _ => false)
  | _ => false
theorem ex_both_s {N k j : Nat} {as bs : List Value} (h : ex_both N k j as bs = true) : ex_Both N k j as bs := by
  unfold ex_both at h
  split at h
  · rename_i v h1 e1
    split at h
    · rename_i u h2 e2
      simp only [Bool.and_eq_true] at h
      refine ⟨v, h1, h2, e1, ?_, Nat.le_of_ble_eq_true h.1.2, Nat.le_of_ble_eq_true h.2⟩
      rw [e2, ex_v_inj.mp (Nat.eq_of_beq_eq_true h.1.1)]
    · cases h
  · cases h
theorem ex_set_len (g : ex_G) (h : ex_H) (i : Nat) (c : ex_C) : (ex_set g h i c).1.length = h.1.length := by
  show (ex_lset h.1 _ c).length = _
  rw [ex_lset_eq, List.length_set]
theorem ex_set_two (g : ex_G) (h : ex_H) (i : Nat) (c : ex_C) : (ex_set g h i c).2 = h.2 := rfl
section EXT
variable {g : ex_G} {call : Nat → List Value → ex_H → Option (Option Value × ex_H)} {kd : List (List (Option ex_K))} {n pc nx t : Nat} {lv : ex_V} {st r : List Value} {h : ex_H} {R : Option (Option Value × ex_H)}
noncomputable def ex_one1 (g : ex_G) (kd : List (List (Option ex_K))) (pc : Nat) (lv : ex_V) (st : List Value) (h : ex_H) : Option ex_O := match ex_fl kd pc with
  | none => none
  | some k => k g lv st h
theorem ex_loopF_one : ex_loopF g call kd (n + 1) (pc, lv, st, h) = (match ex_one1 g kd pc lv st h with
      | none => none
      | some (.inl k) => ex_loopF g call kd n k
      | some (.inr (.inl r)) => some r
      | some (.inr (.inr (k, as, b))) => match call k as b.2.2.2 with
        | none => none
        | some (none, h) => ex_loopF g call kd n (b.1, b.2.1, b.2.2.1, h)
        | some (some v, h) => ex_loopF g call kd n (b.1, b.2.1, v :: b.2.2.1, h)) := by
  show (match ex_fl kd pc with | none => none | some k => _) = _
  unfold ex_one1
  cases ex_fl kd pc with
  | none => rfl
  | some k => rfl
theorem ex_sF {f : ex_F} (h1 : ex_one1 g kd pc lv st h = some (.inl f)) (h2 : ex_loopF g call kd n f = R) : ex_loopF g call kd (n + 1) (pc, lv, st, h) = R := by
  rw [ex_loopF_one, h1]
  exact h2
theorem ex_rF {v : Option Value × ex_H} (h1 : ex_one1 g kd pc lv st h = some (.inr (.inl v))) : ex_loopF g call kd (n + 1) (pc, lv, st, h) = some v := by
  rw [ex_loopF_one, h1]
theorem ex_cFv {k pc' : Nat} {as st' : List Value} {lv' : ex_V} {h' h'' : ex_H} {v : Value} (h1 : ex_one1 g kd pc lv st h = some (.inr (.inr (k, as, (pc', lv', st', h'))))) (h2 : call k as h' = some (some v, h'')) (h3 : ex_loopF g call kd n (pc', lv', v :: st', h'') = R) : ex_loopF g call kd (n + 1) (pc, lv, st, h) = R := by
  rw [ex_loopF_one, h1]
  show (match call k as h' with | none => none | some (none, h) => _ | some (some v, h) => _) = R
  rw [h2]
  exact h3
theorem ex_cFn {k pc' : Nat} {as st' : List Value} {lv' : ex_V} {h' h'' : ex_H} (h1 : ex_one1 g kd pc lv st h = some (.inr (.inr (k, as, (pc', lv', st', h'))))) (h2 : call k as h' = some (none, h'')) (h3 : ex_loopF g call kd n (pc', lv', st', h'') = R) : ex_loopF g call kd (n + 1) (pc, lv, st, h) = R := by
  rw [ex_loopF_one, h1]
  show (match call k as h' with | none => none | some (none, h) => _ | some (some v, h) => _) = R
  rw [h2]
  exact h3
theorem ex_uF {Q : Nat → Option (Nat × List (List (Option ex_K)))} {N d k : Nat} {as : List Value} {M : Nat × List (List (Option ex_K))} (h1 : Q k = some M) (h2 : Nat.ble (ex_w as) M.1 = true) (h3 : ex_loopF g (ex_runF g Q N d) M.2 N (0, lv_args 0 as, [], h) = R) : ex_runF g Q N (d + 1) k as h = R := by
  unfold ex_runF
  rw [h1]
  simp only
  rw [h2]
  exact h3
theorem ex_if_T {c : Int32 → Bool} {x : Int32} (hc : c x = true) : ex_if c t nx lv (.int x :: r) h = some (.inl (t, lv, r, h)) := by
  show (bif c x then _ else _) = _
  rw [hc]
  rfl
theorem ex_if_F {c : Int32 → Bool} {x : Int32} (hc : c x = false) : ex_if c t nx lv (.int x :: r) h = some (.inl (nx, lv, r, h)) := by
  show (bif c x then _ else _) = _
  rw [hc]
  rfl
theorem ex_ic_T {c : Int32 → Int32 → Bool} {x y : Int32} (hc : c x y = true) : ex_ic c t nx lv (.int y :: .int x :: r) h = some (.inl (t, lv, r, h)) := by
  show (bif c x y then _ else _) = _
  rw [hc]
  rfl
theorem ex_ic_F {c : Int32 → Int32 → Bool} {x y : Int32} (hc : c x y = false) : ex_ic c t nx lv (.int y :: .int x :: r) h = some (.inl (nx, lv, r, h)) := by
  show (bif c x y then _ else _) = _
  rw [hc]
  rfl
theorem ex_tsw_O {x : Int32} {dd lo hi : Int} {offs : Array Int} (hx : x.toInt < lo ∨ hi < x.toInt) : ex_tsw dd lo hi offs pc lv (.int x :: r) h = ex_to pc dd lv r h := by
  show (bif decide (x.toInt < lo ∨ hi < x.toInt) then _ else _) = _
  rw [decide_eq_true hx]
  rfl
/-- a branch is taken, or not (the condition's word comes from elsewhere) -/
theorem ex_bT {c : Int32 → Bool} {x : Int32} (h0 : ex_fl kd pc = some (fun _ lv st h => ex_if c t nx lv st h)) (hc : c x = true) : ex_one1 g kd pc lv (.int x :: r) h = some (.inl (t, lv, r, h)) := by
  unfold ex_one1
  rw [h0]
  exact ex_if_T hc
theorem ex_bF' {c : Int32 → Bool} {x : Int32} (h0 : ex_fl kd pc = some (fun _ lv st h => ex_if c t nx lv st h)) (hc : c x = false) : ex_one1 g kd pc lv (.int x :: r) h = some (.inl (nx, lv, r, h)) := by
  unfold ex_one1
  rw [h0]
  exact ex_if_F hc
theorem ex_bT2 {c : Int32 → Int32 → Bool} {x y : Int32} (h0 : ex_fl kd pc = some (fun _ lv st h => ex_ic c t nx lv st h)) (hc : c x y = true) : ex_one1 g kd pc lv (.int y :: .int x :: r) h = some (.inl (t, lv, r, h)) := by
  unfold ex_one1
  rw [h0]
  exact ex_ic_T hc
theorem ex_bF2 {c : Int32 → Int32 → Bool} {x y : Int32} (h0 : ex_fl kd pc = some (fun _ lv st h => ex_ic c t nx lv st h)) (hc : c x y = false) : ex_one1 g kd pc lv (.int y :: .int x :: r) h = some (.inl (nx, lv, r, h)) := by
  unfold ex_one1
  rw [h0]
  exact ex_ic_F hc
theorem ex_to_t {off : Int} (ht : (pc : Int) + off = (t : Int)) : ex_to pc off lv r h = some (.inl (t, lv, r, h)) := by
  unfold ex_to
  rw [ht, decide_eq_true (Int.natCast_nonneg t)]
  rfl
theorem ex_bO {x : Int32} {dd lo hi : Int} {offs : Array Int} (h0 : ex_fl kd pc = some (fun _ lv st h => ex_tsw dd lo hi offs pc lv st h)) (hx : x.toInt < lo ∨ hi < x.toInt) (ht : (pc : Int) + dd = (t : Int)) : ex_one1 g kd pc lv (.int x :: r) h = some (.inl (t, lv, r, h)) := by
  unfold ex_one1
  rw [h0]
  exact (ex_tsw_O hx).trans (ex_to_t ht)
theorem ex_bI {x : Int32} {dd lo hi off : Int} {offs : Array Int} (h0 : ex_fl kd pc = some (fun _ lv st h => ex_tsw dd lo hi offs pc lv st h)) (hx : ¬ (x.toInt < lo ∨ hi < x.toInt)) (ho : offs[(x.toInt - lo).toNat]? = some off) (ht : (pc : Int) + off = (t : Int)) : ex_one1 g kd pc lv (.int x :: r) h = some (.inl (t, lv, r, h)) := by
  unfold ex_one1
  rw [h0]
  show (bif decide (x.toInt < lo ∨ hi < x.toInt) then _ else (match offs[(x.toInt - lo).toNat]? with | some off => ex_to pc off lv r h | none => none)) = _
  rw [decide_eq_false hx, ho]
  exact ex_to_t ht
theorem ex_bB {x j : Int32} {i m : Nat} {f : Nat → Int32} (h0 : ex_fl kd pc = some (fun g lv st h => ex_xbst g nx lv st h)) (hg : ex_own g h i = some (.inr (1, m, .inl f))) (hin : ex_in j m = true) : ex_one1 g kd pc lv (.int x :: .int j :: .ref i :: r) h = some (.inl (nx, lv, r, ex_set g h i (.inr (1, m, .inl (upd f j.toNatClampNeg x.toInt8.toInt32))))) := by
  unfold ex_one1
  rw [h0]
  show ex_xbst g nx lv _ h = _
  unfold ex_xbst
  simp only [hg]
  rw [hin]
  rfl
end EXT

set_option maxRecDepth 100000 in
theorem ex_e_feed (N : Nat) (a b c d e : Int32) : ex_Both (N + 300) 34 69 [.ref 148, .int a, .int b, .int c, .int d, .int e] [.ref 219, .int a, .int b, .int c, .int d, .int e] := by
  apply ex_Both_i 20
  refine ex_uF rfl rfl ?_
  refine ex_sF rfl ?_
  refine ex_sF rfl ?_
  refine ex_sF rfl ?_
  refine ex_sF rfl ?_
  refine ex_sF rfl ?_
  refine ex_sF (ex_bT2 rfl (by decide +kernel)) ?_
  refine ex_sF rfl ?_
  refine ex_sF rfl ?_
  apply ex_cFn
  exact rfl
  refine ex_uF rfl rfl ?_
  refine ex_sF rfl ?_
  refine ex_sF rfl ?_
  refine ex_sF rfl ?_
  refine ex_sF (ex_bF' rfl (by decide +kernel)) ?_
  refine ex_sF rfl ?_
  refine ex_sF rfl ?_
  refine ex_sF (ex_bF' rfl (by decide +kernel)) ?_
  refine ex_sF rfl ?_
  refine ex_sF rfl ?_
  refine ex_sF rfl ?_
  refine ex_sF rfl ?_
  refine ex_sF rfl ?_
  refine ex_sF (ex_bF2 rfl (by decide +kernel)) ?_
  refine ex_sF rfl ?_
  refine ex_sF rfl ?_
  refine ex_sF rfl ?_
  refine ex_sF rfl ?_
  refine ex_sF rfl ?_
  refine ex_sF rfl ?_
  refine ex_sF rfl ?_
  refine ex_sF rfl ?_
  refine ex_sF (ex_bB rfl rfl (by decide +kernel)) ?_
  refine ex_sF rfl ?_
  refine ex_sF rfl ?_
  refine ex_sF rfl ?_
  refine ex_sF rfl ?_
  refine ex_sF rfl ?_
  refine ex_sF rfl ?_
  refine ex_sF rfl ?_
  refine ex_sF rfl ?_
  refine ex_sF rfl ?_
  refine ex_sF (ex_bF' rfl (by decide +kernel)) ?_
  refine ex_sF rfl ?_
  refine ex_sF rfl ?_
  refine ex_sF (ex_bF' rfl (by decide +kernel)) ?_
  refine ex_sF rfl ?_
  refine ex_sF rfl ?_
  refine ex_sF rfl ?_
  refine ex_sF rfl ?_
  refine ex_sF rfl ?_
  refine ex_sF (ex_bF2 rfl (by decide +kernel)) ?_
  refine ex_sF rfl ?_
  refine ex_sF rfl ?_
  refine ex_sF rfl ?_
  refine ex_sF rfl ?_
  refine ex_sF rfl ?_
  refine ex_sF rfl ?_
  refine ex_sF rfl ?_
  refine ex_sF rfl ?_
  refine ex_sF (ex_bB rfl rfl (by decide +kernel)) ?_
  refine ex_sF rfl ?_
  refine ex_sF rfl ?_
  refine ex_sF rfl ?_
  refine ex_sF rfl ?_
  refine ex_sF rfl ?_
  refine ex_sF rfl ?_
  refine ex_sF rfl ?_
  refine ex_sF rfl ?_
  refine ex_sF rfl ?_
  refine ex_sF (ex_bF' rfl (by decide +kernel)) ?_
  refine ex_sF rfl ?_
  refine ex_sF rfl ?_
  refine ex_sF (ex_bF' rfl (by decide +kernel)) ?_
  refine ex_sF rfl ?_
  refine ex_sF rfl ?_
  refine ex_sF rfl ?_
  refine ex_sF rfl ?_
  refine ex_sF rfl ?_
  refine ex_sF (ex_bF2 rfl (by decide +kernel)) ?_
  refine ex_sF rfl ?_
  refine ex_sF rfl ?_
  refine ex_sF rfl ?_
  refine ex_sF rfl ?_
  refine ex_sF rfl ?_
  refine ex_sF rfl ?_
  refine ex_sF rfl ?_
  refine ex_sF rfl ?_
  refine ex_sF (ex_bB rfl rfl (by decide +kernel)) ?_
  refine ex_sF rfl ?_
  refine ex_sF rfl ?_
  refine ex_sF rfl ?_
  refine ex_sF rfl ?_
  refine ex_sF rfl ?_
  refine ex_sF rfl ?_
  refine ex_sF rfl ?_
  refine ex_sF rfl ?_
  refine ex_sF rfl ?_
  refine ex_sF (ex_bF' rfl (by decide +kernel)) ?_
  refine ex_sF rfl ?_
  refine ex_sF rfl ?_
  refine ex_sF (ex_bF' rfl (by decide +kernel)) ?_
  refine ex_sF rfl ?_
  refine ex_sF rfl ?_
  refine ex_sF rfl ?_
  refine ex_sF rfl ?_
  refine ex_sF rfl ?_
  refine ex_sF (ex_bF2 rfl (by decide +kernel)) ?_
  refine ex_sF rfl ?_
  refine ex_sF rfl ?_
  refine ex_sF rfl ?_
  refine ex_sF rfl ?_
  refine ex_sF rfl ?_
  refine ex_sF rfl ?_
  refine ex_sF rfl ?_
  refine ex_sF rfl ?_
  refine ex_sF (ex_bB rfl rfl (by decide +kernel)) ?_
  refine ex_sF rfl ?_
  refine ex_sF rfl ?_
  refine ex_sF rfl ?_
  refine ex_sF rfl ?_
  refine ex_sF rfl ?_
  refine ex_sF rfl ?_
  refine ex_sF rfl ?_
  refine ex_sF rfl ?_
  refine ex_sF rfl ?_
  refine ex_sF (ex_bT rfl (by decide +kernel)) ?_
  exact ex_rF rfl
  refine ex_sF rfl ?_
  refine ex_sF rfl ?_
  apply ex_cFn
  exact rfl
  refine ex_uF rfl rfl ?_
  refine ex_sF rfl ?_
  refine ex_sF rfl ?_
  refine ex_sF rfl ?_
  refine ex_sF (ex_bF' rfl (by decide +kernel)) ?_
  refine ex_sF rfl ?_
  refine ex_sF rfl ?_
  refine ex_sF (ex_bF' rfl (by decide +kernel)) ?_
  refine ex_sF rfl ?_
  refine ex_sF rfl ?_
  refine ex_sF rfl ?_
  refine ex_sF rfl ?_
  refine ex_sF rfl ?_
  refine ex_sF (ex_bF2 rfl (by decide +kernel)) ?_
  refine ex_sF rfl ?_
  refine ex_sF rfl ?_
  refine ex_sF rfl ?_
  refine ex_sF rfl ?_
  refine ex_sF rfl ?_
  refine ex_sF rfl ?_
  refine ex_sF rfl ?_
  refine ex_sF rfl ?_
  refine ex_sF (ex_bB rfl rfl (by decide +kernel)) ?_
  refine ex_sF rfl ?_
  refine ex_sF rfl ?_
  refine ex_sF rfl ?_
  refine ex_sF rfl ?_
  refine ex_sF rfl ?_
  refine ex_sF rfl ?_
  refine ex_sF rfl ?_
  refine ex_sF rfl ?_
  refine ex_sF rfl ?_
  refine ex_sF (ex_bF' rfl (by decide +kernel)) ?_
  refine ex_sF rfl ?_
  refine ex_sF rfl ?_
  refine ex_sF (ex_bF' rfl (by decide +kernel)) ?_
  refine ex_sF rfl ?_
  refine ex_sF rfl ?_
  refine ex_sF rfl ?_
  refine ex_sF rfl ?_
  refine ex_sF rfl ?_
  refine ex_sF (ex_bF2 rfl (by decide +kernel)) ?_
  refine ex_sF rfl ?_
  refine ex_sF rfl ?_
  refine ex_sF rfl ?_
  refine ex_sF rfl ?_
  refine ex_sF rfl ?_
  refine ex_sF rfl ?_
  refine ex_sF rfl ?_
  refine ex_sF rfl ?_
  refine ex_sF (ex_bB rfl rfl (by decide +kernel)) ?_
  refine ex_sF rfl ?_
  refine ex_sF rfl ?_
  refine ex_sF rfl ?_
  refine ex_sF rfl ?_
  refine ex_sF rfl ?_
  refine ex_sF rfl ?_
  refine ex_sF rfl ?_
  refine ex_sF rfl ?_
  refine ex_sF rfl ?_
  refine ex_sF (ex_bF' rfl (by decide +kernel)) ?_
  refine ex_sF rfl ?_
  refine ex_sF rfl ?_
  refine ex_sF (ex_bF' rfl (by decide +kernel)) ?_
  refine ex_sF rfl ?_
  refine ex_sF rfl ?_
  refine ex_sF rfl ?_
  refine ex_sF rfl ?_
  refine ex_sF rfl ?_
  refine ex_sF (ex_bF2 rfl (by decide +kernel)) ?_
  refine ex_sF rfl ?_
  refine ex_sF rfl ?_
  refine ex_sF rfl ?_
  refine ex_sF rfl ?_
  refine ex_sF rfl ?_
  refine ex_sF rfl ?_
  refine ex_sF rfl ?_
  refine ex_sF rfl ?_
  refine ex_sF (ex_bB rfl rfl (by decide +kernel)) ?_
  refine ex_sF rfl ?_
  refine ex_sF rfl ?_
  refine ex_sF rfl ?_
  refine ex_sF rfl ?_
  refine ex_sF rfl ?_
  refine ex_sF rfl ?_
  refine ex_sF rfl ?_
  refine ex_sF rfl ?_
  refine ex_sF rfl ?_
  refine ex_sF (ex_bF' rfl (by decide +kernel)) ?_
  refine ex_sF rfl ?_
  refine ex_sF rfl ?_
  refine ex_sF (ex_bF' rfl (by decide +kernel)) ?_
  refine ex_sF rfl ?_
  refine ex_sF rfl ?_
  refine ex_sF rfl ?_
  refine ex_sF rfl ?_
  refine ex_sF rfl ?_
  refine ex_sF (ex_bF2 rfl (by decide +kernel)) ?_
  refine ex_sF rfl ?_
  refine ex_sF rfl ?_
  refine ex_sF rfl ?_
  refine ex_sF rfl ?_
  refine ex_sF rfl ?_
  refine ex_sF rfl ?_
  refine ex_sF rfl ?_
  refine ex_sF rfl ?_
  refine ex_sF (ex_bB rfl rfl (by decide +kernel)) ?_
  refine ex_sF rfl ?_
  refine ex_sF rfl ?_
  refine ex_sF rfl ?_
  refine ex_sF rfl ?_
  refine ex_sF rfl ?_
  refine ex_sF rfl ?_
  refine ex_sF rfl ?_
  refine ex_sF rfl ?_
  refine ex_sF rfl ?_
  refine ex_sF (ex_bT rfl (by decide +kernel)) ?_
  exact ex_rF rfl
  refine ex_sF rfl ?_
  refine ex_sF rfl ?_
  apply ex_cFn
  exact rfl
  refine ex_uF rfl rfl ?_
  refine ex_sF rfl ?_
  refine ex_sF rfl ?_
  refine ex_sF rfl ?_
  refine ex_sF (ex_bF' rfl (by decide +kernel)) ?_
  refine ex_sF rfl ?_
  refine ex_sF rfl ?_
  refine ex_sF (ex_bF' rfl (by decide +kernel)) ?_
  refine ex_sF rfl ?_
  refine ex_sF rfl ?_
  refine ex_sF rfl ?_
  refine ex_sF rfl ?_
  refine ex_sF rfl ?_
  refine ex_sF (ex_bF2 rfl (by decide +kernel)) ?_
  refine ex_sF rfl ?_
  refine ex_sF rfl ?_
  refine ex_sF rfl ?_
  refine ex_sF rfl ?_
  refine ex_sF rfl ?_
  refine ex_sF rfl ?_
  refine ex_sF rfl ?_
  refine ex_sF rfl ?_
  refine ex_sF (ex_bB rfl rfl (by decide +kernel)) ?_
  refine ex_sF rfl ?_
  refine ex_sF rfl ?_
  refine ex_sF rfl ?_
  refine ex_sF rfl ?_
  refine ex_sF rfl ?_
  refine ex_sF rfl ?_
  refine ex_sF rfl ?_
  refine ex_sF rfl ?_
  refine ex_sF rfl ?_
  refine ex_sF (ex_bF' rfl (by decide +kernel)) ?_
  refine ex_sF rfl ?_
  refine ex_sF rfl ?_
  refine ex_sF (ex_bF' rfl (by decide +kernel)) ?_
  refine ex_sF rfl ?_
  refine ex_sF rfl ?_
  refine ex_sF rfl ?_
  refine ex_sF rfl ?_
  refine ex_sF rfl ?_
  refine ex_sF (ex_bF2 rfl (by decide +kernel)) ?_
  refine ex_sF rfl ?_
  refine ex_sF rfl ?_
  refine ex_sF rfl ?_
  refine ex_sF rfl ?_
  refine ex_sF rfl ?_
  refine ex_sF rfl ?_
  refine ex_sF rfl ?_
  refine ex_sF rfl ?_
  refine ex_sF (ex_bB rfl rfl (by decide +kernel)) ?_
  refine ex_sF rfl ?_
  refine ex_sF rfl ?_
  refine ex_sF rfl ?_
  refine ex_sF rfl ?_
  refine ex_sF rfl ?_
  refine ex_sF rfl ?_
  refine ex_sF rfl ?_
  refine ex_sF rfl ?_
  refine ex_sF rfl ?_
  refine ex_sF (ex_bF' rfl (by decide +kernel)) ?_
  refine ex_sF rfl ?_
  refine ex_sF rfl ?_
  refine ex_sF (ex_bF' rfl (by decide +kernel)) ?_
  refine ex_sF rfl ?_
  refine ex_sF rfl ?_
  refine ex_sF rfl ?_
  refine ex_sF rfl ?_
  refine ex_sF rfl ?_
  refine ex_sF (ex_bF2 rfl (by decide +kernel)) ?_
  refine ex_sF rfl ?_
  refine ex_sF rfl ?_
  refine ex_sF rfl ?_
  refine ex_sF rfl ?_
  refine ex_sF rfl ?_
  refine ex_sF rfl ?_
  refine ex_sF rfl ?_
  refine ex_sF rfl ?_
  refine ex_sF (ex_bB rfl rfl (by decide +kernel)) ?_
  refine ex_sF rfl ?_
  refine ex_sF rfl ?_
  refine ex_sF rfl ?_
  refine ex_sF rfl ?_
  refine ex_sF rfl ?_
  refine ex_sF rfl ?_
  refine ex_sF rfl ?_
  refine ex_sF rfl ?_
  refine ex_sF rfl ?_
  refine ex_sF (ex_bF' rfl (by decide +kernel)) ?_
  refine ex_sF rfl ?_
  refine ex_sF rfl ?_
  refine ex_sF (ex_bF' rfl (by decide +kernel)) ?_
  refine ex_sF rfl ?_
  refine ex_sF rfl ?_
  refine ex_sF rfl ?_
  refine ex_sF rfl ?_
  refine ex_sF rfl ?_
  refine ex_sF (ex_bF2 rfl (by decide +kernel)) ?_
  refine ex_sF rfl ?_
  refine ex_sF rfl ?_
  refine ex_sF rfl ?_
  refine ex_sF rfl ?_
  refine ex_sF rfl ?_
  refine ex_sF rfl ?_
  refine ex_sF rfl ?_
  refine ex_sF rfl ?_
  refine ex_sF (ex_bB rfl rfl (by decide +kernel)) ?_
  refine ex_sF rfl ?_
  refine ex_sF rfl ?_
  refine ex_sF rfl ?_
  refine ex_sF rfl ?_
  refine ex_sF rfl ?_
  refine ex_sF rfl ?_
  refine ex_sF rfl ?_
  refine ex_sF rfl ?_
  refine ex_sF rfl ?_
  refine ex_sF (ex_bT rfl (by decide +kernel)) ?_
  exact ex_rF rfl
  refine ex_sF rfl ?_
  refine ex_sF rfl ?_
  apply ex_cFn
  exact rfl
  refine ex_uF rfl rfl ?_
  refine ex_sF rfl ?_
  refine ex_sF rfl ?_
  refine ex_sF rfl ?_
  refine ex_sF (ex_bF' rfl (by decide +kernel)) ?_
  refine ex_sF rfl ?_
  refine ex_sF rfl ?_
  refine ex_sF (ex_bF' rfl (by decide +kernel)) ?_
  refine ex_sF rfl ?_
  refine ex_sF rfl ?_
  refine ex_sF rfl ?_
  refine ex_sF rfl ?_
  refine ex_sF rfl ?_
  refine ex_sF (ex_bF2 rfl (by decide +kernel)) ?_
  refine ex_sF rfl ?_
  refine ex_sF rfl ?_
  refine ex_sF rfl ?_
  refine ex_sF rfl ?_
  refine ex_sF rfl ?_
  refine ex_sF rfl ?_
  refine ex_sF rfl ?_
  refine ex_sF rfl ?_
  refine ex_sF (ex_bB rfl rfl (by decide +kernel)) ?_
  refine ex_sF rfl ?_
  refine ex_sF rfl ?_
  refine ex_sF rfl ?_
  refine ex_sF rfl ?_
  refine ex_sF rfl ?_
  refine ex_sF rfl ?_
  refine ex_sF rfl ?_
  refine ex_sF rfl ?_
  refine ex_sF rfl ?_
  refine ex_sF (ex_bF' rfl (by decide +kernel)) ?_
  refine ex_sF rfl ?_
  refine ex_sF rfl ?_
  refine ex_sF (ex_bF' rfl (by decide +kernel)) ?_
  refine ex_sF rfl ?_
  refine ex_sF rfl ?_
  refine ex_sF rfl ?_
  refine ex_sF rfl ?_
  refine ex_sF rfl ?_
  refine ex_sF (ex_bF2 rfl (by decide +kernel)) ?_
  refine ex_sF rfl ?_
  refine ex_sF rfl ?_
  refine ex_sF rfl ?_
  refine ex_sF rfl ?_
  refine ex_sF rfl ?_
  refine ex_sF rfl ?_
  refine ex_sF rfl ?_
  refine ex_sF rfl ?_
  refine ex_sF (ex_bB rfl rfl (by decide +kernel)) ?_
  refine ex_sF rfl ?_
  refine ex_sF rfl ?_
  refine ex_sF rfl ?_
  refine ex_sF rfl ?_
  refine ex_sF rfl ?_
  refine ex_sF rfl ?_
  refine ex_sF rfl ?_
  refine ex_sF rfl ?_
  refine ex_sF rfl ?_
  refine ex_sF (ex_bF' rfl (by decide +kernel)) ?_
  refine ex_sF rfl ?_
  refine ex_sF rfl ?_
  refine ex_sF (ex_bF' rfl (by decide +kernel)) ?_
  refine ex_sF rfl ?_
  refine ex_sF rfl ?_
  refine ex_sF rfl ?_
  refine ex_sF rfl ?_
  refine ex_sF rfl ?_
  refine ex_sF (ex_bF2 rfl (by decide +kernel)) ?_
  refine ex_sF rfl ?_
  refine ex_sF rfl ?_
  refine ex_sF rfl ?_
  refine ex_sF rfl ?_
  refine ex_sF rfl ?_
  refine ex_sF rfl ?_
  refine ex_sF rfl ?_
  refine ex_sF rfl ?_
  refine ex_sF (ex_bB rfl rfl (by decide +kernel)) ?_
  refine ex_sF rfl ?_
  refine ex_sF rfl ?_
  refine ex_sF rfl ?_
  refine ex_sF rfl ?_
  refine ex_sF rfl ?_
  refine ex_sF rfl ?_
  refine ex_sF rfl ?_
  refine ex_sF rfl ?_
  refine ex_sF rfl ?_
  refine ex_sF (ex_bF' rfl (by decide +kernel)) ?_
  refine ex_sF rfl ?_
  refine ex_sF rfl ?_
  refine ex_sF (ex_bF' rfl (by decide +kernel)) ?_
  refine ex_sF rfl ?_
  refine ex_sF rfl ?_
  refine ex_sF rfl ?_
  refine ex_sF rfl ?_
  refine ex_sF rfl ?_
  refine ex_sF (ex_bF2 rfl (by decide +kernel)) ?_
  refine ex_sF rfl ?_
  refine ex_sF rfl ?_
  refine ex_sF rfl ?_
  refine ex_sF rfl ?_
  refine ex_sF rfl ?_
  refine ex_sF rfl ?_
  refine ex_sF rfl ?_
  refine ex_sF rfl ?_
  refine ex_sF (ex_bB rfl rfl (by decide +kernel)) ?_
  refine ex_sF rfl ?_
  refine ex_sF rfl ?_
  refine ex_sF rfl ?_
  refine ex_sF rfl ?_
  refine ex_sF rfl ?_
  refine ex_sF rfl ?_
  refine ex_sF rfl ?_
  refine ex_sF rfl ?_
  refine ex_sF rfl ?_
  refine ex_sF (ex_bT rfl (by decide +kernel)) ?_
  exact ex_rF rfl
  refine ex_sF rfl ?_
  refine ex_sF rfl ?_
  apply ex_cFn
  exact rfl
  refine ex_uF rfl rfl ?_
  refine ex_sF rfl ?_
  refine ex_sF rfl ?_
  refine ex_sF rfl ?_
  refine ex_sF (ex_bF' rfl (by decide +kernel)) ?_
  refine ex_sF rfl ?_
  refine ex_sF rfl ?_
  refine ex_sF (ex_bF' rfl (by decide +kernel)) ?_
  refine ex_sF rfl ?_
  refine ex_sF rfl ?_
  refine ex_sF rfl ?_
  refine ex_sF rfl ?_
  refine ex_sF rfl ?_
  refine ex_sF (ex_bF2 rfl (by decide +kernel)) ?_
  refine ex_sF rfl ?_
  refine ex_sF rfl ?_
  refine ex_sF rfl ?_
  refine ex_sF rfl ?_
  refine ex_sF rfl ?_
  refine ex_sF rfl ?_
  refine ex_sF rfl ?_
  refine ex_sF rfl ?_
  refine ex_sF (ex_bB rfl rfl (by decide +kernel)) ?_
  refine ex_sF rfl ?_
  refine ex_sF rfl ?_
  refine ex_sF rfl ?_
  refine ex_sF rfl ?_
  refine ex_sF rfl ?_
  refine ex_sF rfl ?_
  refine ex_sF rfl ?_
  refine ex_sF rfl ?_
  refine ex_sF rfl ?_
  refine ex_sF (ex_bF' rfl (by decide +kernel)) ?_
  refine ex_sF rfl ?_
  refine ex_sF rfl ?_
  refine ex_sF (ex_bF' rfl (by decide +kernel)) ?_
  refine ex_sF rfl ?_
  refine ex_sF rfl ?_
  refine ex_sF rfl ?_
  refine ex_sF rfl ?_
  refine ex_sF rfl ?_
  refine ex_sF (ex_bF2 rfl (by decide +kernel)) ?_
  refine ex_sF rfl ?_
  refine ex_sF rfl ?_
  refine ex_sF rfl ?_
  refine ex_sF rfl ?_
  refine ex_sF rfl ?_
  refine ex_sF rfl ?_
  refine ex_sF rfl ?_
  refine ex_sF rfl ?_
  refine ex_sF (ex_bB rfl rfl (by decide +kernel)) ?_
  refine ex_sF rfl ?_
  refine ex_sF rfl ?_
  refine ex_sF rfl ?_
  refine ex_sF rfl ?_
  refine ex_sF rfl ?_
  refine ex_sF rfl ?_
  refine ex_sF rfl ?_
  refine ex_sF rfl ?_
  refine ex_sF rfl ?_
  refine ex_sF (ex_bF' rfl (by decide +kernel)) ?_
  refine ex_sF rfl ?_
  refine ex_sF rfl ?_
  refine ex_sF (ex_bF' rfl (by decide +kernel)) ?_
  refine ex_sF rfl ?_
  refine ex_sF rfl ?_
  refine ex_sF rfl ?_
  refine ex_sF rfl ?_
  refine ex_sF rfl ?_
  refine ex_sF (ex_bF2 rfl (by decide +kernel)) ?_
  refine ex_sF rfl ?_
  refine ex_sF rfl ?_
  refine ex_sF rfl ?_
  refine ex_sF rfl ?_
  refine ex_sF rfl ?_
  refine ex_sF rfl ?_
  refine ex_sF rfl ?_
  refine ex_sF rfl ?_
  refine ex_sF (ex_bB rfl rfl (by decide +kernel)) ?_
  refine ex_sF rfl ?_
  refine ex_sF rfl ?_
  refine ex_sF rfl ?_
  refine ex_sF rfl ?_
  refine ex_sF rfl ?_
  refine ex_sF rfl ?_
  refine ex_sF rfl ?_
  refine ex_sF rfl ?_
  refine ex_sF rfl ?_
  refine ex_sF (ex_bF' rfl (by decide +kernel)) ?_
  refine ex_sF rfl ?_
  refine ex_sF rfl ?_
  refine ex_sF (ex_bF' rfl (by decide +kernel)) ?_
  refine ex_sF rfl ?_
  refine ex_sF rfl ?_
  refine ex_sF rfl ?_
  refine ex_sF rfl ?_
  refine ex_sF rfl ?_
  refine ex_sF (ex_bF2 rfl (by decide +kernel)) ?_
  refine ex_sF rfl ?_
  refine ex_sF rfl ?_
  refine ex_sF rfl ?_
  refine ex_sF rfl ?_
  refine ex_sF rfl ?_
  refine ex_sF rfl ?_
  refine ex_sF rfl ?_
  refine ex_sF rfl ?_
  refine ex_sF (ex_bB rfl rfl (by decide +kernel)) ?_
  refine ex_sF rfl ?_
  refine ex_sF rfl ?_
  refine ex_sF rfl ?_
  refine ex_sF rfl ?_
  refine ex_sF rfl ?_
  refine ex_sF rfl ?_
  refine ex_sF rfl ?_
  refine ex_sF rfl ?_
  refine ex_sF rfl ?_
  refine ex_sF (ex_bT rfl (by decide +kernel)) ?_
  exact ex_rF rfl
  refine ex_sF rfl ?_
  refine ex_sF rfl ?_
  exact ex_rF rfl
  refine ex_uF rfl rfl ?_
  refine ex_sF rfl ?_
  refine ex_sF rfl ?_
  refine ex_sF rfl ?_
  refine ex_sF rfl ?_
  refine ex_sF rfl ?_
  refine ex_sF (ex_bT2 rfl (by decide +kernel)) ?_
  refine ex_sF rfl ?_
  refine ex_sF rfl ?_
  apply ex_cFn
  exact rfl
  refine ex_uF rfl rfl ?_
  refine ex_sF rfl ?_
  refine ex_sF rfl ?_
  refine ex_sF rfl ?_
  refine ex_sF (ex_bF' rfl (by decide +kernel)) ?_
  refine ex_sF rfl ?_
  refine ex_sF rfl ?_
  refine ex_sF rfl ?_
  refine ex_sF rfl ?_
  refine ex_sF rfl ?_
  refine ex_sF rfl ?_
  refine ex_sF rfl ?_
  refine ex_sF rfl ?_
  refine ex_sF (ex_bB rfl rfl (by decide +kernel)) ?_
  refine ex_sF rfl ?_
  refine ex_sF rfl ?_
  refine ex_sF rfl ?_
  refine ex_sF rfl ?_
  refine ex_sF rfl ?_
  refine ex_sF rfl ?_
  refine ex_sF rfl ?_
  refine ex_sF rfl ?_
  refine ex_sF rfl ?_
  refine ex_sF (ex_bF' rfl (by decide +kernel)) ?_
  refine ex_sF rfl ?_
  refine ex_sF rfl ?_
  refine ex_sF rfl ?_
  refine ex_sF rfl ?_
  refine ex_sF rfl ?_
  refine ex_sF rfl ?_
  refine ex_sF rfl ?_
  refine ex_sF rfl ?_
  refine ex_sF (ex_bB rfl rfl (by decide +kernel)) ?_
  refine ex_sF rfl ?_
  refine ex_sF rfl ?_
  refine ex_sF rfl ?_
  refine ex_sF rfl ?_
  refine ex_sF rfl ?_
  refine ex_sF rfl ?_
  refine ex_sF rfl ?_
  refine ex_sF rfl ?_
  refine ex_sF rfl ?_
  refine ex_sF (ex_bF' rfl (by decide +kernel)) ?_
  refine ex_sF rfl ?_
  refine ex_sF rfl ?_
  refine ex_sF rfl ?_
  refine ex_sF rfl ?_
  refine ex_sF rfl ?_
  refine ex_sF rfl ?_
  refine ex_sF rfl ?_
  refine ex_sF rfl ?_
  refine ex_sF (ex_bB rfl rfl (by decide +kernel)) ?_
  refine ex_sF rfl ?_
  refine ex_sF rfl ?_
  refine ex_sF rfl ?_
  refine ex_sF rfl ?_
  refine ex_sF rfl ?_
  refine ex_sF rfl ?_
  refine ex_sF rfl ?_
  refine ex_sF rfl ?_
  refine ex_sF rfl ?_
  refine ex_sF (ex_bF' rfl (by decide +kernel)) ?_
  refine ex_sF rfl ?_
  refine ex_sF rfl ?_
  refine ex_sF rfl ?_
  refine ex_sF rfl ?_
  refine ex_sF rfl ?_
  refine ex_sF rfl ?_
  refine ex_sF rfl ?_
  refine ex_sF rfl ?_
  refine ex_sF (ex_bB rfl rfl (by decide +kernel)) ?_
  refine ex_sF rfl ?_
  refine ex_sF rfl ?_
  refine ex_sF rfl ?_
  refine ex_sF rfl ?_
  refine ex_sF rfl ?_
  refine ex_sF rfl ?_
  refine ex_sF rfl ?_
  refine ex_sF rfl ?_
  refine ex_sF rfl ?_
  refine ex_sF (ex_bT rfl (by decide +kernel)) ?_
  exact ex_rF rfl
  refine ex_sF rfl ?_
  refine ex_sF rfl ?_
  apply ex_cFn
  exact rfl
  refine ex_uF rfl rfl ?_
  refine ex_sF rfl ?_
  refine ex_sF rfl ?_
  refine ex_sF rfl ?_
  refine ex_sF (ex_bF' rfl (by decide +kernel)) ?_
  refine ex_sF rfl ?_
  refine ex_sF rfl ?_
  refine ex_sF rfl ?_
  refine ex_sF rfl ?_
  refine ex_sF rfl ?_
  refine ex_sF rfl ?_
  refine ex_sF rfl ?_
  refine ex_sF rfl ?_
  refine ex_sF (ex_bB rfl rfl (by decide +kernel)) ?_
  refine ex_sF rfl ?_
  refine ex_sF rfl ?_
  refine ex_sF rfl ?_
  refine ex_sF rfl ?_
  refine ex_sF rfl ?_
  refine ex_sF rfl ?_
  refine ex_sF rfl ?_
  refine ex_sF rfl ?_
  refine ex_sF rfl ?_
  refine ex_sF (ex_bF' rfl (by decide +kernel)) ?_
  refine ex_sF rfl ?_
  refine ex_sF rfl ?_
  refine ex_sF rfl ?_
  refine ex_sF rfl ?_
  refine ex_sF rfl ?_
  refine ex_sF rfl ?_
  refine ex_sF rfl ?_
  refine ex_sF rfl ?_
  refine ex_sF (ex_bB rfl rfl (by decide +kernel)) ?_
  refine ex_sF rfl ?_
  refine ex_sF rfl ?_
  refine ex_sF rfl ?_
  refine ex_sF rfl ?_
  refine ex_sF rfl ?_
  refine ex_sF rfl ?_
  refine ex_sF rfl ?_
  refine ex_sF rfl ?_
  refine ex_sF rfl ?_
  refine ex_sF (ex_bF' rfl (by decide +kernel)) ?_
  refine ex_sF rfl ?_
  refine ex_sF rfl ?_
  refine ex_sF rfl ?_
  refine ex_sF rfl ?_
  refine ex_sF rfl ?_
  refine ex_sF rfl ?_
  refine ex_sF rfl ?_
  refine ex_sF rfl ?_
  refine ex_sF (ex_bB rfl rfl (by decide +kernel)) ?_
  refine ex_sF rfl ?_
  refine ex_sF rfl ?_
  refine ex_sF rfl ?_
  refine ex_sF rfl ?_
  refine ex_sF rfl ?_
  refine ex_sF rfl ?_
  refine ex_sF rfl ?_
  refine ex_sF rfl ?_
  refine ex_sF rfl ?_
  refine ex_sF (ex_bF' rfl (by decide +kernel)) ?_
  refine ex_sF rfl ?_
  refine ex_sF rfl ?_
  refine ex_sF rfl ?_
  refine ex_sF rfl ?_
  refine ex_sF rfl ?_
  refine ex_sF rfl ?_
  refine ex_sF rfl ?_
  refine ex_sF rfl ?_
  refine ex_sF (ex_bB rfl rfl (by decide +kernel)) ?_
  refine ex_sF rfl ?_
  refine ex_sF rfl ?_
  refine ex_sF rfl ?_
  refine ex_sF rfl ?_
  refine ex_sF rfl ?_
  refine ex_sF rfl ?_
  refine ex_sF rfl ?_
  refine ex_sF rfl ?_
  refine ex_sF rfl ?_
  refine ex_sF (ex_bT rfl (by decide +kernel)) ?_
  exact ex_rF rfl
  refine ex_sF rfl ?_
  refine ex_sF rfl ?_
  apply ex_cFn
  exact rfl
  refine ex_uF rfl rfl ?_
  refine ex_sF rfl ?_
  refine ex_sF rfl ?_
  refine ex_sF rfl ?_
  refine ex_sF (ex_bF' rfl (by decide +kernel)) ?_
  refine ex_sF rfl ?_
  refine ex_sF rfl ?_
  refine ex_sF rfl ?_
  refine ex_sF rfl ?_
  refine ex_sF rfl ?_
  refine ex_sF rfl ?_
  refine ex_sF rfl ?_
  refine ex_sF rfl ?_
  refine ex_sF (ex_bB rfl rfl (by decide +kernel)) ?_
  refine ex_sF rfl ?_
  refine ex_sF rfl ?_
  refine ex_sF rfl ?_
  refine ex_sF rfl ?_
  refine ex_sF rfl ?_
  refine ex_sF rfl ?_
  refine ex_sF rfl ?_
  refine ex_sF rfl ?_
  refine ex_sF rfl ?_
  refine ex_sF (ex_bF' rfl (by decide +kernel)) ?_
  refine ex_sF rfl ?_
  refine ex_sF rfl ?_
  refine ex_sF rfl ?_
  refine ex_sF rfl ?_
  refine ex_sF rfl ?_
  refine ex_sF rfl ?_
  refine ex_sF rfl ?_
  refine ex_sF rfl ?_
  refine ex_sF (ex_bB rfl rfl (by decide +kernel)) ?_
  refine ex_sF rfl ?_
  refine ex_sF rfl ?_
  refine ex_sF rfl ?_
  refine ex_sF rfl ?_
  refine ex_sF rfl ?_
  refine ex_sF rfl ?_
  refine ex_sF rfl ?_
  refine ex_sF rfl ?_
  refine ex_sF rfl ?_
  refine ex_sF (ex_bF' rfl (by decide +kernel)) ?_
  refine ex_sF rfl ?_
  refine ex_sF rfl ?_
  refine ex_sF rfl ?_
  refine ex_sF rfl ?_
  refine ex_sF rfl ?_
  refine ex_sF rfl ?_
  refine ex_sF rfl ?_
  refine ex_sF rfl ?_
  refine ex_sF (ex_bB rfl rfl (by decide +kernel)) ?_
  refine ex_sF rfl ?_
  refine ex_sF rfl ?_
  refine ex_sF rfl ?_
  refine ex_sF rfl ?_
  refine ex_sF rfl ?_
  refine ex_sF rfl ?_
  refine ex_sF rfl ?_
  refine ex_sF rfl ?_
  refine ex_sF rfl ?_
  refine ex_sF (ex_bF' rfl (by decide +kernel)) ?_
  refine ex_sF rfl ?_
  refine ex_sF rfl ?_
  refine ex_sF rfl ?_
  refine ex_sF rfl ?_
  refine ex_sF rfl ?_
  refine ex_sF rfl ?_
  refine ex_sF rfl ?_
  refine ex_sF rfl ?_
  refine ex_sF (ex_bB rfl rfl (by decide +kernel)) ?_
  refine ex_sF rfl ?_
  refine ex_sF rfl ?_
  refine ex_sF rfl ?_
  refine ex_sF rfl ?_
  refine ex_sF rfl ?_
  refine ex_sF rfl ?_
  refine ex_sF rfl ?_
  refine ex_sF rfl ?_
  refine ex_sF rfl ?_
  refine ex_sF (ex_bT rfl (by decide +kernel)) ?_
  exact ex_rF rfl
  refine ex_sF rfl ?_
  refine ex_sF rfl ?_
  apply ex_cFn
  exact rfl
  refine ex_uF rfl rfl ?_
  refine ex_sF rfl ?_
  refine ex_sF rfl ?_
  refine ex_sF rfl ?_
  refine ex_sF (ex_bF' rfl (by decide +kernel)) ?_
  refine ex_sF rfl ?_
  refine ex_sF rfl ?_
  refine ex_sF rfl ?_
  refine ex_sF rfl ?_
  refine ex_sF rfl ?_
  refine ex_sF rfl ?_
  refine ex_sF rfl ?_
  refine ex_sF rfl ?_
  refine ex_sF (ex_bB rfl rfl (by decide +kernel)) ?_
  refine ex_sF rfl ?_
  refine ex_sF rfl ?_
  refine ex_sF rfl ?_
  refine ex_sF rfl ?_
  refine ex_sF rfl ?_
  refine ex_sF rfl ?_
  refine ex_sF rfl ?_
  refine ex_sF rfl ?_
  refine ex_sF rfl ?_
  refine ex_sF (ex_bF' rfl (by decide +kernel)) ?_
  refine ex_sF rfl ?_
  refine ex_sF rfl ?_
  refine ex_sF rfl ?_
  refine ex_sF rfl ?_
  refine ex_sF rfl ?_
  refine ex_sF rfl ?_
  refine ex_sF rfl ?_
  refine ex_sF rfl ?_
  refine ex_sF (ex_bB rfl rfl (by decide +kernel)) ?_
  refine ex_sF rfl ?_
  refine ex_sF rfl ?_
  refine ex_sF rfl ?_
  refine ex_sF rfl ?_
  refine ex_sF rfl ?_
  refine ex_sF rfl ?_
  refine ex_sF rfl ?_
  refine ex_sF rfl ?_
  refine ex_sF rfl ?_
  refine ex_sF (ex_bF' rfl (by decide +kernel)) ?_
  refine ex_sF rfl ?_
  refine ex_sF rfl ?_
  refine ex_sF rfl ?_
  refine ex_sF rfl ?_
  refine ex_sF rfl ?_
  refine ex_sF rfl ?_
  refine ex_sF rfl ?_
  refine ex_sF rfl ?_
  refine ex_sF (ex_bB rfl rfl (by decide +kernel)) ?_
  refine ex_sF rfl ?_
  refine ex_sF rfl ?_
  refine ex_sF rfl ?_
  refine ex_sF rfl ?_
  refine ex_sF rfl ?_
  refine ex_sF rfl ?_
  refine ex_sF rfl ?_
  refine ex_sF rfl ?_
  refine ex_sF rfl ?_
  refine ex_sF (ex_bF' rfl (by decide +kernel)) ?_
  refine ex_sF rfl ?_
  refine ex_sF rfl ?_
  refine ex_sF rfl ?_
  refine ex_sF rfl ?_
  refine ex_sF rfl ?_
  refine ex_sF rfl ?_
  refine ex_sF rfl ?_
  refine ex_sF rfl ?_
  refine ex_sF (ex_bB rfl rfl (by decide +kernel)) ?_
  refine ex_sF rfl ?_
  refine ex_sF rfl ?_
  refine ex_sF rfl ?_
  refine ex_sF rfl ?_
  refine ex_sF rfl ?_
  refine ex_sF rfl ?_
  refine ex_sF rfl ?_
  refine ex_sF rfl ?_
  refine ex_sF rfl ?_
  refine ex_sF (ex_bT rfl (by decide +kernel)) ?_
  exact ex_rF rfl
  refine ex_sF rfl ?_
  refine ex_sF rfl ?_
  apply ex_cFn
  exact rfl
  refine ex_uF rfl rfl ?_
  refine ex_sF rfl ?_
  refine ex_sF rfl ?_
  refine ex_sF rfl ?_
  refine ex_sF (ex_bF' rfl (by decide +kernel)) ?_
  refine ex_sF rfl ?_
  refine ex_sF rfl ?_
  refine ex_sF rfl ?_
  refine ex_sF rfl ?_
  refine ex_sF rfl ?_
  refine ex_sF rfl ?_
  refine ex_sF rfl ?_
  refine ex_sF rfl ?_
  refine ex_sF (ex_bB rfl rfl (by decide +kernel)) ?_
  refine ex_sF rfl ?_
  refine ex_sF rfl ?_
  refine ex_sF rfl ?_
  refine ex_sF rfl ?_
  refine ex_sF rfl ?_
  refine ex_sF rfl ?_
  refine ex_sF rfl ?_
  refine ex_sF rfl ?_
  refine ex_sF rfl ?_
  refine ex_sF (ex_bF' rfl (by decide +kernel)) ?_
  refine ex_sF rfl ?_
  refine ex_sF rfl ?_
  refine ex_sF rfl ?_
  refine ex_sF rfl ?_
  refine ex_sF rfl ?_
  refine ex_sF rfl ?_
  refine ex_sF rfl ?_
  refine ex_sF rfl ?_
  refine ex_sF (ex_bB rfl rfl (by decide +kernel)) ?_
  refine ex_sF rfl ?_
  refine ex_sF rfl ?_
  refine ex_sF rfl ?_
  refine ex_sF rfl ?_
  refine ex_sF rfl ?_
  refine ex_sF rfl ?_
  refine ex_sF rfl ?_
  refine ex_sF rfl ?_
  refine ex_sF rfl ?_
  refine ex_sF (ex_bF' rfl (by decide +kernel)) ?_
  refine ex_sF rfl ?_
  refine ex_sF rfl ?_
  refine ex_sF rfl ?_
  refine ex_sF rfl ?_
  refine ex_sF rfl ?_
  refine ex_sF rfl ?_
  refine ex_sF rfl ?_
  refine ex_sF rfl ?_
  refine ex_sF (ex_bB rfl rfl (by decide +kernel)) ?_
  refine ex_sF rfl ?_
  refine ex_sF rfl ?_
  refine ex_sF rfl ?_
  refine ex_sF rfl ?_
  refine ex_sF rfl ?_
  refine ex_sF rfl ?_
  refine ex_sF rfl ?_
  refine ex_sF rfl ?_
  refine ex_sF rfl ?_
  refine ex_sF (ex_bF' rfl (by decide +kernel)) ?_
  refine ex_sF rfl ?_
  refine ex_sF rfl ?_
  refine ex_sF rfl ?_
  refine ex_sF rfl ?_
  refine ex_sF rfl ?_
  refine ex_sF rfl ?_
  refine ex_sF rfl ?_
  refine ex_sF rfl ?_
  refine ex_sF (ex_bB rfl rfl (by decide +kernel)) ?_
  refine ex_sF rfl ?_
  refine ex_sF rfl ?_
  refine ex_sF rfl ?_
  refine ex_sF rfl ?_
  refine ex_sF rfl ?_
  refine ex_sF rfl ?_
  refine ex_sF rfl ?_
  refine ex_sF rfl ?_
  refine ex_sF rfl ?_
  refine ex_sF (ex_bT rfl (by decide +kernel)) ?_
  exact ex_rF rfl
  refine ex_sF rfl ?_
  refine ex_sF rfl ?_
  exact ex_rF rfl
  · first | exact Nat.le_of_ble_eq_true rfl | (simp only [ex_set_len]; exact Nat.le_of_ble_eq_true rfl)
  · first | exact Nat.le_of_ble_eq_true rfl | (simp only [ex_set_two]; exact Nat.le_of_ble_eq_true rfl)
set_option maxRecDepth 100000 in
theorem ex_e_cut1 (N : Nat) (a : Int32) (h1 : ex_lt0 a = true) : ex_Both (N + 60) 29 63 [.ref 148, .int a] [.ref 219, .int a] := by
  apply ex_Both_i (-1)
  refine ex_uF rfl rfl ?_
  refine ex_sF rfl ?_
  refine ex_sF (ex_bT rfl h1) ?_
  refine ex_sF rfl ?_
  exact ex_rF rfl
  refine ex_uF rfl rfl ?_
  refine ex_sF rfl ?_
  refine ex_sF (ex_bT rfl h1) ?_
  refine ex_sF rfl ?_
  exact ex_rF rfl
  · first | exact Nat.le_of_ble_eq_true rfl | (simp only [ex_set_len]; exact Nat.le_of_ble_eq_true rfl)
  · first | exact Nat.le_of_ble_eq_true rfl | (simp only [ex_set_two]; exact Nat.le_of_ble_eq_true rfl)
set_option maxRecDepth 100000 in
theorem ex_e_cut2 (N : Nat) (a : Int32) (h1 : ex_lt0 a = false) (h2 : ex_le a 0 = false) : ex_Both (N + 60) 29 63 [.ref 148, .int a] [.ref 219, .int a] := by
  apply ex_Both_i (-1)
  refine ex_uF rfl rfl ?_
  refine ex_sF rfl ?_
  refine ex_sF (ex_bF' rfl h1) ?_
  refine ex_sF rfl ?_
  refine ex_sF rfl ?_
  refine ex_sF rfl ?_
  refine ex_sF (ex_bF2 rfl h2) ?_
  refine ex_sF rfl ?_
  exact ex_rF rfl
  refine ex_uF rfl rfl ?_
  refine ex_sF rfl ?_
  refine ex_sF (ex_bF' rfl h1) ?_
  refine ex_sF rfl ?_
  refine ex_sF rfl ?_
  refine ex_sF rfl ?_
  refine ex_sF (ex_bF2 rfl h2) ?_
  refine ex_sF rfl ?_
  exact ex_rF rfl
  · first | exact Nat.le_of_ble_eq_true rfl | (simp only [ex_set_len]; exact Nat.le_of_ble_eq_true rfl)
  · first | exact Nat.le_of_ble_eq_true rfl | (simp only [ex_set_two]; exact Nat.le_of_ble_eq_true rfl)
set_option maxRecDepth 100000 in
theorem ex_e_cut3 (N : Nat)  : ex_Both (N + 60) 29 63 [.ref 148, .int 0] [.ref 219, .int 0] := by
  apply ex_Both_i 0
  refine ex_uF rfl rfl ?_
  refine ex_sF rfl ?_
  refine ex_sF (ex_bF' rfl (by decide +kernel)) ?_
  refine ex_sF rfl ?_
  refine ex_sF rfl ?_
  refine ex_sF rfl ?_
  refine ex_sF (ex_bT2 rfl (by decide +kernel)) ?_
  refine ex_sF rfl ?_
  refine ex_sF rfl ?_
  refine ex_sF rfl ?_
  refine ex_sF rfl ?_
  refine ex_sF rfl ?_
  refine ex_sF rfl ?_
  refine ex_sF rfl ?_
  refine ex_sF rfl ?_
  refine ex_sF rfl ?_
  exact ex_rF rfl
  refine ex_uF rfl rfl ?_
  refine ex_sF rfl ?_
  refine ex_sF (ex_bF' rfl (by decide +kernel)) ?_
  refine ex_sF rfl ?_
  refine ex_sF rfl ?_
  refine ex_sF rfl ?_
  refine ex_sF (ex_bT2 rfl (by decide +kernel)) ?_
  refine ex_sF rfl ?_
  refine ex_sF rfl ?_
  refine ex_sF rfl ?_
  refine ex_sF rfl ?_
  refine ex_sF rfl ?_
  refine ex_sF rfl ?_
  refine ex_sF rfl ?_
  refine ex_sF rfl ?_
  refine ex_sF rfl ?_
  exact ex_rF rfl
  · first | exact Nat.le_of_ble_eq_true rfl | (simp only [ex_set_len]; exact Nat.le_of_ble_eq_true rfl)
  · first | exact Nat.le_of_ble_eq_true rfl | (simp only [ex_set_two]; exact Nat.le_of_ble_eq_true rfl)
theorem ex_e_cut (N : Nat) (a : Int32) : ex_Both (N + 60) 29 63 [.ref 148, .int a] [.ref 219, .int a] := by
  cases h1 : ex_lt0 a with
  | true => exact ex_e_cut1 N a h1
  | false =>
    cases h2 : ex_le a 0 with
    | false => exact ex_e_cut2 N a h1 h2
    | true =>
      have e : a = 0 := Int32.le_antisymm (ex_le_t.mp h2) (Int32.not_lt.mp ((ex_bF ex_lt0_t).mp h1))
      subst e
      exact ex_e_cut3 N
theorem ex_e_load : ex_Both 1000000 43 80 [.ref 148] [.ref 219] := ex_both_s (by decide +kernel)
set_option maxRecDepth 100000 in
theorem ex_e_fault0 (N : Nat)  : ex_Both (N + 60) 33 68 [.ref 148, .int 0] [.ref 219, .int 0] := by
  apply ex_Both_i 0
  refine ex_uF rfl rfl ?_
  refine ex_sF rfl ?_
  refine ex_sF (ex_bI (t := 32) (off := 31) rfl (by decide +kernel) (by decide +kernel) rfl) ?_
  refine ex_sF rfl ?_
  refine ex_sF rfl ?_
  exact ex_rF rfl
  refine ex_uF rfl rfl ?_
  refine ex_sF rfl ?_
  refine ex_sF (ex_bF' rfl (by decide +kernel)) ?_
  refine ex_sF rfl ?_
  refine ex_sF rfl ?_
  refine ex_sF rfl ?_
  exact ex_rF rfl
  · first | exact Nat.le_of_ble_eq_true rfl | (simp only [ex_set_len]; exact Nat.le_of_ble_eq_true rfl)
  · first | exact Nat.le_of_ble_eq_true rfl | (simp only [ex_set_two]; exact Nat.le_of_ble_eq_true rfl)
set_option maxRecDepth 100000 in
theorem ex_e_fault1 (N : Nat)  : ex_Both (N + 60) 33 68 [.ref 148, .int 1] [.ref 219, .int 1] := by
  apply ex_Both_i (-1)
  refine ex_uF rfl rfl ?_
  refine ex_sF rfl ?_
  refine ex_sF (ex_bI (t := 37) (off := 36) rfl (by decide +kernel) (by decide +kernel) rfl) ?_
  refine ex_sF rfl ?_
  refine ex_sF rfl ?_
  exact ex_rF rfl
  refine ex_uF rfl rfl ?_
  refine ex_sF rfl ?_
  refine ex_sF (ex_bT rfl (by decide +kernel)) ?_
  refine ex_sF rfl ?_
  refine ex_sF rfl ?_
  refine ex_sF (ex_bF2 rfl (by decide +kernel)) ?_
  refine ex_sF rfl ?_
  refine ex_sF rfl ?_
  refine ex_sF rfl ?_
  exact ex_rF rfl
  · first | exact Nat.le_of_ble_eq_true rfl | (simp only [ex_set_len]; exact Nat.le_of_ble_eq_true rfl)
  · first | exact Nat.le_of_ble_eq_true rfl | (simp only [ex_set_two]; exact Nat.le_of_ble_eq_true rfl)
set_option maxRecDepth 100000 in
theorem ex_e_fault2 (N : Nat)  : ex_Both (N + 60) 33 68 [.ref 148, .int 2] [.ref 219, .int 2] := by
  apply ex_Both_i 0
  refine ex_uF rfl rfl ?_
  refine ex_sF rfl ?_
  refine ex_sF (ex_bI (t := 42) (off := 41) rfl (by decide +kernel) (by decide +kernel) rfl) ?_
  refine ex_sF rfl ?_
  refine ex_sF rfl ?_
  exact ex_rF rfl
  refine ex_uF rfl rfl ?_
  refine ex_sF rfl ?_
  refine ex_sF (ex_bT rfl (by decide +kernel)) ?_
  refine ex_sF rfl ?_
  refine ex_sF rfl ?_
  refine ex_sF (ex_bT2 rfl (by decide +kernel)) ?_
  refine ex_sF rfl ?_
  refine ex_sF rfl ?_
  refine ex_sF (ex_bF2 rfl (by decide +kernel)) ?_
  refine ex_sF rfl ?_
  refine ex_sF rfl ?_
  refine ex_sF rfl ?_
  exact ex_rF rfl
  · first | exact Nat.le_of_ble_eq_true rfl | (simp only [ex_set_len]; exact Nat.le_of_ble_eq_true rfl)
  · first | exact Nat.le_of_ble_eq_true rfl | (simp only [ex_set_two]; exact Nat.le_of_ble_eq_true rfl)
set_option maxRecDepth 100000 in
theorem ex_e_fault3 (N : Nat)  : ex_Both (N + 60) 33 68 [.ref 148, .int 3] [.ref 219, .int 3] := by
  apply ex_Both_i (-1)
  refine ex_uF rfl rfl ?_
  refine ex_sF rfl ?_
  refine ex_sF (ex_bI (t := 47) (off := 46) rfl (by decide +kernel) (by decide +kernel) rfl) ?_
  refine ex_sF rfl ?_
  refine ex_sF rfl ?_
  exact ex_rF rfl
  refine ex_uF rfl rfl ?_
  refine ex_sF rfl ?_
  refine ex_sF (ex_bT rfl (by decide +kernel)) ?_
  refine ex_sF rfl ?_
  refine ex_sF rfl ?_
  refine ex_sF (ex_bT2 rfl (by decide +kernel)) ?_
  refine ex_sF rfl ?_
  refine ex_sF rfl ?_
  refine ex_sF (ex_bT2 rfl (by decide +kernel)) ?_
  refine ex_sF rfl ?_
  refine ex_sF rfl ?_
  refine ex_sF (ex_bF2 rfl (by decide +kernel)) ?_
  refine ex_sF rfl ?_
  refine ex_sF rfl ?_
  refine ex_sF rfl ?_
  exact ex_rF rfl
  · first | exact Nat.le_of_ble_eq_true rfl | (simp only [ex_set_len]; exact Nat.le_of_ble_eq_true rfl)
  · first | exact Nat.le_of_ble_eq_true rfl | (simp only [ex_set_two]; exact Nat.le_of_ble_eq_true rfl)
set_option maxRecDepth 100000 in
theorem ex_e_fault9 (N : Nat) (a : Int32) (h0 : a.toInt < 0 ∨ 3 < a.toInt) (n0 : ex_ne0 a = true) (n1 : ex_ne a 1 = true) (n2 : ex_ne a 2 = true) (n3 : ex_ne a 3 = true) : ex_Both (N + 60) 33 68 [.ref 148, .int a] [.ref 219, .int a] := by
  apply ex_Both_i (-1)
  refine ex_uF rfl rfl ?_
  refine ex_sF rfl ?_
  refine ex_sF (ex_bO (t := 52) rfl h0 rfl) ?_
  refine ex_sF rfl ?_
  exact ex_rF rfl
  refine ex_uF rfl rfl ?_
  refine ex_sF rfl ?_
  refine ex_sF (ex_bT rfl n0) ?_
  refine ex_sF rfl ?_
  refine ex_sF rfl ?_
  refine ex_sF (ex_bT2 rfl n1) ?_
  refine ex_sF rfl ?_
  refine ex_sF rfl ?_
  refine ex_sF (ex_bT2 rfl n2) ?_
  refine ex_sF rfl ?_
  refine ex_sF rfl ?_
  refine ex_sF (ex_bT2 rfl n3) ?_
  refine ex_sF rfl ?_
  exact ex_rF rfl
  · first | exact Nat.le_of_ble_eq_true rfl | (simp only [ex_set_len]; exact Nat.le_of_ble_eq_true rfl)
  · first | exact Nat.le_of_ble_eq_true rfl | (simp only [ex_set_two]; exact Nat.le_of_ble_eq_true rfl)
theorem ex_e_fault (N : Nat) (a : Int32) : ex_Both (N + 60) 33 68 [.ref 148, .int a] [.ref 219, .int a] := by
  by_cases h0 : a = 0
  · subst h0; exact ex_e_fault0 N
  by_cases h1 : a = 1
  · subst h1; exact ex_e_fault1 N
  by_cases h2 : a = 2
  · subst h2; exact ex_e_fault2 N
  by_cases h3 : a = 3
  · subst h3; exact ex_e_fault3 N
  refine ex_e_fault9 N a ?_ (ex_ne0_t.mpr h0) (ex_ne_t.mpr h1) (ex_ne_t.mpr h2) (ex_ne_t.mpr h3)
  have q0 : ¬ a.toInt = 0 := fun q => h0 (Int32.toInt_inj.mp q)
  have q1 : ¬ a.toInt = 1 := fun q => h1 (Int32.toInt_inj.mp q)
  have q2 : ¬ a.toInt = 2 := fun q => h2 (Int32.toInt_inj.mp q)
  have q3 : ¬ a.toInt = 3 := fun q => h3 (Int32.toInt_inj.mp q)
  omega
theorem ex_e_objects : ex_Both 1000000 46 83 [.ref 148] [.ref 219] := ex_both_s (by decide +kernel)
set_option maxRecDepth 100000 in
theorem ex_e_go (N : Nat) (a : Int32) : ex_Both (N + 60) 36 71 [.ref 148, .int a] [.ref 219, .int a] := by
  apply ex_Both_i (-1)
  refine ex_uF rfl rfl ?_
  refine ex_sF rfl ?_
  refine ex_sF rfl ?_
  refine ex_sF rfl ?_
  refine ex_sF rfl ?_
  refine ex_sF rfl ?_
  refine ex_sF (ex_bT rfl (by decide +kernel)) ?_
  refine ex_sF rfl ?_
  exact ex_rF rfl
  refine ex_uF rfl rfl ?_
  refine ex_sF rfl ?_
  refine ex_sF rfl ?_
  refine ex_sF rfl ?_
  refine ex_sF rfl ?_
  refine ex_sF rfl ?_
  apply ex_cFv
  exact rfl
  refine ex_uF rfl rfl ?_
  refine ex_sF rfl ?_
  refine ex_sF rfl ?_
  refine ex_sF (ex_bT rfl (by decide +kernel)) ?_
  refine ex_sF rfl ?_
  exact ex_rF rfl
  refine ex_sF (ex_bF' rfl (by decide +kernel)) ?_
  refine ex_sF rfl ?_
  exact ex_rF rfl
  · first | exact Nat.le_of_ble_eq_true rfl | (simp only [ex_set_len]; exact Nat.le_of_ble_eq_true rfl)
  · first | exact Nat.le_of_ble_eq_true rfl | (simp only [ex_set_two]; exact Nat.le_of_ble_eq_true rfl)
set_option maxRecDepth 100000 in
theorem ex_e_down (N : Nat) (a : Int32) : ex_Both (N + 60) 32 66 [.ref 148, .int a] [.ref 219, .int a] := by
  apply ex_Both_i (-1)
  refine ex_uF rfl rfl ?_
  refine ex_sF rfl ?_
  apply ex_cFv
  exact rfl
  refine ex_uF rfl rfl ?_
  refine ex_sF rfl ?_
  refine ex_sF rfl ?_
  refine ex_sF (ex_bT rfl (by decide +kernel)) ?_
  refine ex_sF rfl ?_
  refine ex_sF rfl ?_
  exact ex_rF rfl
  refine ex_sF (ex_bT rfl (by decide +kernel)) ?_
  refine ex_sF rfl ?_
  exact ex_rF rfl
  refine ex_uF rfl rfl ?_
  refine ex_sF rfl ?_
  refine ex_sF rfl ?_
  refine ex_sF (ex_bT rfl (by decide +kernel)) ?_
  refine ex_sF rfl ?_
  exact ex_rF rfl
  · first | exact Nat.le_of_ble_eq_true rfl | (simp only [ex_set_len]; exact Nat.le_of_ble_eq_true rfl)
  · first | exact Nat.le_of_ble_eq_true rfl | (simp only [ex_set_two]; exact Nat.le_of_ble_eq_true rfl)
theorem ex_e_up : ex_Both 1000000 56 94 [.ref 148] [.ref 219] := ex_both_s (by decide +kernel)
set_option maxRecDepth 100000 in
theorem ex_e_here (N : Nat) (a : Int32) : ex_Both (N + 60) 37 73 [.ref 148, .int a] [.ref 219, .int a] := by
  apply ex_Both_i (-1)
  refine ex_uF rfl rfl ?_
  refine ex_sF rfl ?_
  apply ex_cFv
  exact rfl
  refine ex_uF rfl rfl ?_
  refine ex_sF rfl ?_
  refine ex_sF rfl ?_
  refine ex_sF (ex_bT rfl (by decide +kernel)) ?_
  refine ex_sF rfl ?_
  refine ex_sF rfl ?_
  exact ex_rF rfl
  refine ex_sF (ex_bT rfl (by decide +kernel)) ?_
  refine ex_sF rfl ?_
  exact ex_rF rfl
  refine ex_uF rfl rfl ?_
  refine ex_sF rfl ?_
  refine ex_sF rfl ?_
  refine ex_sF (ex_bT rfl (by decide +kernel)) ?_
  refine ex_sF rfl ?_
  exact ex_rF rfl
  · first | exact Nat.le_of_ble_eq_true rfl | (simp only [ex_set_len]; exact Nat.le_of_ble_eq_true rfl)
  · first | exact Nat.le_of_ble_eq_true rfl | (simp only [ex_set_two]; exact Nat.le_of_ble_eq_true rfl)
set_option maxRecDepth 100000 in
theorem ex_e_letter (N : Nat) (a b : Int32) : ex_Both (N + 60) 42 79 [.ref 148, .int a, .int b] [.ref 219, .int a, .int b] := by
  apply ex_Both_i (-1)
  refine ex_uF rfl rfl ?_
  refine ex_sF rfl ?_
  apply ex_cFv
  exact rfl
  refine ex_uF rfl rfl ?_
  refine ex_sF rfl ?_
  refine ex_sF rfl ?_
  refine ex_sF (ex_bT rfl (by decide +kernel)) ?_
  refine ex_sF rfl ?_
  refine ex_sF rfl ?_
  exact ex_rF rfl
  refine ex_sF (ex_bF' rfl (by decide +kernel)) ?_
  refine ex_sF rfl ?_
  exact ex_rF rfl
  refine ex_uF rfl rfl ?_
  refine ex_sF rfl ?_
  refine ex_sF rfl ?_
  refine ex_sF (ex_bF' rfl (by decide +kernel)) ?_
  refine ex_sF rfl ?_
  exact ex_rF rfl
  · first | exact Nat.le_of_ble_eq_true rfl | (simp only [ex_set_len]; exact Nat.le_of_ble_eq_true rfl)
  · first | exact Nat.le_of_ble_eq_true rfl | (simp only [ex_set_two]; exact Nat.le_of_ble_eq_true rfl)
set_option maxRecDepth 100000 in
theorem ex_e_size (N : Nat) (a : Int32) : ex_Both (N + 60) 52 90 [.ref 148, .int a] [.ref 219, .int a] := by
  apply ex_Both_i (-1)
  refine ex_uF rfl rfl ?_
  refine ex_sF rfl ?_
  refine ex_sF rfl ?_
  refine ex_sF (ex_bT rfl (by decide +kernel)) ?_
  refine ex_sF rfl ?_
  exact ex_rF rfl
  refine ex_uF rfl rfl ?_
  refine ex_sF rfl ?_
  refine ex_sF rfl ?_
  apply ex_cFv
  exact rfl
  refine ex_uF rfl rfl ?_
  refine ex_sF rfl ?_
  refine ex_sF rfl ?_
  refine ex_sF (ex_bT rfl (by decide +kernel)) ?_
  refine ex_sF rfl ?_
  exact ex_rF rfl
  refine ex_sF (ex_bT rfl (by decide +kernel)) ?_
  refine ex_sF rfl ?_
  exact ex_rF rfl
  · first | exact Nat.le_of_ble_eq_true rfl | (simp only [ex_set_len]; exact Nat.le_of_ble_eq_true rfl)
  · first | exact Nat.le_of_ble_eq_true rfl | (simp only [ex_set_two]; exact Nat.le_of_ble_eq_true rfl)
set_option maxRecDepth 100000 in
theorem ex_e_data (N : Nat) (a b : Int32) : ex_Both (N + 60) 30 64 [.ref 148, .int a, .int b] [.ref 219, .int a, .int b] := by
  apply ex_Both_i (-1)
  refine ex_uF rfl rfl ?_
  refine ex_sF rfl ?_
  refine ex_sF rfl ?_
  refine ex_sF (ex_bT rfl (by decide +kernel)) ?_
  refine ex_sF rfl ?_
  exact ex_rF rfl
  refine ex_uF rfl rfl ?_
  refine ex_sF rfl ?_
  refine ex_sF rfl ?_
  apply ex_cFv
  exact rfl
  refine ex_uF rfl rfl ?_
  refine ex_sF rfl ?_
  refine ex_sF rfl ?_
  refine ex_sF (ex_bT rfl (by decide +kernel)) ?_
  refine ex_sF rfl ?_
  exact ex_rF rfl
  refine ex_sF (ex_bT rfl (by decide +kernel)) ?_
  refine ex_sF rfl ?_
  exact ex_rF rfl
  · first | exact Nat.le_of_ble_eq_true rfl | (simp only [ex_set_len]; exact Nat.le_of_ble_eq_true rfl)
  · first | exact Nat.le_of_ble_eq_true rfl | (simp only [ex_set_two]; exact Nat.le_of_ble_eq_true rfl)
set_option maxRecDepth 100000 in
theorem ex_e_count (N : Nat) (a : Int32) : ex_Both (N + 60) 28 62 [.ref 148, .int a] [.ref 219, .int a] := by
  apply ex_Both_i (-1)
  refine ex_uF rfl rfl ?_
  refine ex_sF rfl ?_
  refine ex_sF rfl ?_
  refine ex_sF (ex_bF' rfl (by decide +kernel)) ?_
  refine ex_sF rfl ?_
  exact ex_rF rfl
  refine ex_uF rfl rfl ?_
  refine ex_sF rfl ?_
  refine ex_sF rfl ?_
  refine ex_sF (ex_bF' rfl (by decide +kernel)) ?_
  refine ex_sF rfl ?_
  exact ex_rF rfl
  · first | exact Nat.le_of_ble_eq_true rfl | (simp only [ex_set_len]; exact Nat.le_of_ble_eq_true rfl)
  · first | exact Nat.le_of_ble_eq_true rfl | (simp only [ex_set_two]; exact Nat.le_of_ble_eq_true rfl)
theorem ex_e_pages : ex_Both 1000000 50 87 [.ref 148] [.ref 219] := ex_both_s (by decide +kernel)
set_option maxRecDepth 100000 in
theorem ex_e_page (N : Nat) (a b : Int32) : ex_Both (N + 60) 49 86 [.ref 148, .int a, .int b] [.ref 219, .int a, .int b] := by
  apply ex_Both_i (-1)
  refine ex_uF rfl rfl ?_
  refine ex_sF rfl ?_
  refine ex_sF rfl ?_
  refine ex_sF (ex_bF' rfl (by decide +kernel)) ?_
  refine ex_sF rfl ?_
  exact ex_rF rfl
  refine ex_uF rfl rfl ?_
  refine ex_sF rfl ?_
  refine ex_sF rfl ?_
  refine ex_sF (ex_bF' rfl (by decide +kernel)) ?_
  refine ex_sF rfl ?_
  exact ex_rF rfl
  · first | exact Nat.le_of_ble_eq_true rfl | (simp only [ex_set_len]; exact Nat.le_of_ble_eq_true rfl)
  · first | exact Nat.le_of_ble_eq_true rfl | (simp only [ex_set_two]; exact Nat.le_of_ble_eq_true rfl)
set_option maxRecDepth 100000 in
theorem ex_e_show (N : Nat) (a : Int32) : ex_Both (N + 60) 51 89 [.ref 148, .int a] [.ref 219, .int a] := by
  apply ex_Both_i (-1)
  refine ex_uF rfl rfl ?_
  refine ex_sF rfl ?_
  refine ex_sF rfl ?_
  refine ex_sF (ex_bT rfl (by decide +kernel)) ?_
  refine ex_sF rfl ?_
  exact ex_rF rfl
  refine ex_uF rfl rfl ?_
  refine ex_sF rfl ?_
  refine ex_sF rfl ?_
  apply ex_cFv
  exact rfl
  refine ex_uF rfl rfl ?_
  refine ex_sF rfl ?_
  refine ex_sF rfl ?_
  refine ex_sF (ex_bT rfl (by decide +kernel)) ?_
  refine ex_sF rfl ?_
  exact ex_rF rfl
  refine ex_sF (ex_bF' rfl (by decide +kernel)) ?_
  refine ex_sF rfl ?_
  exact ex_rF rfl
  · first | exact Nat.le_of_ble_eq_true rfl | (simp only [ex_set_len]; exact Nat.le_of_ble_eq_true rfl)
  · first | exact Nat.le_of_ble_eq_true rfl | (simp only [ex_set_two]; exact Nat.le_of_ble_eq_true rfl)
set_option maxRecDepth 100000 in
theorem ex_e_glyph1 (N : Nat) (a b : Int32) (h1 : ex_lt0 a = true) : ex_Both (N + 60) 35 70 [.ref 148, .int a, .int b] [.ref 219, .int a, .int b] := by
  apply ex_Both_i (-1)
  refine ex_uF rfl rfl ?_
  refine ex_sF rfl ?_
  refine ex_sF rfl ?_
  refine ex_sF (ex_bT rfl (by decide +kernel)) ?_
  refine ex_sF rfl ?_
  exact ex_rF rfl
  refine ex_uF rfl rfl ?_
  refine ex_sF rfl ?_
  refine ex_sF (ex_bT rfl h1) ?_
  refine ex_sF rfl ?_
  exact ex_rF rfl
  · first | exact Nat.le_of_ble_eq_true rfl | (simp only [ex_set_len]; exact Nat.le_of_ble_eq_true rfl)
  · first | exact Nat.le_of_ble_eq_true rfl | (simp only [ex_set_two]; exact Nat.le_of_ble_eq_true rfl)
set_option maxRecDepth 100000 in
theorem ex_e_glyph2 (N : Nat) (a b : Int32) (h1 : ex_lt0 a = false) (h2 : ex_ge a 0 = true) : ex_Both (N + 60) 35 70 [.ref 148, .int a, .int b] [.ref 219, .int a, .int b] := by
  apply ex_Both_i (-1)
  refine ex_uF rfl rfl ?_
  refine ex_sF rfl ?_
  refine ex_sF rfl ?_
  refine ex_sF (ex_bT rfl (by decide +kernel)) ?_
  refine ex_sF rfl ?_
  exact ex_rF rfl
  refine ex_uF rfl rfl ?_
  refine ex_sF rfl ?_
  refine ex_sF (ex_bF' rfl h1) ?_
  refine ex_sF rfl ?_
  refine ex_sF rfl ?_
  refine ex_sF rfl ?_
  refine ex_sF (ex_bT2 rfl h2) ?_
  refine ex_sF rfl ?_
  exact ex_rF rfl
  · first | exact Nat.le_of_ble_eq_true rfl | (simp only [ex_set_len]; exact Nat.le_of_ble_eq_true rfl)
  · first | exact Nat.le_of_ble_eq_true rfl | (simp only [ex_set_two]; exact Nat.le_of_ble_eq_true rfl)
theorem ex_e_glyph (N : Nat) (a b : Int32) : ex_Both (N + 60) 35 70 [.ref 148, .int a, .int b] [.ref 219, .int a, .int b] := by
  cases h1 : ex_lt0 a with
  | true => exact ex_e_glyph1 N a b h1
  | false => exact ex_e_glyph2 N a b h1 (ex_ge_t.mpr (Int32.not_lt.mp ((ex_bF ex_lt0_t).mp h1)))
set_option maxRecDepth 100000 in
theorem ex_e_insert (N : Nat) (a b c : Int32) : ex_Both (N + 60) 39 75 [.ref 148, .int a, .int b, .int c] [.ref 219, .int a, .int b, .int c] := by
  apply ex_Both_i (-1)
  refine ex_uF rfl rfl ?_
  refine ex_sF rfl ?_
  refine ex_sF rfl ?_
  refine ex_sF (ex_bT rfl (by decide +kernel)) ?_
  refine ex_sF rfl ?_
  exact ex_rF rfl
  refine ex_uF rfl rfl ?_
  refine ex_sF rfl ?_
  refine ex_sF rfl ?_
  refine ex_sF (ex_bT rfl (by decide +kernel)) ?_
  refine ex_sF rfl ?_
  exact ex_rF rfl
  · first | exact Nat.le_of_ble_eq_true rfl | (simp only [ex_set_len]; exact Nat.le_of_ble_eq_true rfl)
  · first | exact Nat.le_of_ble_eq_true rfl | (simp only [ex_set_two]; exact Nat.le_of_ble_eq_true rfl)
set_option maxRecDepth 100000 in
theorem ex_e_delete (N : Nat) (a : Int32) : ex_Both (N + 60) 31 65 [.ref 148, .int a] [.ref 219, .int a] := by
  apply ex_Both_i (-1)
  refine ex_uF rfl rfl ?_
  refine ex_sF rfl ?_
  refine ex_sF rfl ?_
  refine ex_sF (ex_bT rfl (by decide +kernel)) ?_
  refine ex_sF rfl ?_
  exact ex_rF rfl
  refine ex_uF rfl rfl ?_
  refine ex_sF rfl ?_
  refine ex_sF rfl ?_
  apply ex_cFv
  exact rfl
  refine ex_uF rfl rfl ?_
  refine ex_sF rfl ?_
  refine ex_sF rfl ?_
  refine ex_sF (ex_bT rfl (by decide +kernel)) ?_
  refine ex_sF rfl ?_
  exact ex_rF rfl
  refine ex_sF (ex_bF' rfl (by decide +kernel)) ?_
  refine ex_sF rfl ?_
  exact ex_rF rfl
  · first | exact Nat.le_of_ble_eq_true rfl | (simp only [ex_set_len]; exact Nat.le_of_ble_eq_true rfl)
  · first | exact Nat.le_of_ble_eq_true rfl | (simp only [ex_set_two]; exact Nat.le_of_ble_eq_true rfl)
set_option maxRecDepth 100000 in
theorem ex_e_move (N : Nat) (a b : Int32) : ex_Both (N + 60) 45 82 [.ref 148, .int a, .int b] [.ref 219, .int a, .int b] := by
  apply ex_Both_i (-1)
  refine ex_uF rfl rfl ?_
  refine ex_sF rfl ?_
  refine ex_sF rfl ?_
  refine ex_sF (ex_bT rfl (by decide +kernel)) ?_
  refine ex_sF rfl ?_
  exact ex_rF rfl
  refine ex_uF rfl rfl ?_
  refine ex_sF rfl ?_
  refine ex_sF rfl ?_
  apply ex_cFv
  exact rfl
  refine ex_uF rfl rfl ?_
  refine ex_sF rfl ?_
  refine ex_sF rfl ?_
  refine ex_sF (ex_bT rfl (by decide +kernel)) ?_
  refine ex_sF rfl ?_
  exact ex_rF rfl
  refine ex_sF (ex_bT rfl (by decide +kernel)) ?_
  refine ex_sF rfl ?_
  exact ex_rF rfl
  · first | exact Nat.le_of_ble_eq_true rfl | (simp only [ex_set_len]; exact Nat.le_of_ble_eq_true rfl)
  · first | exact Nat.le_of_ble_eq_true rfl | (simp only [ex_set_two]; exact Nat.le_of_ble_eq_true rfl)
set_option maxRecDepth 100000 in
theorem ex_e_turn (N : Nat) (a b : Int32) : ex_Both (N + 60) 55 93 [.ref 148, .int a, .int b] [.ref 219, .int a, .int b] := by
  apply ex_Both_i 0
  refine ex_uF rfl rfl ?_
  refine ex_sF rfl ?_
  refine ex_sF rfl ?_
  refine ex_sF (ex_bT rfl (by decide +kernel)) ?_
  refine ex_sF rfl ?_
  exact ex_rF rfl
  refine ex_uF rfl rfl ?_
  refine ex_sF rfl ?_
  refine ex_sF rfl ?_
  apply ex_cFv
  exact rfl
  refine ex_uF rfl rfl ?_
  refine ex_sF rfl ?_
  refine ex_sF rfl ?_
  refine ex_sF (ex_bT rfl (by decide +kernel)) ?_
  refine ex_sF rfl ?_
  exact ex_rF rfl
  refine ex_sF (ex_bT rfl (by decide +kernel)) ?_
  refine ex_sF rfl ?_
  exact ex_rF rfl
  · first | exact Nat.le_of_ble_eq_true rfl | (simp only [ex_set_len]; exact Nat.le_of_ble_eq_true rfl)
  · first | exact Nat.le_of_ble_eq_true rfl | (simp only [ex_set_two]; exact Nat.le_of_ble_eq_true rfl)
set_option maxRecDepth 100000 in
theorem ex_e_contents (N : Nat) (a : Int32) : ex_Both (N + 60) 27 61 [.ref 148, .int a] [.ref 219, .int a] := by
  apply ex_Both_i (-1)
  refine ex_uF rfl rfl ?_
  refine ex_sF rfl ?_
  refine ex_sF rfl ?_
  refine ex_sF rfl ?_
  refine ex_sF rfl ?_
  refine ex_sF rfl ?_
  refine ex_sF rfl ?_
  refine ex_sF rfl ?_
  refine ex_sF rfl ?_
  refine ex_sF (ex_bT rfl (by decide +kernel)) ?_
  refine ex_sF rfl ?_
  exact ex_rF rfl
  refine ex_uF rfl rfl ?_
  refine ex_sF rfl ?_
  refine ex_sF rfl ?_
  refine ex_sF rfl ?_
  refine ex_sF rfl ?_
  refine ex_sF rfl ?_
  refine ex_sF rfl ?_
  refine ex_sF rfl ?_
  refine ex_sF rfl ?_
  apply ex_cFv
  exact rfl
  refine ex_uF rfl rfl ?_
  refine ex_sF rfl ?_
  refine ex_sF rfl ?_
  refine ex_sF (ex_bT rfl (by decide +kernel)) ?_
  refine ex_sF rfl ?_
  exact ex_rF rfl
  refine ex_sF (ex_bT rfl (by decide +kernel)) ?_
  refine ex_sF rfl ?_
  exact ex_rF rfl
  · first | exact Nat.le_of_ble_eq_true rfl | (simp only [ex_set_len]; exact Nat.le_of_ble_eq_true rfl)
  · first | exact Nat.le_of_ble_eq_true rfl | (simp only [ex_set_two]; exact Nat.le_of_ble_eq_true rfl)
set_option maxRecDepth 100000 in
theorem ex_e_info (N : Nat) (a : Int32) : ex_Both (N + 60) 38 74 [.ref 148, .int a] [.ref 219, .int a] := by
  apply ex_Both_i (-1)
  refine ex_uF rfl rfl ?_
  refine ex_sF rfl ?_
  refine ex_sF rfl ?_
  refine ex_sF rfl ?_
  refine ex_sF rfl ?_
  refine ex_sF rfl ?_
  refine ex_sF rfl ?_
  refine ex_sF rfl ?_
  refine ex_sF rfl ?_
  refine ex_sF (ex_bT rfl (by decide +kernel)) ?_
  refine ex_sF rfl ?_
  exact ex_rF rfl
  refine ex_uF rfl rfl ?_
  refine ex_sF rfl ?_
  refine ex_sF rfl ?_
  refine ex_sF rfl ?_
  refine ex_sF rfl ?_
  refine ex_sF rfl ?_
  refine ex_sF rfl ?_
  refine ex_sF rfl ?_
  refine ex_sF rfl ?_
  refine ex_sF (ex_bT rfl (by decide +kernel)) ?_
  refine ex_sF rfl ?_
  exact ex_rF rfl
  · first | exact Nat.le_of_ble_eq_true rfl | (simp only [ex_set_len]; exact Nat.le_of_ble_eq_true rfl)
  · first | exact Nat.le_of_ble_eq_true rfl | (simp only [ex_set_two]; exact Nat.le_of_ble_eq_true rfl)
theorem ex_e_whole : ex_Both 1000000 57 95 [.ref 148] [.ref 219] := ex_both_s (by decide +kernel)
theorem ex_e_more : ex_Both 1000000 44 81 [.ref 148] [.ref 219] := ex_both_s (by decide +kernel)
theorem ex_e_outs : ex_Both 1000000 48 85 [.ref 148] [.ref 219] := ex_both_s (by decide +kernel)
set_option maxRecDepth 100000 in
theorem ex_e_out1 (N : Nat) (a : Int32) (h1 : ex_lt0 a = true) : ex_Both (N + 60) 47 84 [.ref 148, .int a] [.ref 219, .int a] := by
  apply ex_Both_i (-1)
  refine ex_uF rfl rfl ?_
  refine ex_sF rfl ?_
  refine ex_sF rfl ?_
  refine ex_sF rfl ?_
  apply ex_cFv
  exact rfl
  refine ex_uF rfl rfl ?_
  refine ex_sF rfl ?_
  refine ex_sF (ex_bT rfl h1) ?_
  refine ex_sF rfl ?_
  exact ex_rF rfl
  exact ex_rF rfl
  refine ex_uF rfl rfl ?_
  refine ex_sF rfl ?_
  refine ex_sF (ex_bT rfl h1) ?_
  refine ex_sF rfl ?_
  exact ex_rF rfl
  · first | exact Nat.le_of_ble_eq_true rfl | (simp only [ex_set_len]; exact Nat.le_of_ble_eq_true rfl)
  · first | exact Nat.le_of_ble_eq_true rfl | (simp only [ex_set_two]; exact Nat.le_of_ble_eq_true rfl)
set_option maxRecDepth 100000 in
theorem ex_e_out2 (N : Nat) (a : Int32) (h1 : ex_lt0 a = false) (h2 : ex_ge a 0 = true) : ex_Both (N + 60) 47 84 [.ref 148, .int a] [.ref 219, .int a] := by
  apply ex_Both_i (-1)
  refine ex_uF rfl rfl ?_
  refine ex_sF rfl ?_
  refine ex_sF rfl ?_
  refine ex_sF rfl ?_
  apply ex_cFv
  exact rfl
  refine ex_uF rfl rfl ?_
  refine ex_sF rfl ?_
  refine ex_sF (ex_bF' rfl h1) ?_
  refine ex_sF rfl ?_
  refine ex_sF rfl ?_
  refine ex_sF rfl ?_
  refine ex_sF (ex_bT2 rfl h2) ?_
  refine ex_sF rfl ?_
  exact ex_rF rfl
  exact ex_rF rfl
  refine ex_uF rfl rfl ?_
  refine ex_sF rfl ?_
  refine ex_sF (ex_bF' rfl h1) ?_
  refine ex_sF rfl ?_
  refine ex_sF rfl ?_
  refine ex_sF rfl ?_
  refine ex_sF (ex_bT2 rfl h2) ?_
  refine ex_sF rfl ?_
  exact ex_rF rfl
  · first | exact Nat.le_of_ble_eq_true rfl | (simp only [ex_set_len]; exact Nat.le_of_ble_eq_true rfl)
  · first | exact Nat.le_of_ble_eq_true rfl | (simp only [ex_set_two]; exact Nat.le_of_ble_eq_true rfl)
theorem ex_e_out (N : Nat) (a : Int32) : ex_Both (N + 60) 47 84 [.ref 148, .int a] [.ref 219, .int a] := by
  cases h1 : ex_lt0 a with
  | true => exact ex_e_out1 N a h1
  | false => exact ex_e_out2 N a h1 (ex_ge_t.mpr (Int32.not_lt.mp ((ex_bF ex_lt0_t).mp h1)))
theorem ex_e_sum : ex_Both 1000000 53 91 [.ref 148] [.ref 219] := ex_both_s (by decide +kernel)
theorem ex_e_take : ex_Both 1000000 54 92 [.ref 148] [.ref 219] := ex_both_s (by decide +kernel)
end
