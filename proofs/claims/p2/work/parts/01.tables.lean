-- ===== PART A: goes FIRST, ahead of the names: the tables' words, and 'selects' of the private methods out of them =====
/-- a private method of a class that the tables say can be made, by its rows of tables_1 -/
def lw_okq (q : MethodName × Nat) : Prop := (q.1.cls ≠ "java/lang/invoke/MethodHandle" ∧ q.1.cls ≠ "java/lang/invoke/VarHandle") ∧ Cond.instantiable q.1.cls q.2 ∈ tables_1 ∧ Cond.privateMethod q.1 ∈ tables_1 ∧ Cond.instanceMethod q.1 ∈ tables_1
theorem lw_p0 : lw_okq (⟨"PaperHouse", "layNumber", "(I)V"⟩, 19) := ⟨⟨by decide +kernel, by decide +kernel⟩, List.mem_of_getElem? (i := 23) (by decide +kernel), List.mem_of_getElem? (i := 704) (by decide +kernel), List.mem_of_getElem? (i := 705) (by decide +kernel)⟩
theorem lw_p1 : lw_okq (⟨"PaperHouse$Loader", "passes", "(Ljava/lang/String;I)Z"⟩, 10) := ⟨⟨by decide +kernel, by decide +kernel⟩, List.mem_of_getElem? (i := 416) (by decide +kernel), List.mem_of_getElem? (i := 756) (by decide +kernel), List.mem_of_getElem? (i := 757) (by decide +kernel)⟩
theorem lw_p2 : lw_okq (⟨"PaperHouse$Loader", "lastStart", "()I"⟩, 10) := ⟨⟨by decide +kernel, by decide +kernel⟩, List.mem_of_getElem? (i := 416) (by decide +kernel), List.mem_of_getElem? (i := 770) (by decide +kernel), List.mem_of_getElem? (i := 771) (by decide +kernel)⟩
theorem lw_p3 : lw_okq (⟨"PaperHouse$Loader", "readStart", "()I"⟩, 10) := ⟨⟨by decide +kernel, by decide +kernel⟩, List.mem_of_getElem? (i := 416) (by decide +kernel), List.mem_of_getElem? (i := 775) (by decide +kernel), List.mem_of_getElem? (i := 776) (by decide +kernel)⟩
theorem lw_p4 : lw_okq (⟨"PaperHouse$Loader", "passesBlanks", "()Z"⟩, 10) := ⟨⟨by decide +kernel, by decide +kernel⟩, List.mem_of_getElem? (i := 416) (by decide +kernel), List.mem_of_getElem? (i := 779) (by decide +kernel), List.mem_of_getElem? (i := 780) (by decide +kernel)⟩
theorem lw_p5 : lw_okq (⟨"PaperHouse$Parser", "lookAtRow", "()V"⟩, 18) := ⟨⟨by decide +kernel, by decide +kernel⟩, List.mem_of_getElem? (i := 206) (by decide +kernel), List.mem_of_getElem? (i := 821) (by decide +kernel), List.mem_of_getElem? (i := 822) (by decide +kernel)⟩
theorem lw_p6 : lw_okq (⟨"PaperHouse$Parser", "rowIs", "(Ljava/lang/String;)Z"⟩, 18) := ⟨⟨by decide +kernel, by decide +kernel⟩, List.mem_of_getElem? (i := 206) (by decide +kernel), List.mem_of_getElem? (i := 836) (by decide +kernel), List.mem_of_getElem? (i := 837) (by decide +kernel)⟩
theorem lw_p7 : lw_okq (⟨"PaperHouse$Sections", "headsRows", "(I)Z"⟩, 13) := ⟨⟨by decide +kernel, by decide +kernel⟩, List.mem_of_getElem? (i := 365) (by decide +kernel), List.mem_of_getElem? (i := 842) (by decide +kernel), List.mem_of_getElem? (i := 843) (by decide +kernel)⟩
theorem lw_p8 : lw_okq (⟨"PaperHouse$Sections", "readTable", "(I)Z"⟩, 13) := ⟨⟨by decide +kernel, by decide +kernel⟩, List.mem_of_getElem? (i := 365) (by decide +kernel), List.mem_of_getElem? (i := 859) (by decide +kernel), List.mem_of_getElem? (i := 860) (by decide +kernel)⟩
theorem lw_p9 : lw_okq (⟨"PaperHouse$Sections", "readEntries", "(II)Z"⟩, 13) := ⟨⟨by decide +kernel, by decide +kernel⟩, List.mem_of_getElem? (i := 365) (by decide +kernel), List.mem_of_getElem? (i := 876) (by decide +kernel), List.mem_of_getElem? (i := 877) (by decide +kernel)⟩
theorem lw_p10 : lw_okq (⟨"PaperHouse$Sections", "isEntry", "(I)Z"⟩, 13) := ⟨⟨by decide +kernel, by decide +kernel⟩, List.mem_of_getElem? (i := 365) (by decide +kernel), List.mem_of_getElem? (i := 880) (by decide +kernel), List.mem_of_getElem? (i := 881) (by decide +kernel)⟩
theorem lw_p11 : lw_okq (⟨"PaperHouse$Parser", "object", "(I)I"⟩, 18) := ⟨⟨by decide +kernel, by decide +kernel⟩, List.mem_of_getElem? (i := 206) (by decide +kernel), List.mem_of_getElem? (i := 893) (by decide +kernel), List.mem_of_getElem? (i := 894) (by decide +kernel)⟩
theorem lw_p12 : lw_okq (⟨"PaperHouse$Parser", "name", "()I"⟩, 18) := ⟨⟨by decide +kernel, by decide +kernel⟩, List.mem_of_getElem? (i := 206) (by decide +kernel), List.mem_of_getElem? (i := 897) (by decide +kernel), List.mem_of_getElem? (i := 898) (by decide +kernel)⟩
theorem lw_p13 : lw_okq (⟨"PaperHouse$Parser", "failAt", "(II)I"⟩, 18) := ⟨⟨by decide +kernel, by decide +kernel⟩, List.mem_of_getElem? (i := 206) (by decide +kernel), List.mem_of_getElem? (i := 904) (by decide +kernel), List.mem_of_getElem? (i := 905) (by decide +kernel)⟩
theorem lw_p14 : lw_okq (⟨"PaperHouse$Parser", "put", "(I)V"⟩, 18) := ⟨⟨by decide +kernel, by decide +kernel⟩, List.mem_of_getElem? (i := 206) (by decide +kernel), List.mem_of_getElem? (i := 908) (by decide +kernel), List.mem_of_getElem? (i := 909) (by decide +kernel)⟩
theorem lw_p15 : lw_okq (⟨"PaperHouse$Parser", "make", "(IIII)I"⟩, 18) := ⟨⟨by decide +kernel, by decide +kernel⟩, List.mem_of_getElem? (i := 206) (by decide +kernel), List.mem_of_getElem? (i := 912) (by decide +kernel), List.mem_of_getElem? (i := 913) (by decide +kernel)⟩
def lw_privs_1 : List (MethodName × Nat) := [(⟨"PaperHouse", "layNumber", "(I)V"⟩, 19), (⟨"PaperHouse$Loader", "passes", "(Ljava/lang/String;I)Z"⟩, 10), (⟨"PaperHouse$Loader", "lastStart", "()I"⟩, 10), (⟨"PaperHouse$Loader", "readStart", "()I"⟩, 10), (⟨"PaperHouse$Loader", "passesBlanks", "()Z"⟩, 10), (⟨"PaperHouse$Parser", "lookAtRow", "()V"⟩, 18), (⟨"PaperHouse$Parser", "rowIs", "(Ljava/lang/String;)Z"⟩, 18), (⟨"PaperHouse$Sections", "headsRows", "(I)Z"⟩, 13), (⟨"PaperHouse$Sections", "readTable", "(I)Z"⟩, 13), (⟨"PaperHouse$Sections", "readEntries", "(II)Z"⟩, 13), (⟨"PaperHouse$Sections", "isEntry", "(I)Z"⟩, 13), (⟨"PaperHouse$Parser", "object", "(I)I"⟩, 18), (⟨"PaperHouse$Parser", "name", "()I"⟩, 18), (⟨"PaperHouse$Parser", "failAt", "(II)I"⟩, 18), (⟨"PaperHouse$Parser", "put", "(I)V"⟩, 18), (⟨"PaperHouse$Parser", "make", "(IIII)I"⟩, 18)]
theorem lw_r1 : ∀ q ∈ lw_privs_1, lw_okq q := List.forall_mem_cons.mpr ⟨lw_p0, List.forall_mem_cons.mpr ⟨lw_p1, List.forall_mem_cons.mpr ⟨lw_p2, List.forall_mem_cons.mpr ⟨lw_p3, List.forall_mem_cons.mpr ⟨lw_p4, List.forall_mem_cons.mpr ⟨lw_p5, List.forall_mem_cons.mpr ⟨lw_p6, List.forall_mem_cons.mpr ⟨lw_p7, List.forall_mem_cons.mpr ⟨lw_p8, List.forall_mem_cons.mpr ⟨lw_p9, List.forall_mem_cons.mpr ⟨lw_p10, List.forall_mem_cons.mpr ⟨lw_p11, List.forall_mem_cons.mpr ⟨lw_p12, List.forall_mem_cons.mpr ⟨lw_p13, List.forall_mem_cons.mpr ⟨lw_p14, List.forall_mem_cons.mpr ⟨lw_p15, fun _ h => absurd h List.not_mem_nil⟩⟩⟩⟩⟩⟩⟩⟩⟩⟩⟩⟩⟩⟩⟩⟩
theorem lw_p16 : lw_okq (⟨"PaperHouse$Parser", "string", "()I"⟩, 18) := ⟨⟨by decide +kernel, by decide +kernel⟩, List.mem_of_getElem? (i := 206) (by decide +kernel), List.mem_of_getElem? (i := 918) (by decide +kernel), List.mem_of_getElem? (i := 919) (by decide +kernel)⟩
theorem lw_p17 : lw_okq (⟨"PaperHouse$Parser", "scanRound", "()Z"⟩, 18) := ⟨⟨by decide +kernel, by decide +kernel⟩, List.mem_of_getElem? (i := 206) (by decide +kernel), List.mem_of_getElem? (i := 922) (by decide +kernel), List.mem_of_getElem? (i := 923) (by decide +kernel)⟩
theorem lw_p18 : lw_okq (⟨"PaperHouse$Parser", "scanEscape", "()V"⟩, 18) := ⟨⟨by decide +kernel, by decide +kernel⟩, List.mem_of_getElem? (i := 206) (by decide +kernel), List.mem_of_getElem? (i := 926) (by decide +kernel), List.mem_of_getElem? (i := 927) (by decide +kernel)⟩
theorem lw_p19 : lw_okq (⟨"PaperHouse$Parser", "scanHex", "()Z"⟩, 18) := ⟨⟨by decide +kernel, by decide +kernel⟩, List.mem_of_getElem? (i := 206) (by decide +kernel), List.mem_of_getElem? (i := 933) (by decide +kernel), List.mem_of_getElem? (i := 934) (by decide +kernel)⟩
theorem lw_p20 : lw_okq (⟨"PaperHouse$Parser", "compound", "(IZ)I"⟩, 18) := ⟨⟨by decide +kernel, by decide +kernel⟩, List.mem_of_getElem? (i := 206) (by decide +kernel), List.mem_of_getElem? (i := 937) (by decide +kernel), List.mem_of_getElem? (i := 938) (by decide +kernel)⟩
theorem lw_p21 : lw_okq (⟨"PaperHouse$Parser", "noKey", "(I)I"⟩, 18) := ⟨⟨by decide +kernel, by decide +kernel⟩, List.mem_of_getElem? (i := 206) (by decide +kernel), List.mem_of_getElem? (i := 941) (by decide +kernel), List.mem_of_getElem? (i := 942) (by decide +kernel)⟩
theorem lw_p22 : lw_okq (⟨"PaperHouse$Parser", "isTwice", "(II)Z"⟩, 18) := ⟨⟨by decide +kernel, by decide +kernel⟩, List.mem_of_getElem? (i := 206) (by decide +kernel), List.mem_of_getElem? (i := 945) (by decide +kernel), List.mem_of_getElem? (i := 946) (by decide +kernel)⟩
theorem lw_p23 : lw_okq (⟨"PaperHouse$Parser", "plain", "(I)I"⟩, 18) := ⟨⟨by decide +kernel, by decide +kernel⟩, List.mem_of_getElem? (i := 206) (by decide +kernel), List.mem_of_getElem? (i := 1003) (by decide +kernel), List.mem_of_getElem? (i := 1004) (by decide +kernel)⟩
theorem lw_p24 : lw_okq (⟨"PaperHouse$Parser", "literal", "(I)I"⟩, 18) := ⟨⟨by decide +kernel, by decide +kernel⟩, List.mem_of_getElem? (i := 206) (by decide +kernel), List.mem_of_getElem? (i := 1007) (by decide +kernel), List.mem_of_getElem? (i := 1008) (by decide +kernel)⟩
theorem lw_p25 : lw_okq (⟨"PaperHouse$Sections", "readRows", "(II[B)Z"⟩, 13) := ⟨⟨by decide +kernel, by decide +kernel⟩, List.mem_of_getElem? (i := 365) (by decide +kernel), List.mem_of_getElem? (i := 1018) (by decide +kernel), List.mem_of_getElem? (i := 1019) (by decide +kernel)⟩
theorem lw_p26 : lw_okq (⟨"PaperHouse$Filters", "readNames", "(I)Z"⟩, 9) := ⟨⟨by decide +kernel, by decide +kernel⟩, List.mem_of_getElem? (i := 275) (by decide +kernel), List.mem_of_getElem? (i := 1060) (by decide +kernel), List.mem_of_getElem? (i := 1061) (by decide +kernel)⟩
theorem lw_p27 : lw_okq (⟨"PaperHouse$Filters", "readName", "(I)Z"⟩, 9) := ⟨⟨by decide +kernel, by decide +kernel⟩, List.mem_of_getElem? (i := 275) (by decide +kernel), List.mem_of_getElem? (i := 1066) (by decide +kernel), List.mem_of_getElem? (i := 1067) (by decide +kernel)⟩
theorem lw_p28 : lw_okq (⟨"PaperHouse$Filters", "readParms", "(I)Z"⟩, 9) := ⟨⟨by decide +kernel, by decide +kernel⟩, List.mem_of_getElem? (i := 275) (by decide +kernel), List.mem_of_getElem? (i := 1077) (by decide +kernel), List.mem_of_getElem? (i := 1078) (by decide +kernel)⟩
theorem lw_p29 : lw_okq (⟨"PaperHouse$Filters", "areRight", "(IZ)Z"⟩, 9) := ⟨⟨by decide +kernel, by decide +kernel⟩, List.mem_of_getElem? (i := 275) (by decide +kernel), List.mem_of_getElem? (i := 1081) (by decide +kernel), List.mem_of_getElem? (i := 1082) (by decide +kernel)⟩
theorem lw_p30 : lw_okq (⟨"PaperHouse$Filters", "wholeOr", "(III)I"⟩, 9) := ⟨⟨by decide +kernel, by decide +kernel⟩, List.mem_of_getElem? (i := 275) (by decide +kernel), List.mem_of_getElem? (i := 1085) (by decide +kernel), List.mem_of_getElem? (i := 1086) (by decide +kernel)⟩
theorem lw_p31 : lw_okq (⟨"PaperHouse$Inflate", "bits", "(I)I"⟩, 15) := ⟨⟨by decide +kernel, by decide +kernel⟩, List.mem_of_getElem? (i := 281) (by decide +kernel), List.mem_of_getElem? (i := 1097) (by decide +kernel), List.mem_of_getElem? (i := 1098) (by decide +kernel)⟩
def lw_privs_2 : List (MethodName × Nat) := [(⟨"PaperHouse$Parser", "string", "()I"⟩, 18), (⟨"PaperHouse$Parser", "scanRound", "()Z"⟩, 18), (⟨"PaperHouse$Parser", "scanEscape", "()V"⟩, 18), (⟨"PaperHouse$Parser", "scanHex", "()Z"⟩, 18), (⟨"PaperHouse$Parser", "compound", "(IZ)I"⟩, 18), (⟨"PaperHouse$Parser", "noKey", "(I)I"⟩, 18), (⟨"PaperHouse$Parser", "isTwice", "(II)Z"⟩, 18), (⟨"PaperHouse$Parser", "plain", "(I)I"⟩, 18), (⟨"PaperHouse$Parser", "literal", "(I)I"⟩, 18), (⟨"PaperHouse$Sections", "readRows", "(II[B)Z"⟩, 13), (⟨"PaperHouse$Filters", "readNames", "(I)Z"⟩, 9), (⟨"PaperHouse$Filters", "readName", "(I)Z"⟩, 9), (⟨"PaperHouse$Filters", "readParms", "(I)Z"⟩, 9), (⟨"PaperHouse$Filters", "areRight", "(IZ)Z"⟩, 9), (⟨"PaperHouse$Filters", "wholeOr", "(III)I"⟩, 9), (⟨"PaperHouse$Inflate", "bits", "(I)I"⟩, 15)]
theorem lw_r2 : ∀ q ∈ lw_privs_2, lw_okq q := List.forall_mem_cons.mpr ⟨lw_p16, List.forall_mem_cons.mpr ⟨lw_p17, List.forall_mem_cons.mpr ⟨lw_p18, List.forall_mem_cons.mpr ⟨lw_p19, List.forall_mem_cons.mpr ⟨lw_p20, List.forall_mem_cons.mpr ⟨lw_p21, List.forall_mem_cons.mpr ⟨lw_p22, List.forall_mem_cons.mpr ⟨lw_p23, List.forall_mem_cons.mpr ⟨lw_p24, List.forall_mem_cons.mpr ⟨lw_p25, List.forall_mem_cons.mpr ⟨lw_p26, List.forall_mem_cons.mpr ⟨lw_p27, List.forall_mem_cons.mpr ⟨lw_p28, List.forall_mem_cons.mpr ⟨lw_p29, List.forall_mem_cons.mpr ⟨lw_p30, List.forall_mem_cons.mpr ⟨lw_p31, fun _ h => absurd h List.not_mem_nil⟩⟩⟩⟩⟩⟩⟩⟩⟩⟩⟩⟩⟩⟩⟩⟩
theorem lw_p32 : lw_okq (⟨"PaperHouse$Inflate", "stored", "()Z"⟩, 15) := ⟨⟨by decide +kernel, by decide +kernel⟩, List.mem_of_getElem? (i := 281) (by decide +kernel), List.mem_of_getElem? (i := 1101) (by decide +kernel), List.mem_of_getElem? (i := 1102) (by decide +kernel)⟩
theorem lw_p33 : lw_okq (⟨"PaperHouse$Inflate", "toWholeByte", "()V"⟩, 15) := ⟨⟨by decide +kernel, by decide +kernel⟩, List.mem_of_getElem? (i := 281) (by decide +kernel), List.mem_of_getElem? (i := 1105) (by decide +kernel), List.mem_of_getElem? (i := 1106) (by decide +kernel)⟩
theorem lw_p34 : lw_okq (⟨"PaperHouse$Inflate", "write", "(I)Z"⟩, 15) := ⟨⟨by decide +kernel, by decide +kernel⟩, List.mem_of_getElem? (i := 281) (by decide +kernel), List.mem_of_getElem? (i := 1110) (by decide +kernel), List.mem_of_getElem? (i := 1111) (by decide +kernel)⟩
theorem lw_p35 : lw_okq (⟨"PaperHouse$Inflate", "fixedCodes", "()V"⟩, 15) := ⟨⟨by decide +kernel, by decide +kernel⟩, List.mem_of_getElem? (i := 281) (by decide +kernel), List.mem_of_getElem? (i := 1114) (by decide +kernel), List.mem_of_getElem? (i := 1115) (by decide +kernel)⟩
theorem lw_p36 : lw_okq (⟨"PaperHouse$Inflate", "build", "([I[III)I"⟩, 15) := ⟨⟨by decide +kernel, by decide +kernel⟩, List.mem_of_getElem? (i := 281) (by decide +kernel), List.mem_of_getElem? (i := 1118) (by decide +kernel), List.mem_of_getElem? (i := 1119) (by decide +kernel)⟩
theorem lw_p37 : lw_okq (⟨"PaperHouse$Inflate", "decode", "()Z"⟩, 15) := ⟨⟨by decide +kernel, by decide +kernel⟩, List.mem_of_getElem? (i := 281) (by decide +kernel), List.mem_of_getElem? (i := 1123) (by decide +kernel), List.mem_of_getElem? (i := 1124) (by decide +kernel)⟩
theorem lw_p38 : lw_okq (⟨"PaperHouse$Inflate", "symbol", "([I[I)I"⟩, 15) := ⟨⟨by decide +kernel, by decide +kernel⟩, List.mem_of_getElem? (i := 281) (by decide +kernel), List.mem_of_getElem? (i := 1127) (by decide +kernel), List.mem_of_getElem? (i := 1128) (by decide +kernel)⟩
theorem lw_p39 : lw_okq (⟨"PaperHouse$Inflate", "row", "(I)Z"⟩, 15) := ⟨⟨by decide +kernel, by decide +kernel⟩, List.mem_of_getElem? (i := 281) (by decide +kernel), List.mem_of_getElem? (i := 1131) (by decide +kernel), List.mem_of_getElem? (i := 1132) (by decide +kernel)⟩
theorem lw_p40 : lw_okq (⟨"PaperHouse$Inflate", "readCodes", "()Z"⟩, 15) := ⟨⟨by decide +kernel, by decide +kernel⟩, List.mem_of_getElem? (i := 281) (by decide +kernel), List.mem_of_getElem? (i := 1143) (by decide +kernel), List.mem_of_getElem? (i := 1144) (by decide +kernel)⟩
theorem lw_p41 : lw_okq (⟨"PaperHouse$Inflate", "readSizes", "()Z"⟩, 15) := ⟨⟨by decide +kernel, by decide +kernel⟩, List.mem_of_getElem? (i := 281) (by decide +kernel), List.mem_of_getElem? (i := 1149) (by decide +kernel), List.mem_of_getElem? (i := 1150) (by decide +kernel)⟩
theorem lw_p42 : lw_okq (⟨"PaperHouse$Inflate", "dynamicCodes", "()Z"⟩, 15) := ⟨⟨by decide +kernel, by decide +kernel⟩, List.mem_of_getElem? (i := 281) (by decide +kernel), List.mem_of_getElem? (i := 1153) (by decide +kernel), List.mem_of_getElem? (i := 1154) (by decide +kernel)⟩
theorem lw_p43 : lw_okq (⟨"PaperHouse$Inflate", "endsWell", "()Z"⟩, 15) := ⟨⟨by decide +kernel, by decide +kernel⟩, List.mem_of_getElem? (i := 281) (by decide +kernel), List.mem_of_getElem? (i := 1157) (by decide +kernel), List.mem_of_getElem? (i := 1158) (by decide +kernel)⟩
theorem lw_p44 : lw_okq (⟨"PaperHouse$Filters", "columns", "(I)I"⟩, 9) := ⟨⟨by decide +kernel, by decide +kernel⟩, List.mem_of_getElem? (i := 275) (by decide +kernel), List.mem_of_getElem? (i := 1171) (by decide +kernel), List.mem_of_getElem? (i := 1172) (by decide +kernel)⟩
theorem lw_p45 : lw_okq (⟨"PaperHouse$Sections", "readWidths", "(I)Z"⟩, 13) := ⟨⟨by decide +kernel, by decide +kernel⟩, List.mem_of_getElem? (i := 365) (by decide +kernel), List.mem_of_getElem? (i := 1185) (by decide +kernel), List.mem_of_getElem? (i := 1186) (by decide +kernel)⟩
theorem lw_p46 : lw_okq (⟨"PaperHouse$Sections", "readPairs", "(II)Z"⟩, 13) := ⟨⟨by decide +kernel, by decide +kernel⟩, List.mem_of_getElem? (i := 365) (by decide +kernel), List.mem_of_getElem? (i := 1192) (by decide +kernel), List.mem_of_getElem? (i := 1193) (by decide +kernel)⟩
theorem lw_p47 : lw_okq (⟨"PaperHouse$Sections", "readPair", "(III)Z"⟩, 13) := ⟨⟨by decide +kernel, by decide +kernel⟩, List.mem_of_getElem? (i := 365) (by decide +kernel), List.mem_of_getElem? (i := 1196) (by decide +kernel), List.mem_of_getElem? (i := 1197) (by decide +kernel)⟩
def lw_privs_3 : List (MethodName × Nat) := [(⟨"PaperHouse$Inflate", "stored", "()Z"⟩, 15), (⟨"PaperHouse$Inflate", "toWholeByte", "()V"⟩, 15), (⟨"PaperHouse$Inflate", "write", "(I)Z"⟩, 15), (⟨"PaperHouse$Inflate", "fixedCodes", "()V"⟩, 15), (⟨"PaperHouse$Inflate", "build", "([I[III)I"⟩, 15), (⟨"PaperHouse$Inflate", "decode", "()Z"⟩, 15), (⟨"PaperHouse$Inflate", "symbol", "([I[I)I"⟩, 15), (⟨"PaperHouse$Inflate", "row", "(I)Z"⟩, 15), (⟨"PaperHouse$Inflate", "readCodes", "()Z"⟩, 15), (⟨"PaperHouse$Inflate", "readSizes", "()Z"⟩, 15), (⟨"PaperHouse$Inflate", "dynamicCodes", "()Z"⟩, 15), (⟨"PaperHouse$Inflate", "endsWell", "()Z"⟩, 15), (⟨"PaperHouse$Filters", "columns", "(I)I"⟩, 9), (⟨"PaperHouse$Sections", "readWidths", "(I)Z"⟩, 13), (⟨"PaperHouse$Sections", "readPairs", "(II)Z"⟩, 13), (⟨"PaperHouse$Sections", "readPair", "(III)Z"⟩, 13)]
theorem lw_r3 : ∀ q ∈ lw_privs_3, lw_okq q := List.forall_mem_cons.mpr ⟨lw_p32, List.forall_mem_cons.mpr ⟨lw_p33, List.forall_mem_cons.mpr ⟨lw_p34, List.forall_mem_cons.mpr ⟨lw_p35, List.forall_mem_cons.mpr ⟨lw_p36, List.forall_mem_cons.mpr ⟨lw_p37, List.forall_mem_cons.mpr ⟨lw_p38, List.forall_mem_cons.mpr ⟨lw_p39, List.forall_mem_cons.mpr ⟨lw_p40, List.forall_mem_cons.mpr ⟨lw_p41, List.forall_mem_cons.mpr ⟨lw_p42, List.forall_mem_cons.mpr ⟨lw_p43, List.forall_mem_cons.mpr ⟨lw_p44, List.forall_mem_cons.mpr ⟨lw_p45, List.forall_mem_cons.mpr ⟨lw_p46, List.forall_mem_cons.mpr ⟨lw_p47, fun _ h => absurd h List.not_mem_nil⟩⟩⟩⟩⟩⟩⟩⟩⟩⟩⟩⟩⟩⟩⟩⟩
theorem lw_p48 : lw_okq (⟨"PaperHouse$Sections", "number", "(I)J"⟩, 13) := ⟨⟨by decide +kernel, by decide +kernel⟩, List.mem_of_getElem? (i := 365) (by decide +kernel), List.mem_of_getElem? (i := 1200) (by decide +kernel), List.mem_of_getElem? (i := 1201) (by decide +kernel)⟩
theorem lw_p49 : lw_okq (⟨"PaperHouse$Sections", "readTrailer", "(II)I"⟩, 13) := ⟨⟨by decide +kernel, by decide +kernel⟩, List.mem_of_getElem? (i := 365) (by decide +kernel), List.mem_of_getElem? (i := 1208) (by decide +kernel), List.mem_of_getElem? (i := 1209) (by decide +kernel)⟩
theorem lw_p50 : lw_okq (⟨"PaperHouse$Loader", "waits", "(I)Z"⟩, 10) := ⟨⟨by decide +kernel, by decide +kernel⟩, List.mem_of_getElem? (i := 416) (by decide +kernel), List.mem_of_getElem? (i := 1242) (by decide +kernel), List.mem_of_getElem? (i := 1243) (by decide +kernel)⟩
theorem lw_p51 : lw_okq (⟨"PaperHouse$Loader", "failObject", "(I)I"⟩, 10) := ⟨⟨by decide +kernel, by decide +kernel⟩, List.mem_of_getElem? (i := 416) (by decide +kernel), List.mem_of_getElem? (i := 1246) (by decide +kernel), List.mem_of_getElem? (i := 1247) (by decide +kernel)⟩
theorem lw_p52 : lw_okq (⟨"PaperHouse$Loader", "clip", "(I)I"⟩, 10) := ⟨⟨by decide +kernel, by decide +kernel⟩, List.mem_of_getElem? (i := 416) (by decide +kernel), List.mem_of_getElem? (i := 1254) (by decide +kernel), List.mem_of_getElem? (i := 1255) (by decide +kernel)⟩
theorem lw_p53 : lw_okq (⟨"PaperHouse$Loader", "findInside", "(I)Z"⟩, 10) := ⟨⟨by decide +kernel, by decide +kernel⟩, List.mem_of_getElem? (i := 416) (by decide +kernel), List.mem_of_getElem? (i := 1282) (by decide +kernel), List.mem_of_getElem? (i := 1283) (by decide +kernel)⟩
theorem lw_p54 : lw_okq (⟨"PaperHouse$Loader", "findPlaced", "(I)Z"⟩, 10) := ⟨⟨by decide +kernel, by decide +kernel⟩, List.mem_of_getElem? (i := 416) (by decide +kernel), List.mem_of_getElem? (i := 1304) (by decide +kernel), List.mem_of_getElem? (i := 1305) (by decide +kernel)⟩
theorem lw_p55 : lw_okq (⟨"PaperHouse$Loader", "readBehind", "(II)V"⟩, 10) := ⟨⟨by decide +kernel, by decide +kernel⟩, List.mem_of_getElem? (i := 416) (by decide +kernel), List.mem_of_getElem? (i := 1315) (by decide +kernel), List.mem_of_getElem? (i := 1316) (by decide +kernel)⟩
theorem lw_p56 : lw_okq (⟨"PaperHouse$Tree", "visit", "(III)I"⟩, 9) := ⟨⟨by decide +kernel, by decide +kernel⟩, List.mem_of_getElem? (i := 455) (by decide +kernel), List.mem_of_getElem? (i := 1356) (by decide +kernel), List.mem_of_getElem? (i := 1357) (by decide +kernel)⟩
theorem lw_p57 : lw_okq (⟨"PaperHouse$Tree", "looksRight", "(IIZ)Z"⟩, 9) := ⟨⟨by decide +kernel, by decide +kernel⟩, List.mem_of_getElem? (i := 455) (by decide +kernel), List.mem_of_getElem? (i := 1361) (by decide +kernel), List.mem_of_getElem? (i := 1362) (by decide +kernel)⟩
theorem lw_p58 : lw_okq (⟨"PaperHouse$Tree", "isBox", "(I)Z"⟩, 9) := ⟨⟨by decide +kernel, by decide +kernel⟩, List.mem_of_getElem? (i := 455) (by decide +kernel), List.mem_of_getElem? (i := 1366) (by decide +kernel), List.mem_of_getElem? (i := 1367) (by decide +kernel)⟩
theorem lw_p59 : lw_okq (⟨"PaperHouse$Tree", "takesPage", "(I)Z"⟩, 9) := ⟨⟨by decide +kernel, by decide +kernel⟩, List.mem_of_getElem? (i := 455) (by decide +kernel), List.mem_of_getElem? (i := 1378) (by decide +kernel), List.mem_of_getElem? (i := 1379) (by decide +kernel)⟩
theorem lw_p60 : lw_okq (⟨"PaperHouse", "kindHere", "()I"⟩, 19) := ⟨⟨by decide +kernel, by decide +kernel⟩, List.mem_of_getElem? (i := 23) (by decide +kernel), List.mem_of_getElem? (i := 1415) (by decide +kernel), List.mem_of_getElem? (i := 1416) (by decide +kernel)⟩
theorem lw_p61 : lw_okq (⟨"PaperHouse", "nodeHere", "()I"⟩, 19) := ⟨⟨by decide +kernel, by decide +kernel⟩, List.mem_of_getElem? (i := 23) (by decide +kernel), List.mem_of_getElem? (i := 1420) (by decide +kernel), List.mem_of_getElem? (i := 1421) (by decide +kernel)⟩
theorem lw_p62 : lw_okq (⟨"PaperHouse", "isNowhere", "()Z"⟩, 19) := ⟨⟨by decide +kernel, by decide +kernel⟩, List.mem_of_getElem? (i := 23) (by decide +kernel), List.mem_of_getElem? (i := 1424) (by decide +kernel), List.mem_of_getElem? (i := 1425) (by decide +kernel)⟩
theorem lw_p63 : lw_okq (⟨"PaperHouse", "keyHere", "()I"⟩, 19) := ⟨⟨by decide +kernel, by decide +kernel⟩, List.mem_of_getElem? (i := 23) (by decide +kernel), List.mem_of_getElem? (i := 1444) (by decide +kernel), List.mem_of_getElem? (i := 1445) (by decide +kernel)⟩
def lw_privs_4 : List (MethodName × Nat) := [(⟨"PaperHouse$Sections", "number", "(I)J"⟩, 13), (⟨"PaperHouse$Sections", "readTrailer", "(II)I"⟩, 13), (⟨"PaperHouse$Loader", "waits", "(I)Z"⟩, 10), (⟨"PaperHouse$Loader", "failObject", "(I)I"⟩, 10), (⟨"PaperHouse$Loader", "clip", "(I)I"⟩, 10), (⟨"PaperHouse$Loader", "findInside", "(I)Z"⟩, 10), (⟨"PaperHouse$Loader", "findPlaced", "(I)Z"⟩, 10), (⟨"PaperHouse$Loader", "readBehind", "(II)V"⟩, 10), (⟨"PaperHouse$Tree", "visit", "(III)I"⟩, 9), (⟨"PaperHouse$Tree", "looksRight", "(IIZ)Z"⟩, 9), (⟨"PaperHouse$Tree", "isBox", "(I)Z"⟩, 9), (⟨"PaperHouse$Tree", "takesPage", "(I)Z"⟩, 9), (⟨"PaperHouse", "kindHere", "()I"⟩, 19), (⟨"PaperHouse", "nodeHere", "()I"⟩, 19), (⟨"PaperHouse", "isNowhere", "()Z"⟩, 19), (⟨"PaperHouse", "keyHere", "()I"⟩, 19)]
theorem lw_r4 : ∀ q ∈ lw_privs_4, lw_okq q := List.forall_mem_cons.mpr ⟨lw_p48, List.forall_mem_cons.mpr ⟨lw_p49, List.forall_mem_cons.mpr ⟨lw_p50, List.forall_mem_cons.mpr ⟨lw_p51, List.forall_mem_cons.mpr ⟨lw_p52, List.forall_mem_cons.mpr ⟨lw_p53, List.forall_mem_cons.mpr ⟨lw_p54, List.forall_mem_cons.mpr ⟨lw_p55, List.forall_mem_cons.mpr ⟨lw_p56, List.forall_mem_cons.mpr ⟨lw_p57, List.forall_mem_cons.mpr ⟨lw_p58, List.forall_mem_cons.mpr ⟨lw_p59, List.forall_mem_cons.mpr ⟨lw_p60, List.forall_mem_cons.mpr ⟨lw_p61, List.forall_mem_cons.mpr ⟨lw_p62, List.forall_mem_cons.mpr ⟨lw_p63, fun _ h => absurd h List.not_mem_nil⟩⟩⟩⟩⟩⟩⟩⟩⟩⟩⟩⟩⟩⟩⟩⟩
theorem lw_p64 : lw_okq (⟨"PaperHouse$Painter", "operate", "(II)V"⟩, 19) := ⟨⟨by decide +kernel, by decide +kernel⟩, List.mem_of_getElem? (i := 492) (by decide +kernel), List.mem_of_getElem? (i := 1532) (by decide +kernel), List.mem_of_getElem? (i := 1533) (by decide +kernel)⟩
theorem lw_p65 : lw_okq (⟨"PaperHouse$Painter", "fits", "(I)Z"⟩, 19) := ⟨⟨by decide +kernel, by decide +kernel⟩, List.mem_of_getElem? (i := 492) (by decide +kernel), List.mem_of_getElem? (i := 1539) (by decide +kernel), List.mem_of_getElem? (i := 1540) (by decide +kernel)⟩
theorem lw_p66 : lw_okq (⟨"PaperHouse$Painter", "operand", "(I)I"⟩, 19) := ⟨⟨by decide +kernel, by decide +kernel⟩, List.mem_of_getElem? (i := 492) (by decide +kernel), List.mem_of_getElem? (i := 1543) (by decide +kernel), List.mem_of_getElem? (i := 1544) (by decide +kernel)⟩
theorem lw_p67 : lw_okq (⟨"PaperHouse$Painter", "arePieces", "(I)Z"⟩, 19) := ⟨⟨by decide +kernel, by decide +kernel⟩, List.mem_of_getElem? (i := 492) (by decide +kernel), List.mem_of_getElem? (i := 1548) (by decide +kernel), List.mem_of_getElem? (i := 1549) (by decide +kernel)⟩
theorem lw_p68 : lw_okq (⟨"PaperHouse$Painter", "areNumbers", "(I)Z"⟩, 19) := ⟨⟨by decide +kernel, by decide +kernel⟩, List.mem_of_getElem? (i := 492) (by decide +kernel), List.mem_of_getElem? (i := 1556) (by decide +kernel), List.mem_of_getElem? (i := 1557) (by decide +kernel)⟩
theorem lw_p69 : lw_okq (⟨"PaperHouse$Painter", "isInOrder", "(I)Z"⟩, 19) := ⟨⟨by decide +kernel, by decide +kernel⟩, List.mem_of_getElem? (i := 492) (by decide +kernel), List.mem_of_getElem? (i := 1560) (by decide +kernel), List.mem_of_getElem? (i := 1561) (by decide +kernel)⟩
theorem lw_p70 : lw_okq (⟨"PaperHouse$Painter", "findsFont", "(I)Z"⟩, 19) := ⟨⟨by decide +kernel, by decide +kernel⟩, List.mem_of_getElem? (i := 492) (by decide +kernel), List.mem_of_getElem? (i := 1564) (by decide +kernel), List.mem_of_getElem? (i := 1565) (by decide +kernel)⟩
theorem lw_p71 : lw_okq (⟨"PaperHouse$Painter", "resources", "()I"⟩, 19) := ⟨⟨by decide +kernel, by decide +kernel⟩, List.mem_of_getElem? (i := 492) (by decide +kernel), List.mem_of_getElem? (i := 1568) (by decide +kernel), List.mem_of_getElem? (i := 1569) (by decide +kernel)⟩
theorem lw_p72 : lw_okq (⟨"PaperHouse$Painter", "readFont", "(I)Z"⟩, 19) := ⟨⟨by decide +kernel, by decide +kernel⟩, List.mem_of_getElem? (i := 492) (by decide +kernel), List.mem_of_getElem? (i := 1575) (by decide +kernel), List.mem_of_getElem? (i := 1576) (by decide +kernel)⟩
theorem lw_p73 : lw_okq (⟨"PaperHouse$Painter", "hasString", "(I)Z"⟩, 19) := ⟨⟨by decide +kernel, by decide +kernel⟩, List.mem_of_getElem? (i := 492) (by decide +kernel), List.mem_of_getElem? (i := 1585) (by decide +kernel), List.mem_of_getElem? (i := 1586) (by decide +kernel)⟩
theorem lw_p74 : lw_okq (⟨"PaperHouse$Painter", "showText", "(II)I"⟩, 19) := ⟨⟨by decide +kernel, by decide +kernel⟩, List.mem_of_getElem? (i := 492) (by decide +kernel), List.mem_of_getElem? (i := 1589) (by decide +kernel), List.mem_of_getElem? (i := 1590) (by decide +kernel)⟩
theorem lw_p75 : lw_okq (⟨"PaperHouse$Painter", "workInText", "(I)I"⟩, 19) := ⟨⟨by decide +kernel, by decide +kernel⟩, List.mem_of_getElem? (i := 492) (by decide +kernel), List.mem_of_getElem? (i := 1593) (by decide +kernel), List.mem_of_getElem? (i := 1594) (by decide +kernel)⟩
theorem lw_p76 : lw_okq (⟨"PaperHouse$Painter", "nextLine", "(II)Z"⟩, 19) := ⟨⟨by decide +kernel, by decide +kernel⟩, List.mem_of_getElem? (i := 492) (by decide +kernel), List.mem_of_getElem? (i := 1597) (by decide +kernel), List.mem_of_getElem? (i := 1598) (by decide +kernel)⟩
theorem lw_p77 : lw_okq (⟨"PaperHouse$Painter", "give", "(IIIIII)V"⟩, 19) := ⟨⟨by decide +kernel, by decide +kernel⟩, List.mem_of_getElem? (i := 492) (by decide +kernel), List.mem_of_getElem? (i := 1601) (by decide +kernel), List.mem_of_getElem? (i := 1602) (by decide +kernel)⟩
theorem lw_p78 : lw_okq (⟨"PaperHouse$Painter", "giveOperands", "()V"⟩, 19) := ⟨⟨by decide +kernel, by decide +kernel⟩, List.mem_of_getElem? (i := 492) (by decide +kernel), List.mem_of_getElem? (i := 1614) (by decide +kernel), List.mem_of_getElem? (i := 1615) (by decide +kernel)⟩
theorem lw_p79 : lw_okq (⟨"PaperHouse$Painter", "showString", "(I)I"⟩, 19) := ⟨⟨by decide +kernel, by decide +kernel⟩, List.mem_of_getElem? (i := 492) (by decide +kernel), List.mem_of_getElem? (i := 1618) (by decide +kernel), List.mem_of_getElem? (i := 1619) (by decide +kernel)⟩
def lw_privs_5 : List (MethodName × Nat) := [(⟨"PaperHouse$Painter", "operate", "(II)V"⟩, 19), (⟨"PaperHouse$Painter", "fits", "(I)Z"⟩, 19), (⟨"PaperHouse$Painter", "operand", "(I)I"⟩, 19), (⟨"PaperHouse$Painter", "arePieces", "(I)Z"⟩, 19), (⟨"PaperHouse$Painter", "areNumbers", "(I)Z"⟩, 19), (⟨"PaperHouse$Painter", "isInOrder", "(I)Z"⟩, 19), (⟨"PaperHouse$Painter", "findsFont", "(I)Z"⟩, 19), (⟨"PaperHouse$Painter", "resources", "()I"⟩, 19), (⟨"PaperHouse$Painter", "readFont", "(I)Z"⟩, 19), (⟨"PaperHouse$Painter", "hasString", "(I)Z"⟩, 19), (⟨"PaperHouse$Painter", "showText", "(II)I"⟩, 19), (⟨"PaperHouse$Painter", "workInText", "(I)I"⟩, 19), (⟨"PaperHouse$Painter", "nextLine", "(II)Z"⟩, 19), (⟨"PaperHouse$Painter", "give", "(IIIIII)V"⟩, 19), (⟨"PaperHouse$Painter", "giveOperands", "()V"⟩, 19), (⟨"PaperHouse$Painter", "showString", "(I)I"⟩, 19)]
theorem lw_r5 : ∀ q ∈ lw_privs_5, lw_okq q := List.forall_mem_cons.mpr ⟨lw_p64, List.forall_mem_cons.mpr ⟨lw_p65, List.forall_mem_cons.mpr ⟨lw_p66, List.forall_mem_cons.mpr ⟨lw_p67, List.forall_mem_cons.mpr ⟨lw_p68, List.forall_mem_cons.mpr ⟨lw_p69, List.forall_mem_cons.mpr ⟨lw_p70, List.forall_mem_cons.mpr ⟨lw_p71, List.forall_mem_cons.mpr ⟨lw_p72, List.forall_mem_cons.mpr ⟨lw_p73, List.forall_mem_cons.mpr ⟨lw_p74, List.forall_mem_cons.mpr ⟨lw_p75, List.forall_mem_cons.mpr ⟨lw_p76, List.forall_mem_cons.mpr ⟨lw_p77, List.forall_mem_cons.mpr ⟨lw_p78, List.forall_mem_cons.mpr ⟨lw_p79, fun _ h => absurd h List.not_mem_nil⟩⟩⟩⟩⟩⟩⟩⟩⟩⟩⟩⟩⟩⟩⟩⟩
theorem lw_p80 : lw_okq (⟨"PaperHouse$Painter", "keepGlyph", "(I)V"⟩, 19) := ⟨⟨by decide +kernel, by decide +kernel⟩, List.mem_of_getElem? (i := 492) (by decide +kernel), List.mem_of_getElem? (i := 1624) (by decide +kernel), List.mem_of_getElem? (i := 1625) (by decide +kernel)⟩
theorem lw_p81 : lw_okq (⟨"PaperHouse$Painter", "scaled", "(J)J"⟩, 19) := ⟨⟨by decide +kernel, by decide +kernel⟩, List.mem_of_getElem? (i := 492) (by decide +kernel), List.mem_of_getElem? (i := 1628) (by decide +kernel), List.mem_of_getElem? (i := 1629) (by decide +kernel)⟩
theorem lw_p82 : lw_okq (⟨"PaperHouse$Painter", "advance", "(J)Z"⟩, 19) := ⟨⟨by decide +kernel, by decide +kernel⟩, List.mem_of_getElem? (i := 492) (by decide +kernel), List.mem_of_getElem? (i := 1637) (by decide +kernel), List.mem_of_getElem? (i := 1638) (by decide +kernel)⟩
theorem lw_p83 : lw_okq (⟨"PaperHouse$Painter", "work", "(I)I"⟩, 19) := ⟨⟨by decide +kernel, by decide +kernel⟩, List.mem_of_getElem? (i := 492) (by decide +kernel), List.mem_of_getElem? (i := 1641) (by decide +kernel), List.mem_of_getElem? (i := 1642) (by decide +kernel)⟩
theorem lw_p84 : lw_okq (⟨"PaperHouse$Changes", "set", "(IIIII)V"⟩, 3) := ⟨⟨by decide +kernel, by decide +kernel⟩, List.mem_of_getElem? (i := 560) (by decide +kernel), List.mem_of_getElem? (i := 1687) (by decide +kernel), List.mem_of_getElem? (i := 1688) (by decide +kernel)⟩
theorem lw_p85 : lw_okq (⟨"PaperHouse$Changes", "putIn", "(II)V"⟩, 3) := ⟨⟨by decide +kernel, by decide +kernel⟩, List.mem_of_getElem? (i := 560) (by decide +kernel), List.mem_of_getElem? (i := 1708) (by decide +kernel), List.mem_of_getElem? (i := 1709) (by decide +kernel)⟩
theorem lw_p86 : lw_okq (⟨"PaperHouse$Changes", "ownKids", "(I)I"⟩, 3) := ⟨⟨by decide +kernel, by decide +kernel⟩, List.mem_of_getElem? (i := 560) (by decide +kernel), List.mem_of_getElem? (i := 1717) (by decide +kernel), List.mem_of_getElem? (i := 1718) (by decide +kernel)⟩
theorem lw_p87 : lw_okq (⟨"PaperHouse$Changes", "placeOf", "(II)I"⟩, 3) := ⟨⟨by decide +kernel, by decide +kernel⟩, List.mem_of_getElem? (i := 560) (by decide +kernel), List.mem_of_getElem? (i := 1727) (by decide +kernel), List.mem_of_getElem? (i := 1728) (by decide +kernel)⟩
theorem lw_p88 : lw_okq (⟨"PaperHouse$Changes", "countUp", "(II)V"⟩, 3) := ⟨⟨by decide +kernel, by decide +kernel⟩, List.mem_of_getElem? (i := 560) (by decide +kernel), List.mem_of_getElem? (i := 1744) (by decide +kernel), List.mem_of_getElem? (i := 1745) (by decide +kernel)⟩
theorem lw_p89 : lw_okq (⟨"PaperHouse", "changed", "(I)I"⟩, 19) := ⟨⟨by decide +kernel, by decide +kernel⟩, List.mem_of_getElem? (i := 23) (by decide +kernel), List.mem_of_getElem? (i := 1749) (by decide +kernel), List.mem_of_getElem? (i := 1750) (by decide +kernel)⟩
theorem lw_p90 : lw_okq (⟨"PaperHouse$Changes", "takeOut", "(I)V"⟩, 3) := ⟨⟨by decide +kernel, by decide +kernel⟩, List.mem_of_getElem? (i := 560) (by decide +kernel), List.mem_of_getElem? (i := 1762) (by decide +kernel), List.mem_of_getElem? (i := 1763) (by decide +kernel)⟩
theorem lw_p91 : lw_okq (⟨"PaperHouse$Changes", "takeOver", "(II)V"⟩, 3) := ⟨⟨by decide +kernel, by decide +kernel⟩, List.mem_of_getElem? (i := 560) (by decide +kernel), List.mem_of_getElem? (i := 1778) (by decide +kernel), List.mem_of_getElem? (i := 1779) (by decide +kernel)⟩
theorem lw_p92 : lw_okq (⟨"PaperHouse$Writer", "putText", "(Ljava/lang/String;)V"⟩, 18) := ⟨⟨by decide +kernel, by decide +kernel⟩, List.mem_of_getElem? (i := 576) (by decide +kernel), List.mem_of_getElem? (i := 1830) (by decide +kernel), List.mem_of_getElem? (i := 1831) (by decide +kernel)⟩
theorem lw_p93 : lw_okq (⟨"PaperHouse$Writer", "put", "(I)V"⟩, 18) := ⟨⟨by decide +kernel, by decide +kernel⟩, List.mem_of_getElem? (i := 576) (by decide +kernel), List.mem_of_getElem? (i := 1836) (by decide +kernel), List.mem_of_getElem? (i := 1837) (by decide +kernel)⟩
theorem lw_p94 : lw_okq (⟨"PaperHouse$Writer", "meet", "(I)I"⟩, 18) := ⟨⟨by decide +kernel, by decide +kernel⟩, List.mem_of_getElem? (i := 576) (by decide +kernel), List.mem_of_getElem? (i := 1840) (by decide +kernel), List.mem_of_getElem? (i := 1841) (by decide +kernel)⟩
theorem lw_p95 : lw_okq (⟨"PaperHouse$Writer", "putObject", "(III)V"⟩, 18) := ⟨⟨by decide +kernel, by decide +kernel⟩, List.mem_of_getElem? (i := 576) (by decide +kernel), List.mem_of_getElem? (i := 1844) (by decide +kernel), List.mem_of_getElem? (i := 1845) (by decide +kernel)⟩
def lw_privs_6 : List (MethodName × Nat) := [(⟨"PaperHouse$Painter", "keepGlyph", "(I)V"⟩, 19), (⟨"PaperHouse$Painter", "scaled", "(J)J"⟩, 19), (⟨"PaperHouse$Painter", "advance", "(J)Z"⟩, 19), (⟨"PaperHouse$Painter", "work", "(I)I"⟩, 19), (⟨"PaperHouse$Changes", "set", "(IIIII)V"⟩, 3), (⟨"PaperHouse$Changes", "putIn", "(II)V"⟩, 3), (⟨"PaperHouse$Changes", "ownKids", "(I)I"⟩, 3), (⟨"PaperHouse$Changes", "placeOf", "(II)I"⟩, 3), (⟨"PaperHouse$Changes", "countUp", "(II)V"⟩, 3), (⟨"PaperHouse", "changed", "(I)I"⟩, 19), (⟨"PaperHouse$Changes", "takeOut", "(I)V"⟩, 3), (⟨"PaperHouse$Changes", "takeOver", "(II)V"⟩, 3), (⟨"PaperHouse$Writer", "putText", "(Ljava/lang/String;)V"⟩, 18), (⟨"PaperHouse$Writer", "put", "(I)V"⟩, 18), (⟨"PaperHouse$Writer", "meet", "(I)I"⟩, 18), (⟨"PaperHouse$Writer", "putObject", "(III)V"⟩, 18)]
theorem lw_r6 : ∀ q ∈ lw_privs_6, lw_okq q := List.forall_mem_cons.mpr ⟨lw_p80, List.forall_mem_cons.mpr ⟨lw_p81, List.forall_mem_cons.mpr ⟨lw_p82, List.forall_mem_cons.mpr ⟨lw_p83, List.forall_mem_cons.mpr ⟨lw_p84, List.forall_mem_cons.mpr ⟨lw_p85, List.forall_mem_cons.mpr ⟨lw_p86, List.forall_mem_cons.mpr ⟨lw_p87, List.forall_mem_cons.mpr ⟨lw_p88, List.forall_mem_cons.mpr ⟨lw_p89, List.forall_mem_cons.mpr ⟨lw_p90, List.forall_mem_cons.mpr ⟨lw_p91, List.forall_mem_cons.mpr ⟨lw_p92, List.forall_mem_cons.mpr ⟨lw_p93, List.forall_mem_cons.mpr ⟨lw_p94, List.forall_mem_cons.mpr ⟨lw_p95, fun _ h => absurd h List.not_mem_nil⟩⟩⟩⟩⟩⟩⟩⟩⟩⟩⟩⟩⟩⟩⟩⟩
theorem lw_p96 : lw_okq (⟨"PaperHouse$Writer", "putNumber", "(J)V"⟩, 18) := ⟨⟨by decide +kernel, by decide +kernel⟩, List.mem_of_getElem? (i := 576) (by decide +kernel), List.mem_of_getElem? (i := 1848) (by decide +kernel), List.mem_of_getElem? (i := 1849) (by decide +kernel)⟩
theorem lw_p97 : lw_okq (⟨"PaperHouse$Writer", "squeeze", "([BII)V"⟩, 18) := ⟨⟨by decide +kernel, by decide +kernel⟩, List.mem_of_getElem? (i := 576) (by decide +kernel), List.mem_of_getElem? (i := 1859) (by decide +kernel), List.mem_of_getElem? (i := 1860) (by decide +kernel)⟩
theorem lw_p98 : lw_okq (⟨"PaperHouse$Writer", "push", "(II)V"⟩, 18) := ⟨⟨by decide +kernel, by decide +kernel⟩, List.mem_of_getElem? (i := 576) (by decide +kernel), List.mem_of_getElem? (i := 1864) (by decide +kernel), List.mem_of_getElem? (i := 1865) (by decide +kernel)⟩
theorem lw_p99 : lw_okq (⟨"PaperHouse$Writer", "longest", "([BIII)I"⟩, 18) := ⟨⟨by decide +kernel, by decide +kernel⟩, List.mem_of_getElem? (i := 576) (by decide +kernel), List.mem_of_getElem? (i := 1868) (by decide +kernel), List.mem_of_getElem? (i := 1869) (by decide +kernel)⟩
theorem lw_p100 : lw_okq (⟨"PaperHouse$Writer", "pushSymbol", "(I)V"⟩, 18) := ⟨⟨by decide +kernel, by decide +kernel⟩, List.mem_of_getElem? (i := 576) (by decide +kernel), List.mem_of_getElem? (i := 1875) (by decide +kernel), List.mem_of_getElem? (i := 1876) (by decide +kernel)⟩
theorem lw_p101 : lw_okq (⟨"PaperHouse$Writer", "pushCode", "(II)V"⟩, 18) := ⟨⟨by decide +kernel, by decide +kernel⟩, List.mem_of_getElem? (i := 576) (by decide +kernel), List.mem_of_getElem? (i := 1879) (by decide +kernel), List.mem_of_getElem? (i := 1880) (by decide +kernel)⟩
theorem lw_p102 : lw_okq (⟨"PaperHouse$Writer", "pushRow", "(I)V"⟩, 18) := ⟨⟨by decide +kernel, by decide +kernel⟩, List.mem_of_getElem? (i := 576) (by decide +kernel), List.mem_of_getElem? (i := 1883) (by decide +kernel), List.mem_of_getElem? (i := 1884) (by decide +kernel)⟩
theorem lw_p103 : lw_okq (⟨"PaperHouse$Writer", "remember", "([BIII)V"⟩, 18) := ⟨⟨by decide +kernel, by decide +kernel⟩, List.mem_of_getElem? (i := 576) (by decide +kernel), List.mem_of_getElem? (i := 1891) (by decide +kernel), List.mem_of_getElem? (i := 1892) (by decide +kernel)⟩
theorem lw_p104 : lw_okq (⟨"PaperHouse$Writer", "forget", "([BII)V"⟩, 18) := ⟨⟨by decide +kernel, by decide +kernel⟩, List.mem_of_getElem? (i := 576) (by decide +kernel), List.mem_of_getElem? (i := 1896) (by decide +kernel), List.mem_of_getElem? (i := 1897) (by decide +kernel)⟩
theorem lw_p105 : lw_okq (⟨"PaperHouse$Writer", "putEntries", "(IIZ)V"⟩, 18) := ⟨⟨by decide +kernel, by decide +kernel⟩, List.mem_of_getElem? (i := 576) (by decide +kernel), List.mem_of_getElem? (i := 1902) (by decide +kernel), List.mem_of_getElem? (i := 1903) (by decide +kernel)⟩
theorem lw_p106 : lw_okq (⟨"PaperHouse$Writer", "putName", "(I)V"⟩, 18) := ⟨⟨by decide +kernel, by decide +kernel⟩, List.mem_of_getElem? (i := 576) (by decide +kernel), List.mem_of_getElem? (i := 1910) (by decide +kernel), List.mem_of_getElem? (i := 1911) (by decide +kernel)⟩
theorem lw_p107 : lw_okq (⟨"PaperHouse$Writer", "putHex", "(I)V"⟩, 18) := ⟨⟨by decide +kernel, by decide +kernel⟩, List.mem_of_getElem? (i := 576) (by decide +kernel), List.mem_of_getElem? (i := 1917) (by decide +kernel), List.mem_of_getElem? (i := 1918) (by decide +kernel)⟩
theorem lw_p108 : lw_okq (⟨"PaperHouse$Writer", "putValue", "(II)V"⟩, 18) := ⟨⟨by decide +kernel, by decide +kernel⟩, List.mem_of_getElem? (i := 576) (by decide +kernel), List.mem_of_getElem? (i := 1921) (by decide +kernel), List.mem_of_getElem? (i := 1922) (by decide +kernel)⟩
theorem lw_p109 : lw_okq (⟨"PaperHouse$Writer", "putReal", "(I)V"⟩, 18) := ⟨⟨by decide +kernel, by decide +kernel⟩, List.mem_of_getElem? (i := 576) (by decide +kernel), List.mem_of_getElem? (i := 1929) (by decide +kernel), List.mem_of_getElem? (i := 1930) (by decide +kernel)⟩
theorem lw_p110 : lw_okq (⟨"PaperHouse$Writer", "putString", "(I)V"⟩, 18) := ⟨⟨by decide +kernel, by decide +kernel⟩, List.mem_of_getElem? (i := 576) (by decide +kernel), List.mem_of_getElem? (i := 1936) (by decide +kernel), List.mem_of_getElem? (i := 1937) (by decide +kernel)⟩
theorem lw_p111 : lw_okq (⟨"PaperHouse$Writer", "putReference", "(I)V"⟩, 18) := ⟨⟨by decide +kernel, by decide +kernel⟩, List.mem_of_getElem? (i := 576) (by decide +kernel), List.mem_of_getElem? (i := 1943) (by decide +kernel), List.mem_of_getElem? (i := 1944) (by decide +kernel)⟩
def lw_privs_7 : List (MethodName × Nat) := [(⟨"PaperHouse$Writer", "putNumber", "(J)V"⟩, 18), (⟨"PaperHouse$Writer", "squeeze", "([BII)V"⟩, 18), (⟨"PaperHouse$Writer", "push", "(II)V"⟩, 18), (⟨"PaperHouse$Writer", "longest", "([BIII)I"⟩, 18), (⟨"PaperHouse$Writer", "pushSymbol", "(I)V"⟩, 18), (⟨"PaperHouse$Writer", "pushCode", "(II)V"⟩, 18), (⟨"PaperHouse$Writer", "pushRow", "(I)V"⟩, 18), (⟨"PaperHouse$Writer", "remember", "([BIII)V"⟩, 18), (⟨"PaperHouse$Writer", "forget", "([BII)V"⟩, 18), (⟨"PaperHouse$Writer", "putEntries", "(IIZ)V"⟩, 18), (⟨"PaperHouse$Writer", "putName", "(I)V"⟩, 18), (⟨"PaperHouse$Writer", "putHex", "(I)V"⟩, 18), (⟨"PaperHouse$Writer", "putValue", "(II)V"⟩, 18), (⟨"PaperHouse$Writer", "putReal", "(I)V"⟩, 18), (⟨"PaperHouse$Writer", "putString", "(I)V"⟩, 18), (⟨"PaperHouse$Writer", "putReference", "(I)V"⟩, 18)]
theorem lw_r7 : ∀ q ∈ lw_privs_7, lw_okq q := List.forall_mem_cons.mpr ⟨lw_p96, List.forall_mem_cons.mpr ⟨lw_p97, List.forall_mem_cons.mpr ⟨lw_p98, List.forall_mem_cons.mpr ⟨lw_p99, List.forall_mem_cons.mpr ⟨lw_p100, List.forall_mem_cons.mpr ⟨lw_p101, List.forall_mem_cons.mpr ⟨lw_p102, List.forall_mem_cons.mpr ⟨lw_p103, List.forall_mem_cons.mpr ⟨lw_p104, List.forall_mem_cons.mpr ⟨lw_p105, List.forall_mem_cons.mpr ⟨lw_p106, List.forall_mem_cons.mpr ⟨lw_p107, List.forall_mem_cons.mpr ⟨lw_p108, List.forall_mem_cons.mpr ⟨lw_p109, List.forall_mem_cons.mpr ⟨lw_p110, List.forall_mem_cons.mpr ⟨lw_p111, fun _ h => absurd h List.not_mem_nil⟩⟩⟩⟩⟩⟩⟩⟩⟩⟩⟩⟩⟩⟩⟩⟩
theorem lw_p112 : lw_okq (⟨"PaperHouse$Writer", "putCode", "()V"⟩, 18) := ⟨⟨by decide +kernel, by decide +kernel⟩, List.mem_of_getElem? (i := 576) (by decide +kernel), List.mem_of_getElem? (i := 1952) (by decide +kernel), List.mem_of_getElem? (i := 1953) (by decide +kernel)⟩
theorem lw_p113 : lw_okq (⟨"PaperHouse$Writer", "putEntry", "(II)V"⟩, 18) := ⟨⟨by decide +kernel, by decide +kernel⟩, List.mem_of_getElem? (i := 576) (by decide +kernel), List.mem_of_getElem? (i := 1962) (by decide +kernel), List.mem_of_getElem? (i := 1963) (by decide +kernel)⟩
theorem lw_p114 : lw_okq (⟨"PaperHouse$Writer", "putDigits", "(JJ)V"⟩, 18) := ⟨⟨by decide +kernel, by decide +kernel⟩, List.mem_of_getElem? (i := 576) (by decide +kernel), List.mem_of_getElem? (i := 1967) (by decide +kernel), List.mem_of_getElem? (i := 1968) (by decide +kernel)⟩
theorem lw_p115 : lw_okq (⟨"PaperHouse$Writer", "putRoots", "()V"⟩, 18) := ⟨⟨by decide +kernel, by decide +kernel⟩, List.mem_of_getElem? (i := 576) (by decide +kernel), List.mem_of_getElem? (i := 1973) (by decide +kernel), List.mem_of_getElem? (i := 1974) (by decide +kernel)⟩
theorem lw_p116 : lw_okq (⟨"PaperHouse$Writer", "putRoot", "(Ljava/lang/String;I)V"⟩, 18) := ⟨⟨by decide +kernel, by decide +kernel⟩, List.mem_of_getElem? (i := 576) (by decide +kernel), List.mem_of_getElem? (i := 1978) (by decide +kernel), List.mem_of_getElem? (i := 1979) (by decide +kernel)⟩
theorem lw_p117 : lw_okq (⟨"PaperHouse$Writer", "putEnd", "(I)V"⟩, 18) := ⟨⟨by decide +kernel, by decide +kernel⟩, List.mem_of_getElem? (i := 576) (by decide +kernel), List.mem_of_getElem? (i := 1985) (by decide +kernel), List.mem_of_getElem? (i := 1986) (by decide +kernel)⟩
theorem lw_p118 : lw_okq (⟨"PaperHouse$Writer", "finish", "()I"⟩, 18) := ⟨⟨by decide +kernel, by decide +kernel⟩, List.mem_of_getElem? (i := 576) (by decide +kernel), List.mem_of_getElem? (i := 1991) (by decide +kernel), List.mem_of_getElem? (i := 1992) (by decide +kernel)⟩
theorem lw_p119 : lw_okq (⟨"PaperHouse$Writer", "putRows", "(II)V"⟩, 18) := ⟨⟨by decide +kernel, by decide +kernel⟩, List.mem_of_getElem? (i := 576) (by decide +kernel), List.mem_of_getElem? (i := 2010) (by decide +kernel), List.mem_of_getElem? (i := 2011) (by decide +kernel)⟩
theorem lw_p120 : lw_okq (⟨"PaperHouse$Writer", "endOfRow", "(III)I"⟩, 18) := ⟨⟨by decide +kernel, by decide +kernel⟩, List.mem_of_getElem? (i := 576) (by decide +kernel), List.mem_of_getElem? (i := 2016) (by decide +kernel), List.mem_of_getElem? (i := 2017) (by decide +kernel)⟩
theorem lw_p121 : lw_okq (⟨"PaperHouse$Writer", "isListed", "(II)Z"⟩, 18) := ⟨⟨by decide +kernel, by decide +kernel⟩, List.mem_of_getElem? (i := 576) (by decide +kernel), List.mem_of_getElem? (i := 2020) (by decide +kernel), List.mem_of_getElem? (i := 2021) (by decide +kernel)⟩
theorem lw_p122 : lw_okq (⟨"PaperHouse$Writer", "layRow", "(III)I"⟩, 18) := ⟨⟨by decide +kernel, by decide +kernel⟩, List.mem_of_getElem? (i := 576) (by decide +kernel), List.mem_of_getElem? (i := 2025) (by decide +kernel), List.mem_of_getElem? (i := 2026) (by decide +kernel)⟩
theorem lw_p123 : lw_okq (⟨"PaperHouse$Writer", "putTable", "(I)V"⟩, 18) := ⟨⟨by decide +kernel, by decide +kernel⟩, List.mem_of_getElem? (i := 576) (by decide +kernel), List.mem_of_getElem? (i := 2032) (by decide +kernel), List.mem_of_getElem? (i := 2033) (by decide +kernel)⟩
theorem lw_p124 : lw_okq (⟨"PaperHouseModel", "lay", "(I)V"⟩, 121) := ⟨⟨by decide +kernel, by decide +kernel⟩, List.mem_of_getElem? (i := 2057) (by decide +kernel), List.mem_of_getElem? (i := 2486) (by decide +kernel), List.mem_of_getElem? (i := 2487) (by decide +kernel)⟩
theorem lw_p125 : lw_okq (⟨"PaperHouseModel", "readFile", "()V"⟩, 121) := ⟨⟨by decide +kernel, by decide +kernel⟩, List.mem_of_getElem? (i := 2057) (by decide +kernel), List.mem_of_getElem? (i := 2498) (by decide +kernel), List.mem_of_getElem? (i := 2499) (by decide +kernel)⟩
theorem lw_p126 : lw_okq (⟨"PaperHouseModel", "byteHere", "(I)I"⟩, 121) := ⟨⟨by decide +kernel, by decide +kernel⟩, List.mem_of_getElem? (i := 2057) (by decide +kernel), List.mem_of_getElem? (i := 2503) (by decide +kernel), List.mem_of_getElem? (i := 2504) (by decide +kernel)⟩
theorem lw_p127 : lw_okq (⟨"PaperHouseModel", "fail", "(II)V"⟩, 121) := ⟨⟨by decide +kernel, by decide +kernel⟩, List.mem_of_getElem? (i := 2057) (by decide +kernel), List.mem_of_getElem? (i := 2508) (by decide +kernel), List.mem_of_getElem? (i := 2509) (by decide +kernel)⟩
def lw_privs_8 : List (MethodName × Nat) := [(⟨"PaperHouse$Writer", "putCode", "()V"⟩, 18), (⟨"PaperHouse$Writer", "putEntry", "(II)V"⟩, 18), (⟨"PaperHouse$Writer", "putDigits", "(JJ)V"⟩, 18), (⟨"PaperHouse$Writer", "putRoots", "()V"⟩, 18), (⟨"PaperHouse$Writer", "putRoot", "(Ljava/lang/String;I)V"⟩, 18), (⟨"PaperHouse$Writer", "putEnd", "(I)V"⟩, 18), (⟨"PaperHouse$Writer", "finish", "()I"⟩, 18), (⟨"PaperHouse$Writer", "putRows", "(II)V"⟩, 18), (⟨"PaperHouse$Writer", "endOfRow", "(III)I"⟩, 18), (⟨"PaperHouse$Writer", "isListed", "(II)Z"⟩, 18), (⟨"PaperHouse$Writer", "layRow", "(III)I"⟩, 18), (⟨"PaperHouse$Writer", "putTable", "(I)V"⟩, 18), (⟨"PaperHouseModel", "lay", "(I)V"⟩, 121), (⟨"PaperHouseModel", "readFile", "()V"⟩, 121), (⟨"PaperHouseModel", "byteHere", "(I)I"⟩, 121), (⟨"PaperHouseModel", "fail", "(II)V"⟩, 121)]
theorem lw_r8 : ∀ q ∈ lw_privs_8, lw_okq q := List.forall_mem_cons.mpr ⟨lw_p112, List.forall_mem_cons.mpr ⟨lw_p113, List.forall_mem_cons.mpr ⟨lw_p114, List.forall_mem_cons.mpr ⟨lw_p115, List.forall_mem_cons.mpr ⟨lw_p116, List.forall_mem_cons.mpr ⟨lw_p117, List.forall_mem_cons.mpr ⟨lw_p118, List.forall_mem_cons.mpr ⟨lw_p119, List.forall_mem_cons.mpr ⟨lw_p120, List.forall_mem_cons.mpr ⟨lw_p121, List.forall_mem_cons.mpr ⟨lw_p122, List.forall_mem_cons.mpr ⟨lw_p123, List.forall_mem_cons.mpr ⟨lw_p124, List.forall_mem_cons.mpr ⟨lw_p125, List.forall_mem_cons.mpr ⟨lw_p126, List.forall_mem_cons.mpr ⟨lw_p127, fun _ h => absurd h List.not_mem_nil⟩⟩⟩⟩⟩⟩⟩⟩⟩⟩⟩⟩⟩⟩⟩⟩
theorem lw_p128 : lw_okq (⟨"PaperHouseModel", "stand", "(Ljava/lang/String;I)Z"⟩, 121) := ⟨⟨by decide +kernel, by decide +kernel⟩, List.mem_of_getElem? (i := 2057) (by decide +kernel), List.mem_of_getElem? (i := 2513) (by decide +kernel), List.mem_of_getElem? (i := 2514) (by decide +kernel)⟩
theorem lw_p129 : lw_okq (⟨"PaperHouseModel", "ending", "(I)J"⟩, 121) := ⟨⟨by decide +kernel, by decide +kernel⟩, List.mem_of_getElem? (i := 2057) (by decide +kernel), List.mem_of_getElem? (i := 2518) (by decide +kernel), List.mem_of_getElem? (i := 2519) (by decide +kernel)⟩
theorem lw_p130 : lw_okq (⟨"PaperHouseModel", "good", "()Z"⟩, 121) := ⟨⟨by decide +kernel, by decide +kernel⟩, List.mem_of_getElem? (i := 2057) (by decide +kernel), List.mem_of_getElem? (i := 2534) (by decide +kernel), List.mem_of_getElem? (i := 2535) (by decide +kernel)⟩
theorem lw_p131 : lw_okq (⟨"PaperHouseModel", "section", "(J)J"⟩, 121) := ⟨⟨by decide +kernel, by decide +kernel⟩, List.mem_of_getElem? (i := 2057) (by decide +kernel), List.mem_of_getElem? (i := 2538) (by decide +kernel), List.mem_of_getElem? (i := 2539) (by decide +kernel)⟩
theorem lw_p132 : lw_okq (⟨"PaperHouseModel", "from", "([BII)V"⟩, 121) := ⟨⟨by decide +kernel, by decide +kernel⟩, List.mem_of_getElem? (i := 2057) (by decide +kernel), List.mem_of_getElem? (i := 2542) (by decide +kernel), List.mem_of_getElem? (i := 2543) (by decide +kernel)⟩
theorem lw_p133 : lw_okq (⟨"PaperHouseModel", "table", "(I)I"⟩, 121) := ⟨⟨by decide +kernel, by decide +kernel⟩, List.mem_of_getElem? (i := 2057) (by decide +kernel), List.mem_of_getElem? (i := 2553) (by decide +kernel), List.mem_of_getElem? (i := 2554) (by decide +kernel)⟩
theorem lw_p134 : lw_okq (⟨"PaperHouseModel", "blanks", "()V"⟩, 121) := ⟨⟨by decide +kernel, by decide +kernel⟩, List.mem_of_getElem? (i := 2057) (by decide +kernel), List.mem_of_getElem? (i := 2557) (by decide +kernel), List.mem_of_getElem? (i := 2558) (by decide +kernel)⟩
theorem lw_p135 : lw_okq (⟨"PaperHouseModel", "peek", "(I)I"⟩, 121) := ⟨⟨by decide +kernel, by decide +kernel⟩, List.mem_of_getElem? (i := 2057) (by decide +kernel), List.mem_of_getElem? (i := 2561) (by decide +kernel), List.mem_of_getElem? (i := 2562) (by decide +kernel)⟩
theorem lw_p136 : lw_okq (⟨"PaperHouseModel", "plainRow", "()J"⟩, 121) := ⟨⟨by decide +kernel, by decide +kernel⟩, List.mem_of_getElem? (i := 2057) (by decide +kernel), List.mem_of_getElem? (i := 2565) (by decide +kernel), List.mem_of_getElem? (i := 2566) (by decide +kernel)⟩
theorem lw_p137 : lw_okq (⟨"PaperHouseModel", "isEntry", "()Z"⟩, 121) := ⟨⟨by decide +kernel, by decide +kernel⟩, List.mem_of_getElem? (i := 2057) (by decide +kernel), List.mem_of_getElem? (i := 2571) (by decide +kernel), List.mem_of_getElem? (i := 2572) (by decide +kernel)⟩
theorem lw_p138 : lw_okq (⟨"PaperHouseModel", "digits", "(II)J"⟩, 121) := ⟨⟨by decide +kernel, by decide +kernel⟩, List.mem_of_getElem? (i := 2057) (by decide +kernel), List.mem_of_getElem? (i := 2575) (by decide +kernel), List.mem_of_getElem? (i := 2576) (by decide +kernel)⟩
theorem lw_p139 : lw_okq (⟨"PaperHouseModel", "tell", "(IIJJ)V"⟩, 121) := ⟨⟨by decide +kernel, by decide +kernel⟩, List.mem_of_getElem? (i := 2057) (by decide +kernel), List.mem_of_getElem? (i := 2579) (by decide +kernel), List.mem_of_getElem? (i := 2580) (by decide +kernel)⟩
theorem lw_p140 : lw_okq (⟨"PaperHouseModel", "token", "()V"⟩, 121) := ⟨⟨by decide +kernel, by decide +kernel⟩, List.mem_of_getElem? (i := 2057) (by decide +kernel), List.mem_of_getElem? (i := 2583) (by decide +kernel), List.mem_of_getElem? (i := 2584) (by decide +kernel)⟩
theorem lw_p141 : lw_okq (⟨"PaperHouseModel", "white", "()V"⟩, 121) := ⟨⟨by decide +kernel, by decide +kernel⟩, List.mem_of_getElem? (i := 2057) (by decide +kernel), List.mem_of_getElem? (i := 2587) (by decide +kernel), List.mem_of_getElem? (i := 2588) (by decide +kernel)⟩
theorem lw_p142 : lw_okq (⟨"PaperHouseModel", "row", "()V"⟩, 121) := ⟨⟨by decide +kernel, by decide +kernel⟩, List.mem_of_getElem? (i := 2057) (by decide +kernel), List.mem_of_getElem? (i := 2591) (by decide +kernel), List.mem_of_getElem? (i := 2592) (by decide +kernel)⟩
theorem lw_p143 : lw_okq (⟨"PaperHouseModel", "realOf", "(ZJJII)V"⟩, 121) := ⟨⟨by decide +kernel, by decide +kernel⟩, List.mem_of_getElem? (i := 2057) (by decide +kernel), List.mem_of_getElem? (i := 2597) (by decide +kernel), List.mem_of_getElem? (i := 2598) (by decide +kernel)⟩
def lw_privs_9 : List (MethodName × Nat) := [(⟨"PaperHouseModel", "stand", "(Ljava/lang/String;I)Z"⟩, 121), (⟨"PaperHouseModel", "ending", "(I)J"⟩, 121), (⟨"PaperHouseModel", "good", "()Z"⟩, 121), (⟨"PaperHouseModel", "section", "(J)J"⟩, 121), (⟨"PaperHouseModel", "from", "([BII)V"⟩, 121), (⟨"PaperHouseModel", "table", "(I)I"⟩, 121), (⟨"PaperHouseModel", "blanks", "()V"⟩, 121), (⟨"PaperHouseModel", "peek", "(I)I"⟩, 121), (⟨"PaperHouseModel", "plainRow", "()J"⟩, 121), (⟨"PaperHouseModel", "isEntry", "()Z"⟩, 121), (⟨"PaperHouseModel", "digits", "(II)J"⟩, 121), (⟨"PaperHouseModel", "tell", "(IIJJ)V"⟩, 121), (⟨"PaperHouseModel", "token", "()V"⟩, 121), (⟨"PaperHouseModel", "white", "()V"⟩, 121), (⟨"PaperHouseModel", "row", "()V"⟩, 121), (⟨"PaperHouseModel", "realOf", "(ZJJII)V"⟩, 121)]
theorem lw_r9 : ∀ q ∈ lw_privs_9, lw_okq q := List.forall_mem_cons.mpr ⟨lw_p128, List.forall_mem_cons.mpr ⟨lw_p129, List.forall_mem_cons.mpr ⟨lw_p130, List.forall_mem_cons.mpr ⟨lw_p131, List.forall_mem_cons.mpr ⟨lw_p132, List.forall_mem_cons.mpr ⟨lw_p133, List.forall_mem_cons.mpr ⟨lw_p134, List.forall_mem_cons.mpr ⟨lw_p135, List.forall_mem_cons.mpr ⟨lw_p136, List.forall_mem_cons.mpr ⟨lw_p137, List.forall_mem_cons.mpr ⟨lw_p138, List.forall_mem_cons.mpr ⟨lw_p139, List.forall_mem_cons.mpr ⟨lw_p140, List.forall_mem_cons.mpr ⟨lw_p141, List.forall_mem_cons.mpr ⟨lw_p142, List.forall_mem_cons.mpr ⟨lw_p143, fun _ h => absurd h List.not_mem_nil⟩⟩⟩⟩⟩⟩⟩⟩⟩⟩⟩⟩⟩⟩⟩⟩
theorem lw_p144 : lw_okq (⟨"PaperHouseModel", "readName", "()V"⟩, 121) := ⟨⟨by decide +kernel, by decide +kernel⟩, List.mem_of_getElem? (i := 2057) (by decide +kernel), List.mem_of_getElem? (i := 2603) (by decide +kernel), List.mem_of_getElem? (i := 2604) (by decide +kernel)⟩
theorem lw_p145 : lw_okq (⟨"PaperHouseModel", "put", "(I)V"⟩, 121) := ⟨⟨by decide +kernel, by decide +kernel⟩, List.mem_of_getElem? (i := 2057) (by decide +kernel), List.mem_of_getElem? (i := 2610) (by decide +kernel), List.mem_of_getElem? (i := 2611) (by decide +kernel)⟩
theorem lw_p146 : lw_okq (⟨"PaperHouseModel", "readString", "()V"⟩, 121) := ⟨⟨by decide +kernel, by decide +kernel⟩, List.mem_of_getElem? (i := 2057) (by decide +kernel), List.mem_of_getElem? (i := 2614) (by decide +kernel), List.mem_of_getElem? (i := 2615) (by decide +kernel)⟩
theorem lw_p147 : lw_okq (⟨"PaperHouseModel", "escape", "()V"⟩, 121) := ⟨⟨by decide +kernel, by decide +kernel⟩, List.mem_of_getElem? (i := 2057) (by decide +kernel), List.mem_of_getElem? (i := 2618) (by decide +kernel), List.mem_of_getElem? (i := 2619) (by decide +kernel)⟩
theorem lw_p148 : lw_okq (⟨"PaperHouseModel", "readHex", "()V"⟩, 121) := ⟨⟨by decide +kernel, by decide +kernel⟩, List.mem_of_getElem? (i := 2057) (by decide +kernel), List.mem_of_getElem? (i := 2622) (by decide +kernel), List.mem_of_getElem? (i := 2623) (by decide +kernel)⟩
theorem lw_p149 : lw_okq (⟨"PaperHouseModel", "isWord", "(Ljava/lang/String;)Z"⟩, 121) := ⟨⟨by decide +kernel, by decide +kernel⟩, List.mem_of_getElem? (i := 2057) (by decide +kernel), List.mem_of_getElem? (i := 2627) (by decide +kernel), List.mem_of_getElem? (i := 2628) (by decide +kernel)⟩
theorem lw_p150 : lw_okq (⟨"PaperHouseModel", "object", "(IZ)I"⟩, 121) := ⟨⟨by decide +kernel, by decide +kernel⟩, List.mem_of_getElem? (i := 2057) (by decide +kernel), List.mem_of_getElem? (i := 2631) (by decide +kernel), List.mem_of_getElem? (i := 2632) (by decide +kernel)⟩
theorem lw_p151 : lw_okq (⟨"PaperHouseModel", "counted", "()V"⟩, 121) := ⟨⟨by decide +kernel, by decide +kernel⟩, List.mem_of_getElem? (i := 2057) (by decide +kernel), List.mem_of_getElem? (i := 2638) (by decide +kernel), List.mem_of_getElem? (i := 2639) (by decide +kernel)⟩
theorem lw_p152 : lw_okq (⟨"PaperHouseModel", "newNode", "(II)I"⟩, 121) := ⟨⟨by decide +kernel, by decide +kernel⟩, List.mem_of_getElem? (i := 2057) (by decide +kernel), List.mem_of_getElem? (i := 2643) (by decide +kernel), List.mem_of_getElem? (i := 2644) (by decide +kernel)⟩
theorem lw_p153 : lw_okq (⟨"PaperHouseModel", "wholeOrReference", "()I"⟩, 121) := ⟨⟨by decide +kernel, by decide +kernel⟩, List.mem_of_getElem? (i := 2057) (by decide +kernel), List.mem_of_getElem? (i := 2647) (by decide +kernel), List.mem_of_getElem? (i := 2648) (by decide +kernel)⟩
theorem lw_p154 : lw_okq (⟨"PaperHouseModel", "array", "(IZ)I"⟩, 121) := ⟨⟨by decide +kernel, by decide +kernel⟩, List.mem_of_getElem? (i := 2057) (by decide +kernel), List.mem_of_getElem? (i := 2653) (by decide +kernel), List.mem_of_getElem? (i := 2654) (by decide +kernel)⟩
theorem lw_p155 : lw_okq (⟨"PaperHouseModel", "dict", "(IZ)I"⟩, 121) := ⟨⟨by decide +kernel, by decide +kernel⟩, List.mem_of_getElem? (i := 2057) (by decide +kernel), List.mem_of_getElem? (i := 2657) (by decide +kernel), List.mem_of_getElem? (i := 2658) (by decide +kernel)⟩
theorem lw_p156 : lw_okq (⟨"PaperHouseModel", "rowStream", "(I)I"⟩, 121) := ⟨⟨by decide +kernel, by decide +kernel⟩, List.mem_of_getElem? (i := 2057) (by decide +kernel), List.mem_of_getElem? (i := 2661) (by decide +kernel), List.mem_of_getElem? (i := 2662) (by decide +kernel)⟩
theorem lw_p157 : lw_okq (⟨"PaperHouseModel", "header", "()Z"⟩, 121) := ⟨⟨by decide +kernel, by decide +kernel⟩, List.mem_of_getElem? (i := 2057) (by decide +kernel), List.mem_of_getElem? (i := 2665) (by decide +kernel), List.mem_of_getElem? (i := 2666) (by decide +kernel)⟩
theorem lw_p158 : lw_okq (⟨"PaperHouseModel", "rawEntry", "(ILjava/lang/String;)I"⟩, 121) := ⟨⟨by decide +kernel, by decide +kernel⟩, List.mem_of_getElem? (i := 2057) (by decide +kernel), List.mem_of_getElem? (i := 2671) (by decide +kernel), List.mem_of_getElem? (i := 2672) (by decide +kernel)⟩
theorem lw_p159 : lw_okq (⟨"PaperHouseModel", "isText", "(IILjava/lang/String;)Z"⟩, 121) := ⟨⟨by decide +kernel, by decide +kernel⟩, List.mem_of_getElem? (i := 2057) (by decide +kernel), List.mem_of_getElem? (i := 2675) (by decide +kernel), List.mem_of_getElem? (i := 2676) (by decide +kernel)⟩
def lw_privs_10 : List (MethodName × Nat) := [(⟨"PaperHouseModel", "readName", "()V"⟩, 121), (⟨"PaperHouseModel", "put", "(I)V"⟩, 121), (⟨"PaperHouseModel", "readString", "()V"⟩, 121), (⟨"PaperHouseModel", "escape", "()V"⟩, 121), (⟨"PaperHouseModel", "readHex", "()V"⟩, 121), (⟨"PaperHouseModel", "isWord", "(Ljava/lang/String;)Z"⟩, 121), (⟨"PaperHouseModel", "object", "(IZ)I"⟩, 121), (⟨"PaperHouseModel", "counted", "()V"⟩, 121), (⟨"PaperHouseModel", "newNode", "(II)I"⟩, 121), (⟨"PaperHouseModel", "wholeOrReference", "()I"⟩, 121), (⟨"PaperHouseModel", "array", "(IZ)I"⟩, 121), (⟨"PaperHouseModel", "dict", "(IZ)I"⟩, 121), (⟨"PaperHouseModel", "rowStream", "(I)I"⟩, 121), (⟨"PaperHouseModel", "header", "()Z"⟩, 121), (⟨"PaperHouseModel", "rawEntry", "(ILjava/lang/String;)I"⟩, 121), (⟨"PaperHouseModel", "isText", "(IILjava/lang/String;)Z"⟩, 121)]
theorem lw_r10 : ∀ q ∈ lw_privs_10, lw_okq q := List.forall_mem_cons.mpr ⟨lw_p144, List.forall_mem_cons.mpr ⟨lw_p145, List.forall_mem_cons.mpr ⟨lw_p146, List.forall_mem_cons.mpr ⟨lw_p147, List.forall_mem_cons.mpr ⟨lw_p148, List.forall_mem_cons.mpr ⟨lw_p149, List.forall_mem_cons.mpr ⟨lw_p150, List.forall_mem_cons.mpr ⟨lw_p151, List.forall_mem_cons.mpr ⟨lw_p152, List.forall_mem_cons.mpr ⟨lw_p153, List.forall_mem_cons.mpr ⟨lw_p154, List.forall_mem_cons.mpr ⟨lw_p155, List.forall_mem_cons.mpr ⟨lw_p156, List.forall_mem_cons.mpr ⟨lw_p157, List.forall_mem_cons.mpr ⟨lw_p158, List.forall_mem_cons.mpr ⟨lw_p159, fun _ h => absurd h List.not_mem_nil⟩⟩⟩⟩⟩⟩⟩⟩⟩⟩⟩⟩⟩⟩⟩⟩
theorem lw_p160 : lw_okq (⟨"PaperHouseModel", "isName", "(ILjava/lang/String;)Z"⟩, 121) := ⟨⟨by decide +kernel, by decide +kernel⟩, List.mem_of_getElem? (i := 2057) (by decide +kernel), List.mem_of_getElem? (i := 2680) (by decide +kernel), List.mem_of_getElem? (i := 2681) (by decide +kernel)⟩
theorem lw_p161 : lw_okq (⟨"PaperHouseModel", "wholeAt", "(ILjava/lang/String;I)I"⟩, 121) := ⟨⟨by decide +kernel, by decide +kernel⟩, List.mem_of_getElem? (i := 2057) (by decide +kernel), List.mem_of_getElem? (i := 2685) (by decide +kernel), List.mem_of_getElem? (i := 2686) (by decide +kernel)⟩
theorem lw_p162 : lw_okq (⟨"PaperHouseModel", "direct", "(ILjava/lang/String;)I"⟩, 121) := ⟨⟨by decide +kernel, by decide +kernel⟩, List.mem_of_getElem? (i := 2057) (by decide +kernel), List.mem_of_getElem? (i := 2689) (by decide +kernel), List.mem_of_getElem? (i := 2690) (by decide +kernel)⟩
theorem lw_p163 : lw_okq (⟨"PaperHouseModel", "streamStart", "()I"⟩, 121) := ⟨⟨by decide +kernel, by decide +kernel⟩, List.mem_of_getElem? (i := 2057) (by decide +kernel), List.mem_of_getElem? (i := 2693) (by decide +kernel), List.mem_of_getElem? (i := 2694) (by decide +kernel)⟩
theorem lw_p164 : lw_okq (⟨"PaperHouseModel", "streamEnd", "(II)Z"⟩, 121) := ⟨⟨by decide +kernel, by decide +kernel⟩, List.mem_of_getElem? (i := 2057) (by decide +kernel), List.mem_of_getElem? (i := 2698) (by decide +kernel), List.mem_of_getElem? (i := 2699) (by decide +kernel)⟩
theorem lw_p165 : lw_okq (⟨"PaperHouseModel", "decode", "(IIII)I"⟩, 121) := ⟨⟨by decide +kernel, by decide +kernel⟩, List.mem_of_getElem? (i := 2057) (by decide +kernel), List.mem_of_getElem? (i := 2704) (by decide +kernel), List.mem_of_getElem? (i := 2705) (by decide +kernel)⟩
theorem lw_p166 : lw_okq (⟨"PaperHouseModel", "filters", "(III)V"⟩, 121) := ⟨⟨by decide +kernel, by decide +kernel⟩, List.mem_of_getElem? (i := 2057) (by decide +kernel), List.mem_of_getElem? (i := 2709) (by decide +kernel), List.mem_of_getElem? (i := 2710) (by decide +kernel)⟩
theorem lw_p167 : lw_okq (⟨"PaperHouseModel", "isPredictor", "(I)Z"⟩, 121) := ⟨⟨by decide +kernel, by decide +kernel⟩, List.mem_of_getElem? (i := 2057) (by decide +kernel), List.mem_of_getElem? (i := 2716) (by decide +kernel), List.mem_of_getElem? (i := 2717) (by decide +kernel)⟩
theorem lw_p168 : lw_okq (⟨"PaperHouseModel", "inflate", "()Z"⟩, 121) := ⟨⟨by decide +kernel, by decide +kernel⟩, List.mem_of_getElem? (i := 2057) (by decide +kernel), List.mem_of_getElem? (i := 2724) (by decide +kernel), List.mem_of_getElem? (i := 2725) (by decide +kernel)⟩
theorem lw_p169 : lw_okq (⟨"PaperHouseModel", "bits", "(I)I"⟩, 121) := ⟨⟨by decide +kernel, by decide +kernel⟩, List.mem_of_getElem? (i := 2057) (by decide +kernel), List.mem_of_getElem? (i := 2728) (by decide +kernel), List.mem_of_getElem? (i := 2729) (by decide +kernel)⟩
theorem lw_p170 : lw_okq (⟨"PaperHouseModel", "stored", "()V"⟩, 121) := ⟨⟨by decide +kernel, by decide +kernel⟩, List.mem_of_getElem? (i := 2057) (by decide +kernel), List.mem_of_getElem? (i := 2732) (by decide +kernel), List.mem_of_getElem? (i := 2733) (by decide +kernel)⟩
theorem lw_p171 : lw_okq (⟨"PaperHouseModel", "emit", "(I)V"⟩, 121) := ⟨⟨by decide +kernel, by decide +kernel⟩, List.mem_of_getElem? (i := 2057) (by decide +kernel), List.mem_of_getElem? (i := 2736) (by decide +kernel), List.mem_of_getElem? (i := 2737) (by decide +kernel)⟩
theorem lw_p172 : lw_okq (⟨"PaperHouseModel", "fixed", "()V"⟩, 121) := ⟨⟨by decide +kernel, by decide +kernel⟩, List.mem_of_getElem? (i := 2057) (by decide +kernel), List.mem_of_getElem? (i := 2740) (by decide +kernel), List.mem_of_getElem? (i := 2741) (by decide +kernel)⟩
theorem lw_p173 : lw_okq (⟨"PaperHouseModel", "build", "(II[I[I)I"⟩, 121) := ⟨⟨by decide +kernel, by decide +kernel⟩, List.mem_of_getElem? (i := 2057) (by decide +kernel), List.mem_of_getElem? (i := 2744) (by decide +kernel), List.mem_of_getElem? (i := 2745) (by decide +kernel)⟩
theorem lw_p174 : lw_okq (⟨"PaperHouseModel", "codes", "()V"⟩, 121) := ⟨⟨by decide +kernel, by decide +kernel⟩, List.mem_of_getElem? (i := 2057) (by decide +kernel), List.mem_of_getElem? (i := 2748) (by decide +kernel), List.mem_of_getElem? (i := 2749) (by decide +kernel)⟩
theorem lw_p175 : lw_okq (⟨"PaperHouseModel", "symbol", "([I[I)I"⟩, 121) := ⟨⟨by decide +kernel, by decide +kernel⟩, List.mem_of_getElem? (i := 2057) (by decide +kernel), List.mem_of_getElem? (i := 2752) (by decide +kernel), List.mem_of_getElem? (i := 2753) (by decide +kernel)⟩
def lw_privs_11 : List (MethodName × Nat) := [(⟨"PaperHouseModel", "isName", "(ILjava/lang/String;)Z"⟩, 121), (⟨"PaperHouseModel", "wholeAt", "(ILjava/lang/String;I)I"⟩, 121), (⟨"PaperHouseModel", "direct", "(ILjava/lang/String;)I"⟩, 121), (⟨"PaperHouseModel", "streamStart", "()I"⟩, 121), (⟨"PaperHouseModel", "streamEnd", "(II)Z"⟩, 121), (⟨"PaperHouseModel", "decode", "(IIII)I"⟩, 121), (⟨"PaperHouseModel", "filters", "(III)V"⟩, 121), (⟨"PaperHouseModel", "isPredictor", "(I)Z"⟩, 121), (⟨"PaperHouseModel", "inflate", "()Z"⟩, 121), (⟨"PaperHouseModel", "bits", "(I)I"⟩, 121), (⟨"PaperHouseModel", "stored", "()V"⟩, 121), (⟨"PaperHouseModel", "emit", "(I)V"⟩, 121), (⟨"PaperHouseModel", "fixed", "()V"⟩, 121), (⟨"PaperHouseModel", "build", "(II[I[I)I"⟩, 121), (⟨"PaperHouseModel", "codes", "()V"⟩, 121), (⟨"PaperHouseModel", "symbol", "([I[I)I"⟩, 121)]
theorem lw_r11 : ∀ q ∈ lw_privs_11, lw_okq q := List.forall_mem_cons.mpr ⟨lw_p160, List.forall_mem_cons.mpr ⟨lw_p161, List.forall_mem_cons.mpr ⟨lw_p162, List.forall_mem_cons.mpr ⟨lw_p163, List.forall_mem_cons.mpr ⟨lw_p164, List.forall_mem_cons.mpr ⟨lw_p165, List.forall_mem_cons.mpr ⟨lw_p166, List.forall_mem_cons.mpr ⟨lw_p167, List.forall_mem_cons.mpr ⟨lw_p168, List.forall_mem_cons.mpr ⟨lw_p169, List.forall_mem_cons.mpr ⟨lw_p170, List.forall_mem_cons.mpr ⟨lw_p171, List.forall_mem_cons.mpr ⟨lw_p172, List.forall_mem_cons.mpr ⟨lw_p173, List.forall_mem_cons.mpr ⟨lw_p174, List.forall_mem_cons.mpr ⟨lw_p175, fun _ h => absurd h List.not_mem_nil⟩⟩⟩⟩⟩⟩⟩⟩⟩⟩⟩⟩⟩⟩⟩⟩
theorem lw_p176 : lw_okq (⟨"PaperHouseModel", "dynamic", "()V"⟩, 121) := ⟨⟨by decide +kernel, by decide +kernel⟩, List.mem_of_getElem? (i := 2057) (by decide +kernel), List.mem_of_getElem? (i := 2768) (by decide +kernel), List.mem_of_getElem? (i := 2769) (by decide +kernel)⟩
theorem lw_p177 : lw_okq (⟨"PaperHouseModel", "unhex", "()Z"⟩, 121) := ⟨⟨by decide +kernel, by decide +kernel⟩, List.mem_of_getElem? (i := 2057) (by decide +kernel), List.mem_of_getElem? (i := 2780) (by decide +kernel), List.mem_of_getElem? (i := 2781) (by decide +kernel)⟩
theorem lw_p178 : lw_okq (⟨"PaperHouseModel", "take", "(I)V"⟩, 121) := ⟨⟨by decide +kernel, by decide +kernel⟩, List.mem_of_getElem? (i := 2057) (by decide +kernel), List.mem_of_getElem? (i := 2784) (by decide +kernel), List.mem_of_getElem? (i := 2785) (by decide +kernel)⟩
theorem lw_p179 : lw_okq (⟨"PaperHouseModel", "unpredict", "(I)Z"⟩, 121) := ⟨⟨by decide +kernel, by decide +kernel⟩, List.mem_of_getElem? (i := 2057) (by decide +kernel), List.mem_of_getElem? (i := 2788) (by decide +kernel), List.mem_of_getElem? (i := 2789) (by decide +kernel)⟩
theorem lw_p180 : lw_okq (⟨"PaperHouseModel", "entries", "(III)V"⟩, 121) := ⟨⟨by decide +kernel, by decide +kernel⟩, List.mem_of_getElem? (i := 2057) (by decide +kernel), List.mem_of_getElem? (i := 2798) (by decide +kernel), List.mem_of_getElem? (i := 2799) (by decide +kernel)⟩
theorem lw_p181 : lw_okq (⟨"PaperHouseModel", "unsigned", "(II)J"⟩, 121) := ⟨⟨by decide +kernel, by decide +kernel⟩, List.mem_of_getElem? (i := 2057) (by decide +kernel), List.mem_of_getElem? (i := 2804) (by decide +kernel), List.mem_of_getElem? (i := 2805) (by decide +kernel)⟩
theorem lw_p182 : lw_okq (⟨"PaperHouseModel", "readObject", "(I)V"⟩, 121) := ⟨⟨by decide +kernel, by decide +kernel⟩, List.mem_of_getElem? (i := 2057) (by decide +kernel), List.mem_of_getElem? (i := 2811) (by decide +kernel), List.mem_of_getElem? (i := 2812) (by decide +kernel)⟩
theorem lw_p183 : lw_okq (⟨"PaperHouseModel", "readAt", "(I)V"⟩, 121) := ⟨⟨by decide +kernel, by decide +kernel⟩, List.mem_of_getElem? (i := 2057) (by decide +kernel), List.mem_of_getElem? (i := 2815) (by decide +kernel), List.mem_of_getElem? (i := 2816) (by decide +kernel)⟩
theorem lw_p184 : lw_okq (⟨"PaperHouseModel", "rawStream", "(II)I"⟩, 121) := ⟨⟨by decide +kernel, by decide +kernel⟩, List.mem_of_getElem? (i := 2057) (by decide +kernel), List.mem_of_getElem? (i := 2819) (by decide +kernel), List.mem_of_getElem? (i := 2820) (by decide +kernel)⟩
theorem lw_p185 : lw_okq (⟨"PaperHouseModel", "keepStream", "(IIIII)V"⟩, 121) := ⟨⟨by decide +kernel, by decide +kernel⟩, List.mem_of_getElem? (i := 2057) (by decide +kernel), List.mem_of_getElem? (i := 2823) (by decide +kernel), List.mem_of_getElem? (i := 2824) (by decide +kernel)⟩
theorem lw_p186 : lw_okq (⟨"PaperHouseModel", "readIn", "(I)V"⟩, 121) := ⟨⟨by decide +kernel, by decide +kernel⟩, List.mem_of_getElem? (i := 2057) (by decide +kernel), List.mem_of_getElem? (i := 2827) (by decide +kernel), List.mem_of_getElem? (i := 2828) (by decide +kernel)⟩
theorem lw_p187 : lw_okq (⟨"PaperHouseModel", "tree", "()V"⟩, 121) := ⟨⟨by decide +kernel, by decide +kernel⟩, List.mem_of_getElem? (i := 2057) (by decide +kernel), List.mem_of_getElem? (i := 2834) (by decide +kernel), List.mem_of_getElem? (i := 2835) (by decide +kernel)⟩
theorem lw_p188 : lw_okq (⟨"PaperHouseModel", "dictNumber", "(I)I"⟩, 121) := ⟨⟨by decide +kernel, by decide +kernel⟩, List.mem_of_getElem? (i := 2057) (by decide +kernel), List.mem_of_getElem? (i := 2840) (by decide +kernel), List.mem_of_getElem? (i := 2841) (by decide +kernel)⟩
theorem lw_p189 : lw_okq (⟨"PaperHouseModel", "resolve", "(I)I"⟩, 121) := ⟨⟨by decide +kernel, by decide +kernel⟩, List.mem_of_getElem? (i := 2057) (by decide +kernel), List.mem_of_getElem? (i := 2844) (by decide +kernel), List.mem_of_getElem? (i := 2845) (by decide +kernel)⟩
theorem lw_p190 : lw_okq (⟨"PaperHouseModel", "target", "(I)I"⟩, 121) := ⟨⟨by decide +kernel, by decide +kernel⟩, List.mem_of_getElem? (i := 2057) (by decide +kernel), List.mem_of_getElem? (i := 2848) (by decide +kernel), List.mem_of_getElem? (i := 2849) (by decide +kernel)⟩
theorem lw_p191 : lw_okq (⟨"PaperHouseModel", "generationOf", "(I)J"⟩, 121) := ⟨⟨by decide +kernel, by decide +kernel⟩, List.mem_of_getElem? (i := 2057) (by decide +kernel), List.mem_of_getElem? (i := 2852) (by decide +kernel), List.mem_of_getElem? (i := 2853) (by decide +kernel)⟩
def lw_privs_12 : List (MethodName × Nat) := [(⟨"PaperHouseModel", "dynamic", "()V"⟩, 121), (⟨"PaperHouseModel", "unhex", "()Z"⟩, 121), (⟨"PaperHouseModel", "take", "(I)V"⟩, 121), (⟨"PaperHouseModel", "unpredict", "(I)Z"⟩, 121), (⟨"PaperHouseModel", "entries", "(III)V"⟩, 121), (⟨"PaperHouseModel", "unsigned", "(II)J"⟩, 121), (⟨"PaperHouseModel", "readObject", "(I)V"⟩, 121), (⟨"PaperHouseModel", "readAt", "(I)V"⟩, 121), (⟨"PaperHouseModel", "rawStream", "(II)I"⟩, 121), (⟨"PaperHouseModel", "keepStream", "(IIIII)V"⟩, 121), (⟨"PaperHouseModel", "readIn", "(I)V"⟩, 121), (⟨"PaperHouseModel", "tree", "()V"⟩, 121), (⟨"PaperHouseModel", "dictNumber", "(I)I"⟩, 121), (⟨"PaperHouseModel", "resolve", "(I)I"⟩, 121), (⟨"PaperHouseModel", "target", "(I)I"⟩, 121), (⟨"PaperHouseModel", "generationOf", "(I)J"⟩, 121)]
theorem lw_r12 : ∀ q ∈ lw_privs_12, lw_okq q := List.forall_mem_cons.mpr ⟨lw_p176, List.forall_mem_cons.mpr ⟨lw_p177, List.forall_mem_cons.mpr ⟨lw_p178, List.forall_mem_cons.mpr ⟨lw_p179, List.forall_mem_cons.mpr ⟨lw_p180, List.forall_mem_cons.mpr ⟨lw_p181, List.forall_mem_cons.mpr ⟨lw_p182, List.forall_mem_cons.mpr ⟨lw_p183, List.forall_mem_cons.mpr ⟨lw_p184, List.forall_mem_cons.mpr ⟨lw_p185, List.forall_mem_cons.mpr ⟨lw_p186, List.forall_mem_cons.mpr ⟨lw_p187, List.forall_mem_cons.mpr ⟨lw_p188, List.forall_mem_cons.mpr ⟨lw_p189, List.forall_mem_cons.mpr ⟨lw_p190, List.forall_mem_cons.mpr ⟨lw_p191, fun _ h => absurd h List.not_mem_nil⟩⟩⟩⟩⟩⟩⟩⟩⟩⟩⟩⟩⟩⟩⟩⟩
theorem lw_p192 : lw_okq (⟨"PaperHouseModel", "isDict", "(I)Z"⟩, 121) := ⟨⟨by decide +kernel, by decide +kernel⟩, List.mem_of_getElem? (i := 2057) (by decide +kernel), List.mem_of_getElem? (i := 2856) (by decide +kernel), List.mem_of_getElem? (i := 2857) (by decide +kernel)⟩
theorem lw_p193 : lw_okq (⟨"PaperHouseModel", "entry", "(ILjava/lang/String;)I"⟩, 121) := ⟨⟨by decide +kernel, by decide +kernel⟩, List.mem_of_getElem? (i := 2057) (by decide +kernel), List.mem_of_getElem? (i := 2860) (by decide +kernel), List.mem_of_getElem? (i := 2861) (by decide +kernel)⟩
theorem lw_p194 : lw_okq (⟨"PaperHouseModel", "meet", "(III)V"⟩, 121) := ⟨⟨by decide +kernel, by decide +kernel⟩, List.mem_of_getElem? (i := 2057) (by decide +kernel), List.mem_of_getElem? (i := 2866) (by decide +kernel), List.mem_of_getElem? (i := 2867) (by decide +kernel)⟩
theorem lw_p195 : lw_okq (⟨"PaperHouseModel", "ownsRight", "(I)Z"⟩, 121) := ⟨⟨by decide +kernel, by decide +kernel⟩, List.mem_of_getElem? (i := 2057) (by decide +kernel), List.mem_of_getElem? (i := 2872) (by decide +kernel), List.mem_of_getElem? (i := 2873) (by decide +kernel)⟩
theorem lw_p196 : lw_okq (⟨"PaperHouseModel", "isBox", "(I)Z"⟩, 121) := ⟨⟨by decide +kernel, by decide +kernel⟩, List.mem_of_getElem? (i := 2057) (by decide +kernel), List.mem_of_getElem? (i := 2879) (by decide +kernel), List.mem_of_getElem? (i := 2880) (by decide +kernel)⟩
theorem lw_p197 : lw_okq (⟨"PaperHouseModel", "isNumber", "(I)Z"⟩, 121) := ⟨⟨by decide +kernel, by decide +kernel⟩, List.mem_of_getElem? (i := 2057) (by decide +kernel), List.mem_of_getElem? (i := 2883) (by decide +kernel), List.mem_of_getElem? (i := 2884) (by decide +kernel)⟩
theorem lw_p198 : lw_okq (⟨"PaperHouseModel", "dictAt", "(I)I"⟩, 121) := ⟨⟨by decide +kernel, by decide +kernel⟩, List.mem_of_getElem? (i := 2057) (by decide +kernel), List.mem_of_getElem? (i := 2887) (by decide +kernel), List.mem_of_getElem? (i := 2888) (by decide +kernel)⟩
theorem lw_p199 : lw_okq (⟨"PaperHouseModel", "meetNode", "(III)V"⟩, 121) := ⟨⟨by decide +kernel, by decide +kernel⟩, List.mem_of_getElem? (i := 2057) (by decide +kernel), List.mem_of_getElem? (i := 2891) (by decide +kernel), List.mem_of_getElem? (i := 2892) (by decide +kernel)⟩
theorem lw_p200 : lw_okq (⟨"PaperHouseModel", "meetPage", "(II)V"⟩, 121) := ⟨⟨by decide +kernel, by decide +kernel⟩, List.mem_of_getElem? (i := 2057) (by decide +kernel), List.mem_of_getElem? (i := 2897) (by decide +kernel), List.mem_of_getElem? (i := 2898) (by decide +kernel)⟩
theorem lw_p201 : lw_okq (⟨"PaperHouseModel", "inherited", "(ILjava/lang/String;)I"⟩, 121) := ⟨⟨by decide +kernel, by decide +kernel⟩, List.mem_of_getElem? (i := 2057) (by decide +kernel), List.mem_of_getElem? (i := 2901) (by decide +kernel), List.mem_of_getElem? (i := 2902) (by decide +kernel)⟩
theorem lw_p202 : lw_okq (⟨"PaperHouseModel", "holder", "(ILjava/lang/String;)I"⟩, 121) := ⟨⟨by decide +kernel, by decide +kernel⟩, List.mem_of_getElem? (i := 2057) (by decide +kernel), List.mem_of_getElem? (i := 2905) (by decide +kernel), List.mem_of_getElem? (i := 2906) (by decide +kernel)⟩
theorem lw_p203 : lw_okq (⟨"PaperHouseModel", "isNothing", "(I)Z"⟩, 121) := ⟨⟨by decide +kernel, by decide +kernel⟩, List.mem_of_getElem? (i := 2057) (by decide +kernel), List.mem_of_getElem? (i := 2909) (by decide +kernel), List.mem_of_getElem? (i := 2910) (by decide +kernel)⟩
theorem lw_p204 : lw_okq (⟨"PaperHouseModel", "contentsOf", "(I)I"⟩, 121) := ⟨⟨by decide +kernel, by decide +kernel⟩, List.mem_of_getElem? (i := 2057) (by decide +kernel), List.mem_of_getElem? (i := 2913) (by decide +kernel), List.mem_of_getElem? (i := 2914) (by decide +kernel)⟩
theorem lw_p205 : lw_okq (⟨"PaperHouseModel", "streamNumber", "(I)I"⟩, 121) := ⟨⟨by decide +kernel, by decide +kernel⟩, List.mem_of_getElem? (i := 2057) (by decide +kernel), List.mem_of_getElem? (i := 2918) (by decide +kernel), List.mem_of_getElem? (i := 2919) (by decide +kernel)⟩
theorem lw_p206 : lw_okq (⟨"PaperHouseModel", "nameAll", "(I)V"⟩, 121) := ⟨⟨by decide +kernel, by decide +kernel⟩, List.mem_of_getElem? (i := 2057) (by decide +kernel), List.mem_of_getElem? (i := 2922) (by decide +kernel), List.mem_of_getElem? (i := 2923) (by decide +kernel)⟩
theorem lw_p207 : lw_okq (⟨"PaperHouseModel", "isObject", "(I)Z"⟩, 121) := ⟨⟨by decide +kernel, by decide +kernel⟩, List.mem_of_getElem? (i := 2057) (by decide +kernel), List.mem_of_getElem? (i := 2938) (by decide +kernel), List.mem_of_getElem? (i := 2939) (by decide +kernel)⟩
def lw_privs_13 : List (MethodName × Nat) := [(⟨"PaperHouseModel", "isDict", "(I)Z"⟩, 121), (⟨"PaperHouseModel", "entry", "(ILjava/lang/String;)I"⟩, 121), (⟨"PaperHouseModel", "meet", "(III)V"⟩, 121), (⟨"PaperHouseModel", "ownsRight", "(I)Z"⟩, 121), (⟨"PaperHouseModel", "isBox", "(I)Z"⟩, 121), (⟨"PaperHouseModel", "isNumber", "(I)Z"⟩, 121), (⟨"PaperHouseModel", "dictAt", "(I)I"⟩, 121), (⟨"PaperHouseModel", "meetNode", "(III)V"⟩, 121), (⟨"PaperHouseModel", "meetPage", "(II)V"⟩, 121), (⟨"PaperHouseModel", "inherited", "(ILjava/lang/String;)I"⟩, 121), (⟨"PaperHouseModel", "holder", "(ILjava/lang/String;)I"⟩, 121), (⟨"PaperHouseModel", "isNothing", "(I)Z"⟩, 121), (⟨"PaperHouseModel", "contentsOf", "(I)I"⟩, 121), (⟨"PaperHouseModel", "streamNumber", "(I)I"⟩, 121), (⟨"PaperHouseModel", "nameAll", "(I)V"⟩, 121), (⟨"PaperHouseModel", "isObject", "(I)Z"⟩, 121)]
theorem lw_r13 : ∀ q ∈ lw_privs_13, lw_okq q := List.forall_mem_cons.mpr ⟨lw_p192, List.forall_mem_cons.mpr ⟨lw_p193, List.forall_mem_cons.mpr ⟨lw_p194, List.forall_mem_cons.mpr ⟨lw_p195, List.forall_mem_cons.mpr ⟨lw_p196, List.forall_mem_cons.mpr ⟨lw_p197, List.forall_mem_cons.mpr ⟨lw_p198, List.forall_mem_cons.mpr ⟨lw_p199, List.forall_mem_cons.mpr ⟨lw_p200, List.forall_mem_cons.mpr ⟨lw_p201, List.forall_mem_cons.mpr ⟨lw_p202, List.forall_mem_cons.mpr ⟨lw_p203, List.forall_mem_cons.mpr ⟨lw_p204, List.forall_mem_cons.mpr ⟨lw_p205, List.forall_mem_cons.mpr ⟨lw_p206, List.forall_mem_cons.mpr ⟨lw_p207, fun _ h => absurd h List.not_mem_nil⟩⟩⟩⟩⟩⟩⟩⟩⟩⟩⟩⟩⟩⟩⟩⟩
theorem lw_p208 : lw_okq (⟨"PaperHouseModel", "kindHere", "()I"⟩, 121) := ⟨⟨by decide +kernel, by decide +kernel⟩, List.mem_of_getElem? (i := 2057) (by decide +kernel), List.mem_of_getElem? (i := 2942) (by decide +kernel), List.mem_of_getElem? (i := 2943) (by decide +kernel)⟩
theorem lw_p209 : lw_okq (⟨"PaperHouseModel", "isPage", "(I)Z"⟩, 121) := ⟨⟨by decide +kernel, by decide +kernel⟩, List.mem_of_getElem? (i := 2057) (by decide +kernel), List.mem_of_getElem? (i := 2982) (by decide +kernel), List.mem_of_getElem? (i := 2983) (by decide +kernel)⟩
theorem lw_p210 : lw_okq (⟨"PaperHouseModel", "unitsOf", "(I)I"⟩, 121) := ⟨⟨by decide +kernel, by decide +kernel⟩, List.mem_of_getElem? (i := 2057) (by decide +kernel), List.mem_of_getElem? (i := 2986) (by decide +kernel), List.mem_of_getElem? (i := 2987) (by decide +kernel)⟩
theorem lw_p211 : lw_okq (⟨"PaperHouseModel", "gather", "(I)V"⟩, 121) := ⟨⟨by decide +kernel, by decide +kernel⟩, List.mem_of_getElem? (i := 2057) (by decide +kernel), List.mem_of_getElem? (i := 2995) (by decide +kernel), List.mem_of_getElem? (i := 2996) (by decide +kernel)⟩
theorem lw_p212 : lw_okq (⟨"PaperHouseModel", "collect", "(I)V"⟩, 121) := ⟨⟨by decide +kernel, by decide +kernel⟩, List.mem_of_getElem? (i := 2057) (by decide +kernel), List.mem_of_getElem? (i := 2999) (by decide +kernel), List.mem_of_getElem? (i := 3000) (by decide +kernel)⟩
theorem lw_p213 : lw_okq (⟨"PaperHouseModel", "operator", "()V"⟩, 121) := ⟨⟨by decide +kernel, by decide +kernel⟩, List.mem_of_getElem? (i := 2057) (by decide +kernel), List.mem_of_getElem? (i := 3006) (by decide +kernel), List.mem_of_getElem? (i := 3007) (by decide +kernel)⟩
theorem lw_p214 : lw_okq (⟨"PaperHouseModel", "which", "()I"⟩, 121) := ⟨⟨by decide +kernel, by decide +kernel⟩, List.mem_of_getElem? (i := 2057) (by decide +kernel), List.mem_of_getElem? (i := 3010) (by decide +kernel), List.mem_of_getElem? (i := 3011) (by decide +kernel)⟩
theorem lw_p215 : lw_okq (⟨"PaperHouseModel", "word", "()Ljava/lang/String;"⟩, 121) := ⟨⟨by decide +kernel, by decide +kernel⟩, List.mem_of_getElem? (i := 2057) (by decide +kernel), List.mem_of_getElem? (i := 3014) (by decide +kernel), List.mem_of_getElem? (i := 3015) (by decide +kernel)⟩
theorem lw_p216 : lw_okq (⟨"PaperHouseModel", "areNumbers", "(I)Z"⟩, 121) := ⟨⟨by decide +kernel, by decide +kernel⟩, List.mem_of_getElem? (i := 2057) (by decide +kernel), List.mem_of_getElem? (i := 3076) (by decide +kernel), List.mem_of_getElem? (i := 3077) (by decide +kernel)⟩
theorem lw_p217 : lw_okq (⟨"PaperHouseModel", "isOf", "(II)Z"⟩, 121) := ⟨⟨by decide +kernel, by decide +kernel⟩, List.mem_of_getElem? (i := 2057) (by decide +kernel), List.mem_of_getElem? (i := 3080) (by decide +kernel), List.mem_of_getElem? (i := 3081) (by decide +kernel)⟩
theorem lw_p218 : lw_okq (⟨"PaperHouseModel", "areShown", "(I)Z"⟩, 121) := ⟨⟨by decide +kernel, by decide +kernel⟩, List.mem_of_getElem? (i := 2057) (by decide +kernel), List.mem_of_getElem? (i := 3084) (by decide +kernel), List.mem_of_getElem? (i := 3085) (by decide +kernel)⟩
theorem lw_p219 : lw_okq (⟨"PaperHouseModel", "idle", "(Ljava/lang/String;)Z"⟩, 121) := ⟨⟨by decide +kernel, by decide +kernel⟩, List.mem_of_getElem? (i := 2057) (by decide +kernel), List.mem_of_getElem? (i := 3088) (by decide +kernel), List.mem_of_getElem? (i := 3089) (by decide +kernel)⟩
theorem lw_p220 : lw_okq (⟨"PaperHouseModel", "operandsTo", "([I)V"⟩, 121) := ⟨⟨by decide +kernel, by decide +kernel⟩, List.mem_of_getElem? (i := 2057) (by decide +kernel), List.mem_of_getElem? (i := 3092) (by decide +kernel), List.mem_of_getElem? (i := 3093) (by decide +kernel)⟩
theorem lw_p221 : lw_okq (⟨"PaperHouseModel", "product", "([I[I[I)V"⟩, 121) := ⟨⟨by decide +kernel, by decide +kernel⟩, List.mem_of_getElem? (i := 2057) (by decide +kernel), List.mem_of_getElem? (i := 3096) (by decide +kernel), List.mem_of_getElem? (i := 3097) (by decide +kernel)⟩
theorem lw_p222 : lw_okq (⟨"PaperHouseModel", "near", "(J)V"⟩, 121) := ⟨⟨by decide +kernel, by decide +kernel⟩, List.mem_of_getElem? (i := 2057) (by decide +kernel), List.mem_of_getElem? (i := 3104) (by decide +kernel), List.mem_of_getElem? (i := 3105) (by decide +kernel)⟩
theorem lw_p223 : lw_okq (⟨"PaperHouseModel", "font", "()V"⟩, 121) := ⟨⟨by decide +kernel, by decide +kernel⟩, List.mem_of_getElem? (i := 2057) (by decide +kernel), List.mem_of_getElem? (i := 3108) (by decide +kernel), List.mem_of_getElem? (i := 3109) (by decide +kernel)⟩
def lw_privs_14 : List (MethodName × Nat) := [(⟨"PaperHouseModel", "kindHere", "()I"⟩, 121), (⟨"PaperHouseModel", "isPage", "(I)Z"⟩, 121), (⟨"PaperHouseModel", "unitsOf", "(I)I"⟩, 121), (⟨"PaperHouseModel", "gather", "(I)V"⟩, 121), (⟨"PaperHouseModel", "collect", "(I)V"⟩, 121), (⟨"PaperHouseModel", "operator", "()V"⟩, 121), (⟨"PaperHouseModel", "which", "()I"⟩, 121), (⟨"PaperHouseModel", "word", "()Ljava/lang/String;"⟩, 121), (⟨"PaperHouseModel", "areNumbers", "(I)Z"⟩, 121), (⟨"PaperHouseModel", "isOf", "(II)Z"⟩, 121), (⟨"PaperHouseModel", "areShown", "(I)Z"⟩, 121), (⟨"PaperHouseModel", "idle", "(Ljava/lang/String;)Z"⟩, 121), (⟨"PaperHouseModel", "operandsTo", "([I)V"⟩, 121), (⟨"PaperHouseModel", "product", "([I[I[I)V"⟩, 121), (⟨"PaperHouseModel", "near", "(J)V"⟩, 121), (⟨"PaperHouseModel", "font", "()V"⟩, 121)]
theorem lw_r14 : ∀ q ∈ lw_privs_14, lw_okq q := List.forall_mem_cons.mpr ⟨lw_p208, List.forall_mem_cons.mpr ⟨lw_p209, List.forall_mem_cons.mpr ⟨lw_p210, List.forall_mem_cons.mpr ⟨lw_p211, List.forall_mem_cons.mpr ⟨lw_p212, List.forall_mem_cons.mpr ⟨lw_p213, List.forall_mem_cons.mpr ⟨lw_p214, List.forall_mem_cons.mpr ⟨lw_p215, List.forall_mem_cons.mpr ⟨lw_p216, List.forall_mem_cons.mpr ⟨lw_p217, List.forall_mem_cons.mpr ⟨lw_p218, List.forall_mem_cons.mpr ⟨lw_p219, List.forall_mem_cons.mpr ⟨lw_p220, List.forall_mem_cons.mpr ⟨lw_p221, List.forall_mem_cons.mpr ⟨lw_p222, List.forall_mem_cons.mpr ⟨lw_p223, fun _ h => absurd h List.not_mem_nil⟩⟩⟩⟩⟩⟩⟩⟩⟩⟩⟩⟩⟩⟩⟩⟩
theorem lw_p224 : lw_okq (⟨"PaperHouseModel", "goes", "(II)V"⟩, 121) := ⟨⟨by decide +kernel, by decide +kernel⟩, List.mem_of_getElem? (i := 2057) (by decide +kernel), List.mem_of_getElem? (i := 3116) (by decide +kernel), List.mem_of_getElem? (i := 3117) (by decide +kernel)⟩
theorem lw_p225 : lw_okq (⟨"PaperHouseModel", "newLine", "()V"⟩, 121) := ⟨⟨by decide +kernel, by decide +kernel⟩, List.mem_of_getElem? (i := 2057) (by decide +kernel), List.mem_of_getElem? (i := 3120) (by decide +kernel), List.mem_of_getElem? (i := 3121) (by decide +kernel)⟩
theorem lw_p226 : lw_okq (⟨"PaperHouseModel", "shows", "(I)V"⟩, 121) := ⟨⟨by decide +kernel, by decide +kernel⟩, List.mem_of_getElem? (i := 2057) (by decide +kernel), List.mem_of_getElem? (i := 3124) (by decide +kernel), List.mem_of_getElem? (i := 3125) (by decide +kernel)⟩
theorem lw_p227 : lw_okq (⟨"PaperHouseModel", "widthOf", "(I)I"⟩, 121) := ⟨⟨by decide +kernel, by decide +kernel⟩, List.mem_of_getElem? (i := 2057) (by decide +kernel), List.mem_of_getElem? (i := 3128) (by decide +kernel), List.mem_of_getElem? (i := 3129) (by decide +kernel)⟩
theorem lw_p228 : lw_okq (⟨"PaperHouseModel", "moves", "(J)V"⟩, 121) := ⟨⟨by decide +kernel, by decide +kernel⟩, List.mem_of_getElem? (i := 2057) (by decide +kernel), List.mem_of_getElem? (i := 3138) (by decide +kernel), List.mem_of_getElem? (i := 3139) (by decide +kernel)⟩
theorem lw_p229 : lw_okq (⟨"PaperHouseModel", "row", "(I)V"⟩, 121) := ⟨⟨by decide +kernel, by decide +kernel⟩, List.mem_of_getElem? (i := 2057) (by decide +kernel), List.mem_of_getElem? (i := 3142) (by decide +kernel), List.mem_of_getElem? (i := 3143) (by decide +kernel)⟩
theorem lw_p230 : lw_okq (⟨"PaperHouseModel", "nextNumber", "()I"⟩, 121) := ⟨⟨by decide +kernel, by decide +kernel⟩, List.mem_of_getElem? (i := 2057) (by decide +kernel), List.mem_of_getElem? (i := 3154) (by decide +kernel), List.mem_of_getElem? (i := 3155) (by decide +kernel)⟩
theorem lw_p231 : lw_okq (⟨"PaperHouseModel", "nameNode", "(Ljava/lang/String;)I"⟩, 121) := ⟨⟨by decide +kernel, by decide +kernel⟩, List.mem_of_getElem? (i := 2057) (by decide +kernel), List.mem_of_getElem? (i := 3158) (by decide +kernel), List.mem_of_getElem? (i := 3159) (by decide +kernel)⟩
theorem lw_p232 : lw_okq (⟨"PaperHouseModel", "keep", "(Ljava/lang/String;)I"⟩, 121) := ⟨⟨by decide +kernel, by decide +kernel⟩, List.mem_of_getElem? (i := 2057) (by decide +kernel), List.mem_of_getElem? (i := 3162) (by decide +kernel), List.mem_of_getElem? (i := 3163) (by decide +kernel)⟩
theorem lw_p233 : lw_okq (⟨"PaperHouseModel", "name", "(ILjava/lang/String;)V"⟩, 121) := ⟨⟨by decide +kernel, by decide +kernel⟩, List.mem_of_getElem? (i := 2057) (by decide +kernel), List.mem_of_getElem? (i := 3166) (by decide +kernel), List.mem_of_getElem? (i := 3167) (by decide +kernel)⟩
theorem lw_p234 : lw_okq (⟨"PaperHouseModel", "append", "(II)V"⟩, 121) := ⟨⟨by decide +kernel, by decide +kernel⟩, List.mem_of_getElem? (i := 2057) (by decide +kernel), List.mem_of_getElem? (i := 3170) (by decide +kernel), List.mem_of_getElem? (i := 3171) (by decide +kernel)⟩
theorem lw_p235 : lw_okq (⟨"PaperHouseModel", "entryTo", "(ILjava/lang/String;III)I"⟩, 121) := ⟨⟨by decide +kernel, by decide +kernel⟩, List.mem_of_getElem? (i := 2057) (by decide +kernel), List.mem_of_getElem? (i := 3174) (by decide +kernel), List.mem_of_getElem? (i := 3175) (by decide +kernel)⟩
theorem lw_p236 : lw_okq (⟨"PaperHouseModel", "newObject", "(I)I"⟩, 121) := ⟨⟨by decide +kernel, by decide +kernel⟩, List.mem_of_getElem? (i := 2057) (by decide +kernel), List.mem_of_getElem? (i := 3178) (by decide +kernel), List.mem_of_getElem? (i := 3179) (by decide +kernel)⟩
theorem lw_p237 : lw_okq (⟨"PaperHouseModel", "put", "(III)V"⟩, 121) := ⟨⟨by decide +kernel, by decide +kernel⟩, List.mem_of_getElem? (i := 2057) (by decide +kernel), List.mem_of_getElem? (i := 3182) (by decide +kernel), List.mem_of_getElem? (i := 3183) (by decide +kernel)⟩
theorem lw_p238 : lw_okq (⟨"PaperHouseModel", "kidsOf", "(I)I"⟩, 121) := ⟨⟨by decide +kernel, by decide +kernel⟩, List.mem_of_getElem? (i := 2057) (by decide +kernel), List.mem_of_getElem? (i := 3186) (by decide +kernel), List.mem_of_getElem? (i := 3187) (by decide +kernel)⟩
theorem lw_p239 : lw_okq (⟨"PaperHouseModel", "element", "(II)I"⟩, 121) := ⟨⟨by decide +kernel, by decide +kernel⟩, List.mem_of_getElem? (i := 2057) (by decide +kernel), List.mem_of_getElem? (i := 3190) (by decide +kernel), List.mem_of_getElem? (i := 3191) (by decide +kernel)⟩
def lw_privs_15 : List (MethodName × Nat) := [(⟨"PaperHouseModel", "goes", "(II)V"⟩, 121), (⟨"PaperHouseModel", "newLine", "()V"⟩, 121), (⟨"PaperHouseModel", "shows", "(I)V"⟩, 121), (⟨"PaperHouseModel", "widthOf", "(I)I"⟩, 121), (⟨"PaperHouseModel", "moves", "(J)V"⟩, 121), (⟨"PaperHouseModel", "row", "(I)V"⟩, 121), (⟨"PaperHouseModel", "nextNumber", "()I"⟩, 121), (⟨"PaperHouseModel", "nameNode", "(Ljava/lang/String;)I"⟩, 121), (⟨"PaperHouseModel", "keep", "(Ljava/lang/String;)I"⟩, 121), (⟨"PaperHouseModel", "name", "(ILjava/lang/String;)V"⟩, 121), (⟨"PaperHouseModel", "append", "(II)V"⟩, 121), (⟨"PaperHouseModel", "entryTo", "(ILjava/lang/String;III)I"⟩, 121), (⟨"PaperHouseModel", "newObject", "(I)I"⟩, 121), (⟨"PaperHouseModel", "put", "(III)V"⟩, 121), (⟨"PaperHouseModel", "kidsOf", "(I)I"⟩, 121), (⟨"PaperHouseModel", "element", "(II)I"⟩, 121)]
theorem lw_r15 : ∀ q ∈ lw_privs_15, lw_okq q := List.forall_mem_cons.mpr ⟨lw_p224, List.forall_mem_cons.mpr ⟨lw_p225, List.forall_mem_cons.mpr ⟨lw_p226, List.forall_mem_cons.mpr ⟨lw_p227, List.forall_mem_cons.mpr ⟨lw_p228, List.forall_mem_cons.mpr ⟨lw_p229, List.forall_mem_cons.mpr ⟨lw_p230, List.forall_mem_cons.mpr ⟨lw_p231, List.forall_mem_cons.mpr ⟨lw_p232, List.forall_mem_cons.mpr ⟨lw_p233, List.forall_mem_cons.mpr ⟨lw_p234, List.forall_mem_cons.mpr ⟨lw_p235, List.forall_mem_cons.mpr ⟨lw_p236, List.forall_mem_cons.mpr ⟨lw_p237, List.forall_mem_cons.mpr ⟨lw_p238, List.forall_mem_cons.mpr ⟨lw_p239, fun _ h => absurd h List.not_mem_nil⟩⟩⟩⟩⟩⟩⟩⟩⟩⟩⟩⟩⟩⟩⟩⟩
theorem lw_p240 : lw_okq (⟨"PaperHouseModel", "changed", "(I)V"⟩, 121) := ⟨⟨by decide +kernel, by decide +kernel⟩, List.mem_of_getElem? (i := 2057) (by decide +kernel), List.mem_of_getElem? (i := 3194) (by decide +kernel), List.mem_of_getElem? (i := 3195) (by decide +kernel)⟩
theorem lw_p241 : lw_okq (⟨"PaperHouseModel", "countTo", "(II)V"⟩, 121) := ⟨⟨by decide +kernel, by decide +kernel⟩, List.mem_of_getElem? (i := 2057) (by decide +kernel), List.mem_of_getElem? (i := 3198) (by decide +kernel), List.mem_of_getElem? (i := 3199) (by decide +kernel)⟩
theorem lw_p242 : lw_okq (⟨"PaperHouseModel", "takeOut", "(I)I"⟩, 121) := ⟨⟨by decide +kernel, by decide +kernel⟩, List.mem_of_getElem? (i := 2057) (by decide +kernel), List.mem_of_getElem? (i := 3206) (by decide +kernel), List.mem_of_getElem? (i := 3207) (by decide +kernel)⟩
theorem lw_p243 : lw_okq (⟨"PaperHouseModel", "takeOver", "(ILjava/lang/String;)V"⟩, 121) := ⟨⟨by decide +kernel, by decide +kernel⟩, List.mem_of_getElem? (i := 2057) (by decide +kernel), List.mem_of_getElem? (i := 3214) (by decide +kernel), List.mem_of_getElem? (i := 3215) (by decide +kernel)⟩
theorem lw_p244 : lw_okq (⟨"PaperHouseModel", "sayText", "(Ljava/lang/String;)V"⟩, 121) := ⟨⟨by decide +kernel, by decide +kernel⟩, List.mem_of_getElem? (i := 2057) (by decide +kernel), List.mem_of_getElem? (i := 3240) (by decide +kernel), List.mem_of_getElem? (i := 3241) (by decide +kernel)⟩
theorem lw_p245 : lw_okq (⟨"PaperHouseModel", "say", "(I)V"⟩, 121) := ⟨⟨by decide +kernel, by decide +kernel⟩, List.mem_of_getElem? (i := 2057) (by decide +kernel), List.mem_of_getElem? (i := 3244) (by decide +kernel), List.mem_of_getElem? (i := 3245) (by decide +kernel)⟩
theorem lw_p246 : lw_okq (⟨"PaperHouseModel", "numberOf", "(I)I"⟩, 121) := ⟨⟨by decide +kernel, by decide +kernel⟩, List.mem_of_getElem? (i := 2057) (by decide +kernel), List.mem_of_getElem? (i := 3248) (by decide +kernel), List.mem_of_getElem? (i := 3249) (by decide +kernel)⟩
theorem lw_p247 : lw_okq (⟨"PaperHouseModel", "numbered", "(IIJ)V"⟩, 121) := ⟨⟨by decide +kernel, by decide +kernel⟩, List.mem_of_getElem? (i := 2057) (by decide +kernel), List.mem_of_getElem? (i := 3252) (by decide +kernel), List.mem_of_getElem? (i := 3253) (by decide +kernel)⟩
theorem lw_p248 : lw_okq (⟨"PaperHouseModel", "sayNumber", "(J)V"⟩, 121) := ⟨⟨by decide +kernel, by decide +kernel⟩, List.mem_of_getElem? (i := 2057) (by decide +kernel), List.mem_of_getElem? (i := 3256) (by decide +kernel), List.mem_of_getElem? (i := 3257) (by decide +kernel)⟩
theorem lw_p249 : lw_okq (⟨"PaperHouseModel", "sayDigits", "(JI)V"⟩, 121) := ⟨⟨by decide +kernel, by decide +kernel⟩, List.mem_of_getElem? (i := 2057) (by decide +kernel), List.mem_of_getElem? (i := 3260) (by decide +kernel), List.mem_of_getElem? (i := 3261) (by decide +kernel)⟩
theorem lw_p250 : lw_okq (⟨"PaperHouseModel", "entries", "(IZ)V"⟩, 121) := ⟨⟨by decide +kernel, by decide +kernel⟩, List.mem_of_getElem? (i := 2057) (by decide +kernel), List.mem_of_getElem? (i := 3266) (by decide +kernel), List.mem_of_getElem? (i := 3267) (by decide +kernel)⟩
theorem lw_p251 : lw_okq (⟨"PaperHouseModel", "sayName", "(II)V"⟩, 121) := ⟨⟨by decide +kernel, by decide +kernel⟩, List.mem_of_getElem? (i := 2057) (by decide +kernel), List.mem_of_getElem? (i := 3270) (by decide +kernel), List.mem_of_getElem? (i := 3271) (by decide +kernel)⟩
theorem lw_p252 : lw_okq (⟨"PaperHouseModel", "write", "(I)V"⟩, 121) := ⟨⟨by decide +kernel, by decide +kernel⟩, List.mem_of_getElem? (i := 2057) (by decide +kernel), List.mem_of_getElem? (i := 3277) (by decide +kernel), List.mem_of_getElem? (i := 3278) (by decide +kernel)⟩
theorem lw_p253 : lw_okq (⟨"PaperHouseModel", "sayReal", "(I)V"⟩, 121) := ⟨⟨by decide +kernel, by decide +kernel⟩, List.mem_of_getElem? (i := 2057) (by decide +kernel), List.mem_of_getElem? (i := 3281) (by decide +kernel), List.mem_of_getElem? (i := 3282) (by decide +kernel)⟩
theorem lw_p254 : lw_okq (⟨"PaperHouseModel", "sayString", "(I)V"⟩, 121) := ⟨⟨by decide +kernel, by decide +kernel⟩, List.mem_of_getElem? (i := 2057) (by decide +kernel), List.mem_of_getElem? (i := 3287) (by decide +kernel), List.mem_of_getElem? (i := 3288) (by decide +kernel)⟩
theorem lw_p255 : lw_okq (⟨"PaperHouseModel", "reference", "(I)V"⟩, 121) := ⟨⟨by decide +kernel, by decide +kernel⟩, List.mem_of_getElem? (i := 2057) (by decide +kernel), List.mem_of_getElem? (i := 3293) (by decide +kernel), List.mem_of_getElem? (i := 3294) (by decide +kernel)⟩
def lw_privs_16 : List (MethodName × Nat) := [(⟨"PaperHouseModel", "changed", "(I)V"⟩, 121), (⟨"PaperHouseModel", "countTo", "(II)V"⟩, 121), (⟨"PaperHouseModel", "takeOut", "(I)I"⟩, 121), (⟨"PaperHouseModel", "takeOver", "(ILjava/lang/String;)V"⟩, 121), (⟨"PaperHouseModel", "sayText", "(Ljava/lang/String;)V"⟩, 121), (⟨"PaperHouseModel", "say", "(I)V"⟩, 121), (⟨"PaperHouseModel", "numberOf", "(I)I"⟩, 121), (⟨"PaperHouseModel", "numbered", "(IIJ)V"⟩, 121), (⟨"PaperHouseModel", "sayNumber", "(J)V"⟩, 121), (⟨"PaperHouseModel", "sayDigits", "(JI)V"⟩, 121), (⟨"PaperHouseModel", "entries", "(IZ)V"⟩, 121), (⟨"PaperHouseModel", "sayName", "(II)V"⟩, 121), (⟨"PaperHouseModel", "write", "(I)V"⟩, 121), (⟨"PaperHouseModel", "sayReal", "(I)V"⟩, 121), (⟨"PaperHouseModel", "sayString", "(I)V"⟩, 121), (⟨"PaperHouseModel", "reference", "(I)V"⟩, 121)]
theorem lw_r16 : ∀ q ∈ lw_privs_16, lw_okq q := List.forall_mem_cons.mpr ⟨lw_p240, List.forall_mem_cons.mpr ⟨lw_p241, List.forall_mem_cons.mpr ⟨lw_p242, List.forall_mem_cons.mpr ⟨lw_p243, List.forall_mem_cons.mpr ⟨lw_p244, List.forall_mem_cons.mpr ⟨lw_p245, List.forall_mem_cons.mpr ⟨lw_p246, List.forall_mem_cons.mpr ⟨lw_p247, List.forall_mem_cons.mpr ⟨lw_p248, List.forall_mem_cons.mpr ⟨lw_p249, List.forall_mem_cons.mpr ⟨lw_p250, List.forall_mem_cons.mpr ⟨lw_p251, List.forall_mem_cons.mpr ⟨lw_p252, List.forall_mem_cons.mpr ⟨lw_p253, List.forall_mem_cons.mpr ⟨lw_p254, List.forall_mem_cons.mpr ⟨lw_p255, fun _ h => absurd h List.not_mem_nil⟩⟩⟩⟩⟩⟩⟩⟩⟩⟩⟩⟩⟩⟩⟩⟩
theorem lw_p256 : lw_okq (⟨"PaperHouseModel", "sayReference", "(IJ)V"⟩, 121) := ⟨⟨by decide +kernel, by decide +kernel⟩, List.mem_of_getElem? (i := 2057) (by decide +kernel), List.mem_of_getElem? (i := 3297) (by decide +kernel), List.mem_of_getElem? (i := 3298) (by decide +kernel)⟩
theorem lw_p257 : lw_okq (⟨"PaperHouseModel", "codeOf", "([BII)V"⟩, 121) := ⟨⟨by decide +kernel, by decide +kernel⟩, List.mem_of_getElem? (i := 2057) (by decide +kernel), List.mem_of_getElem? (i := 3302) (by decide +kernel), List.mem_of_getElem? (i := 3303) (by decide +kernel)⟩
theorem lw_p258 : lw_okq (⟨"PaperHouseModel", "bit", "(II)V"⟩, 121) := ⟨⟨by decide +kernel, by decide +kernel⟩, List.mem_of_getElem? (i := 2057) (by decide +kernel), List.mem_of_getElem? (i := 3306) (by decide +kernel), List.mem_of_getElem? (i := 3307) (by decide +kernel)⟩
theorem lw_p259 : lw_okq (⟨"PaperHouseModel", "pair", "(II)V"⟩, 121) := ⟨⟨by decide +kernel, by decide +kernel⟩, List.mem_of_getElem? (i := 2057) (by decide +kernel), List.mem_of_getElem? (i := 3313) (by decide +kernel), List.mem_of_getElem? (i := 3314) (by decide +kernel)⟩
theorem lw_p260 : lw_okq (⟨"PaperHouseModel", "literal", "(I)V"⟩, 121) := ⟨⟨by decide +kernel, by decide +kernel⟩, List.mem_of_getElem? (i := 2057) (by decide +kernel), List.mem_of_getElem? (i := 3317) (by decide +kernel), List.mem_of_getElem? (i := 3318) (by decide +kernel)⟩
theorem lw_p261 : lw_okq (⟨"PaperHouseModel", "huffman", "(II)V"⟩, 121) := ⟨⟨by decide +kernel, by decide +kernel⟩, List.mem_of_getElem? (i := 2057) (by decide +kernel), List.mem_of_getElem? (i := 3321) (by decide +kernel), List.mem_of_getElem? (i := 3322) (by decide +kernel)⟩
theorem lw_p262 : lw_okq (⟨"PaperHouseModel", "streamTail", "()V"⟩, 121) := ⟨⟨by decide +kernel, by decide +kernel⟩, List.mem_of_getElem? (i := 2057) (by decide +kernel), List.mem_of_getElem? (i := 3325) (by decide +kernel), List.mem_of_getElem? (i := 3326) (by decide +kernel)⟩
theorem lw_p263 : lw_okq (⟨"PaperHouseModel", "sayEntry", "(JJ)V"⟩, 121) := ⟨⟨by decide +kernel, by decide +kernel⟩, List.mem_of_getElem? (i := 2057) (by decide +kernel), List.mem_of_getElem? (i := 3335) (by decide +kernel), List.mem_of_getElem? (i := 3336) (by decide +kernel)⟩
theorem lw_p264 : lw_okq (⟨"PaperHouseModel", "finish", "(I)I"⟩, 121) := ⟨⟨by decide +kernel, by decide +kernel⟩, List.mem_of_getElem? (i := 2057) (by decide +kernel), List.mem_of_getElem? (i := 3344) (by decide +kernel), List.mem_of_getElem? (i := 3345) (by decide +kernel)⟩
theorem lw_p265 : lw_okq (⟨"PaperHouseModel", "rowSection", "(I)V"⟩, 121) := ⟨⟨by decide +kernel, by decide +kernel⟩, List.mem_of_getElem? (i := 2057) (by decide +kernel), List.mem_of_getElem? (i := 3354) (by decide +kernel), List.mem_of_getElem? (i := 3355) (by decide +kernel)⟩
theorem lw_p266 : lw_okq (⟨"PaperHouseModel", "runFrom", "(II)I"⟩, 121) := ⟨⟨by decide +kernel, by decide +kernel⟩, List.mem_of_getElem? (i := 2057) (by decide +kernel), List.mem_of_getElem? (i := 3360) (by decide +kernel), List.mem_of_getElem? (i := 3361) (by decide +kernel)⟩
theorem lw_p267 : lw_okq (⟨"PaperHouseModel", "rowEntry", "(IJJ)V"⟩, 121) := ⟨⟨by decide +kernel, by decide +kernel⟩, List.mem_of_getElem? (i := 2057) (by decide +kernel), List.mem_of_getElem? (i := 3364) (by decide +kernel), List.mem_of_getElem? (i := 3365) (by decide +kernel)⟩
theorem lw_p268 : lw_okq (⟨"PaperHouseModel", "known", "()V"⟩, 121) := ⟨⟨by decide +kernel, by decide +kernel⟩, List.mem_of_getElem? (i := 2057) (by decide +kernel), List.mem_of_getElem? (i := 3371) (by decide +kernel), List.mem_of_getElem? (i := 3372) (by decide +kernel)⟩
theorem lw_p269 : lw_okq (⟨"PaperHouseModel", "tableSection", "()V"⟩, 121) := ⟨⟨by decide +kernel, by decide +kernel⟩, List.mem_of_getElem? (i := 2057) (by decide +kernel), List.mem_of_getElem? (i := 3377) (by decide +kernel), List.mem_of_getElem? (i := 3378) (by decide +kernel)⟩
def lw_privs_17 : List (MethodName × Nat) := [(⟨"PaperHouseModel", "sayReference", "(IJ)V"⟩, 121), (⟨"PaperHouseModel", "codeOf", "([BII)V"⟩, 121), (⟨"PaperHouseModel", "bit", "(II)V"⟩, 121), (⟨"PaperHouseModel", "pair", "(II)V"⟩, 121), (⟨"PaperHouseModel", "literal", "(I)V"⟩, 121), (⟨"PaperHouseModel", "huffman", "(II)V"⟩, 121), (⟨"PaperHouseModel", "streamTail", "()V"⟩, 121), (⟨"PaperHouseModel", "sayEntry", "(JJ)V"⟩, 121), (⟨"PaperHouseModel", "finish", "(I)I"⟩, 121), (⟨"PaperHouseModel", "rowSection", "(I)V"⟩, 121), (⟨"PaperHouseModel", "runFrom", "(II)I"⟩, 121), (⟨"PaperHouseModel", "rowEntry", "(IJJ)V"⟩, 121), (⟨"PaperHouseModel", "known", "()V"⟩, 121), (⟨"PaperHouseModel", "tableSection", "()V"⟩, 121)]
theorem lw_r17 : ∀ q ∈ lw_privs_17, lw_okq q := List.forall_mem_cons.mpr ⟨lw_p256, List.forall_mem_cons.mpr ⟨lw_p257, List.forall_mem_cons.mpr ⟨lw_p258, List.forall_mem_cons.mpr ⟨lw_p259, List.forall_mem_cons.mpr ⟨lw_p260, List.forall_mem_cons.mpr ⟨lw_p261, List.forall_mem_cons.mpr ⟨lw_p262, List.forall_mem_cons.mpr ⟨lw_p263, List.forall_mem_cons.mpr ⟨lw_p264, List.forall_mem_cons.mpr ⟨lw_p265, List.forall_mem_cons.mpr ⟨lw_p266, List.forall_mem_cons.mpr ⟨lw_p267, List.forall_mem_cons.mpr ⟨lw_p268, List.forall_mem_cons.mpr ⟨lw_p269, fun _ h => absurd h List.not_mem_nil⟩⟩⟩⟩⟩⟩⟩⟩⟩⟩⟩⟩⟩⟩
def lw_privs : List (MethodName × Nat) := lw_privs_1 ++ (lw_privs_2 ++ (lw_privs_3 ++ (lw_privs_4 ++ (lw_privs_5 ++ (lw_privs_6 ++ (lw_privs_7 ++ (lw_privs_8 ++ (lw_privs_9 ++ (lw_privs_10 ++ (lw_privs_11 ++ (lw_privs_12 ++ (lw_privs_13 ++ (lw_privs_14 ++ (lw_privs_15 ++ (lw_privs_16 ++ (lw_privs_17))))))))))))))))
def lw_tbl : List Cond := k2_sels lw_privs ++ tables_1
theorem lw_privs_ok : ∀ q ∈ lw_privs, lw_okq q := by
  show ∀ q ∈ lw_privs_1 ++ (lw_privs_2 ++ (lw_privs_3 ++ (lw_privs_4 ++ (lw_privs_5 ++ (lw_privs_6 ++ (lw_privs_7 ++ (lw_privs_8 ++ (lw_privs_9 ++ (lw_privs_10 ++ (lw_privs_11 ++ (lw_privs_12 ++ (lw_privs_13 ++ (lw_privs_14 ++ (lw_privs_15 ++ (lw_privs_16 ++ (lw_privs_17)))))))))))))))), lw_okq q
  exact List.forall_mem_append.mpr ⟨lw_r1, List.forall_mem_append.mpr ⟨lw_r2, List.forall_mem_append.mpr ⟨lw_r3, List.forall_mem_append.mpr ⟨lw_r4, List.forall_mem_append.mpr ⟨lw_r5, List.forall_mem_append.mpr ⟨lw_r6, List.forall_mem_append.mpr ⟨lw_r7, List.forall_mem_append.mpr ⟨lw_r8, List.forall_mem_append.mpr ⟨lw_r9, List.forall_mem_append.mpr ⟨lw_r10, List.forall_mem_append.mpr ⟨lw_r11, List.forall_mem_append.mpr ⟨lw_r12, List.forall_mem_append.mpr ⟨lw_r13, List.forall_mem_append.mpr ⟨lw_r14, List.forall_mem_append.mpr ⟨lw_r15, List.forall_mem_append.mpr ⟨lw_r16, lw_r17⟩⟩⟩⟩⟩⟩⟩⟩⟩⟩⟩⟩⟩⟩⟩⟩
-- ===== end of PART A; then your names; then what follows =====
/-! ===== the classes: names, fields, types (printed by program) ===== -/
def RX0 : String := "PaperHouse$Changes"
def TX0 : u_T := fun k => match k with
  | 0 => ("PaperHouse$Changes", "table", "LPaperHouse$Table;", true)
  | 1 => ("PaperHouse$Changes", "store", "LPaperHouse$Store;", true)
  | _ => ("PaperHouse$Changes", "tree", "LPaperHouse$Tree;", true)
def tyX0 : Nat → FieldType := fun k => match k with
  | 0 => .object "PaperHouse$Table"
  | 1 => .object "PaperHouse$Store"
  | _ => .object "PaperHouse$Tree"
theorem nmX0 : ∀ a, a < 3 → ∀ b, b < 3 → a ≠ b → (TX0 a).2.1 ≠ (TX0 b).2.1 := by decide +kernel
theorem tyX0_ok : ∀ k, k < 3 → parseFieldDescriptor (TX0 k).2.2.1 = some (tyX0 k) := by decide +kernel
def RX1 : String := "PaperHouse$Filters"
def TX1 : u_T := fun k => match k with
  | 0 => ("PaperHouse$Filters", "store", "LPaperHouse$Store;", true)
  | 1 => ("PaperHouse$Filters", "inflate", "LPaperHouse$Inflate;", true)
  | 2 => ("PaperHouse$Filters", "even", "[B", true)
  | 3 => ("PaperHouse$Filters", "odd", "[B", true)
  | 4 => ("PaperHouse$Filters", "flate", "[Z", true)
  | 5 => ("PaperHouse$Filters", "parms", "[I", true)
  | 6 => ("PaperHouse$Filters", "filters", "I", false)
  | 7 => ("PaperHouse$Filters", "result", "[B", false)
  | _ => ("PaperHouse$Filters", "length", "I", false)
def tyX1 : Nat → FieldType := fun k => match k with
  | 0 => .object "PaperHouse$Store"
  | 1 => .object "PaperHouse$Inflate"
  | 2 => .array .byte
  | 3 => .array .byte
  | 4 => .array .boolean
  | 5 => .array .int
  | 6 => .int
  | 7 => .array .byte
  | _ => .int
theorem nmX1 : ∀ a, a < 9 → ∀ b, b < 9 → a ≠ b → (TX1 a).2.1 ≠ (TX1 b).2.1 := by decide +kernel
theorem tyX1_ok : ∀ k, k < 9 → parseFieldDescriptor (TX1 k).2.2.1 = some (tyX1 k) := by decide +kernel
def RX2 : String := "PaperHouse$Inflate"
def TX2 : u_T := fun k => match k with
  | 0 => ("PaperHouse$Inflate", "sizes", "[I", true)
  | 1 => ("PaperHouse$Inflate", "many", "[I", true)
  | 2 => ("PaperHouse$Inflate", "codes", "[I", true)
  | 3 => ("PaperHouse$Inflate", "farMany", "[I", true)
  | 4 => ("PaperHouse$Inflate", "farCodes", "[I", true)
  | 5 => ("PaperHouse$Inflate", "places", "[I", true)
  | 6 => ("PaperHouse$Inflate", "in", "[B", false)
  | 7 => ("PaperHouse$Inflate", "pos", "I", false)
  | 8 => ("PaperHouse$Inflate", "end", "I", false)
  | 9 => ("PaperHouse$Inflate", "out", "[B", false)
  | 10 => ("PaperHouse$Inflate", "written", "I", false)
  | 11 => ("PaperHouse$Inflate", "literals", "I", false)
  | 12 => ("PaperHouse$Inflate", "distances", "I", false)
  | 13 => ("PaperHouse$Inflate", "held", "I", false)
  | _ => ("PaperHouse$Inflate", "heldBits", "I", false)
def tyX2 : Nat → FieldType := fun k => match k with
  | 0 => .array .int
  | 1 => .array .int
  | 2 => .array .int
  | 3 => .array .int
  | 4 => .array .int
  | 5 => .array .int
  | 6 => .array .byte
  | 7 => .int
  | 8 => .int
  | 9 => .array .byte
  | 10 => .int
  | 11 => .int
  | 12 => .int
  | 13 => .int
  | _ => .int
theorem nmX2 : ∀ a, a < 15 → ∀ b, b < 15 → a ≠ b → (TX2 a).2.1 ≠ (TX2 b).2.1 := by decide +kernel
theorem tyX2_ok : ∀ k, k < 15 → parseFieldDescriptor (TX2 k).2.2.1 = some (tyX2 k) := by decide +kernel
def RX3 : String := "PaperHouse$Loader"
def TX3 : u_T := fun k => match k with
  | 0 => ("PaperHouse$Loader", "file", "[B", true)
  | 1 => ("PaperHouse$Loader", "length", "I", false)
  | 2 => ("PaperHouse$Loader", "parser", "LPaperHouse$Parser;", true)
  | 3 => ("PaperHouse$Loader", "store", "LPaperHouse$Store;", true)
  | 4 => ("PaperHouse$Loader", "table", "LPaperHouse$Table;", true)
  | 5 => ("PaperHouse$Loader", "filters", "LPaperHouse$Filters;", true)
  | 6 => ("PaperHouse$Loader", "waiting", "[I", true)
  | 7 => ("PaperHouse$Loader", "bodies", "[I", true)
  | 8 => ("PaperHouse$Loader", "dicts", "[I", true)
  | _ => ("PaperHouse$Loader", "waiters", "I", false)
def tyX3 : Nat → FieldType := fun k => match k with
  | 0 => .array .byte
  | 1 => .int
  | 2 => .object "PaperHouse$Parser"
  | 3 => .object "PaperHouse$Store"
  | 4 => .object "PaperHouse$Table"
  | 5 => .object "PaperHouse$Filters"
  | 6 => .array .int
  | 7 => .array .int
  | 8 => .array .int
  | _ => .int
theorem nmX3 : ∀ a, a < 10 → ∀ b, b < 10 → a ≠ b → (TX3 a).2.1 ≠ (TX3 b).2.1 := by decide +kernel
theorem tyX3_ok : ∀ k, k < 10 → parseFieldDescriptor (TX3 k).2.2.1 = some (tyX3 k) := by decide +kernel
def RX4 : String := "PaperHouse$Painter"
def TX4 : u_T := fun k => match k with
  | 0 => ("PaperHouse$Painter", "table", "LPaperHouse$Table;", true)
  | 1 => ("PaperHouse$Painter", "store", "LPaperHouse$Store;", true)
  | 2 => ("PaperHouse$Painter", "tree", "LPaperHouse$Tree;", true)
  | 3 => ("PaperHouse$Painter", "parser", "LPaperHouse$Parser;", true)
  | 4 => ("PaperHouse$Painter", "bytes", "[B", true)
  | 5 => ("PaperHouse$Painter", "state", "[I", true)
  | 6 => ("PaperHouse$Painter", "kept", "[I", true)
  | 7 => ("PaperHouse$Painter", "text", "[I", true)
  | 8 => ("PaperHouse$Painter", "line", "[I", true)
  | 9 => ("PaperHouse$Painter", "given", "[I", true)
  | 10 => ("PaperHouse$Painter", "shown", "[I", true)
  | 11 => ("PaperHouse$Painter", "widths", "[I", true)
  | 12 => ("PaperHouse$Painter", "operands", "[I", true)
  | 13 => ("PaperHouse$Painter", "glyph", "[I", true)
  | 14 => ("PaperHouse$Painter", "waiting", "I", false)
  | 15 => ("PaperHouse$Painter", "keeps", "I", false)
  | 16 => ("PaperHouse$Painter", "inText", "Z", false)
  | 17 => ("PaperHouse$Painter", "page", "I", false)
  | _ => ("PaperHouse$Painter", "glyphs", "I", false)
def tyX4 : Nat → FieldType := fun k => match k with
  | 0 => .object "PaperHouse$Table"
  | 1 => .object "PaperHouse$Store"
  | 2 => .object "PaperHouse$Tree"
  | 3 => .object "PaperHouse$Parser"
  | 4 => .array .byte
  | 5 => .array .int
  | 6 => .array .int
  | 7 => .array .int
  | 8 => .array .int
  | 9 => .array .int
  | 10 => .array .int
  | 11 => .array .int
  | 12 => .array .int
  | 13 => .array .int
  | 14 => .int
  | 15 => .int
  | 16 => .boolean
  | 17 => .int
  | _ => .int
theorem nmX4 : ∀ a, a < 19 → ∀ b, b < 19 → a ≠ b → (TX4 a).2.1 ≠ (TX4 b).2.1 := by decide +kernel
theorem tyX4_ok : ∀ k, k < 19 → parseFieldDescriptor (TX4 k).2.2.1 = some (tyX4 k) := by decide +kernel
def RX5 : String := "PaperHouse$Parser"
def TX5 : u_T := fun k => match k with
  | 0 => ("PaperHouse$Parser", "store", "LPaperHouse$Store;", true)
  | 1 => ("PaperHouse$Parser", "text", "[B", true)
  | 2 => ("PaperHouse$Parser", "bytes", "[B", false)
  | 3 => ("PaperHouse$Parser", "from", "I", false)
  | 4 => ("PaperHouse$Parser", "pos", "I", false)
  | 5 => ("PaperHouse$Parser", "end", "I", false)
  | 6 => ("PaperHouse$Parser", "fault", "I", false)
  | 7 => ("PaperHouse$Parser", "place", "I", false)
  | 8 => ("PaperHouse$Parser", "firstNode", "I", false)
  | 9 => ("PaperHouse$Parser", "firstText", "I", false)
  | 10 => ("PaperHouse$Parser", "references", "Z", false)
  | 11 => ("PaperHouse$Parser", "rowAt", "I", false)
  | 12 => ("PaperHouse$Parser", "rowEnd", "I", false)
  | 13 => ("PaperHouse$Parser", "rowKind", "I", false)
  | 14 => ("PaperHouse$Parser", "rowValue", "I", false)
  | 15 => ("PaperHouse$Parser", "rowBeyond", "Z", false)
  | 16 => ("PaperHouse$Parser", "rowSigned", "Z", false)
  | _ => ("PaperHouse$Parser", "scanned", "I", false)
def tyX5 : Nat → FieldType := fun k => match k with
  | 0 => .object "PaperHouse$Store"
  | 1 => .array .byte
  | 2 => .array .byte
  | 3 => .int
  | 4 => .int
  | 5 => .int
  | 6 => .int
  | 7 => .int
  | 8 => .int
  | 9 => .int
  | 10 => .boolean
  | 11 => .int
  | 12 => .int
  | 13 => .int
  | 14 => .int
  | 15 => .boolean
  | 16 => .boolean
  | _ => .int
theorem nmX5 : ∀ a, a < 18 → ∀ b, b < 18 → a ≠ b → (TX5 a).2.1 ≠ (TX5 b).2.1 := by decide +kernel
theorem tyX5_ok : ∀ k, k < 18 → parseFieldDescriptor (TX5 k).2.2.1 = some (tyX5 k) := by decide +kernel
def RX6 : String := "PaperHouse$Sections"
def TX6 : u_T := fun k => match k with
  | 0 => ("PaperHouse$Sections", "parser", "LPaperHouse$Parser;", true)
  | 1 => ("PaperHouse$Sections", "store", "LPaperHouse$Store;", true)
  | 2 => ("PaperHouse$Sections", "table", "LPaperHouse$Table;", true)
  | 3 => ("PaperHouse$Sections", "filters", "LPaperHouse$Filters;", true)
  | 4 => ("PaperHouse$Sections", "begins", "[I", true)
  | 5 => ("PaperHouse$Sections", "wide", "[I", true)
  | 6 => ("PaperHouse$Sections", "begun", "I", false)
  | 7 => ("PaperHouse$Sections", "trailer", "I", false)
  | 8 => ("PaperHouse$Sections", "trailerFrom", "I", false)
  | 9 => ("PaperHouse$Sections", "trailerTo", "I", false)
  | 10 => ("PaperHouse$Sections", "inRows", "Z", false)
  | 11 => ("PaperHouse$Sections", "highest", "I", false)
  | _ => ("PaperHouse$Sections", "at", "I", false)
def tyX6 : Nat → FieldType := fun k => match k with
  | 0 => .object "PaperHouse$Parser"
  | 1 => .object "PaperHouse$Store"
  | 2 => .object "PaperHouse$Table"
  | 3 => .object "PaperHouse$Filters"
  | 4 => .array .int
  | 5 => .array .int
  | 6 => .int
  | 7 => .int
  | 8 => .int
  | 9 => .int
  | 10 => .boolean
  | 11 => .int
  | _ => .int
theorem nmX6 : ∀ a, a < 13 → ∀ b, b < 13 → a ≠ b → (TX6 a).2.1 ≠ (TX6 b).2.1 := by decide +kernel
theorem tyX6_ok : ∀ k, k < 13 → parseFieldDescriptor (TX6 k).2.2.1 = some (tyX6 k) := by decide +kernel
def RX7 : String := "PaperHouse$Store"
def TX7 : u_T := fun k => match k with
  | 0 => ("PaperHouse$Store", "kind", "[I", true)
  | 1 => ("PaperHouse$Store", "one", "[I", true)
  | 2 => ("PaperHouse$Store", "two", "[I", true)
  | 3 => ("PaperHouse$Store", "next", "[I", true)
  | 4 => ("PaperHouse$Store", "key", "[I", true)
  | 5 => ("PaperHouse$Store", "text", "[B", true)
  | 6 => ("PaperHouse$Store", "nodes", "I", false)
  | 7 => ("PaperHouse$Store", "texts", "I", false)
  | _ => ("PaperHouse$Store", "known", "I", false)
def tyX7 : Nat → FieldType := fun k => match k with
  | 0 => .array .int
  | 1 => .array .int
  | 2 => .array .int
  | 3 => .array .int
  | 4 => .array .int
  | 5 => .array .byte
  | 6 => .int
  | 7 => .int
  | _ => .int
theorem nmX7 : ∀ a, a < 9 → ∀ b, b < 9 → a ≠ b → (TX7 a).2.1 ≠ (TX7 b).2.1 := by decide +kernel
theorem tyX7_ok : ∀ k, k < 9 → parseFieldDescriptor (TX7 k).2.2.1 = some (tyX7 k) := by decide +kernel
def RX8 : String := "PaperHouse$Table"
def TX8 : u_T := fun k => match k with
  | 0 => ("PaperHouse$Table", "store", "LPaperHouse$Store;", true)
  | 1 => ("PaperHouse$Table", "how", "[I", true)
  | 2 => ("PaperHouse$Table", "place", "[I", true)
  | 3 => ("PaperHouse$Table", "generation", "[I", true)
  | 4 => ("PaperHouse$Table", "root", "[I", true)
  | 5 => ("PaperHouse$Table", "begin", "[I", true)
  | 6 => ("PaperHouse$Table", "length", "[I", true)
  | 7 => ("PaperHouse$Table", "changed", "[Z", true)
  | 8 => ("PaperHouse$Table", "named", "[Z", true)
  | 9 => ("PaperHouse$Table", "bytes", "[B", true)
  | 10 => ("PaperHouse$Table", "used", "I", false)
  | 11 => ("PaperHouse$Table", "limit", "I", false)
  | 12 => ("PaperHouse$Table", "readLimit", "I", false)
  | 13 => ("PaperHouse$Table", "catalog", "I", false)
  | _ => ("PaperHouse$Table", "info", "I", false)
def tyX8 : Nat → FieldType := fun k => match k with
  | 0 => .object "PaperHouse$Store"
  | 1 => .array .int
  | 2 => .array .int
  | 3 => .array .int
  | 4 => .array .int
  | 5 => .array .int
  | 6 => .array .int
  | 7 => .array .boolean
  | 8 => .array .boolean
  | 9 => .array .byte
  | 10 => .int
  | 11 => .int
  | 12 => .int
  | 13 => .int
  | _ => .int
theorem nmX8 : ∀ a, a < 15 → ∀ b, b < 15 → a ≠ b → (TX8 a).2.1 ≠ (TX8 b).2.1 := by decide +kernel
theorem tyX8_ok : ∀ k, k < 15 → parseFieldDescriptor (TX8 k).2.2.1 = some (tyX8 k) := by decide +kernel
def RX9 : String := "PaperHouse$Tree"
def TX9 : u_T := fun k => match k with
  | 0 => ("PaperHouse$Tree", "parser", "LPaperHouse$Parser;", true)
  | 1 => ("PaperHouse$Tree", "table", "LPaperHouse$Table;", true)
  | 2 => ("PaperHouse$Tree", "store", "LPaperHouse$Store;", true)
  | 3 => ("PaperHouse$Tree", "leaf", "[I", true)
  | 4 => ("PaperHouse$Tree", "above", "[I", true)
  | 5 => ("PaperHouse$Tree", "met", "[Z", true)
  | 6 => ("PaperHouse$Tree", "nowhere", "[B", true)
  | 7 => ("PaperHouse$Tree", "leaves", "I", false)
  | _ => ("PaperHouse$Tree", "first", "I", false)
def tyX9 : Nat → FieldType := fun k => match k with
  | 0 => .object "PaperHouse$Parser"
  | 1 => .object "PaperHouse$Table"
  | 2 => .object "PaperHouse$Store"
  | 3 => .array .int
  | 4 => .array .int
  | 5 => .array .boolean
  | 6 => .array .byte
  | 7 => .int
  | _ => .int
theorem nmX9 : ∀ a, a < 9 → ∀ b, b < 9 → a ≠ b → (TX9 a).2.1 ≠ (TX9 b).2.1 := by decide +kernel
theorem tyX9_ok : ∀ k, k < 9 → parseFieldDescriptor (TX9 k).2.2.1 = some (tyX9 k) := by decide +kernel
def RX10 : String := "PaperHouse$Writer"
def TX10 : u_T := fun k => match k with
  | 0 => ("PaperHouse$Writer", "table", "LPaperHouse$Table;", true)
  | 1 => ("PaperHouse$Writer", "store", "LPaperHouse$Store;", true)
  | 2 => ("PaperHouse$Writer", "out", "[B", true)
  | 3 => ("PaperHouse$Writer", "written", "I", false)
  | 4 => ("PaperHouse$Writer", "over", "Z", false)
  | 5 => ("PaperHouse$Writer", "renumbers", "Z", false)
  | 6 => ("PaperHouse$Writer", "number", "[I", true)
  | 7 => ("PaperHouse$Writer", "queue", "[I", true)
  | 8 => ("PaperHouse$Writer", "place", "[I", true)
  | 9 => ("PaperHouse$Writer", "met", "I", false)
  | 10 => ("PaperHouse$Writer", "rows", "[B", true)
  | 11 => ("PaperHouse$Writer", "code", "[B", true)
  | 12 => ("PaperHouse$Writer", "coded", "I", false)
  | 13 => ("PaperHouse$Writer", "held", "I", false)
  | 14 => ("PaperHouse$Writer", "heldBits", "I", false)
  | 15 => ("PaperHouse$Writer", "newest", "[I", true)
  | 16 => ("PaperHouse$Writer", "older", "[I", true)
  | _ => ("PaperHouse$Writer", "distance", "I", false)
def tyX10 : Nat → FieldType := fun k => match k with
  | 0 => .object "PaperHouse$Table"
  | 1 => .object "PaperHouse$Store"
  | 2 => .array .byte
  | 3 => .int
  | 4 => .boolean
  | 5 => .boolean
  | 6 => .array .int
  | 7 => .array .int
  | 8 => .array .int
  | 9 => .int
  | 10 => .array .byte
  | 11 => .array .byte
  | 12 => .int
  | 13 => .int
  | 14 => .int
  | 15 => .array .int
  | 16 => .array .int
  | _ => .int
theorem nmX10 : ∀ a, a < 18 → ∀ b, b < 18 → a ≠ b → (TX10 a).2.1 ≠ (TX10 b).2.1 := by decide +kernel
theorem tyX10_ok : ∀ k, k < 18 → parseFieldDescriptor (TX10 k).2.2.1 = some (tyX10 k) := by decide +kernel
def RX11 : String := "PaperHouse"
def TX11 : u_T := fun k => match k with
  | 0 => ("PaperHouse", "tape", "[B", true)
  | 1 => ("PaperHouse", "taped", "I", false)
  | 2 => ("PaperHouse", "store", "LPaperHouse$Store;", true)
  | 3 => ("PaperHouse", "table", "LPaperHouse$Table;", true)
  | 4 => ("PaperHouse", "parser", "LPaperHouse$Parser;", true)
  | 5 => ("PaperHouse", "sections", "LPaperHouse$Sections;", true)
  | 6 => ("PaperHouse", "loader", "LPaperHouse$Loader;", true)
  | 7 => ("PaperHouse", "tree", "LPaperHouse$Tree;", true)
  | 8 => ("PaperHouse", "painter", "LPaperHouse$Painter;", true)
  | 9 => ("PaperHouse", "changes", "LPaperHouse$Changes;", true)
  | 10 => ("PaperHouse", "writer", "LPaperHouse$Writer;", true)
  | 11 => ("PaperHouse", "path", "[I", true)
  | 12 => ("PaperHouse", "steps", "I", false)
  | 13 => ("PaperHouse", "standing", "I", false)
  | 14 => ("PaperHouse", "open", "Z", false)
  | 15 => ("PaperHouse", "loadFault", "I", false)
  | 16 => ("PaperHouse", "loadPlace", "I", false)
  | 17 => ("PaperHouse", "showFault", "I", false)
  | _ => ("PaperHouse", "showPlace", "I", false)
def tyX11 : Nat → FieldType := fun k => match k with
  | 0 => .array .byte
  | 1 => .int
  | 2 => .object "PaperHouse$Store"
  | 3 => .object "PaperHouse$Table"
  | 4 => .object "PaperHouse$Parser"
  | 5 => .object "PaperHouse$Sections"
  | 6 => .object "PaperHouse$Loader"
  | 7 => .object "PaperHouse$Tree"
  | 8 => .object "PaperHouse$Painter"
  | 9 => .object "PaperHouse$Changes"
  | 10 => .object "PaperHouse$Writer"
  | 11 => .array .int
  | 12 => .int
  | 13 => .int
  | 14 => .boolean
  | 15 => .int
  | 16 => .int
  | 17 => .int
  | _ => .int
theorem nmX11 : ∀ a, a < 19 → ∀ b, b < 19 → a ≠ b → (TX11 a).2.1 ≠ (TX11 b).2.1 := by decide +kernel
theorem tyX11_ok : ∀ k, k < 19 → parseFieldDescriptor (TX11 k).2.2.1 = some (tyX11 k) := by decide +kernel
def RX12 : String := "PaperHouseModel"
def TX12 : u_T := fun k => match k with
  | 0 => ("PaperHouseModel", "tape", "[B", true)
  | 1 => ("PaperHouseModel", "tapeSize", "I", false)
  | 2 => ("PaperHouseModel", "file", "[B", true)
  | 3 => ("PaperHouseModel", "fileSize", "I", false)
  | 4 => ("PaperHouseModel", "out", "[B", true)
  | 5 => ("PaperHouseModel", "outSize", "I", false)
  | 6 => ("PaperHouseModel", "isThere", "Z", false)
  | 7 => ("PaperHouseModel", "kind", "[B", true)
  | 8 => ("PaperHouseModel", "val", "[I", true)
  | 9 => ("PaperHouseModel", "gen", "[I", true)
  | 10 => ("PaperHouseModel", "size", "[I", true)
  | 11 => ("PaperHouseModel", "first", "[I", true)
  | 12 => ("PaperHouseModel", "next", "[I", true)
  | 13 => ("PaperHouseModel", "keyFrom", "[I", true)
  | 14 => ("PaperHouseModel", "keySize", "[I", true)
  | 15 => ("PaperHouseModel", "nodes", "I", false)
  | 16 => ("PaperHouseModel", "pool", "[B", true)
  | 17 => ("PaperHouseModel", "pooled", "I", false)
  | 18 => ("PaperHouseModel", "bytes", "[B", false)
  | 19 => ("PaperHouseModel", "base", "I", false)
  | 20 => ("PaperHouseModel", "limit", "I", false)
  | 21 => ("PaperHouseModel", "at", "I", false)
  | 22 => ("PaperHouseModel", "tok", "I", false)
  | 23 => ("PaperHouseModel", "begin", "I", false)
  | 24 => ("PaperHouseModel", "tokValue", "I", false)
  | 25 => ("PaperHouseModel", "isSigned", "Z", false)
  | 26 => ("PaperHouseModel", "textSize", "I", false)
  | 27 => ("PaperHouseModel", "code", "I", false)
  | 28 => ("PaperHouseModel", "place", "I", false)
  | 29 => ("PaperHouseModel", "objects", "I", false)
  | 30 => ("PaperHouseModel", "mostObjects", "I", false)
  | 31 => ("PaperHouseModel", "texts", "I", false)
  | 32 => ("PaperHouseModel", "loads", "Z", false)
  | 33 => ("PaperHouseModel", "data", "[B", true)
  | 34 => ("PaperHouseModel", "dataTop", "I", false)
  | 35 => ("PaperHouseModel", "before", "[B", true)
  | 36 => ("PaperHouseModel", "behind", "[B", true)
  | 37 => ("PaperHouseModel", "coded", "I", false)
  | 38 => ("PaperHouseModel", "made", "I", false)
  | 39 => ("PaperHouseModel", "bitAt", "I", false)
  | 40 => ("PaperHouseModel", "isBroken", "Z", false)
  | 41 => ("PaperHouseModel", "lengths", "[I", true)
  | 42 => ("PaperHouseModel", "litCounts", "[I", true)
  | 43 => ("PaperHouseModel", "litSymbols", "[I", true)
  | 44 => ("PaperHouseModel", "distCounts", "[I", true)
  | 45 => ("PaperHouseModel", "distSymbols", "[I", true)
  | 46 => ("PaperHouseModel", "countsAt", "[I", true)
  | 47 => ("PaperHouseModel", "read", "[I", true)
  | 48 => ("PaperHouseModel", "stands", "[B", true)
  | 49 => ("PaperHouseModel", "placeOf", "[J", true)
  | 50 => ("PaperHouseModel", "third", "[J", true)
  | 51 => ("PaperHouseModel", "isTold", "[Z", true)
  | 52 => ("PaperHouseModel", "root", "[I", true)
  | 53 => ("PaperHouseModel", "state", "[B", true)
  | 54 => ("PaperHouseModel", "isStream", "[Z", true)
  | 55 => ("PaperHouseModel", "dataFrom", "[I", true)
  | 56 => ("PaperHouseModel", "dataSize", "[I", true)
  | 57 => ("PaperHouseModel", "isNew", "[Z", true)
  | 58 => ("PaperHouseModel", "isNamed", "[Z", true)
  | 59 => ("PaperHouseModel", "isPassed", "[Z", true)
  | 60 => ("PaperHouseModel", "all", "I", false)
  | 61 => ("PaperHouseModel", "sections", "I", false)
  | 62 => ("PaperHouseModel", "sectionAt", "[J", true)
  | 63 => ("PaperHouseModel", "isRow", "Z", false)
  | 64 => ("PaperHouseModel", "trailer", "I", false)
  | 65 => ("PaperHouseModel", "rootRef", "I", false)
  | 66 => ("PaperHouseModel", "infoRef", "I", false)
  | 67 => ("PaperHouseModel", "streamBytes", "I", false)
  | 68 => ("PaperHouseModel", "loadFault", "I", false)
  | 69 => ("PaperHouseModel", "loadPlace", "I", false)
  | 70 => ("PaperHouseModel", "showFault", "I", false)
  | 71 => ("PaperHouseModel", "showPlace", "I", false)
  | 72 => ("PaperHouseModel", "tells", "[B", true)
  | 73 => ("PaperHouseModel", "tellsPlace", "[J", true)
  | 74 => ("PaperHouseModel", "tellsThird", "[J", true)
  | 75 => ("PaperHouseModel", "greatest", "I", false)
  | 76 => ("PaperHouseModel", "widths", "[I", true)
  | 77 => ("PaperHouseModel", "headNumber", "I", false)
  | 78 => ("PaperHouseModel", "headGeneration", "J", false)
  | 79 => ("PaperHouseModel", "rawLength", "I", false)
  | 80 => ("PaperHouseModel", "lastNumber", "I", false)
  | 81 => ("PaperHouseModel", "rootNumber", "I", false)
  | 82 => ("PaperHouseModel", "infoNumber", "I", false)
  | 83 => ("PaperHouseModel", "firstNode", "I", false)
  | 84 => ("PaperHouseModel", "pageCount", "I", false)
  | 85 => ("PaperHouseModel", "pageOf", "[I", true)
  | 86 => ("PaperHouseModel", "above", "[I", true)
  | 87 => ("PaperHouseModel", "isMet", "[Z", true)
  | 88 => ("PaperHouseModel", "depth", "I", false)
  | 89 => ("PaperHouseModel", "cursorNumber", "I", false)
  | 90 => ("PaperHouseModel", "path", "[I", true)
  | 91 => ("PaperHouseModel", "contents", "[B", true)
  | 92 => ("PaperHouseModel", "contentsSize", "I", false)
  | 93 => ("PaperHouseModel", "operands", "[I", true)
  | 94 => ("PaperHouseModel", "waits", "I", false)
  | 95 => ("PaperHouseModel", "ctm", "[I", true)
  | 96 => ("PaperHouseModel", "tm", "[I", true)
  | 97 => ("PaperHouseModel", "line", "[I", true)
  | 98 => ("PaperHouseModel", "by", "[I", true)
  | 99 => ("PaperHouseModel", "sums", "[J", true)
  | 100 => ("PaperHouseModel", "ways", "[I", true)
  | 101 => ("PaperHouseModel", "keptWays", "[I", true)
  | 102 => ("PaperHouseModel", "keptMany", "I", false)
  | 103 => ("PaperHouseModel", "isText", "Z", false)
  | 104 => ("PaperHouseModel", "glyphs", "I", false)
  | 105 => ("PaperHouseModel", "glyphRows", "[I", true)
  | 106 => ("PaperHouseModel", "operatorAt", "I", false)
  | 107 => ("PaperHouseModel", "resources", "I", false)
  | 108 => ("PaperHouseModel", "operators", "[Ljava/lang/String;", true)
  | 109 => ("PaperHouseModel", "isAnew", "Z", false)
  | 110 => ("PaperHouseModel", "anew", "[I", true)
  | 111 => ("PaperHouseModel", "order", "[I", true)
  | 112 => ("PaperHouseModel", "ordered", "I", false)
  | 113 => ("PaperHouseModel", "written", "[I", true)
  | 114 => ("PaperHouseModel", "coder", "[B", true)
  | 115 => ("PaperHouseModel", "coderSize", "I", false)
  | 116 => ("PaperHouseModel", "coderBits", "I", false)
  | 117 => ("PaperHouseModel", "latest", "[I", true)
  | 118 => ("PaperHouseModel", "elder", "[I", true)
  | 119 => ("PaperHouseModel", "rows", "[B", true)
  | _ => ("PaperHouseModel", "rowsSize", "I", false)
def tyX12 : Nat → FieldType := fun k => match k with
  | 0 => .array .byte
  | 1 => .int
  | 2 => .array .byte
  | 3 => .int
  | 4 => .array .byte
  | 5 => .int
  | 6 => .boolean
  | 7 => .array .byte
  | 8 => .array .int
  | 9 => .array .int
  | 10 => .array .int
  | 11 => .array .int
  | 12 => .array .int
  | 13 => .array .int
  | 14 => .array .int
  | 15 => .int
  | 16 => .array .byte
  | 17 => .int
  | 18 => .array .byte
  | 19 => .int
  | 20 => .int
  | 21 => .int
  | 22 => .int
  | 23 => .int
  | 24 => .int
  | 25 => .boolean
  | 26 => .int
  | 27 => .int
  | 28 => .int
  | 29 => .int
  | 30 => .int
  | 31 => .int
  | 32 => .boolean
  | 33 => .array .byte
  | 34 => .int
  | 35 => .array .byte
  | 36 => .array .byte
  | 37 => .int
  | 38 => .int
  | 39 => .int
  | 40 => .boolean
  | 41 => .array .int
  | 42 => .array .int
  | 43 => .array .int
  | 44 => .array .int
  | 45 => .array .int
  | 46 => .array .int
  | 47 => .array .int
  | 48 => .array .byte
  | 49 => .array .long
  | 50 => .array .long
  | 51 => .array .boolean
  | 52 => .array .int
  | 53 => .array .byte
  | 54 => .array .boolean
  | 55 => .array .int
  | 56 => .array .int
  | 57 => .array .boolean
  | 58 => .array .boolean
  | 59 => .array .boolean
  | 60 => .int
  | 61 => .int
  | 62 => .array .long
  | 63 => .boolean
  | 64 => .int
  | 65 => .int
  | 66 => .int
  | 67 => .int
  | 68 => .int
  | 69 => .int
  | 70 => .int
  | 71 => .int
  | 72 => .array .byte
  | 73 => .array .long
  | 74 => .array .long
  | 75 => .int
  | 76 => .array .int
  | 77 => .int
  | 78 => .long
  | 79 => .int
  | 80 => .int
  | 81 => .int
  | 82 => .int
  | 83 => .int
  | 84 => .int
  | 85 => .array .int
  | 86 => .array .int
  | 87 => .array .boolean
  | 88 => .int
  | 89 => .int
  | 90 => .array .int
  | 91 => .array .byte
  | 92 => .int
  | 93 => .array .int
  | 94 => .int
  | 95 => .array .int
  | 96 => .array .int
  | 97 => .array .int
  | 98 => .array .int
  | 99 => .array .long
  | 100 => .array .int
  | 101 => .array .int
  | 102 => .int
  | 103 => .boolean
  | 104 => .int
  | 105 => .array .int
  | 106 => .int
  | 107 => .int
  | 108 => .array (.object "java/lang/String")
  | 109 => .boolean
  | 110 => .array .int
  | 111 => .array .int
  | 112 => .int
  | 113 => .array .int
  | 114 => .array .byte
  | 115 => .int
  | 116 => .int
  | 117 => .array .int
  | 118 => .array .int
  | 119 => .array .byte
  | _ => .int
theorem nmX12 : ∀ a, a < 121 → ∀ b, b < 121 → a ≠ b → (TX12 a).2.1 ≠ (TX12 b).2.1 := by decide +kernel
theorem tyX12_ok : ∀ k, k < 121 → parseFieldDescriptor (TX12 k).2.2.1 = some (tyX12 k) := by decide +kernel
/-- the classes, in this order everywhere; 13 is String -/
def ex_cl : List vw_C := [(RX0, TX0, 3), (RX1, TX1, 9), (RX2, TX2, 15), (RX3, TX3, 10), (RX4, TX4, 19), (RX5, TX5, 18), (RX6, TX6, 13), (RX7, TX7, 9), (RX8, TX8, 15), (RX9, TX9, 9), (RX10, TX10, 18), (RX11, TX11, 19), (RX12, TX12, 121)]
def ex_ftL : List (List FieldType) := [[.object "PaperHouse$Table", .object "PaperHouse$Store", .object "PaperHouse$Tree"],
  [.object "PaperHouse$Store", .object "PaperHouse$Inflate", .array .byte, .array .byte, .array .boolean, .array .int, .int, .array .byte, .int],
  [.array .int, .array .int, .array .int, .array .int, .array .int, .array .int, .array .byte, .int, .int, .array .byte, .int, .int, .int, .int, .int],
  [.array .byte, .int, .object "PaperHouse$Parser", .object "PaperHouse$Store", .object "PaperHouse$Table", .object "PaperHouse$Filters", .array .int, .array .int, .array .int, .int],
  [.object "PaperHouse$Table", .object "PaperHouse$Store", .object "PaperHouse$Tree", .object "PaperHouse$Parser", .array .byte, .array .int, .array .int, .array .int, .array .int, .array .int, .array .int, .array .int, .array .int, .array .int, .int, .int, .boolean, .int, .int],
  [.object "PaperHouse$Store", .array .byte, .array .byte, .int, .int, .int, .int, .int, .int, .int, .boolean, .int, .int, .int, .int, .boolean, .boolean, .int],
  [.object "PaperHouse$Parser", .object "PaperHouse$Store", .object "PaperHouse$Table", .object "PaperHouse$Filters", .array .int, .array .int, .int, .int, .int, .int, .boolean, .int, .int],
  [.array .int, .array .int, .array .int, .array .int, .array .int, .array .byte, .int, .int, .int],
  [.object "PaperHouse$Store", .array .int, .array .int, .array .int, .array .int, .array .int, .array .int, .array .boolean, .array .boolean, .array .byte, .int, .int, .int, .int, .int],
  [.object "PaperHouse$Parser", .object "PaperHouse$Table", .object "PaperHouse$Store", .array .int, .array .int, .array .boolean, .array .byte, .int, .int],
  [.object "PaperHouse$Table", .object "PaperHouse$Store", .array .byte, .int, .boolean, .boolean, .array .int, .array .int, .array .int, .int, .array .byte, .array .byte, .int, .int, .int, .array .int, .array .int, .int],
  [.array .byte, .int, .object "PaperHouse$Store", .object "PaperHouse$Table", .object "PaperHouse$Parser", .object "PaperHouse$Sections", .object "PaperHouse$Loader", .object "PaperHouse$Tree", .object "PaperHouse$Painter", .object "PaperHouse$Changes", .object "PaperHouse$Writer", .array .int, .int, .int, .boolean, .int, .int, .int, .int],
  [.array .byte, .int, .array .byte, .int, .array .byte, .int, .boolean, .array .byte, .array .int, .array .int, .array .int, .array .int, .array .int, .array .int, .array .int, .int, .array .byte, .int, .array .byte, .int, .int, .int, .int, .int, .int, .boolean, .int, .int, .int, .int, .int, .int, .boolean, .array .byte, .int, .array .byte, .array .byte, .int, .int, .int, .boolean, .array .int, .array .int, .array .int, .array .int, .array .int, .array .int, .array .int, .array .byte, .array .long, .array .long, .array .boolean, .array .int, .array .byte, .array .boolean, .array .int, .array .int, .array .boolean, .array .boolean, .array .boolean, .int, .int, .array .long, .boolean, .int, .int, .int, .int, .int, .int, .int, .int, .array .byte, .array .long, .array .long, .int, .array .int, .int, .long, .int, .int, .int, .int, .int, .int, .array .int, .array .int, .array .boolean, .int, .int, .array .int, .array .byte, .int, .array .int, .int, .array .int, .array .int, .array .int, .array .int, .array .long, .array .int, .array .int, .int, .boolean, .int, .array .int, .int, .int, .array (.object "java/lang/String"), .boolean, .array .int, .array .int, .int, .array .int, .array .byte, .int, .int, .array .int, .array .int, .array .byte, .int]]
def ex_ft (c : Nat) : List FieldType := ex_ftL.getD c []
