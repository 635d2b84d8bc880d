/-! ===== methods and labels, named (printed by program) ===== -/
/-- PaperHouse$Changes.countUp(II)V -/
abbrev xc_ch_countUp (d : Nat) (l1 l2 : Int) (m : w_M) (Q : Int → w_M → Prop) : Prop := x_C sC d 1 3 [(2, 417), (0, l1), (0, l2)] m Q
abbrev xp_ch_countUp_5 (d : Nat) (l2 l3 l4 : Int) (m : w_M) (Q : Int → w_M → Prop) : Prop := x_W sC d ex_m1 3 5 [some (2, 417), none, some (0, l2), some (0, l3), some (0, l4), none, none] [] m Q
/-- PaperHouse$Changes.deletePage(I)I -/
abbrev xc_ch_deletePage (d : Nat) (l1 : Int) (m : w_M) (Q : Int → w_M → Prop) : Prop := x_C sC d 2 0 [(2, 417), (0, l1)] m Q
/-- PaperHouse$Changes.insertPage(III)I -/
abbrev xc_ch_insertPage (d : Nat) (l1 l2 l3 : Int) (m : w_M) (Q : Int → w_M → Prop) : Prop := x_C sC d 3 0 [(2, 417), (0, l1), (0, l2), (0, l3)] m Q
/-- PaperHouse$Changes.movePage(II)I -/
abbrev xc_ch_movePage (d : Nat) (l1 l2 : Int) (m : w_M) (Q : Int → w_M → Prop) : Prop := x_C sC d 4 0 [(2, 417), (0, l1), (0, l2)] m Q
/-- PaperHouse$Changes.ownKids(I)I -/
abbrev xc_ch_ownKids (d : Nat) (l1 : Int) (m : w_M) (Q : Int → w_M → Prop) : Prop := x_C sC d 5 0 [(2, 417), (0, l1)] m Q
abbrev xp_ch_ownKids_74 (d : Nat) (l2 l4 l5 l6 : Int) (m : w_M) (Q : Int → w_M → Prop) : Prop := x_W sC d ex_m5 0 74 [some (2, 417), none, some (0, l2), none, some (0, l4), some (0, l5), some (0, l6)] [] m Q
/-- PaperHouse$Changes.placeOf(II)I -/
abbrev xc_ch_placeOf (d : Nat) (l1 l2 : Int) (m : w_M) (Q : Int → w_M → Prop) : Prop := x_C sC d 6 0 [(2, 417), (0, l1), (0, l2)] m Q
abbrev xp_ch_placeOf_12 (d : Nat) (l1 l2 l3 l4 : Int) (m : w_M) (Q : Int → w_M → Prop) : Prop := x_W sC d ex_m6 0 12 [some (2, 417), some (0, l1), some (0, l2), some (0, l3), some (0, l4)] [] m Q
/-- PaperHouse$Changes.putIn(II)V -/
abbrev xc_ch_putIn (d : Nat) (l1 l2 : Int) (m : w_M) (Q : Int → w_M → Prop) : Prop := x_C sC d 7 3 [(2, 417), (0, l1), (0, l2)] m Q
abbrev xp_ch_putIn_16 (d : Nat) (l1 l2 s0 : Int) (m : w_M) (Q : Int → w_M → Prop) : Prop := x_W sC d ex_m7 3 16 [some (2, 417), some (0, l1), some (0, l2), none, none, none, none, none, none, none, none] [(0, s0)] m Q
abbrev xp_ch_putIn_67 (d : Nat) (l1 l2 l3 l4 s0 : Int) (m : w_M) (Q : Int → w_M → Prop) : Prop := x_W sC d ex_m7 3 67 [some (2, 417), some (0, l1), some (0, l2), some (0, l3), some (0, l4), none, none, none, none, none, none] [(0, s0)] m Q
abbrev xp_ch_putIn_112 (d : Nat) (l1 l2 l5 l6 s0 : Int) (m : w_M) (Q : Int → w_M → Prop) : Prop := x_W sC d ex_m7 3 112 [some (2, 417), some (0, l1), some (0, l2), none, none, some (0, l5), some (0, l6), none, none, none, none] [(0, s0)] m Q
abbrev xp_ch_putIn_217 (d : Nat) (l1 l2 l5 l6 s1 s2 : Int) (m : w_M) (Q : Int → w_M → Prop) : Prop := x_W sC d ex_m7 3 217 [some (2, 417), some (0, l1), some (0, l2), none, none, some (0, l5), some (0, l6), none, none, none, none] [(0, s2), (0, s1), (2, 359)] m Q
/-- PaperHouse$Changes.set(IIIII)V -/
abbrev xc_ch_set (d : Nat) (l1 l2 l3 l4 l5 : Int) (m : w_M) (Q : Int → w_M → Prop) : Prop := x_C sC d 8 3 [(2, 417), (0, l1), (0, l2), (0, l3), (0, l4), (0, l5)] m Q
/-- PaperHouse$Changes.setContents(I[BI)I -/
abbrev xc_ch_setContents (d : Nat) (l1 l2 l3 : Int) (m : w_M) (Q : Int → w_M → Prop) : Prop := x_C sC d 9 0 [(2, 417), (0, l1), (2, l2), (0, l3)] m Q
/-- PaperHouse$Changes.setInfo(I[BI)I -/
abbrev xc_ch_setInfo (d : Nat) (l1 l2 l3 : Int) (m : w_M) (Q : Int → w_M → Prop) : Prop := x_C sC d 10 0 [(2, 417), (0, l1), (2, l2), (0, l3)] m Q
abbrev xp_ch_setInfo_27 (d : Nat) (l1 l2 l3 s0 : Int) (m : w_M) (Q : Int → w_M → Prop) : Prop := x_W sC d ex_m10 0 27 [some (2, 417), some (0, l1), some (2, l2), some (0, l3), none, none] [(0, s0)] m Q
abbrev xp_ch_setInfo_105 (d : Nat) (l1 l2 l3 l4 : Int) (m : w_M) (Q : Int → w_M → Prop) : Prop := x_W sC d ex_m10 0 105 [some (2, 417), some (0, l1), some (2, l2), some (0, l3), some (0, l4), none] [] m Q
/-- PaperHouse$Changes.takeOut(I)V -/
abbrev xc_ch_takeOut (d : Nat) (l1 : Int) (m : w_M) (Q : Int → w_M → Prop) : Prop := x_C sC d 11 3 [(2, 417), (0, l1)] m Q
abbrev xp_ch_takeOut_88 (d : Nat) (l1 l3 l4 l6 l7 s0 : Int) (m : w_M) (Q : Int → w_M → Prop) : Prop := x_W sC d ex_m11 3 88 [some (2, 417), some (0, l1), none, some (0, l3), some (0, l4), none, some (0, l6), some (0, l7), none] [(0, s0)] m Q
/-- PaperHouse$Changes.takeOver(II)V -/
abbrev xc_ch_takeOver (d : Nat) (l1 l2 : Int) (m : w_M) (Q : Int → w_M → Prop) : Prop := x_C sC d 12 3 [(2, 417), (0, l1), (0, l2)] m Q
/-- PaperHouse$Changes.turnPage(II)I -/
abbrev xc_ch_turnPage (d : Nat) (l1 l2 : Int) (m : w_M) (Q : Int → w_M → Prop) : Prop := x_C sC d 13 0 [(2, 417), (0, l1), (0, l2)] m Q
/-- PaperHouse$Filters.areRight(IZ)Z -/
abbrev xc_fi_areRight (d : Nat) (l1 l2 : Int) (m : w_M) (Q : Int → w_M → Prop) : Prop := x_C sC d 15 0 [(2, 378), (0, l1), (0, l2)] m Q
/-- PaperHouse$Filters.columns(I)I -/
abbrev xc_fi_columns (d : Nat) (l1 : Int) (m : w_M) (Q : Int → w_M → Prop) : Prop := x_C sC d 16 0 [(2, 378), (0, l1)] m Q
/-- PaperHouse$Filters.decode(I[BII)I -/
abbrev xc_fi_decode (d : Nat) (l1 l2 l3 l4 : Int) (m : w_M) (Q : Int → w_M → Prop) : Prop := x_C sC d 17 0 [(2, 378), (0, l1), (2, l2), (0, l3), (0, l4)] m Q
abbrev xp_fi_decode_44 (d : Nat) (l2 l3 l4 l5 l6 : Int) (m : w_M) (Q : Int → w_M → Prop) : Prop := x_W sC d ex_m17 0 44 [some (2, 378), none, some (2, l2), some (0, l3), some (0, l4), some (0, l5), some (0, l6), none, none, none, none] [] m Q
abbrev xp_fi_decode_84 (d : Nat) (l2 l3 l4 l5 : Int) (m : w_M) (Q : Int → w_M → Prop) : Prop := x_W sC d ex_m17 0 84 [some (2, 378), none, some (2, l2), some (0, l3), some (0, l4), some (0, l5), none, none, none, none, none] [] m Q
abbrev xp_fi_decode_126 (d : Nat) (l2 l3 l6 l7 l8 l9 : Int) (m : w_M) (Q : Int → w_M → Prop) : Prop := x_W sC d ex_m17 0 126 [some (2, 378), none, some (2, l2), some (0, l3), none, none, some (2, l6), some (0, l7), some (0, l8), some (0, l9), none] [] m Q
abbrev xp_fi_decode_200 (d : Nat) (l2 l3 l9 l10 s0 : Int) (m : w_M) (Q : Int → w_M → Prop) : Prop := x_W sC d ex_m17 0 200 [some (2, 378), none, some (2, l2), some (0, l3), none, none, none, none, none, some (0, l9), some (2, l10)] [(0, s0)] m Q
abbrev xp_fi_decode_272 (d : Nat) (l2 l3 l6 l8 : Int) (m : w_M) (Q : Int → w_M → Prop) : Prop := x_W sC d ex_m17 0 272 [some (2, 378), none, some (2, l2), some (0, l3), none, none, some (2, l6), none, some (0, l8), none, none] [] m Q
/-- PaperHouse$Filters.fromHex([BII[B)I -/
abbrev xc_fi_fromHex (d : Nat) (l0 l1 l2 l3 : Int) (m : w_M) (Q : Int → w_M → Prop) : Prop := x_C sC d 18 0 [(2, l0), (0, l1), (0, l2), (2, l3)] m Q
abbrev xp_fi_fromHex_12 (d : Nat) (l0 l1 l2 l3 l4 l5 l6 l7 : Int) (m : w_M) (Q : Int → w_M → Prop) : Prop := x_W sC d ex_m18 0 12 [some (2, l0), some (0, l1), some (0, l2), some (2, l3), some (0, l4), some (0, l5), some (0, l6), some (0, l7), none, none] [] m Q
abbrev xp_fi_fromHex_79 (d : Nat) (l0 l1 l2 l3 l4 l5 l7 l8 l9 : Int) (m : w_M) (Q : Int → w_M → Prop) : Prop := x_W sC d ex_m18 0 79 [some (2, l0), some (0, l1), some (0, l2), some (2, l3), some (0, l4), some (0, l5), none, some (0, l7), some (0, l8), some (0, l9)] [] m Q
abbrev xp_fi_fromHex_110 (d : Nat) (l0 l1 l2 l3 l4 l5 l6 l7 l9 : Int) (m : w_M) (Q : Int → w_M → Prop) : Prop := x_W sC d ex_m18 0 110 [some (2, l0), some (0, l1), some (0, l2), some (2, l3), some (0, l4), some (0, l5), some (0, l6), some (0, l7), none, some (0, l9)] [] m Q
/-- PaperHouse$Filters.guess(IIII)I -/
abbrev xc_fi_guess (d : Nat) (l0 l1 l2 l3 : Int) (m : w_M) (Q : Int → w_M → Prop) : Prop := x_C sC d 19 0 [(0, l0), (0, l1), (0, l2), (0, l3)] m Q
/-- PaperHouse$Filters.readName(I)Z -/
abbrev xc_fi_readName (d : Nat) (l1 : Int) (m : w_M) (Q : Int → w_M → Prop) : Prop := x_C sC d 20 0 [(2, 378), (0, l1)] m Q
/-- PaperHouse$Filters.readNames(I)Z -/
abbrev xc_fi_readNames (d : Nat) (l1 : Int) (m : w_M) (Q : Int → w_M → Prop) : Prop := x_C sC d 21 0 [(2, 378), (0, l1)] m Q
abbrev xp_fi_readNames_60 (d : Nat) (l2 l4 : Int) (m : w_M) (Q : Int → w_M → Prop) : Prop := x_W sC d ex_m21 0 60 [some (2, 378), none, some (0, l2), none, some (0, l4)] [] m Q
/-- PaperHouse$Filters.readParms(I)Z -/
abbrev xc_fi_readParms (d : Nat) (l1 : Int) (m : w_M) (Q : Int → w_M → Prop) : Prop := x_C sC d 22 0 [(2, 378), (0, l1)] m Q
abbrev xp_fi_readParms_91 (d : Nat) (l2 l4 : Int) (m : w_M) (Q : Int → w_M → Prop) : Prop := x_W sC d ex_m22 0 91 [some (2, 378), none, some (0, l2), none, some (0, l4)] [] m Q
/-- PaperHouse$Filters.unpredict([BII)I -/
abbrev xc_fi_unpredict (d : Nat) (l0 l1 l2 : Int) (m : w_M) (Q : Int → w_M → Prop) : Prop := x_C sC d 23 0 [(2, l0), (0, l1), (0, l2)] m Q
abbrev xp_fi_unpredict_33 (d : Nat) (l0 l1 l2 l3 l4 l5 : Int) (m : w_M) (Q : Int → w_M → Prop) : Prop := x_W sC d ex_m23 0 33 [some (2, l0), some (0, l1), some (0, l2), some (0, l3), some (0, l4), some (0, l5), none, none, none, none, none] [] m Q
abbrev xp_fi_unpredict_60 (d : Nat) (l0 l1 l2 l3 l4 l5 l6 l7 : Int) (m : w_M) (Q : Int → w_M → Prop) : Prop := x_W sC d ex_m23 0 60 [some (2, l0), some (0, l1), some (0, l2), some (0, l3), some (0, l4), some (0, l5), some (0, l6), some (0, l7), none, none, none] [] m Q
abbrev xp_fi_unpredict_106 (d : Nat) (l0 l1 l2 l3 l4 l5 l6 l7 l8 s0 : Int) (m : w_M) (Q : Int → w_M → Prop) : Prop := x_W sC d ex_m23 0 106 [some (2, l0), some (0, l1), some (0, l2), some (0, l3), some (0, l4), some (0, l5), some (0, l6), some (0, l7), some (0, l8), none, none] [(0, s0)] m Q
abbrev xp_fi_unpredict_133 (d : Nat) (l0 l1 l2 l3 l4 l5 l6 l7 l8 l9 : Int) (m : w_M) (Q : Int → w_M → Prop) : Prop := x_W sC d ex_m23 0 133 [some (2, l0), some (0, l1), some (0, l2), some (0, l3), some (0, l4), some (0, l5), some (0, l6), some (0, l7), some (0, l8), some (0, l9), none] [] m Q
/-- PaperHouse$Filters.wholeOr(III)I -/
abbrev xc_fi_wholeOr (d : Nat) (l1 l2 l3 : Int) (m : w_M) (Q : Int → w_M → Prop) : Prop := x_C sC d 24 0 [(2, 378), (0, l1), (0, l2), (0, l3)] m Q
/-- PaperHouse$Inflate.bits(I)I -/
abbrev xc_in_bits (d : Nat) (l1 : Int) (m : w_M) (Q : Int → w_M → Prop) : Prop := x_C sC d 26 0 [(2, 379), (0, l1)] m Q
abbrev xp_in_bits_0 (d : Nat) (l1 : Int) (m : w_M) (Q : Int → w_M → Prop) : Prop := x_W sC d ex_m26 0 0 [some (2, 379), some (0, l1), none] [] m Q
/-- PaperHouse$Inflate.build([I[III)I -/
abbrev xc_in_build (d : Nat) (l1 l2 l3 l4 : Int) (m : w_M) (Q : Int → w_M → Prop) : Prop := x_C sC d 27 0 [(2, 379), (2, l1), (2, l2), (0, l3), (0, l4)] m Q
abbrev xp_in_build_8 (d : Nat) (l1 l2 l3 l4 l5 : Int) (m : w_M) (Q : Int → w_M → Prop) : Prop := x_W sC d ex_m27 0 8 [some (2, 379), some (2, l1), some (2, l2), some (0, l3), some (0, l4), some (0, l5), none, none] [] m Q
abbrev xp_in_build_52 (d : Nat) (l1 l2 l3 l4 l5 l6 : Int) (m : w_M) (Q : Int → w_M → Prop) : Prop := x_W sC d ex_m27 0 52 [some (2, 379), some (2, l1), some (2, l2), some (0, l3), some (0, l4), some (0, l5), some (0, l6), none] [] m Q
abbrev xp_in_build_115 (d : Nat) (l2 l3 l4 l5 l6 : Int) (m : w_M) (Q : Int → w_M → Prop) : Prop := x_W sC d ex_m27 0 115 [some (2, 379), none, some (2, l2), some (0, l3), some (0, l4), some (0, l5), some (0, l6), none] [] m Q
/-- PaperHouse$Inflate.decode()Z -/
abbrev xc_in_decode (d : Nat) (m : w_M) (Q : Int → w_M → Prop) : Prop := x_C sC d 28 0 [(2, 379)] m Q
abbrev xp_in_decode_2 (d : Nat) (l1 : Int) (m : w_M) (Q : Int → w_M → Prop) : Prop := x_W sC d ex_m28 0 2 [some (2, 379), some (0, l1), none, none] [] m Q
/-- PaperHouse$Inflate.dynamicCodes()Z -/
abbrev xc_in_dynamicCodes (d : Nat) (m : w_M) (Q : Int → w_M → Prop) : Prop := x_C sC d 29 0 [(2, 379)] m Q
/-- PaperHouse$Inflate.endsWell()Z -/
abbrev xc_in_endsWell (d : Nat) (m : w_M) (Q : Int → w_M → Prop) : Prop := x_C sC d 30 0 [(2, 379)] m Q
abbrev xp_in_endsWell_20 (d : Nat) (l1 l2 : Int) (m : w_M) (Q : Int → w_M → Prop) : Prop := x_W sC d ex_m30 0 20 [some (2, 379), some (0, l1), some (0, l2)] [] m Q
/-- PaperHouse$Inflate.fixedCodes()V -/
abbrev xc_in_fixedCodes (d : Nat) (m : w_M) (Q : Int → w_M → Prop) : Prop := x_C sC d 31 3 [(2, 379)] m Q
abbrev xp_in_fixedCodes_2 (d : Nat) (l1 : Int) (m : w_M) (Q : Int → w_M → Prop) : Prop := x_W sC d ex_m31 3 2 [some (2, 379), some (0, l1)] [] m Q
abbrev xp_in_fixedCodes_78 (d : Nat) (l1 : Int) (m : w_M) (Q : Int → w_M → Prop) : Prop := x_W sC d ex_m31 3 78 [some (2, 379), some (0, l1)] [] m Q
/-- PaperHouse$Inflate.readCodes()Z -/
abbrev xc_in_readCodes (d : Nat) (m : w_M) (Q : Int → w_M → Prop) : Prop := x_C sC d 32 0 [(2, 379)] m Q
abbrev xp_in_readCodes_86 (d : Nat) (l1 l2 : Int) (m : w_M) (Q : Int → w_M → Prop) : Prop := x_W sC d ex_m32 0 86 [some (2, 379), some (0, l1), some (0, l2), none] [] m Q
/-- PaperHouse$Inflate.readSizes()Z -/
abbrev xc_in_readSizes (d : Nat) (m : w_M) (Q : Int → w_M → Prop) : Prop := x_C sC d 33 0 [(2, 379)] m Q
abbrev xp_in_readSizes_12 (d : Nat) (l1 l2 : Int) (m : w_M) (Q : Int → w_M → Prop) : Prop := x_W sC d ex_m33 0 12 [some (2, 379), some (0, l1), some (0, l2), none, none, none, none] [] m Q
abbrev xp_in_readSizes_127 (d : Nat) (l1 l2 l3 l4 l5 : Int) (m : w_M) (Q : Int → w_M → Prop) : Prop := x_W sC d ex_m33 0 127 [some (2, 379), some (0, l1), some (0, l2), some (0, l3), some (0, l4), some (0, l5), none] [] m Q
abbrev xp_in_readSizes_159 (d : Nat) (l1 l2 l4 l5 l6 : Int) (m : w_M) (Q : Int → w_M → Prop) : Prop := x_W sC d ex_m33 0 159 [some (2, 379), some (0, l1), some (0, l2), none, some (0, l4), some (0, l5), some (0, l6)] [] m Q
/-- PaperHouse$Inflate.row(I)Z -/
abbrev xc_in_row (d : Nat) (l1 : Int) (m : w_M) (Q : Int → w_M → Prop) : Prop := x_C sC d 34 0 [(2, 379), (0, l1)] m Q
abbrev xp_in_row_120 (d : Nat) (l4 l6 l7 : Int) (m : w_M) (Q : Int → w_M → Prop) : Prop := x_W sC d ex_m34 0 120 [some (2, 379), none, none, none, some (0, l4), none, some (0, l6), some (0, l7), none] [] m Q
/-- PaperHouse$Inflate.run([BII[B)I -/
abbrev xc_in_run (d : Nat) (l1 l2 l3 l4 : Int) (m : w_M) (Q : Int → w_M → Prop) : Prop := x_C sC d 35 0 [(2, 379), (2, l1), (0, l2), (0, l3), (2, l4)] m Q
abbrev xp_in_run_125 (d : Nat) (l1 l7 l8 : Int) (m : w_M) (Q : Int → w_M → Prop) : Prop := x_W sC d ex_m35 0 125 [some (2, 379), some (2, l1), none, none, none, none, none, some (0, l7), some (0, l8), none, none] [] m Q
/-- PaperHouse$Inflate.stored()Z -/
abbrev xc_in_stored (d : Nat) (m : w_M) (Q : Int → w_M → Prop) : Prop := x_C sC d 36 0 [(2, 379)] m Q
abbrev xp_in_stored_38 (d : Nat) (l1 l3 : Int) (m : w_M) (Q : Int → w_M → Prop) : Prop := x_W sC d ex_m36 0 38 [some (2, 379), some (0, l1), none, some (0, l3), none] [] m Q
/-- PaperHouse$Inflate.symbol([I[I)I -/
abbrev xc_in_symbol (d : Nat) (l1 l2 : Int) (m : w_M) (Q : Int → w_M → Prop) : Prop := x_C sC d 37 0 [(2, 379), (2, l1), (2, l2)] m Q
abbrev xp_in_symbol_11 (d : Nat) (l1 l2 l3 l4 l5 l6 : Int) (m : w_M) (Q : Int → w_M → Prop) : Prop := x_W sC d ex_m37 0 11 [some (2, 379), some (2, l1), some (2, l2), some (0, l3), some (0, l4), some (0, l5), some (0, l6), none, none] [] m Q
abbrev xp_in_symbol_90 (d : Nat) (l1 l2 l3 l4 l5 l6 : Int) (m : w_M) (Q : Int → w_M → Prop) : Prop := x_W sC d ex_m37 0 90 [some (2, 379), some (2, l1), some (2, l2), some (0, l3), some (0, l4), some (0, l5), some (0, l6), none, none] [] m Q
/-- PaperHouse$Inflate.toWholeByte()V -/
abbrev xc_in_toWholeByte (d : Nat) (m : w_M) (Q : Int → w_M → Prop) : Prop := x_C sC d 38 3 [(2, 379)] m Q
/-- PaperHouse$Inflate.write(I)Z -/
abbrev xc_in_write (d : Nat) (l1 : Int) (m : w_M) (Q : Int → w_M → Prop) : Prop := x_C sC d 39 0 [(2, 379), (0, l1)] m Q
/-- PaperHouse$Loader.begin([BI)I -/
abbrev xc_lo_begin (d : Nat) (l1 l2 : Int) (m : w_M) (Q : Int → w_M → Prop) : Prop := x_C sC d 41 0 [(2, 394), (2, l1), (0, l2)] m Q
/-- PaperHouse$Loader.clip(I)I -/
abbrev xc_lo_clip (d : Nat) (l1 : Int) (m : w_M) (Q : Int → w_M → Prop) : Prop := x_C sC d 42 0 [(2, 394), (0, l1)] m Q
/-- PaperHouse$Loader.failObject(I)I -/
abbrev xc_lo_failObject (d : Nat) (l1 : Int) (m : w_M) (Q : Int → w_M → Prop) : Prop := x_C sC d 43 0 [(2, 394), (0, l1)] m Q
/-- PaperHouse$Loader.findInside(I)Z -/
abbrev xc_lo_findInside (d : Nat) (l1 : Int) (m : w_M) (Q : Int → w_M → Prop) : Prop := x_C sC d 44 0 [(2, 394), (0, l1)] m Q
abbrev xp_lo_findInside_97 (d : Nat) (l1 l2 l4 l5 s0 : Int) (m : w_M) (Q : Int → w_M → Prop) : Prop := x_W sC d ex_m44 0 97 [some (2, 394), some (0, l1), some (0, l2), none, some (0, l4), some (0, l5), none, none, none, none, none, none, none, none] [(0, s0)] m Q
abbrev xp_lo_findInside_148 (d : Nat) (l1 l2 l4 l5 l6 l7 l8 l9 l11 : Int) (m : w_M) (Q : Int → w_M → Prop) : Prop := x_W sC d ex_m44 0 148 [some (2, 394), some (0, l1), some (0, l2), none, some (0, l4), some (0, l5), some (0, l6), some (0, l7), some (0, l8), some (1, l9), none, some (0, l11), none, none] [] m Q
abbrev xp_lo_findInside_197 (d : Nat) (l1 l2 l4 l5 l7 l8 l9 l11 l12 l13 s0 : Int) (m : w_M) (Q : Int → w_M → Prop) : Prop := x_W sC d ex_m44 0 197 [some (2, 394), some (0, l1), some (0, l2), none, some (0, l4), some (0, l5), none, some (0, l7), some (0, l8), some (1, l9), none, some (0, l11), some (0, l12), some (0, l13)] [(0, s0)] m Q
abbrev xp_lo_findInside_237 (d : Nat) (l2 l6 l8 l9 : Int) (m : w_M) (Q : Int → w_M → Prop) : Prop := x_W sC d ex_m44 0 237 [some (2, 394), none, some (0, l2), none, none, none, some (0, l6), none, some (0, l8), some (1, l9), none, none, none, none] [] m Q
/-- PaperHouse$Loader.findPlaced(I)Z -/
abbrev xc_lo_findPlaced (d : Nat) (l1 : Int) (m : w_M) (Q : Int → w_M → Prop) : Prop := x_C sC d 45 0 [(2, 394), (0, l1)] m Q
abbrev xp_lo_findPlaced_58 (d : Nat) (l1 l2 s0 : Int) (m : w_M) (Q : Int → w_M → Prop) : Prop := x_W sC d ex_m45 0 58 [some (2, 394), some (0, l1), some (0, l2), none] [(0, s0)] m Q
/-- PaperHouse$Loader.isWaiting()Z -/
abbrev xc_lo_isWaiting (d : Nat) (m : w_M) (Q : Int → w_M → Prop) : Prop := x_C sC d 46 0 [(2, 394)] m Q
/-- PaperHouse$Loader.lastStart()I -/
abbrev xc_lo_lastStart (d : Nat) (m : w_M) (Q : Int → w_M → Prop) : Prop := x_C sC d 47 0 [(2, 394)] m Q
abbrev xp_lo_lastStart_11 (d : Nat) (l1 : Int) (m : w_M) (Q : Int → w_M → Prop) : Prop := x_W sC d ex_m47 0 11 [some (2, 394), some (0, l1), none] [] m Q
abbrev xp_lo_lastStart_17 (d : Nat) (l1 l2 : Int) (m : w_M) (Q : Int → w_M → Prop) : Prop := x_W sC d ex_m47 0 17 [some (2, 394), some (0, l1), some (0, l2)] [] m Q
/-- PaperHouse$Loader.nextUnread()I -/
abbrev xc_lo_nextUnread (d : Nat) (m : w_M) (Q : Int → w_M → Prop) : Prop := x_C sC d 48 0 [(2, 394)] m Q
abbrev xp_lo_nextUnread_2 (d : Nat) (l1 : Int) (m : w_M) (Q : Int → w_M → Prop) : Prop := x_W sC d ex_m48 0 2 [some (2, 394), some (0, l1), none] [] m Q
/-- PaperHouse$Loader.passes(Ljava/lang/String;I)Z -/
abbrev xc_lo_passes (d : Nat) (l1 l2 : Int) (m : w_M) (Q : Int → w_M → Prop) : Prop := x_C sC d 49 0 [(2, 394), (2, l1), (0, l2)] m Q
abbrev xp_lo_passes_2 (d : Nat) (l1 l2 l3 : Int) (m : w_M) (Q : Int → w_M → Prop) : Prop := x_W sC d ex_m49 0 2 [some (2, 394), some (2, l1), some (0, l2), some (0, l3)] [] m Q
/-- PaperHouse$Loader.passesBlanks()Z -/
abbrev xc_lo_passesBlanks (d : Nat) (m : w_M) (Q : Int → w_M → Prop) : Prop := x_C sC d 50 0 [(2, 394)] m Q
/-- PaperHouse$Loader.readBehind(II)V -/
abbrev xc_lo_readBehind (d : Nat) (l1 l2 : Int) (m : w_M) (Q : Int → w_M → Prop) : Prop := x_C sC d 51 3 [(2, 394), (0, l1), (0, l2)] m Q
/-- PaperHouse$Loader.readBody()I -/
abbrev xc_lo_readBody (d : Nat) (m : w_M) (Q : Int → w_M → Prop) : Prop := x_C sC d 52 0 [(2, 394)] m Q
abbrev xp_lo_readBody_141 (d : Nat) (l1 l2 l3 : Int) (m : w_M) (Q : Int → w_M → Prop) : Prop := x_W sC d ex_m52 0 141 [some (2, 394), some (0, l1), some (0, l2), some (0, l3), none] [] m Q
/-- PaperHouse$Loader.readObject(I)V -/
abbrev xc_lo_readObject (d : Nat) (l1 : Int) (m : w_M) (Q : Int → w_M → Prop) : Prop := x_C sC d 53 3 [(2, 394), (0, l1)] m Q
abbrev xp_lo_readObject_17 (d : Nat) (l1 s0 : Int) (m : w_M) (Q : Int → w_M → Prop) : Prop := x_W sC d ex_m53 3 17 [some (2, 394), some (0, l1), none, none, none] [(0, s0)] m Q
abbrev xp_lo_readObject_52 (d : Nat) (l1 l2 s0 : Int) (m : w_M) (Q : Int → w_M → Prop) : Prop := x_W sC d ex_m53 3 52 [some (2, 394), some (0, l1), some (0, l2), none, none] [(0, s0)] m Q
/-- PaperHouse$Loader.readStart()I -/
abbrev xc_lo_readStart (d : Nat) (m : w_M) (Q : Int → w_M → Prop) : Prop := x_C sC d 54 0 [(2, 394)] m Q
/-- PaperHouse$Loader.waits(I)Z -/
abbrev xc_lo_waits (d : Nat) (l1 : Int) (m : w_M) (Q : Int → w_M → Prop) : Prop := x_C sC d 55 0 [(2, 394), (0, l1)] m Q
abbrev xp_lo_waits_2 (d : Nat) (l1 l2 : Int) (m : w_M) (Q : Int → w_M → Prop) : Prop := x_W sC d ex_m55 0 2 [some (2, 394), some (0, l1), some (0, l2)] [] m Q
/-- PaperHouse$Painter.advance(J)Z -/
abbrev xc_pa_advance (d : Nat) (l1 : Int) (m : w_M) (Q : Int → w_M → Prop) : Prop := x_C sC d 57 0 [(2, 404), (1, l1)] m Q
/-- PaperHouse$Painter.areNumbers(I)Z -/
abbrev xc_pa_areNumbers (d : Nat) (l1 : Int) (m : w_M) (Q : Int → w_M → Prop) : Prop := x_C sC d 58 0 [(2, 404), (0, l1)] m Q
abbrev xp_pa_areNumbers_2 (d : Nat) (l1 l2 : Int) (m : w_M) (Q : Int → w_M → Prop) : Prop := x_W sC d ex_m58 0 2 [some (2, 404), some (0, l1), some (0, l2)] [] m Q
/-- PaperHouse$Painter.arePieces(I)Z -/
abbrev xc_pa_arePieces (d : Nat) (l1 : Int) (m : w_M) (Q : Int → w_M → Prop) : Prop := x_C sC d 59 0 [(2, 404), (0, l1)] m Q
abbrev xp_pa_arePieces_18 (d : Nat) (l2 l3 : Int) (m : w_M) (Q : Int → w_M → Prop) : Prop := x_W sC d ex_m59 0 18 [some (2, 404), none, some (0, l2), some (0, l3)] [] m Q
/-- PaperHouse$Painter.findsFont(I)Z -/
abbrev xc_pa_findsFont (d : Nat) (l1 : Int) (m : w_M) (Q : Int → w_M → Prop) : Prop := x_C sC d 60 0 [(2, 404), (0, l1)] m Q
/-- PaperHouse$Painter.fits(I)Z -/
abbrev xc_pa_fits (d : Nat) (l1 : Int) (m : w_M) (Q : Int → w_M → Prop) : Prop := x_C sC d 61 0 [(2, 404), (0, l1)] m Q
/-- PaperHouse$Painter.forget()V -/
abbrev xc_pa_forget (d : Nat) (m : w_M) (Q : Int → w_M → Prop) : Prop := x_C sC d 62 3 [(2, 404)] m Q
/-- PaperHouse$Painter.form(I)I -/
abbrev xc_pa_form (d : Nat) (l0 : Int) (m : w_M) (Q : Int → w_M → Prop) : Prop := x_C sC d 63 0 [(0, l0)] m Q
/-- PaperHouse$Painter.give(IIIIII)V -/
abbrev xc_pa_give (d : Nat) (l1 l2 l3 l4 l5 l6 : Int) (m : w_M) (Q : Int → w_M → Prop) : Prop := x_C sC d 64 3 [(2, 404), (0, l1), (0, l2), (0, l3), (0, l4), (0, l5), (0, l6)] m Q
/-- PaperHouse$Painter.giveOperands()V -/
abbrev xc_pa_giveOperands (d : Nat) (m : w_M) (Q : Int → w_M → Prop) : Prop := x_C sC d 65 3 [(2, 404)] m Q
abbrev xp_pa_giveOperands_2 (d : Nat) (l1 : Int) (m : w_M) (Q : Int → w_M → Prop) : Prop := x_W sC d ex_m65 3 2 [some (2, 404), some (0, l1)] [] m Q
/-- PaperHouse$Painter.glyphAt(II)I -/
abbrev xc_pa_glyphAt (d : Nat) (l1 l2 : Int) (m : w_M) (Q : Int → w_M → Prop) : Prop := x_C sC d 66 0 [(2, 404), (0, l1), (0, l2)] m Q
/-- PaperHouse$Painter.hasString(I)Z -/
abbrev xc_pa_hasString (d : Nat) (l1 : Int) (m : w_M) (Q : Int → w_M → Prop) : Prop := x_C sC d 67 0 [(2, 404), (0, l1)] m Q
abbrev xp_pa_hasString_18 (d : Nat) (l2 l3 : Int) (m : w_M) (Q : Int → w_M → Prop) : Prop := x_W sC d ex_m67 0 18 [some (2, 404), none, some (0, l2), some (0, l3)] [] m Q
/-- PaperHouse$Painter.isInOrder(I)Z -/
abbrev xc_pa_isInOrder (d : Nat) (l1 : Int) (m : w_M) (Q : Int → w_M → Prop) : Prop := x_C sC d 68 0 [(2, 404), (0, l1)] m Q
/-- PaperHouse$Painter.keepGlyph(I)V -/
abbrev xc_pa_keepGlyph (d : Nat) (l1 : Int) (m : w_M) (Q : Int → w_M → Prop) : Prop := x_C sC d 69 3 [(2, 404), (0, l1)] m Q
/-- PaperHouse$Painter.multiply([I[I[I)Z -/
abbrev xc_pa_multiply (d : Nat) (l0 l1 l2 : Int) (m : w_M) (Q : Int → w_M → Prop) : Prop := x_C sC d 70 0 [(2, l0), (2, l1), (2, l2)] m Q
abbrev xp_pa_multiply_48 (d : Nat) (l0 l1 l2 l3 l4 l5 l6 l7 l8 : Int) (m : w_M) (Q : Int → w_M → Prop) : Prop := x_W sC d ex_m70 0 48 [some (2, l0), some (2, l1), some (2, l2), some (0, l3), some (0, l4), some (0, l5), some (0, l6), some (0, l7), some (0, l8), none, none, none, none, none, none] [] m Q
abbrev xp_pa_multiply_100 (d : Nat) (l0 l1 l2 l3 l4 l5 l6 l7 l8 l9 l10 s0 s1 : Int) (m : w_M) (Q : Int → w_M → Prop) : Prop := x_W sC d ex_m70 0 100 [some (2, l0), some (2, l1), some (2, l2), some (0, l3), some (0, l4), some (0, l5), some (0, l6), some (0, l7), some (0, l8), some (0, l9), some (0, l10), none, none, none, none] [(0, s1), (1, s0)] m Q
abbrev xp_pa_multiply_136 (d : Nat) (l0 l1 l2 l3 l4 l5 l6 l7 l8 l11 s0 s1 : Int) (m : w_M) (Q : Int → w_M → Prop) : Prop := x_W sC d ex_m70 0 136 [some (2, l0), some (2, l1), some (2, l2), some (0, l3), some (0, l4), some (0, l5), some (0, l6), some (0, l7), some (0, l8), none, none, some (1, l11), none, none, none] [(0, s1), (1, s0)] m Q
/-- PaperHouse$Painter.nextLine(II)Z -/
abbrev xc_pa_nextLine (d : Nat) (l1 l2 : Int) (m : w_M) (Q : Int → w_M → Prop) : Prop := x_C sC d 71 0 [(2, 404), (0, l1), (0, l2)] m Q
/-- PaperHouse$Painter.operand(I)I -/
abbrev xc_pa_operand (d : Nat) (l1 : Int) (m : w_M) (Q : Int → w_M → Prop) : Prop := x_C sC d 72 0 [(2, 404), (0, l1)] m Q
/-- PaperHouse$Painter.operate(II)V -/
abbrev xc_pa_operate (d : Nat) (l1 l2 : Int) (m : w_M) (Q : Int → w_M → Prop) : Prop := x_C sC d 73 3 [(2, 404), (0, l1), (0, l2)] m Q
abbrev xp_pa_operate_45 (d : Nat) (l1 l2 l3 s0 : Int) (m : w_M) (Q : Int → w_M → Prop) : Prop := x_W sC d ex_m73 3 45 [some (2, 404), some (0, l1), some (0, l2), some (0, l3), none] [(0, s0)] m Q
/-- PaperHouse$Painter.paint(I)V -/
abbrev xc_pa_paint (d : Nat) (l1 : Int) (m : w_M) (Q : Int → w_M → Prop) : Prop := x_C sC d 74 3 [(2, 404), (0, l1)] m Q
abbrev xp_pa_paint_130 (d : Nat) (l2 l3 l4 l5 : Int) (m : w_M) (Q : Int → w_M → Prop) : Prop := x_W sC d ex_m74 3 130 [some (2, 404), none, some (0, l2), some (0, l3), some (0, l4), some (0, l5), none, none] [] m Q
abbrev xp_pa_paint_281 (d : Nat) (l2 l3 l4 : Int) (m : w_M) (Q : Int → w_M → Prop) : Prop := x_W sC d ex_m74 3 281 [some (2, 404), none, some (0, l2), some (0, l3), some (0, l4), none, none, none] [] m Q
abbrev xp_pa_paint_295 (d : Nat) (l2 l3 l4 : Int) (m : w_M) (Q : Int → w_M → Prop) : Prop := x_W sC d ex_m74 3 295 [some (2, 404), none, some (0, l2), some (0, l3), some (0, l4), none, none, none] [] m Q
/-- PaperHouse$Painter.readFont(I)Z -/
abbrev xc_pa_readFont (d : Nat) (l1 : Int) (m : w_M) (Q : Int → w_M → Prop) : Prop := x_C sC d 75 0 [(2, 404), (0, l1)] m Q
abbrev xp_pa_readFont_170 (d : Nat) (l5 l6 l7 l8 : Int) (m : w_M) (Q : Int → w_M → Prop) : Prop := x_W sC d ex_m75 0 170 [some (2, 404), none, none, none, none, some (0, l5), some (0, l6), some (0, l7), some (0, l8), none] [] m Q
/-- PaperHouse$Painter.resources()I -/
abbrev xc_pa_resources (d : Nat) (m : w_M) (Q : Int → w_M → Prop) : Prop := x_C sC d 76 0 [(2, 404)] m Q
/-- PaperHouse$Painter.scaled(J)J -/
abbrev xc_pa_scaled (d : Nat) (l1 : Int) (m : w_M) (Q : Int → w_M → Prop) : Prop := x_C sC d 77 1 [(2, 404), (1, l1)] m Q
/-- PaperHouse$Painter.showString(I)I -/
abbrev xc_pa_showString (d : Nat) (l1 : Int) (m : w_M) (Q : Int → w_M → Prop) : Prop := x_C sC d 78 0 [(2, 404), (0, l1)] m Q
abbrev xp_pa_showString_2 (d : Nat) (l1 l2 : Int) (m : w_M) (Q : Int → w_M → Prop) : Prop := x_W sC d ex_m78 0 2 [some (2, 404), some (0, l1), some (0, l2), none, none, none] [] m Q
/-- PaperHouse$Painter.showText(II)I -/
abbrev xc_pa_showText (d : Nat) (l1 l2 : Int) (m : w_M) (Q : Int → w_M → Prop) : Prop := x_C sC d 79 0 [(2, 404), (0, l1), (0, l2)] m Q
abbrev xp_pa_showText_19 (d : Nat) (l2 : Int) (m : w_M) (Q : Int → w_M → Prop) : Prop := x_W sC d ex_m79 0 19 [some (2, 404), none, some (0, l2), none, none, none] [] m Q
abbrev xp_pa_showText_65 (d : Nat) (l3 l4 l5 : Int) (m : w_M) (Q : Int → w_M → Prop) : Prop := x_W sC d ex_m79 0 65 [some (2, 404), none, none, some (0, l3), some (0, l4), some (0, l5)] [] m Q
/-- PaperHouse$Painter.times(JJ)J -/
abbrev xc_pa_times (d : Nat) (l0 l2 : Int) (m : w_M) (Q : Int → w_M → Prop) : Prop := x_C sC d 80 1 [(1, l0), (1, l2)] m Q
/-- PaperHouse$Painter.work(I)I -/
abbrev xc_pa_work (d : Nat) (l1 : Int) (m : w_M) (Q : Int → w_M → Prop) : Prop := x_C sC d 81 0 [(2, 404), (0, l1)] m Q
/-- PaperHouse$Painter.workInText(I)I -/
abbrev xc_pa_workInText (d : Nat) (l1 : Int) (m : w_M) (Q : Int → w_M → Prop) : Prop := x_C sC d 82 0 [(2, 404), (0, l1)] m Q
/-- PaperHouse$Painter.wrong()I -/
abbrev xc_pa_wrong (d : Nat) (m : w_M) (Q : Int → w_M → Prop) : Prop := x_C sC d 83 0 [(2, 404)] m Q
/-- PaperHouse$Painter.wrongAt()I -/
abbrev xc_pa_wrongAt (d : Nat) (m : w_M) (Q : Int → w_M → Prop) : Prop := x_C sC d 84 0 [(2, 404)] m Q
/-- PaperHouse$Parser.at(I)I -/
abbrev xc_ps_at (d : Nat) (l0 l1 : Int) (m : w_M) (Q : Int → w_M → Prop) : Prop := x_C sC d 86 0 [(2, l0), (0, l1)] m Q
/-- PaperHouse$Parser.body()I -/
abbrev xc_ps_body (d : Nat) (l0 : Int) (m : w_M) (Q : Int → w_M → Prop) : Prop := x_C sC d 87 0 [(2, l0)] m Q
/-- PaperHouse$Parser.closes(II)Z -/
abbrev xc_ps_closes (d : Nat) (l0 l1 l2 : Int) (m : w_M) (Q : Int → w_M → Prop) : Prop := x_C sC d 88 0 [(2, l0), (0, l1), (0, l2)] m Q
/-- PaperHouse$Parser.compound(IZ)I -/
abbrev xc_ps_compound (d : Nat) (l0 l1 l2 : Int) (m : w_M) (Q : Int → w_M → Prop) : Prop := x_C sC d 89 0 [(2, l0), (0, l1), (0, l2)] m Q
abbrev xp_ps_compound_33 (d : Nat) (l0 l1 l2 l3 s0 : Int) (m : w_M) (Q : Int → w_M → Prop) : Prop := x_W sC d ex_m89 0 33 [some (2, l0), some (0, l1), some (0, l2), some (0, l3), none, none, none, none, none, none] [(0, s0)] m Q
abbrev xp_ps_compound_71 (d : Nat) (l0 l1 l2 l4 l5 l6 : Int) (m : w_M) (Q : Int → w_M → Prop) : Prop := x_W sC d ex_m89 0 71 [some (2, l0), some (0, l1), some (0, l2), none, some (0, l4), some (0, l5), some (0, l6), none, none, none] [] m Q
abbrev xp_ps_compound_184 (d : Nat) (l0 l1 l2 l4 l5 l6 l7 s0 : Int) (m : w_M) (Q : Int → w_M → Prop) : Prop := x_W sC d ex_m89 0 184 [some (2, l0), some (0, l1), some (0, l2), none, some (0, l4), some (0, l5), some (0, l6), some (0, l7), none, none] [(0, s0)] m Q
abbrev xp_ps_compound_234 (d : Nat) (l0 l1 l2 l4 l5 l6 l8 s0 : Int) (m : w_M) (Q : Int → w_M → Prop) : Prop := x_W sC d ex_m89 0 234 [some (2, l0), some (0, l1), some (0, l2), none, some (0, l4), some (0, l5), some (0, l6), none, some (0, l8), none] [(0, s0)] m Q
/-- PaperHouse$Parser.countAnew()V -/
abbrev xc_ps_countAnew (d : Nat) (l0 : Int) (m : w_M) (Q : Int → w_M → Prop) : Prop := x_C sC d 90 3 [(2, l0)] m Q
/-- PaperHouse$Parser.digits()J -/
abbrev xc_ps_digits (d : Nat) (l0 : Int) (m : w_M) (Q : Int → w_M → Prop) : Prop := x_C sC d 91 1 [(2, l0)] m Q
abbrev xp_ps_digits_20 (d : Nat) (l0 l1 : Int) (m : w_M) (Q : Int → w_M → Prop) : Prop := x_W sC d ex_m91 1 20 [some (2, l0), some (1, l1), none] [] m Q
/-- PaperHouse$Parser.escaped(I)I -/
abbrev xc_ps_escaped (d : Nat) (l0 : Int) (m : w_M) (Q : Int → w_M → Prop) : Prop := x_C sC d 92 0 [(0, l0)] m Q
/-- PaperHouse$Parser.fail(II)I -/
abbrev xc_ps_fail (d : Nat) (l0 l1 l2 : Int) (m : w_M) (Q : Int → w_M → Prop) : Prop := x_C sC d 93 0 [(2, l0), (0, l1), (0, l2)] m Q
/-- PaperHouse$Parser.failAt(II)I -/
abbrev xc_ps_failAt (d : Nat) (l0 l1 l2 : Int) (m : w_M) (Q : Int → w_M → Prop) : Prop := x_C sC d 94 0 [(2, l0), (0, l1), (0, l2)] m Q
/-- PaperHouse$Parser.hex(I)I -/
abbrev xc_ps_hex (d : Nat) (l0 : Int) (m : w_M) (Q : Int → w_M → Prop) : Prop := x_C sC d 95 0 [(0, l0)] m Q
abbrev xp_ps_hex_17 (d : Nat) (l0 : Int) (m : w_M) (Q : Int → w_M → Prop) : Prop := x_W sC d ex_m95 0 17 [some (0, l0)] [] m Q
/-- PaperHouse$Parser.isDigit(I)Z -/
abbrev xc_ps_isDigit (d : Nat) (l0 : Int) (m : w_M) (Q : Int → w_M → Prop) : Prop := x_C sC d 96 0 [(0, l0)] m Q
/-- PaperHouse$Parser.isRegular(I)Z -/
abbrev xc_ps_isRegular (d : Nat) (l0 : Int) (m : w_M) (Q : Int → w_M → Prop) : Prop := x_C sC d 97 0 [(0, l0)] m Q
/-- PaperHouse$Parser.isTwice(II)Z -/
abbrev xc_ps_isTwice (d : Nat) (l0 l1 l2 : Int) (m : w_M) (Q : Int → w_M → Prop) : Prop := x_C sC d 98 0 [(2, l0), (0, l1), (0, l2)] m Q
abbrev xp_ps_isTwice_5 (d : Nat) (l0 l1 l2 l3 l4 : Int) (m : w_M) (Q : Int → w_M → Prop) : Prop := x_W sC d ex_m98 0 5 [some (2, l0), some (0, l1), some (0, l2), some (0, l3), some (0, l4), none, none] [] m Q
abbrev xp_ps_isTwice_69 (d : Nat) (l0 l2 l3 l4 l5 : Int) (m : w_M) (Q : Int → w_M → Prop) : Prop := x_W sC d ex_m98 0 69 [some (2, l0), none, some (0, l2), some (0, l3), some (0, l4), some (0, l5), none] [] m Q
/-- PaperHouse$Parser.isWhite(I)Z -/
abbrev xc_ps_isWhite (d : Nat) (l0 : Int) (m : w_M) (Q : Int → w_M → Prop) : Prop := x_C sC d 99 0 [(0, l0)] m Q
/-- PaperHouse$Parser.literal(I)I -/
abbrev xc_ps_literal (d : Nat) (l0 l1 : Int) (m : w_M) (Q : Int → w_M → Prop) : Prop := x_C sC d 100 0 [(2, l0), (0, l1)] m Q
/-- PaperHouse$Parser.lookAtRow()V -/
abbrev xc_ps_lookAtRow (d : Nat) (l0 : Int) (m : w_M) (Q : Int → w_M → Prop) : Prop := x_C sC d 101 3 [(2, l0)] m Q
abbrev xp_ps_lookAtRow_52 (d : Nat) (l0 l1 l2 l3 l4 l5 l6 l8 l10 l12 : Int) (m : w_M) (Q : Int → w_M → Prop) : Prop := x_W sC d ex_m101 3 52 [some (2, l0), some (0, l1), some (0, l2), some (0, l3), some (0, l4), some (0, l5), some (1, l6), none, some (1, l8), none, some (1, l10), none, some (0, l12), none, none] [] m Q
abbrev xp_ps_lookAtRow_108 (d : Nat) (l0 l1 l2 l3 l4 l5 l6 l8 l10 l12 l13 : Int) (m : w_M) (Q : Int → w_M → Prop) : Prop := x_W sC d ex_m101 3 108 [some (2, l0), some (0, l1), some (0, l2), some (0, l3), some (0, l4), some (0, l5), some (1, l6), none, some (1, l8), none, some (1, l10), none, some (0, l12), some (0, l13), none] [] m Q
abbrev xp_ps_lookAtRow_242 (d : Nat) (l0 l1 l2 l3 l4 l5 l6 l8 l10 l12 : Int) (m : w_M) (Q : Int → w_M → Prop) : Prop := x_W sC d ex_m101 3 242 [some (2, l0), some (0, l1), some (0, l2), some (0, l3), some (0, l4), some (0, l5), some (1, l6), none, some (1, l8), none, some (1, l10), none, some (0, l12), none, none] [] m Q
abbrev xp_ps_lookAtRow_279 (d : Nat) (l0 l1 l3 l4 l5 l6 l8 l10 s1 : Int) (m : w_M) (Q : Int → w_M → Prop) : Prop := x_W sC d ex_m101 3 279 [some (2, l0), some (0, l1), none, some (0, l3), some (0, l4), some (0, l5), some (1, l6), none, some (1, l8), none, some (1, l10), none, none, none, none] [(0, s1), (2, l0)] m Q
abbrev xp_ps_lookAtRow_328 (d : Nat) (l0 l3 l4 l5 s0 : Int) (m : w_M) (Q : Int → w_M → Prop) : Prop := x_W sC d ex_m101 3 328 [some (2, l0), none, none, some (0, l3), some (0, l4), some (0, l5), none, none, none, none, none, none, none, none, none] [(1, s0)] m Q
/-- PaperHouse$Parser.make(IIII)I -/
abbrev xc_ps_make (d : Nat) (l0 l1 l2 l3 l4 : Int) (m : w_M) (Q : Int → w_M → Prop) : Prop := x_C sC d 102 0 [(2, l0), (0, l1), (0, l2), (0, l3), (0, l4)] m Q
abbrev xp_ps_make_15 (d : Nat) (l0 l1 l2 l3 l4 s0 : Int) (m : w_M) (Q : Int → w_M → Prop) : Prop := x_W sC d ex_m102 0 15 [some (2, l0), some (0, l1), some (0, l2), some (0, l3), some (0, l4), none, none] [(0, s0)] m Q
/-- PaperHouse$Parser.name()I -/
abbrev xc_ps_name (d : Nat) (l0 : Int) (m : w_M) (Q : Int → w_M → Prop) : Prop := x_C sC d 103 0 [(2, l0)] m Q
abbrev xp_ps_name_14 (d : Nat) (l0 l1 l2 : Int) (m : w_M) (Q : Int → w_M → Prop) : Prop := x_W sC d ex_m103 0 14 [some (2, l0), some (0, l1), some (0, l2), none, none, none] [] m Q
abbrev xp_ps_name_113 (d : Nat) (l0 l1 l2 : Int) (m : w_M) (Q : Int → w_M → Prop) : Prop := x_W sC d ex_m103 0 113 [some (2, l0), some (0, l1), some (0, l2), none, none, none] [] m Q
/-- PaperHouse$Parser.noKey(I)I -/
abbrev xc_ps_noKey (d : Nat) (l0 l1 : Int) (m : w_M) (Q : Int → w_M → Prop) : Prop := x_C sC d 104 0 [(2, l0), (0, l1)] m Q
abbrev xp_ps_noKey_30 (d : Nat) (l0 l1 l2 : Int) (m : w_M) (Q : Int → w_M → Prop) : Prop := x_W sC d ex_m104 0 30 [some (2, l0), some (0, l1), some (0, l2), none] [] m Q
abbrev xp_ps_noKey_53 (d : Nat) (l0 l1 : Int) (m : w_M) (Q : Int → w_M → Prop) : Prop := x_W sC d ex_m104 0 53 [some (2, l0), some (0, l1), none, none] [] m Q
abbrev xp_ps_noKey_84 (d : Nat) (l0 l1 : Int) (m : w_M) (Q : Int → w_M → Prop) : Prop := x_W sC d ex_m104 0 84 [some (2, l0), some (0, l1), none, none] [] m Q
/-- PaperHouse$Parser.object(I)I -/
abbrev xc_ps_object (d : Nat) (l0 l1 : Int) (m : w_M) (Q : Int → w_M → Prop) : Prop := x_C sC d 105 0 [(2, l0), (0, l1)] m Q
/-- PaperHouse$Parser.open([BII)V -/
abbrev xc_ps_open (d : Nat) (l0 l1 l2 l3 : Int) (m : w_M) (Q : Int → w_M → Prop) : Prop := x_C sC d 106 3 [(2, l0), (2, l1), (0, l2), (0, l3)] m Q
/-- PaperHouse$Parser.operator()I -/
abbrev xc_ps_operator (d : Nat) (l0 : Int) (m : w_M) (Q : Int → w_M → Prop) : Prop := x_C sC d 107 0 [(2, l0)] m Q
/-- PaperHouse$Parser.plain(I)I -/
abbrev xc_ps_plain (d : Nat) (l0 l1 : Int) (m : w_M) (Q : Int → w_M → Prop) : Prop := x_C sC d 108 0 [(2, l0), (0, l1)] m Q
/-- PaperHouse$Parser.put(I)V -/
abbrev xc_ps_put (d : Nat) (l0 l1 : Int) (m : w_M) (Q : Int → w_M → Prop) : Prop := x_C sC d 109 3 [(2, l0), (0, l1)] m Q
/-- PaperHouse$Parser.restart(Z)V -/
abbrev xc_ps_restart (d : Nat) (l0 l1 : Int) (m : w_M) (Q : Int → w_M → Prop) : Prop := x_C sC d 110 3 [(2, l0), (0, l1)] m Q
/-- PaperHouse$Parser.rowIs(Ljava/lang/String;)Z -/
abbrev xc_ps_rowIs (d : Nat) (l0 l1 : Int) (m : w_M) (Q : Int → w_M → Prop) : Prop := x_C sC d 111 0 [(2, l0), (2, l1)] m Q
abbrev xp_ps_rowIs_20 (d : Nat) (l0 l1 l2 : Int) (m : w_M) (Q : Int → w_M → Prop) : Prop := x_W sC d ex_m111 0 20 [some (2, l0), some (2, l1), some (0, l2)] [] m Q
/-- PaperHouse$Parser.rowOfDigits()J -/
abbrev xc_ps_rowOfDigits (d : Nat) (l0 : Int) (m : w_M) (Q : Int → w_M → Prop) : Prop := x_C sC d 112 1 [(2, l0)] m Q
/-- PaperHouse$Parser.scanEscape()V -/
abbrev xc_ps_scanEscape (d : Nat) (l0 : Int) (m : w_M) (Q : Int → w_M → Prop) : Prop := x_C sC d 113 3 [(2, l0)] m Q
abbrev xp_ps_scanEscape_53 (d : Nat) (l0 l3 l4 : Int) (m : w_M) (Q : Int → w_M → Prop) : Prop := x_W sC d ex_m113 3 53 [some (2, l0), none, none, some (0, l3), some (0, l4)] [] m Q
abbrev xp_ps_scanEscape_130 (d : Nat) (l0 l1 : Int) (m : w_M) (Q : Int → w_M → Prop) : Prop := x_W sC d ex_m113 3 130 [some (2, l0), some (0, l1), none, none, none] [] m Q
/-- PaperHouse$Parser.scanHex()Z -/
abbrev xc_ps_scanHex (d : Nat) (l0 : Int) (m : w_M) (Q : Int → w_M → Prop) : Prop := x_C sC d 114 0 [(2, l0)] m Q
abbrev xp_ps_scanHex_17 (d : Nat) (l0 l1 : Int) (m : w_M) (Q : Int → w_M → Prop) : Prop := x_W sC d ex_m114 0 17 [some (2, l0), some (0, l1), none, none] [] m Q
abbrev xp_ps_scanHex_85 (d : Nat) (l0 l1 l3 : Int) (m : w_M) (Q : Int → w_M → Prop) : Prop := x_W sC d ex_m114 0 85 [some (2, l0), some (0, l1), none, some (0, l3)] [] m Q
/-- PaperHouse$Parser.scanRound()Z -/
abbrev xc_ps_scanRound (d : Nat) (l0 : Int) (m : w_M) (Q : Int → w_M → Prop) : Prop := x_C sC d 115 0 [(2, l0)] m Q
abbrev xp_ps_scanRound_17 (d : Nat) (l0 l1 : Int) (m : w_M) (Q : Int → w_M → Prop) : Prop := x_W sC d ex_m115 0 17 [some (2, l0), some (0, l1), none] [] m Q
abbrev xp_ps_scanRound_115 (d : Nat) (l0 l1 l2 : Int) (m : w_M) (Q : Int → w_M → Prop) : Prop := x_W sC d ex_m115 0 115 [some (2, l0), some (0, l1), some (0, l2)] [] m Q
/-- PaperHouse$Parser.skipBlanks()V -/
abbrev xc_ps_skipBlanks (d : Nat) (l0 : Int) (m : w_M) (Q : Int → w_M → Prop) : Prop := x_C sC d 116 3 [(2, l0)] m Q
abbrev xp_ps_skipBlanks_0 (d : Nat) (l0 : Int) (m : w_M) (Q : Int → w_M → Prop) : Prop := x_W sC d ex_m116 3 0 [some (2, l0)] [] m Q
/-- PaperHouse$Parser.skipLineEnd()Z -/
abbrev xc_ps_skipLineEnd (d : Nat) (l0 : Int) (m : w_M) (Q : Int → w_M → Prop) : Prop := x_C sC d 117 0 [(2, l0)] m Q
/-- PaperHouse$Parser.skipWhite()V -/
abbrev xc_ps_skipWhite (d : Nat) (l0 : Int) (m : w_M) (Q : Int → w_M → Prop) : Prop := x_C sC d 118 3 [(2, l0)] m Q
abbrev xp_ps_skipWhite_2 (d : Nat) (l0 l1 : Int) (m : w_M) (Q : Int → w_M → Prop) : Prop := x_W sC d ex_m118 3 2 [some (2, l0), some (0, l1), none] [] m Q
/-- PaperHouse$Parser.string()I -/
abbrev xc_ps_string (d : Nat) (l0 : Int) (m : w_M) (Q : Int → w_M → Prop) : Prop := x_C sC d 119 0 [(2, l0)] m Q
abbrev xp_ps_string_26 (d : Nat) (l0 l1 s0 : Int) (m : w_M) (Q : Int → w_M → Prop) : Prop := x_W sC d ex_m119 0 26 [some (2, l0), some (0, l1), none] [(0, s0)] m Q
/-- PaperHouse$Parser.unsigned()I -/
abbrev xc_ps_unsigned (d : Nat) (l0 : Int) (m : w_M) (Q : Int → w_M → Prop) : Prop := x_C sC d 120 0 [(2, l0)] m Q
/-- PaperHouse$Parser.word(Ljava/lang/String;)Z -/
abbrev xc_ps_word (d : Nat) (l0 l1 : Int) (m : w_M) (Q : Int → w_M → Prop) : Prop := x_C sC d 121 0 [(2, l0), (2, l1)] m Q
/-- PaperHouse$Parser.wordHere(Ljava/lang/String;)Z -/
abbrev xc_ps_wordHere (d : Nat) (l0 l1 : Int) (m : w_M) (Q : Int → w_M → Prop) : Prop := x_C sC d 122 0 [(2, l0), (2, l1)] m Q
/-- PaperHouse$Sections.clear()V -/
abbrev xc_se_clear (d : Nat) (m : w_M) (Q : Int → w_M → Prop) : Prop := x_C sC d 124 3 [(2, 391)] m Q
/-- PaperHouse$Sections.headsRows(I)Z -/
abbrev xc_se_headsRows (d : Nat) (l1 : Int) (m : w_M) (Q : Int → w_M → Prop) : Prop := x_C sC d 125 0 [(2, 391), (0, l1)] m Q
abbrev xp_se_headsRows_31 (d : Nat) (l2 s0 : Int) (m : w_M) (Q : Int → w_M → Prop) : Prop := x_W sC d ex_m125 0 31 [some (2, 391), none, some (0, l2), none] [(0, s0)] m Q
/-- PaperHouse$Sections.isEntry(I)Z -/
abbrev xc_se_isEntry (d : Nat) (l1 : Int) (m : w_M) (Q : Int → w_M → Prop) : Prop := x_C sC d 126 0 [(2, 391), (0, l1)] m Q
abbrev xp_se_isEntry_2 (d : Nat) (l1 l2 : Int) (m : w_M) (Q : Int → w_M → Prop) : Prop := x_W sC d ex_m126 0 2 [some (2, 391), some (0, l1), some (0, l2), none, none] [] m Q
abbrev xp_se_isEntry_114 (d : Nat) (l3 l4 : Int) (m : w_M) (Q : Int → w_M → Prop) : Prop := x_W sC d ex_m126 0 114 [none, none, none, some (0, l3), some (0, l4)] [] m Q
/-- PaperHouse$Sections.newest()I -/
abbrev xc_se_newest (d : Nat) (m : w_M) (Q : Int → w_M → Prop) : Prop := x_C sC d 127 0 [(2, 391)] m Q
/-- PaperHouse$Sections.number(I)J -/
abbrev xc_se_number (d : Nat) (l1 : Int) (m : w_M) (Q : Int → w_M → Prop) : Prop := x_C sC d 128 1 [(2, 391), (0, l1)] m Q
abbrev xp_se_number_5 (d : Nat) (l1 l2 l4 : Int) (m : w_M) (Q : Int → w_M → Prop) : Prop := x_W sC d ex_m128 1 5 [some (2, 391), some (0, l1), some (1, l2), none, some (0, l4), none] [] m Q
/-- PaperHouse$Sections.read(I[B)I -/
abbrev xc_se_read (d : Nat) (l1 l2 : Int) (m : w_M) (Q : Int → w_M → Prop) : Prop := x_C sC d 129 0 [(2, 391), (0, l1), (2, l2)] m Q
abbrev xp_se_read_2 (d : Nat) (l1 l2 l3 : Int) (m : w_M) (Q : Int → w_M → Prop) : Prop := x_W sC d ex_m129 0 2 [some (2, 391), some (0, l1), some (2, l2), some (0, l3), none, none, none] [] m Q
abbrev xp_se_read_42 (d : Nat) (l1 l2 : Int) (m : w_M) (Q : Int → w_M → Prop) : Prop := x_W sC d ex_m129 0 42 [some (2, 391), some (0, l1), some (2, l2), none, none, none, none] [] m Q
abbrev xp_se_read_152 (d : Nat) (l1 l2 s0 : Int) (m : w_M) (Q : Int → w_M → Prop) : Prop := x_W sC d ex_m129 0 152 [some (2, 391), some (0, l1), some (2, l2), none, none, none, none] [(0, s0)] m Q
abbrev xp_se_read_198 (d : Nat) (l1 l2 l3 l5 s0 : Int) (m : w_M) (Q : Int → w_M → Prop) : Prop := x_W sC d ex_m129 0 198 [some (2, 391), some (0, l1), some (2, l2), some (0, l3), none, some (0, l5), none] [(0, s0)] m Q
abbrev xp_se_read_247 (d : Nat) (l1 l3 l5 l6 : Int) (m : w_M) (Q : Int → w_M → Prop) : Prop := x_W sC d ex_m129 0 247 [some (2, 391), some (0, l1), none, some (0, l3), none, some (0, l5), some (0, l6)] [] m Q
/-- PaperHouse$Sections.readEntries(II)Z -/
abbrev xc_se_readEntries (d : Nat) (l1 l2 : Int) (m : w_M) (Q : Int → w_M → Prop) : Prop := x_C sC d 130 0 [(2, 391), (0, l1), (0, l2)] m Q
abbrev xp_se_readEntries_2 (d : Nat) (l1 l2 l3 : Int) (m : w_M) (Q : Int → w_M → Prop) : Prop := x_W sC d ex_m130 0 2 [some (2, 391), some (0, l1), some (0, l2), some (0, l3), none, none, none, none] [] m Q
abbrev xp_se_readEntries_98 (d : Nat) (l1 l2 l3 l4 l5 l6 s0 : Int) (m : w_M) (Q : Int → w_M → Prop) : Prop := x_W sC d ex_m130 0 98 [some (2, 391), some (0, l1), some (0, l2), some (0, l3), some (0, l4), some (0, l5), some (0, l6), none] [(0, s0)] m Q
/-- PaperHouse$Sections.readPair(III)Z -/
abbrev xc_se_readPair (d : Nat) (l1 l2 l3 : Int) (m : w_M) (Q : Int → w_M → Prop) : Prop := x_C sC d 131 0 [(2, 391), (0, l1), (0, l2), (0, l3)] m Q
abbrev xp_se_readPair_27 (d : Nat) (l1 l2 l4 : Int) (m : w_M) (Q : Int → w_M → Prop) : Prop := x_W sC d ex_m131 0 27 [some (2, 391), some (0, l1), some (0, l2), none, some (0, l4), none, none, none, none, none, none, none, none] [] m Q
abbrev xp_se_readPair_93 (d : Nat) (l1 l2 l4 s0 : Int) (m : w_M) (Q : Int → w_M → Prop) : Prop := x_W sC d ex_m131 0 93 [some (2, 391), some (0, l1), some (0, l2), none, some (0, l4), none, none, none, none, none, none, none, none] [(1, s0)] m Q
abbrev xp_se_readPair_157 (d : Nat) (l1 l2 l4 l5 l11 s0 : Int) (m : w_M) (Q : Int → w_M → Prop) : Prop := x_W sC d ex_m131 0 157 [some (2, 391), some (0, l1), some (0, l2), none, some (0, l4), some (1, l5), none, none, none, none, none, some (0, l11), none] [(0, s0)] m Q
/-- PaperHouse$Sections.readPairs(II)Z -/
abbrev xc_se_readPairs (d : Nat) (l1 l2 : Int) (m : w_M) (Q : Int → w_M → Prop) : Prop := x_C sC d 132 0 [(2, 391), (0, l1), (0, l2)] m Q
abbrev xp_se_readPairs_116 (d : Nat) (l2 l3 l4 l5 : Int) (m : w_M) (Q : Int → w_M → Prop) : Prop := x_W sC d ex_m132 0 116 [some (2, 391), none, some (0, l2), some (0, l3), some (0, l4), some (0, l5), none] [] m Q
abbrev xp_se_readPairs_190 (d : Nat) (l2 l4 l5 : Int) (m : w_M) (Q : Int → w_M → Prop) : Prop := x_W sC d ex_m132 0 190 [some (2, 391), none, some (0, l2), none, some (0, l4), some (0, l5), none] [] m Q
/-- PaperHouse$Sections.readRows(II[B)Z -/
abbrev xc_se_readRows (d : Nat) (l1 l2 l3 : Int) (m : w_M) (Q : Int → w_M → Prop) : Prop := x_C sC d 133 0 [(2, 391), (0, l1), (0, l2), (2, l3)] m Q
/-- PaperHouse$Sections.readTable(I)Z -/
abbrev xc_se_readTable (d : Nat) (l1 : Int) (m : w_M) (Q : Int → w_M → Prop) : Prop := x_C sC d 134 0 [(2, 391), (0, l1)] m Q
abbrev xp_se_readTable_2 (d : Nat) (l1 l2 : Int) (m : w_M) (Q : Int → w_M → Prop) : Prop := x_W sC d ex_m134 0 2 [some (2, 391), some (0, l1), some (0, l2), none, none, none, none] [] m Q
abbrev xp_se_readTable_48 (d : Nat) (l1 l2 l3 : Int) (m : w_M) (Q : Int → w_M → Prop) : Prop := x_W sC d ex_m134 0 48 [some (2, 391), some (0, l1), some (0, l2), some (1, l3), none, none, none] [] m Q
/-- PaperHouse$Sections.readTrailer(II)I -/
abbrev xc_se_readTrailer (d : Nat) (l1 l2 : Int) (m : w_M) (Q : Int → w_M → Prop) : Prop := x_C sC d 135 0 [(2, 391), (0, l1), (0, l2)] m Q
/-- PaperHouse$Sections.readWidths(I)Z -/
abbrev xc_se_readWidths (d : Nat) (l1 : Int) (m : w_M) (Q : Int → w_M → Prop) : Prop := x_C sC d 136 0 [(2, 391), (0, l1)] m Q
abbrev xp_se_readWidths_33 (d : Nat) (l1 l2 : Int) (m : w_M) (Q : Int → w_M → Prop) : Prop := x_W sC d ex_m136 0 33 [some (2, 391), some (0, l1), some (0, l2), none] [] m Q
/-- PaperHouse$Store.add(III)I -/
abbrev xc_st_add (d : Nat) (l1 l2 l3 : Int) (m : w_M) (Q : Int → w_M → Prop) : Prop := x_C sC d 138 0 [(2, 359), (0, l1), (0, l2), (0, l3)] m Q
/-- PaperHouse$Store.append(II)V -/
abbrev xc_st_append (d : Nat) (l1 l2 : Int) (m : w_M) (Q : Int → w_M → Prop) : Prop := x_C sC d 139 3 [(2, 359), (0, l1), (0, l2)] m Q
/-- PaperHouse$Store.become(IIII)V -/
abbrev xc_st_become (d : Nat) (l1 l2 l3 l4 : Int) (m : w_M) (Q : Int → w_M → Prop) : Prop := x_C sC d 140 3 [(2, 359), (0, l1), (0, l2), (0, l3), (0, l4)] m Q
/-- PaperHouse$Store.clear()V -/
abbrev xc_st_clear (d : Nat) (m : w_M) (Q : Int → w_M → Prop) : Prop := x_C sC d 141 3 [(2, 359)] m Q
/-- PaperHouse$Store.entry(II)I -/
abbrev xc_st_entry (d : Nat) (l1 l2 : Int) (m : w_M) (Q : Int → w_M → Prop) : Prop := x_C sC d 142 0 [(2, 359), (0, l1), (0, l2)] m Q
abbrev xp_st_entry_27 (d : Nat) (l2 l3 l4 : Int) (m : w_M) (Q : Int → w_M → Prop) : Prop := x_W sC d ex_m142 0 27 [some (2, 359), none, some (0, l2), some (0, l3), some (0, l4)] [] m Q
/-- PaperHouse$Store.firstPart(I)I -/
abbrev xc_st_firstPart (d : Nat) (l1 : Int) (m : w_M) (Q : Int → w_M → Prop) : Prop := x_C sC d 143 0 [(2, 359), (0, l1)] m Q
/-- PaperHouse$Store.hasRoom()Z -/
abbrev xc_st_hasRoom (d : Nat) (m : w_M) (Q : Int → w_M → Prop) : Prop := x_C sC d 144 0 [(2, 359)] m Q
/-- PaperHouse$Store.holds(I)Z -/
abbrev xc_st_holds (d : Nat) (l1 : Int) (m : w_M) (Q : Int → w_M → Prop) : Prop := x_C sC d 145 0 [(2, 359), (0, l1)] m Q
/-- PaperHouse$Store.infoPlace(I)I -/
abbrev xc_st_infoPlace (d : Nat) (l1 : Int) (m : w_M) (Q : Int → w_M → Prop) : Prop := x_C sC d 146 0 [(2, 359), (0, l1)] m Q
/-- PaperHouse$Store.isName(II)Z -/
abbrev xc_st_isName (d : Nat) (l1 l2 : Int) (m : w_M) (Q : Int → w_M → Prop) : Prop := x_C sC d 147 0 [(2, 359), (0, l1), (0, l2)] m Q
/-- PaperHouse$Store.isNumber(I)Z -/
abbrev xc_st_isNumber (d : Nat) (l1 : Int) (m : w_M) (Q : Int → w_M → Prop) : Prop := x_C sC d 148 0 [(2, 359), (0, l1)] m Q
/-- PaperHouse$Store.keyOf(I)I -/
abbrev xc_st_keyOf (d : Nat) (l1 : Int) (m : w_M) (Q : Int → w_M → Prop) : Prop := x_C sC d 149 0 [(2, 359), (0, l1)] m Q
/-- PaperHouse$Store.kindOf(I)I -/
abbrev xc_st_kindOf (d : Nat) (l1 : Int) (m : w_M) (Q : Int → w_M → Prop) : Prop := x_C sC d 150 0 [(2, 359), (0, l1)] m Q
/-- PaperHouse$Store.letterOf(II)I -/
abbrev xc_st_letterOf (d : Nat) (l1 l2 : Int) (m : w_M) (Q : Int → w_M → Prop) : Prop := x_C sC d 151 0 [(2, 359), (0, l1), (0, l2)] m Q
/-- PaperHouse$Store.letters(I)I -/
abbrev xc_st_letters (d : Nat) (l1 : Int) (m : w_M) (Q : Int → w_M → Prop) : Prop := x_C sC d 152 0 [(2, 359), (0, l1)] m Q
/-- PaperHouse$Store.link(II)V -/
abbrev xc_st_link (d : Nat) (l1 l2 : Int) (m : w_M) (Q : Int → w_M → Prop) : Prop := x_C sC d 153 3 [(2, 359), (0, l1), (0, l2)] m Q
/-- PaperHouse$Store.name(II)V -/
abbrev xc_st_name (d : Nat) (l1 l2 : Int) (m : w_M) (Q : Int → w_M → Prop) : Prop := x_C sC d 154 3 [(2, 359), (0, l1), (0, l2)] m Q
/-- PaperHouse$Store.nextOf(I)I -/
abbrev xc_st_nextOf (d : Nat) (l1 : Int) (m : w_M) (Q : Int → w_M → Prop) : Prop := x_C sC d 155 0 [(2, 359), (0, l1)] m Q
/-- PaperHouse$Store.oneOf(I)I -/
abbrev xc_st_oneOf (d : Nat) (l1 : Int) (m : w_M) (Q : Int → w_M → Prop) : Prop := x_C sC d 156 0 [(2, 359), (0, l1)] m Q
/-- PaperHouse$Store.part(II)I -/
abbrev xc_st_part (d : Nat) (l1 l2 : Int) (m : w_M) (Q : Int → w_M → Prop) : Prop := x_C sC d 157 0 [(2, 359), (0, l1), (0, l2)] m Q
abbrev xp_st_part_24 (d : Nat) (l2 l3 l4 : Int) (m : w_M) (Q : Int → w_M → Prop) : Prop := x_W sC d ex_m157 0 24 [some (2, 359), none, some (0, l2), some (0, l3), some (0, l4)] [] m Q
/-- PaperHouse$Store.parts(I)I -/
abbrev xc_st_parts (d : Nat) (l1 : Int) (m : w_M) (Q : Int → w_M → Prop) : Prop := x_C sC d 158 0 [(2, 359), (0, l1)] m Q
/-- PaperHouse$Store.release(II)V -/
abbrev xc_st_release (d : Nat) (l1 l2 : Int) (m : w_M) (Q : Int → w_M → Prop) : Prop := x_C sC d 159 3 [(2, 359), (0, l1), (0, l2)] m Q
/-- PaperHouse$Store.same(II)Z -/
abbrev xc_st_same (d : Nat) (l1 l2 : Int) (m : w_M) (Q : Int → w_M → Prop) : Prop := x_C sC d 160 0 [(2, 359), (0, l1), (0, l2)] m Q
abbrev xp_st_same_77 (d : Nat) (l1 l3 l4 l5 : Int) (m : w_M) (Q : Int → w_M → Prop) : Prop := x_W sC d ex_m160 0 77 [some (2, 359), some (0, l1), none, some (0, l3), some (0, l4), some (0, l5)] [] m Q
/-- PaperHouse$Store.setParts(III)V -/
abbrev xc_st_setParts (d : Nat) (l1 l2 l3 : Int) (m : w_M) (Q : Int → w_M → Prop) : Prop := x_C sC d 161 3 [(2, 359), (0, l1), (0, l2), (0, l3)] m Q
/-- PaperHouse$Store.twoOf(I)I -/
abbrev xc_st_twoOf (d : Nat) (l1 : Int) (m : w_M) (Q : Int → w_M → Prop) : Prop := x_C sC d 162 0 [(2, 359), (0, l1)] m Q
/-- PaperHouse$Store.units(I)I -/
abbrev xc_st_units (d : Nat) (l1 : Int) (m : w_M) (Q : Int → w_M → Prop) : Prop := x_C sC d 163 0 [(2, 359), (0, l1)] m Q
/-- PaperHouse$Store.wholeEntry(II)I -/
abbrev xc_st_wholeEntry (d : Nat) (l1 l2 : Int) (m : w_M) (Q : Int → w_M → Prop) : Prop := x_C sC d 164 0 [(2, 359), (0, l1), (0, l2)] m Q
/-- PaperHouse$Table.beginOf(I)I -/
abbrev xc_ta_beginOf (d : Nat) (l1 : Int) (m : w_M) (Q : Int → w_M → Prop) : Prop := x_C sC d 166 0 [(2, 366), (0, l1)] m Q
/-- PaperHouse$Table.byteOf(II)I -/
abbrev xc_ta_byteOf (d : Nat) (l1 l2 : Int) (m : w_M) (Q : Int → w_M → Prop) : Prop := x_C sC d 167 0 [(2, 366), (0, l1), (0, l2)] m Q
/-- PaperHouse$Table.changes()I -/
abbrev xc_ta_changes (d : Nat) (m : w_M) (Q : Int → w_M → Prop) : Prop := x_C sC d 168 0 [(2, 366)] m Q
abbrev xp_ta_changes_4 (d : Nat) (l1 l2 : Int) (m : w_M) (Q : Int → w_M → Prop) : Prop := x_W sC d ex_m168 0 4 [some (2, 366), some (0, l1), some (0, l2)] [] m Q
/-- PaperHouse$Table.clear()V -/
abbrev xc_ta_clear (d : Nat) (m : w_M) (Q : Int → w_M → Prop) : Prop := x_C sC d 169 3 [(2, 366)] m Q
abbrev xp_ta_clear_2 (d : Nat) (l1 : Int) (m : w_M) (Q : Int → w_M → Prop) : Prop := x_W sC d ex_m169 3 2 [some (2, 366), some (0, l1)] [] m Q
/-- PaperHouse$Table.close(I)V -/
abbrev xc_ta_close (d : Nat) (l1 : Int) (m : w_M) (Q : Int → w_M → Prop) : Prop := x_C sC d 170 3 [(2, 366), (0, l1)] m Q
abbrev xp_ta_close_21 (d : Nat) (l2 : Int) (m : w_M) (Q : Int → w_M → Prop) : Prop := x_W sC d ex_m170 3 21 [some (2, 366), none, some (0, l2)] [] m Q
/-- PaperHouse$Table.copy(I[BI)V -/
abbrev xc_ta_copy (d : Nat) (l1 l2 l3 : Int) (m : w_M) (Q : Int → w_M → Prop) : Prop := x_C sC d 171 3 [(2, 366), (0, l1), (2, l2), (0, l3)] m Q
abbrev xp_ta_copy_20 (d : Nat) (l1 l2 l3 s0 : Int) (m : w_M) (Q : Int → w_M → Prop) : Prop := x_W sC d ex_m171 3 20 [some (2, 366), some (0, l1), some (2, l2), some (0, l3), none, none] [(0, s0)] m Q
/-- PaperHouse$Table.dict(I)I -/
abbrev xc_ta_dict (d : Nat) (l1 : Int) (m : w_M) (Q : Int → w_M → Prop) : Prop := x_C sC d 172 0 [(2, 366), (0, l1)] m Q
/-- PaperHouse$Table.entry(II)I -/
abbrev xc_ta_entry (d : Nat) (l1 l2 : Int) (m : w_M) (Q : Int → w_M → Prop) : Prop := x_C sC d 173 0 [(2, 366), (0, l1), (0, l2)] m Q
/-- PaperHouse$Table.fits(I)Z -/
abbrev xc_ta_fits (d : Nat) (l1 : Int) (m : w_M) (Q : Int → w_M → Prop) : Prop := x_C sC d 174 0 [(2, 366), (0, l1)] m Q
/-- PaperHouse$Table.generationOf(I)I -/
abbrev xc_ta_generationOf (d : Nat) (l1 : Int) (m : w_M) (Q : Int → w_M → Prop) : Prop := x_C sC d 175 0 [(2, 366), (0, l1)] m Q
/-- PaperHouse$Table.howOf(I)I -/
abbrev xc_ta_howOf (d : Nat) (l1 : Int) (m : w_M) (Q : Int → w_M → Prop) : Prop := x_C sC d 176 0 [(2, 366), (0, l1)] m Q
/-- PaperHouse$Table.isChanged(I)Z -/
abbrev xc_ta_isChanged (d : Nat) (l1 : Int) (m : w_M) (Q : Int → w_M → Prop) : Prop := x_C sC d 177 0 [(2, 366), (0, l1)] m Q
/-- PaperHouse$Table.isFree(I)Z -/
abbrev xc_ta_isFree (d : Nat) (l1 : Int) (m : w_M) (Q : Int → w_M → Prop) : Prop := x_C sC d 178 0 [(2, 366), (0, l1)] m Q
/-- PaperHouse$Table.isStream(I)Z -/
abbrev xc_ta_isStream (d : Nat) (l1 : Int) (m : w_M) (Q : Int → w_M → Prop) : Prop := x_C sC d 179 0 [(2, 366), (0, l1)] m Q
/-- PaperHouse$Table.lengthOf(I)I -/
abbrev xc_ta_lengthOf (d : Nat) (l1 : Int) (m : w_M) (Q : Int → w_M → Prop) : Prop := x_C sC d 180 0 [(2, 366), (0, l1)] m Q
/-- PaperHouse$Table.make(II)V -/
abbrev xc_ta_make (d : Nat) (l1 l2 : Int) (m : w_M) (Q : Int → w_M → Prop) : Prop := x_C sC d 181 3 [(2, 366), (0, l1), (0, l2)] m Q
/-- PaperHouse$Table.nameAll(II)V -/
abbrev xc_ta_nameAll (d : Nat) (l1 l2 : Int) (m : w_M) (Q : Int → w_M → Prop) : Prop := x_C sC d 182 3 [(2, 366), (0, l1), (0, l2)] m Q
abbrev xp_ta_nameAll_2 (d : Nat) (l2 l3 : Int) (m : w_M) (Q : Int → w_M → Prop) : Prop := x_W sC d ex_m182 3 2 [some (2, 366), none, some (0, l2), some (0, l3), none] [] m Q
/-- PaperHouse$Table.placeOf(I)I -/
abbrev xc_ta_placeOf (d : Nat) (l1 : Int) (m : w_M) (Q : Int → w_M → Prop) : Prop := x_C sC d 183 0 [(2, 366), (0, l1)] m Q
/-- PaperHouse$Table.rootOf(I)I -/
abbrev xc_ta_rootOf (d : Nat) (l1 : Int) (m : w_M) (Q : Int → w_M → Prop) : Prop := x_C sC d 184 0 [(2, 366), (0, l1)] m Q
/-- PaperHouse$Table.setRoot(II)V -/
abbrev xc_ta_setRoot (d : Nat) (l1 l2 : Int) (m : w_M) (Q : Int → w_M → Prop) : Prop := x_C sC d 185 3 [(2, 366), (0, l1), (0, l2)] m Q
/-- PaperHouse$Table.setStream(I[BI)Z -/
abbrev xc_ta_setStream (d : Nat) (l1 l2 l3 : Int) (m : w_M) (Q : Int → w_M → Prop) : Prop := x_C sC d 186 0 [(2, 366), (0, l1), (2, l2), (0, l3)] m Q
/-- PaperHouse$Table.settle(II)V -/
abbrev xc_ta_settle (d : Nat) (l1 l2 : Int) (m : w_M) (Q : Int → w_M → Prop) : Prop := x_C sC d 187 3 [(2, 366), (0, l1), (0, l2)] m Q
/-- PaperHouse$Table.spare()I -/
abbrev xc_ta_spare (d : Nat) (m : w_M) (Q : Int → w_M → Prop) : Prop := x_C sC d 188 0 [(2, 366)] m Q
abbrev xp_ta_spare_9 (d : Nat) (l1 : Int) (m : w_M) (Q : Int → w_M → Prop) : Prop := x_W sC d ex_m188 0 9 [some (2, 366), some (0, l1)] [] m Q
/-- PaperHouse$Table.target(I)I -/
abbrev xc_ta_target (d : Nat) (l1 : Int) (m : w_M) (Q : Int → w_M → Prop) : Prop := x_C sC d 189 0 [(2, 366), (0, l1)] m Q
abbrev xp_ta_target_7 (d : Nat) (l2 l3 l4 : Int) (m : w_M) (Q : Int → w_M → Prop) : Prop := x_W sC d ex_m189 0 7 [some (2, 366), none, some (0, l2), some (0, l3), some (0, l4)] [] m Q
/-- PaperHouse$Table.tell(IIII)V -/
abbrev xc_ta_tell (d : Nat) (l1 l2 l3 l4 : Int) (m : w_M) (Q : Int → w_M → Prop) : Prop := x_C sC d 190 3 [(2, 366), (0, l1), (0, l2), (0, l3), (0, l4)] m Q
/-- PaperHouse$Table.touch(I)V -/
abbrev xc_ta_touch (d : Nat) (l1 : Int) (m : w_M) (Q : Int → w_M → Prop) : Prop := x_C sC d 191 3 [(2, 366), (0, l1)] m Q
/-- PaperHouse$Table.value(I)I -/
abbrev xc_ta_value (d : Nat) (l1 : Int) (m : w_M) (Q : Int → w_M → Prop) : Prop := x_C sC d 192 0 [(2, 366), (0, l1)] m Q
/-- PaperHouse$Tree.aboveOf(I)I -/
abbrev xc_tr_aboveOf (d : Nat) (l1 : Int) (m : w_M) (Q : Int → w_M → Prop) : Prop := x_C sC d 194 0 [(2, 399), (0, l1)] m Q
/-- PaperHouse$Tree.addLeaf(III)V -/
abbrev xc_tr_addLeaf (d : Nat) (l1 l2 l3 : Int) (m : w_M) (Q : Int → w_M → Prop) : Prop := x_C sC d 195 3 [(2, 399), (0, l1), (0, l2), (0, l3)] m Q
abbrev xp_tr_addLeaf_51 (d : Nat) (l1 l2 l3 l4 : Int) (m : w_M) (Q : Int → w_M → Prop) : Prop := x_W sC d ex_m195 3 51 [some (2, 399), some (0, l1), some (0, l2), some (0, l3), some (0, l4)] [] m Q
/-- PaperHouse$Tree.attribute(II)I -/
abbrev xc_tr_attribute (d : Nat) (l1 l2 : Int) (m : w_M) (Q : Int → w_M → Prop) : Prop := x_C sC d 196 0 [(2, 399), (0, l1), (0, l2)] m Q
abbrev xp_tr_attribute_5 (d : Nat) (l2 l3 l4 : Int) (m : w_M) (Q : Int → w_M → Prop) : Prop := x_W sC d ex_m196 0 5 [some (2, 399), none, some (0, l2), some (0, l3), some (0, l4), none] [] m Q
/-- PaperHouse$Tree.contentBytes(I)I -/
abbrev xc_tr_contentBytes (d : Nat) (l1 : Int) (m : w_M) (Q : Int → w_M → Prop) : Prop := x_C sC d 197 0 [(2, 399), (0, l1)] m Q
/-- PaperHouse$Tree.dropLeaf(I)V -/
abbrev xc_tr_dropLeaf (d : Nat) (l1 : Int) (m : w_M) (Q : Int → w_M → Prop) : Prop := x_C sC d 198 3 [(2, 399), (0, l1)] m Q
abbrev xp_tr_dropLeaf_11 (d : Nat) (l2 : Int) (m : w_M) (Q : Int → w_M → Prop) : Prop := x_W sC d ex_m198 3 11 [some (2, 399), none, some (0, l2)] [] m Q
/-- PaperHouse$Tree.gather(I[B)I -/
abbrev xc_tr_gather (d : Nat) (l1 l2 : Int) (m : w_M) (Q : Int → w_M → Prop) : Prop := x_C sC d 199 0 [(2, 399), (0, l1), (2, l2)] m Q
abbrev xp_tr_gather_61 (d : Nat) (l2 l3 l4 s0 : Int) (m : w_M) (Q : Int → w_M → Prop) : Prop := x_W sC d ex_m199 0 61 [some (2, 399), none, some (2, l2), some (0, l3), some (0, l4), none, none, none, none, none] [(0, s0)] m Q
abbrev xp_tr_gather_106 (d : Nat) (l2 l6 l7 l8 : Int) (m : w_M) (Q : Int → w_M → Prop) : Prop := x_W sC d ex_m199 0 106 [some (2, 399), none, some (2, l2), none, none, none, some (0, l6), some (0, l7), some (0, l8), none] [] m Q
/-- PaperHouse$Tree.has(I)Z -/
abbrev xc_tr_has (d : Nat) (l1 : Int) (m : w_M) (Q : Int → w_M → Prop) : Prop := x_C sC d 200 0 [(2, 399), (0, l1)] m Q
/-- PaperHouse$Tree.isBox(I)Z -/
abbrev xc_tr_isBox (d : Nat) (l1 : Int) (m : w_M) (Q : Int → w_M → Prop) : Prop := x_C sC d 201 0 [(2, 399), (0, l1)] m Q
abbrev xp_tr_isBox_29 (d : Nat) (l1 l2 : Int) (m : w_M) (Q : Int → w_M → Prop) : Prop := x_W sC d ex_m201 0 29 [some (2, 399), some (0, l1), some (0, l2)] [] m Q
/-- PaperHouse$Tree.leafAt(I)I -/
abbrev xc_tr_leafAt (d : Nat) (l1 : Int) (m : w_M) (Q : Int → w_M → Prop) : Prop := x_C sC d 202 0 [(2, 399), (0, l1)] m Q
/-- PaperHouse$Tree.looksRight(IIZ)Z -/
abbrev xc_tr_looksRight (d : Nat) (l1 l2 l3 : Int) (m : w_M) (Q : Int → w_M → Prop) : Prop := x_C sC d 203 0 [(2, 399), (0, l1), (0, l2), (0, l3)] m Q
abbrev xp_tr_looksRight_26 (d : Nat) (l1 l2 : Int) (m : w_M) (Q : Int → w_M → Prop) : Prop := x_W sC d ex_m203 0 26 [some (2, 399), some (0, l1), some (0, l2), none, none, none, none, none] [] m Q
abbrev xp_tr_looksRight_98 (d : Nat) (l2 : Int) (m : w_M) (Q : Int → w_M → Prop) : Prop := x_W sC d ex_m203 0 98 [some (2, 399), none, some (0, l2), none, none, none, none, none] [] m Q
abbrev xp_tr_looksRight_143 (d : Nat) (l2 : Int) (m : w_M) (Q : Int → w_M → Prop) : Prop := x_W sC d ex_m203 0 143 [some (2, 399), none, some (0, l2), none, none, none, none, none] [] m Q
/-- PaperHouse$Tree.read(I)V -/
abbrev xc_tr_read (d : Nat) (l1 : Int) (m : w_M) (Q : Int → w_M → Prop) : Prop := x_C sC d 204 3 [(2, 399), (0, l1)] m Q
abbrev xp_tr_read_7 (d : Nat) (l1 l2 : Int) (m : w_M) (Q : Int → w_M → Prop) : Prop := x_W sC d ex_m204 3 7 [some (2, 399), some (0, l1), some (0, l2), none, none, none] [] m Q
/-- PaperHouse$Tree.takesPage(I)Z -/
abbrev xc_tr_takesPage (d : Nat) (l1 : Int) (m : w_M) (Q : Int → w_M → Prop) : Prop := x_C sC d 205 0 [(2, 399), (0, l1)] m Q
abbrev xp_tr_takesPage_23 (d : Nat) (l1 s0 : Int) (m : w_M) (Q : Int → w_M → Prop) : Prop := x_W sC d ex_m205 0 23 [some (2, 399), some (0, l1), none] [(0, s0)] m Q
/-- PaperHouse$Tree.visit(III)I -/
abbrev xc_tr_visit (d : Nat) (l1 l2 l3 : Int) (m : w_M) (Q : Int → w_M → Prop) : Prop := x_C sC d 206 0 [(2, 399), (0, l1), (0, l2), (0, l3)] m Q
abbrev xp_tr_visit_103 (d : Nat) (l1 l3 l4 s0 : Int) (m : w_M) (Q : Int → w_M → Prop) : Prop := x_W sC d ex_m206 0 103 [some (2, 399), some (0, l1), none, some (0, l3), some (0, l4), none, none, none, none, none, none, none] [(0, s0)] m Q
abbrev xp_tr_visit_141 (d : Nat) (l1 l3 l4 l5 : Int) (m : w_M) (Q : Int → w_M → Prop) : Prop := x_W sC d ex_m206 0 141 [some (2, 399), some (0, l1), none, some (0, l3), some (0, l4), some (0, l5), none, none, none, none, none, none] [] m Q
abbrev xp_tr_visit_210 (d : Nat) (l1 l3 l4 l7 l8 l9 : Int) (m : w_M) (Q : Int → w_M → Prop) : Prop := x_W sC d ex_m206 0 210 [some (2, 399), some (0, l1), none, some (0, l3), some (0, l4), none, none, some (0, l7), some (0, l8), some (0, l9), none, none] [] m Q
abbrev xp_tr_visit_302 (d : Nat) (l1 l4 l7 : Int) (m : w_M) (Q : Int → w_M → Prop) : Prop := x_W sC d ex_m206 0 302 [some (2, 399), some (0, l1), none, none, some (0, l4), none, none, some (0, l7), none, none, none, none] [] m Q
/-- PaperHouse$Writer.adler([BII)I -/
abbrev xc_wr_adler (d : Nat) (l0 l1 l2 : Int) (m : w_M) (Q : Int → w_M → Prop) : Prop := x_C sC d 208 0 [(2, l0), (0, l1), (0, l2)] m Q
abbrev xp_wr_adler_12 (d : Nat) (l0 l1 l2 l3 l4 l5 : Int) (m : w_M) (Q : Int → w_M → Prop) : Prop := x_W sC d ex_m208 0 12 [some (2, l0), some (0, l1), some (0, l2), some (0, l3), some (0, l4), some (0, l5)] [] m Q
/-- PaperHouse$Writer.byteAt(I)I -/
abbrev xc_wr_byteAt (d : Nat) (l1 : Int) (m : w_M) (Q : Int → w_M → Prop) : Prop := x_C sC d 209 0 [(2, 418), (0, l1)] m Q
/-- PaperHouse$Writer.clear()V -/
abbrev xc_wr_clear (d : Nat) (m : w_M) (Q : Int → w_M → Prop) : Prop := x_C sC d 210 3 [(2, 418)] m Q
/-- PaperHouse$Writer.endOfRow(III)I -/
abbrev xc_wr_endOfRow (d : Nat) (l1 l2 l3 : Int) (m : w_M) (Q : Int → w_M → Prop) : Prop := x_C sC d 211 0 [(2, 418), (0, l1), (0, l2), (0, l3)] m Q
abbrev xp_wr_endOfRow_3 (d : Nat) (l2 l3 l4 : Int) (m : w_M) (Q : Int → w_M → Prop) : Prop := x_W sC d ex_m211 0 3 [some (2, 418), none, some (0, l2), some (0, l3), some (0, l4)] [] m Q
/-- PaperHouse$Writer.finish()I -/
abbrev xc_wr_finish (d : Nat) (m : w_M) (Q : Int → w_M → Prop) : Prop := x_C sC d 212 0 [(2, 418)] m Q
/-- PaperHouse$Writer.forget([BII)V -/
abbrev xc_wr_forget (d : Nat) (l1 l2 l3 : Int) (m : w_M) (Q : Int → w_M → Prop) : Prop := x_C sC d 213 3 [(2, 418), (2, l1), (0, l2), (0, l3)] m Q
/-- PaperHouse$Writer.hash([BII)I -/
abbrev xc_wr_hash (d : Nat) (l0 l1 l2 : Int) (m : w_M) (Q : Int → w_M → Prop) : Prop := x_C sC d 214 0 [(2, l0), (0, l1), (0, l2)] m Q
/-- PaperHouse$Writer.isListed(II)Z -/
abbrev xc_wr_isListed (d : Nat) (l1 l2 : Int) (m : w_M) (Q : Int → w_M → Prop) : Prop := x_C sC d 215 0 [(2, 418), (0, l1), (0, l2)] m Q
/-- PaperHouse$Writer.layRow(III)I -/
abbrev xc_wr_layRow (d : Nat) (l1 l2 l3 : Int) (m : w_M) (Q : Int → w_M → Prop) : Prop := x_C sC d 216 0 [(2, 418), (0, l1), (0, l2), (0, l3)] m Q
abbrev xp_wr_layRow_21 (d : Nat) (l1 l2 s0 : Int) (m : w_M) (Q : Int → w_M → Prop) : Prop := x_W sC d ex_m216 0 21 [some (2, 418), some (0, l1), some (0, l2), none, none, none, none] [(0, s0)] m Q
abbrev xp_wr_layRow_69 (d : Nat) (l1 l2 l4 s0 : Int) (m : w_M) (Q : Int → w_M → Prop) : Prop := x_W sC d ex_m216 0 69 [some (2, 418), some (0, l1), some (0, l2), none, some (0, l4), none, none] [(0, s0)] m Q
abbrev xp_wr_layRow_106 (d : Nat) (l1 l5 l6 s1 s2 : Int) (m : w_M) (Q : Int → w_M → Prop) : Prop := x_W sC d ex_m216 0 106 [some (2, 418), some (0, l1), none, none, none, some (0, l5), some (0, l6)] [(0, s2), (0, s1), (2, 423)] m Q
/-- PaperHouse$Writer.longest([BIII)I -/
abbrev xc_wr_longest (d : Nat) (l1 l2 l3 l4 : Int) (m : w_M) (Q : Int → w_M → Prop) : Prop := x_C sC d 217 0 [(2, 418), (2, l1), (0, l2), (0, l3), (0, l4)] m Q
abbrev xp_wr_longest_55 (d : Nat) (l1 l2 l3 l6 l7 l8 l9 : Int) (m : w_M) (Q : Int → w_M → Prop) : Prop := x_W sC d ex_m217 0 55 [some (2, 418), some (2, l1), some (0, l2), some (0, l3), none, none, some (0, l6), some (0, l7), some (0, l8), some (0, l9), none, none] [] m Q
abbrev xp_wr_longest_113 (d : Nat) (l1 l2 l3 l6 l7 l8 l9 l10 l11 : Int) (m : w_M) (Q : Int → w_M → Prop) : Prop := x_W sC d ex_m217 0 113 [some (2, 418), some (2, l1), some (0, l2), some (0, l3), none, none, some (0, l6), some (0, l7), some (0, l8), some (0, l9), some (0, l10), some (0, l11)] [] m Q
abbrev xp_wr_longest_158 (d : Nat) (l1 l2 l3 l6 l7 l8 l9 l10 l11 : Int) (m : w_M) (Q : Int → w_M → Prop) : Prop := x_W sC d ex_m217 0 158 [some (2, 418), some (2, l1), some (0, l2), some (0, l3), none, none, some (0, l6), some (0, l7), some (0, l8), some (0, l9), some (0, l10), some (0, l11)] [] m Q
/-- PaperHouse$Writer.meet(I)I -/
abbrev xc_wr_meet (d : Nat) (l1 : Int) (m : w_M) (Q : Int → w_M → Prop) : Prop := x_C sC d 218 0 [(2, 418), (0, l1)] m Q
/-- PaperHouse$Writer.push(II)V -/
abbrev xc_wr_push (d : Nat) (l1 l2 : Int) (m : w_M) (Q : Int → w_M → Prop) : Prop := x_C sC d 219 3 [(2, 418), (0, l1), (0, l2)] m Q
abbrev xp_wr_push_25 (d : Nat) (m : w_M) (Q : Int → w_M → Prop) : Prop := x_W sC d ex_m219 3 25 [some (2, 418), none, none] [] m Q
/-- PaperHouse$Writer.pushCode(II)V -/
abbrev xc_wr_pushCode (d : Nat) (l1 l2 : Int) (m : w_M) (Q : Int → w_M → Prop) : Prop := x_C sC d 220 3 [(2, 418), (0, l1), (0, l2)] m Q
abbrev xp_wr_pushCode_5 (d : Nat) (l1 l2 l3 l4 : Int) (m : w_M) (Q : Int → w_M → Prop) : Prop := x_W sC d ex_m220 3 5 [some (2, 418), some (0, l1), some (0, l2), some (0, l3), some (0, l4)] [] m Q
/-- PaperHouse$Writer.pushRow(I)V -/
abbrev xc_wr_pushRow (d : Nat) (l1 : Int) (m : w_M) (Q : Int → w_M → Prop) : Prop := x_C sC d 221 3 [(2, 418), (0, l1)] m Q
abbrev xp_wr_pushRow_7 (d : Nat) (l1 l2 : Int) (m : w_M) (Q : Int → w_M → Prop) : Prop := x_W sC d ex_m221 3 7 [some (2, 418), some (0, l1), some (0, l2), none] [] m Q
abbrev xp_wr_pushRow_58 (d : Nat) (l3 : Int) (m : w_M) (Q : Int → w_M → Prop) : Prop := x_W sC d ex_m221 3 58 [some (2, 418), none, none, some (0, l3)] [] m Q
/-- PaperHouse$Writer.pushSymbol(I)V -/
abbrev xc_wr_pushSymbol (d : Nat) (l1 : Int) (m : w_M) (Q : Int → w_M → Prop) : Prop := x_C sC d 222 3 [(2, 418), (0, l1)] m Q
/-- PaperHouse$Writer.put(I)V -/
abbrev xc_wr_put (d : Nat) (l1 : Int) (m : w_M) (Q : Int → w_M → Prop) : Prop := x_C sC d 223 3 [(2, 418), (0, l1)] m Q
/-- PaperHouse$Writer.putCode()V -/
abbrev xc_wr_putCode (d : Nat) (m : w_M) (Q : Int → w_M → Prop) : Prop := x_C sC d 224 3 [(2, 418)] m Q
abbrev xp_wr_putCode_25 (d : Nat) (l1 : Int) (m : w_M) (Q : Int → w_M → Prop) : Prop := x_W sC d ex_m224 3 25 [some (2, 418), some (0, l1)] [] m Q
/-- PaperHouse$Writer.putDigits(JJ)V -/
abbrev xc_wr_putDigits (d : Nat) (l1 l3 : Int) (m : w_M) (Q : Int → w_M → Prop) : Prop := x_C sC d 225 3 [(2, 418), (1, l1), (1, l3)] m Q
abbrev xp_wr_putDigits_3 (d : Nat) (l1 l5 : Int) (m : w_M) (Q : Int → w_M → Prop) : Prop := x_W sC d ex_m225 3 3 [some (2, 418), some (1, l1), none, none, none, some (1, l5), none] [] m Q
/-- PaperHouse$Writer.putEnd(I)V -/
abbrev xc_wr_putEnd (d : Nat) (l1 : Int) (m : w_M) (Q : Int → w_M → Prop) : Prop := x_C sC d 226 3 [(2, 418), (0, l1)] m Q
/-- PaperHouse$Writer.putEntries(IIZ)V -/
abbrev xc_wr_putEntries (d : Nat) (l1 l2 l3 : Int) (m : w_M) (Q : Int → w_M → Prop) : Prop := x_C sC d 227 3 [(2, 418), (0, l1), (0, l2), (0, l3)] m Q
abbrev xp_wr_putEntries_20 (d : Nat) (l2 l3 l4 l5 : Int) (m : w_M) (Q : Int → w_M → Prop) : Prop := x_W sC d ex_m227 3 20 [some (2, 418), none, some (0, l2), some (0, l3), some (0, l4), some (0, l5), none, none] [] m Q
abbrev xp_wr_putEntries_124 (d : Nat) (l2 l3 l4 l5 l7 : Int) (m : w_M) (Q : Int → w_M → Prop) : Prop := x_W sC d ex_m227 3 124 [some (2, 418), none, some (0, l2), some (0, l3), some (0, l4), some (0, l5), none, some (0, l7)] [] m Q
/-- PaperHouse$Writer.putEntry(II)V -/
abbrev xc_wr_putEntry (d : Nat) (l1 l2 : Int) (m : w_M) (Q : Int → w_M → Prop) : Prop := x_C sC d 228 3 [(2, 418), (0, l1), (0, l2)] m Q
/-- PaperHouse$Writer.putHex(I)V -/
abbrev xc_wr_putHex (d : Nat) (l1 : Int) (m : w_M) (Q : Int → w_M → Prop) : Prop := x_C sC d 229 3 [(2, 418), (0, l1)] m Q
/-- PaperHouse$Writer.putName(I)V -/
abbrev xc_wr_putName (d : Nat) (l1 : Int) (m : w_M) (Q : Int → w_M → Prop) : Prop := x_C sC d 230 3 [(2, 418), (0, l1)] m Q
abbrev xp_wr_putName_8 (d : Nat) (l1 l2 : Int) (m : w_M) (Q : Int → w_M → Prop) : Prop := x_W sC d ex_m230 3 8 [some (2, 418), some (0, l1), some (0, l2), none] [] m Q
/-- PaperHouse$Writer.putNumber(J)V -/
abbrev xc_wr_putNumber (d : Nat) (l1 : Int) (m : w_M) (Q : Int → w_M → Prop) : Prop := x_C sC d 231 3 [(2, 418), (1, l1)] m Q
abbrev xp_wr_putNumber_28 (d : Nat) (l3 l5 : Int) (m : w_M) (Q : Int → w_M → Prop) : Prop := x_W sC d ex_m231 3 28 [some (2, 418), none, none, some (1, l3), none, some (1, l5), none] [] m Q
abbrev xp_wr_putNumber_59 (d : Nat) (l3 l5 : Int) (m : w_M) (Q : Int → w_M → Prop) : Prop := x_W sC d ex_m231 3 59 [some (2, 418), none, none, some (1, l3), none, some (1, l5), none] [] m Q
/-- PaperHouse$Writer.putObject(III)V -/
abbrev xc_wr_putObject (d : Nat) (l1 l2 l3 : Int) (m : w_M) (Q : Int → w_M → Prop) : Prop := x_C sC d 232 3 [(2, 418), (0, l1), (0, l2), (0, l3)] m Q
/-- PaperHouse$Writer.putReal(I)V -/
abbrev xc_wr_putReal (d : Nat) (l1 : Int) (m : w_M) (Q : Int → w_M → Prop) : Prop := x_C sC d 233 3 [(2, 418), (0, l1)] m Q
abbrev xp_wr_putReal_37 (d : Nat) (l4 : Int) (m : w_M) (Q : Int → w_M → Prop) : Prop := x_W sC d ex_m233 3 37 [some (2, 418), none, none, none, some (1, l4), none, none, none, none, none] [] m Q
abbrev xp_wr_putReal_87 (d : Nat) (l6 l8 : Int) (m : w_M) (Q : Int → w_M → Prop) : Prop := x_W sC d ex_m233 3 87 [some (2, 418), none, none, none, none, none, some (1, l6), none, some (1, l8), none] [] m Q
/-- PaperHouse$Writer.putReference(I)V -/
abbrev xc_wr_putReference (d : Nat) (l1 : Int) (m : w_M) (Q : Int → w_M → Prop) : Prop := x_C sC d 234 3 [(2, 418), (0, l1)] m Q
abbrev xp_wr_putReference_26 (d : Nat) (l1 s0 : Int) (m : w_M) (Q : Int → w_M → Prop) : Prop := x_W sC d ex_m234 3 26 [some (2, 418), some (0, l1), none] [(0, s0)] m Q
abbrev xp_wr_putReference_65 (d : Nat) (l1 s1 : Int) (m : w_M) (Q : Int → w_M → Prop) : Prop := x_W sC d ex_m234 3 65 [some (2, 418), some (0, l1), none] [(1, s1), (2, 418)] m Q
/-- PaperHouse$Writer.putRoot(Ljava/lang/String;I)V -/
abbrev xc_wr_putRoot (d : Nat) (l1 l2 : Int) (m : w_M) (Q : Int → w_M → Prop) : Prop := x_C sC d 235 3 [(2, 418), (2, l1), (0, l2)] m Q
abbrev xp_wr_putRoot_24 (d : Nat) (l2 s1 : Int) (m : w_M) (Q : Int → w_M → Prop) : Prop := x_W sC d ex_m235 3 24 [some (2, 418), none, some (0, l2)] [(1, s1), (2, 418)] m Q
/-- PaperHouse$Writer.putRoots()V -/
abbrev xc_wr_putRoots (d : Nat) (m : w_M) (Q : Int → w_M → Prop) : Prop := x_C sC d 236 3 [(2, 418)] m Q
/-- PaperHouse$Writer.putRows(II)V -/
abbrev xc_wr_putRows (d : Nat) (l1 l2 : Int) (m : w_M) (Q : Int → w_M → Prop) : Prop := x_C sC d 237 3 [(2, 418), (0, l1), (0, l2)] m Q
abbrev xp_wr_putRows_31 (d : Nat) (l1 l2 l3 l4 : Int) (m : w_M) (Q : Int → w_M → Prop) : Prop := x_W sC d ex_m237 3 31 [some (2, 418), some (0, l1), some (0, l2), some (0, l3), some (0, l4), none, none] [] m Q
abbrev xp_wr_putRows_89 (d : Nat) (l1 l2 l3 l5 l6 : Int) (m : w_M) (Q : Int → w_M → Prop) : Prop := x_W sC d ex_m237 3 89 [some (2, 418), some (0, l1), some (0, l2), some (0, l3), none, some (0, l5), some (0, l6)] [] m Q
/-- PaperHouse$Writer.putString(I)V -/
abbrev xc_wr_putString (d : Nat) (l1 : Int) (m : w_M) (Q : Int → w_M → Prop) : Prop := x_C sC d 238 3 [(2, 418), (0, l1)] m Q
abbrev xp_wr_putString_4 (d : Nat) (l1 l2 l3 : Int) (m : w_M) (Q : Int → w_M → Prop) : Prop := x_W sC d ex_m238 3 4 [some (2, 418), some (0, l1), some (0, l2), some (0, l3), none] [] m Q
abbrev xp_wr_putString_95 (d : Nat) (l1 l2 l3 : Int) (m : w_M) (Q : Int → w_M → Prop) : Prop := x_W sC d ex_m238 3 95 [some (2, 418), some (0, l1), some (0, l2), some (0, l3), none] [] m Q
/-- PaperHouse$Writer.putTable(I)V -/
abbrev xc_wr_putTable (d : Nat) (l1 : Int) (m : w_M) (Q : Int → w_M → Prop) : Prop := x_C sC d 239 3 [(2, 418), (0, l1)] m Q
abbrev xp_wr_putTable_10 (d : Nat) (l1 l2 l3 : Int) (m : w_M) (Q : Int → w_M → Prop) : Prop := x_W sC d ex_m239 3 10 [some (2, 418), some (0, l1), some (0, l2), some (0, l3), none, none] [] m Q
abbrev xp_wr_putTable_74 (d : Nat) (l1 l3 l4 l5 : Int) (m : w_M) (Q : Int → w_M → Prop) : Prop := x_W sC d ex_m239 3 74 [some (2, 418), some (0, l1), none, some (0, l3), some (0, l4), some (0, l5)] [] m Q
/-- PaperHouse$Writer.putText(Ljava/lang/String;)V -/
abbrev xc_wr_putText (d : Nat) (l1 : Int) (m : w_M) (Q : Int → w_M → Prop) : Prop := x_C sC d 240 3 [(2, 418), (2, l1)] m Q
abbrev xp_wr_putText_2 (d : Nat) (l1 l2 : Int) (m : w_M) (Q : Int → w_M → Prop) : Prop := x_W sC d ex_m240 3 2 [some (2, 418), some (2, l1), some (0, l2)] [] m Q
/-- PaperHouse$Writer.putValue(II)V -/
abbrev xc_wr_putValue (d : Nat) (l1 l2 : Int) (m : w_M) (Q : Int → w_M → Prop) : Prop := x_C sC d 241 3 [(2, 418), (0, l1), (0, l2)] m Q
/-- PaperHouse$Writer.remember([BIII)V -/
abbrev xc_wr_remember (d : Nat) (l1 l2 l3 l4 : Int) (m : w_M) (Q : Int → w_M → Prop) : Prop := x_C sC d 242 3 [(2, 418), (2, l1), (0, l2), (0, l3), (0, l4)] m Q
/-- PaperHouse$Writer.squeeze([BII)V -/
abbrev xc_wr_squeeze (d : Nat) (l1 l2 l3 : Int) (m : w_M) (Q : Int → w_M → Prop) : Prop := x_C sC d 243 3 [(2, 418), (2, l1), (0, l2), (0, l3)] m Q
abbrev xp_wr_squeeze_59 (d : Nat) (l1 l2 l3 l4 l5 : Int) (m : w_M) (Q : Int → w_M → Prop) : Prop := x_W sC d ex_m243 3 59 [some (2, 418), some (2, l1), some (0, l2), some (0, l3), some (0, l4), some (0, l5), none, none] [] m Q
abbrev xp_wr_squeeze_117 (d : Nat) (l1 l2 l3 l4 l5 l6 l7 : Int) (m : w_M) (Q : Int → w_M → Prop) : Prop := x_W sC d ex_m243 3 117 [some (2, 418), some (2, l1), some (0, l2), some (0, l3), some (0, l4), some (0, l5), some (0, l6), some (0, l7)] [] m Q
abbrev xp_wr_squeeze_187 (d : Nat) (l1 l2 l4 l6 l7 : Int) (m : w_M) (Q : Int → w_M → Prop) : Prop := x_W sC d ex_m243 3 187 [some (2, 418), some (2, l1), some (0, l2), none, some (0, l4), none, some (0, l6), some (0, l7)] [] m Q
abbrev xp_wr_squeeze_216 (d : Nat) (l1 l4 l7 : Int) (m : w_M) (Q : Int → w_M → Prop) : Prop := x_W sC d ex_m243 3 216 [some (2, 418), some (2, l1), none, none, some (0, l4), none, none, some (0, l7)] [] m Q
/-- PaperHouse$Writer.writeMore([BIIZ)I -/
abbrev xc_wr_writeMore (d : Nat) (l1 l2 l3 l4 : Int) (m : w_M) (Q : Int → w_M → Prop) : Prop := x_C sC d 244 0 [(2, 418), (2, l1), (0, l2), (0, l3), (0, l4)] m Q
abbrev xp_wr_writeMore_29 (d : Nat) (l1 l2 l3 l4 l5 l6 : Int) (m : w_M) (Q : Int → w_M → Prop) : Prop := x_W sC d ex_m244 0 29 [some (2, 418), some (2, l1), some (0, l2), some (0, l3), some (0, l4), some (0, l5), some (0, l6)] [] m Q
abbrev xp_wr_writeMore_80 (d : Nat) (l3 l4 l5 l6 : Int) (m : w_M) (Q : Int → w_M → Prop) : Prop := x_W sC d ex_m244 0 80 [some (2, 418), none, none, some (0, l3), some (0, l4), some (0, l5), some (0, l6)] [] m Q
abbrev xp_wr_writeMore_155 (d : Nat) (l3 l4 l5 : Int) (m : w_M) (Q : Int → w_M → Prop) : Prop := x_W sC d ex_m244 0 155 [some (2, 418), none, none, some (0, l3), some (0, l4), some (0, l5), none] [] m Q
/-- PaperHouse$Writer.writeWhole()I -/
abbrev xc_wr_writeWhole (d : Nat) (m : w_M) (Q : Int → w_M → Prop) : Prop := x_C sC d 245 0 [(2, 418)] m Q
abbrev xp_wr_writeWhole_50 (d : Nat) (l1 : Int) (m : w_M) (Q : Int → w_M → Prop) : Prop := x_W sC d ex_m245 0 50 [some (2, 418), some (0, l1), none] [] m Q
abbrev xp_wr_writeWhole_138 (d : Nat) (l1 l2 : Int) (m : w_M) (Q : Int → w_M → Prop) : Prop := x_W sC d ex_m245 0 138 [some (2, 418), some (0, l1), some (0, l2)] [] m Q
/-- PaperHouse.changed(I)I -/
abbrev xc_x_changed (d : Nat) (l1 : Int) (m : w_M) (Q : Int → w_M → Prop) : Prop := x_C sC d 247 0 [(2, 357), (0, l1)] m Q
/-- PaperHouse.contents(I)I -/
abbrev xc_x_contents (d : Nat) (l1 : Int) (m : w_M) (Q : Int → w_M → Prop) : Prop := x_C sC d 248 0 [(2, 357), (0, l1)] m Q
/-- PaperHouse.count(I)I -/
abbrev xc_x_count (d : Nat) (l1 : Int) (m : w_M) (Q : Int → w_M → Prop) : Prop := x_C sC d 249 0 [(2, 357), (0, l1)] m Q
/-- PaperHouse.cut(I)I -/
abbrev xc_x_cut (d : Nat) (l1 : Int) (m : w_M) (Q : Int → w_M → Prop) : Prop := x_C sC d 250 0 [(2, 357), (0, l1)] m Q
/-- PaperHouse.data(II)I -/
abbrev xc_x_data (d : Nat) (l1 l2 : Int) (m : w_M) (Q : Int → w_M → Prop) : Prop := x_C sC d 251 0 [(2, 357), (0, l1), (0, l2)] m Q
/-- PaperHouse.delete(I)I -/
abbrev xc_x_delete (d : Nat) (l1 : Int) (m : w_M) (Q : Int → w_M → Prop) : Prop := x_C sC d 252 0 [(2, 357), (0, l1)] m Q
/-- PaperHouse.down(I)I -/
abbrev xc_x_down (d : Nat) (l1 : Int) (m : w_M) (Q : Int → w_M → Prop) : Prop := x_C sC d 253 0 [(2, 357), (0, l1)] m Q
/-- PaperHouse.fault(I)I -/
abbrev xc_x_fault (d : Nat) (l1 : Int) (m : w_M) (Q : Int → w_M → Prop) : Prop := x_C sC d 254 0 [(2, 357), (0, l1)] m Q
/-- PaperHouse.feed(IIIII)I -/
abbrev xc_x_feed (d : Nat) (l1 l2 l3 l4 l5 : Int) (m : w_M) (Q : Int → w_M → Prop) : Prop := x_C sC d 255 0 [(2, 357), (0, l1), (0, l2), (0, l3), (0, l4), (0, l5)] m Q
/-- PaperHouse.glyph(II)I -/
abbrev xc_x_glyph (d : Nat) (l1 l2 : Int) (m : w_M) (Q : Int → w_M → Prop) : Prop := x_C sC d 256 0 [(2, 357), (0, l1), (0, l2)] m Q
/-- PaperHouse.go(I)I -/
abbrev xc_x_go (d : Nat) (l1 : Int) (m : w_M) (Q : Int → w_M → Prop) : Prop := x_C sC d 257 0 [(2, 357), (0, l1)] m Q
/-- PaperHouse.here(I)I -/
abbrev xc_x_here (d : Nat) (l1 : Int) (m : w_M) (Q : Int → w_M → Prop) : Prop := x_C sC d 258 0 [(2, 357), (0, l1)] m Q
/-- PaperHouse.info(I)I -/
abbrev xc_x_info (d : Nat) (l1 : Int) (m : w_M) (Q : Int → w_M → Prop) : Prop := x_C sC d 259 0 [(2, 357), (0, l1)] m Q
/-- PaperHouse.insert(III)I -/
abbrev xc_x_insert (d : Nat) (l1 l2 l3 : Int) (m : w_M) (Q : Int → w_M → Prop) : Prop := x_C sC d 260 0 [(2, 357), (0, l1), (0, l2), (0, l3)] m Q
/-- PaperHouse.isNowhere()Z -/
abbrev xc_x_isNowhere (d : Nat) (m : w_M) (Q : Int → w_M → Prop) : Prop := x_C sC d 261 0 [(2, 357)] m Q
/-- PaperHouse.keyHere()I -/
abbrev xc_x_keyHere (d : Nat) (m : w_M) (Q : Int → w_M → Prop) : Prop := x_C sC d 262 0 [(2, 357)] m Q
/-- PaperHouse.kindHere()I -/
abbrev xc_x_kindHere (d : Nat) (m : w_M) (Q : Int → w_M → Prop) : Prop := x_C sC d 263 0 [(2, 357)] m Q
/-- PaperHouse.layNumber(I)V -/
abbrev xc_x_layNumber (d : Nat) (l1 : Int) (m : w_M) (Q : Int → w_M → Prop) : Prop := x_C sC d 264 3 [(2, 357), (0, l1)] m Q
abbrev xp_x_layNumber_3 (d : Nat) (l1 l2 : Int) (m : w_M) (Q : Int → w_M → Prop) : Prop := x_W sC d ex_m264 3 3 [some (2, 357), some (0, l1), some (0, l2)] [] m Q
/-- PaperHouse.letter(IZ)I -/
abbrev xc_x_letter (d : Nat) (l1 l2 : Int) (m : w_M) (Q : Int → w_M → Prop) : Prop := x_C sC d 265 0 [(2, 357), (0, l1), (0, l2)] m Q
/-- PaperHouse.load()I -/
abbrev xc_x_load (d : Nat) (m : w_M) (Q : Int → w_M → Prop) : Prop := x_C sC d 266 0 [(2, 357)] m Q
abbrev xp_x_load_52 (d : Nat) (l1 l2 : Int) (m : w_M) (Q : Int → w_M → Prop) : Prop := x_W sC d ex_m266 0 52 [some (2, 357), some (0, l1), some (0, l2), none, none, none, none] [] m Q
abbrev xp_x_load_84 (d : Nat) (m : w_M) (Q : Int → w_M → Prop) : Prop := x_W sC d ex_m266 0 84 [some (2, 357), none, none, none, none, none, none] [] m Q
abbrev xp_x_load_138 (d : Nat) (l2 l3 l4 : Int) (m : w_M) (Q : Int → w_M → Prop) : Prop := x_W sC d ex_m266 0 138 [some (2, 357), none, some (0, l2), some (0, l3), some (0, l4), none, none] [] m Q
abbrev xp_x_load_197 (d : Nat) (l2 l4 l5 l6 : Int) (m : w_M) (Q : Int → w_M → Prop) : Prop := x_W sC d ex_m266 0 197 [some (2, 357), none, some (0, l2), none, some (0, l4), some (0, l5), some (0, l6)] [] m Q
abbrev xp_x_load_229 (d : Nat) (l2 : Int) (m : w_M) (Q : Int → w_M → Prop) : Prop := x_W sC d ex_m266 0 229 [some (2, 357), none, some (0, l2), none, none, none, none] [] m Q
abbrev xp_x_load_313 (d : Nat) (s1 : Int) (m : w_M) (Q : Int → w_M → Prop) : Prop := x_W sC d ex_m266 0 313 [some (2, 357), none, none, none, none, none, none] [(0, s1), (2, 357)] m Q
/-- PaperHouse.more()I -/
abbrev xc_x_more (d : Nat) (m : w_M) (Q : Int → w_M → Prop) : Prop := x_C sC d 267 0 [(2, 357)] m Q
/-- PaperHouse.move(II)I -/
abbrev xc_x_move (d : Nat) (l1 l2 : Int) (m : w_M) (Q : Int → w_M → Prop) : Prop := x_C sC d 268 0 [(2, 357), (0, l1), (0, l2)] m Q
/-- PaperHouse.nodeHere()I -/
abbrev xc_x_nodeHere (d : Nat) (m : w_M) (Q : Int → w_M → Prop) : Prop := x_C sC d 269 0 [(2, 357)] m Q
/-- PaperHouse.objects()I -/
abbrev xc_x_objects (d : Nat) (m : w_M) (Q : Int → w_M → Prop) : Prop := x_C sC d 270 0 [(2, 357)] m Q
abbrev xp_x_objects_13 (d : Nat) (l1 l2 : Int) (m : w_M) (Q : Int → w_M → Prop) : Prop := x_W sC d ex_m270 0 13 [some (2, 357), some (0, l1), some (0, l2)] [] m Q
/-- PaperHouse.out(I)I -/
abbrev xc_x_out (d : Nat) (l1 : Int) (m : w_M) (Q : Int → w_M → Prop) : Prop := x_C sC d 271 0 [(2, 357), (0, l1)] m Q
/-- PaperHouse.outs()I -/
abbrev xc_x_outs (d : Nat) (m : w_M) (Q : Int → w_M → Prop) : Prop := x_C sC d 272 0 [(2, 357)] m Q
/-- PaperHouse.page(II)I -/
abbrev xc_x_page (d : Nat) (l1 l2 : Int) (m : w_M) (Q : Int → w_M → Prop) : Prop := x_C sC d 273 0 [(2, 357), (0, l1), (0, l2)] m Q
/-- PaperHouse.pages()I -/
abbrev xc_x_pages (d : Nat) (m : w_M) (Q : Int → w_M → Prop) : Prop := x_C sC d 274 0 [(2, 357)] m Q
/-- PaperHouse.show(I)I -/
abbrev xc_x_show (d : Nat) (l1 : Int) (m : w_M) (Q : Int → w_M → Prop) : Prop := x_C sC d 275 0 [(2, 357), (0, l1)] m Q
/-- PaperHouse.size(I)I -/
abbrev xc_x_size (d : Nat) (l1 : Int) (m : w_M) (Q : Int → w_M → Prop) : Prop := x_C sC d 276 0 [(2, 357), (0, l1)] m Q
/-- PaperHouse.sum()I -/
abbrev xc_x_sum (d : Nat) (m : w_M) (Q : Int → w_M → Prop) : Prop := x_C sC d 277 0 [(2, 357)] m Q
/-- PaperHouse.take()I -/
abbrev xc_x_take (d : Nat) (m : w_M) (Q : Int → w_M → Prop) : Prop := x_C sC d 278 0 [(2, 357)] m Q
abbrev xp_x_take_22 (d : Nat) (l1 : Int) (m : w_M) (Q : Int → w_M → Prop) : Prop := x_W sC d ex_m278 0 22 [some (2, 357), some (0, l1)] [] m Q
/-- PaperHouse.turn(II)Z -/
abbrev xc_x_turn (d : Nat) (l1 l2 : Int) (m : w_M) (Q : Int → w_M → Prop) : Prop := x_C sC d 279 0 [(2, 357), (0, l1), (0, l2)] m Q
/-- PaperHouse.up()I -/
abbrev xc_x_up (d : Nat) (m : w_M) (Q : Int → w_M → Prop) : Prop := x_C sC d 280 0 [(2, 357)] m Q
/-- PaperHouse.whole()I -/
abbrev xc_x_whole (d : Nat) (m : w_M) (Q : Int → w_M → Prop) : Prop := x_C sC d 281 0 [(2, 357)] m Q
/-- PaperHouseModel.adler([BI)J -/
abbrev xc_m_adler (d : Nat) (l0 l1 : Int) (m : w_M) (Q : Int → w_M → Prop) : Prop := x_C sM d 283 1 [(2, l0), (0, l1)] m Q
abbrev xp_m_adler_7 (d : Nat) (l0 l1 l2 l3 l4 : Int) (m : w_M) (Q : Int → w_M → Prop) : Prop := x_W sM d ex_m283 1 7 [some (2, l0), some (0, l1), some (0, l2), some (0, l3), some (0, l4)] [] m Q
/-- PaperHouseModel.apart(II)I -/
abbrev xc_m_apart (d : Nat) (l0 l1 : Int) (m : w_M) (Q : Int → w_M → Prop) : Prop := x_C sM d 284 0 [(0, l0), (0, l1)] m Q
/-- PaperHouseModel.append(II)V -/
abbrev xc_m_append (d : Nat) (l1 l2 : Int) (m : w_M) (Q : Int → w_M → Prop) : Prop := x_C sM d 285 3 [(2, 428), (0, l1), (0, l2)] m Q
abbrev xp_m_append_41 (d : Nat) (l2 l3 : Int) (m : w_M) (Q : Int → w_M → Prop) : Prop := x_W sM d ex_m285 3 41 [some (2, 428), none, some (0, l2), some (0, l3)] [] m Q
/-- PaperHouseModel.areNumbers(I)Z -/
abbrev xc_m_areNumbers (d : Nat) (l1 : Int) (m : w_M) (Q : Int → w_M → Prop) : Prop := x_C sM d 286 0 [(2, 428), (0, l1)] m Q
abbrev xp_m_areNumbers_16 (d : Nat) (l2 l3 : Int) (m : w_M) (Q : Int → w_M → Prop) : Prop := x_W sM d ex_m286 0 16 [some (2, 428), none, some (0, l2), some (0, l3)] [] m Q
/-- PaperHouseModel.areShown(I)Z -/
abbrev xc_m_areShown (d : Nat) (l1 : Int) (m : w_M) (Q : Int → w_M → Prop) : Prop := x_C sM d 287 0 [(2, 428), (0, l1)] m Q
abbrev xp_m_areShown_9 (d : Nat) (l2 l3 : Int) (m : w_M) (Q : Int → w_M → Prop) : Prop := x_W sM d ex_m287 0 9 [some (2, 428), none, some (0, l2), some (0, l3)] [] m Q
/-- PaperHouseModel.array(IZ)I -/
abbrev xc_m_array (d : Nat) (l1 l2 : Int) (m : w_M) (Q : Int → w_M → Prop) : Prop := x_C sM d 288 0 [(2, 428), (0, l1), (0, l2)] m Q
abbrev xp_m_array_15 (d : Nat) (l1 l2 l3 l4 : Int) (m : w_M) (Q : Int → w_M → Prop) : Prop := x_W sM d ex_m288 0 15 [some (2, 428), some (0, l1), some (0, l2), some (0, l3), some (0, l4), none] [] m Q
/-- PaperHouseModel.bit(II)V -/
abbrev xc_m_bit (d : Nat) (l1 l2 : Int) (m : w_M) (Q : Int → w_M → Prop) : Prop := x_C sM d 289 3 [(2, 428), (0, l1), (0, l2)] m Q
abbrev xp_m_bit_2 (d : Nat) (l1 l2 l3 : Int) (m : w_M) (Q : Int → w_M → Prop) : Prop := x_W sM d ex_m289 3 2 [some (2, 428), some (0, l1), some (0, l2), some (0, l3)] [] m Q
abbrev xp_m_bit_30 (d : Nat) (l1 l2 l3 : Int) (m : w_M) (Q : Int → w_M → Prop) : Prop := x_W sM d ex_m289 3 30 [some (2, 428), some (0, l1), some (0, l2), some (0, l3)] [] m Q
/-- PaperHouseModel.bits(I)I -/
abbrev xc_m_bits (d : Nat) (l1 : Int) (m : w_M) (Q : Int → w_M → Prop) : Prop := x_C sM d 290 0 [(2, 428), (0, l1)] m Q
abbrev xp_m_bits_4 (d : Nat) (l1 l2 l3 : Int) (m : w_M) (Q : Int → w_M → Prop) : Prop := x_W sM d ex_m290 0 4 [some (2, 428), some (0, l1), some (0, l2), some (0, l3)] [] m Q
/-- PaperHouseModel.blanks()V -/
abbrev xc_m_blanks (d : Nat) (m : w_M) (Q : Int → w_M → Prop) : Prop := x_C sM d 291 3 [(2, 428)] m Q
abbrev xp_m_blanks_0 (d : Nat) (m : w_M) (Q : Int → w_M → Prop) : Prop := x_W sM d ex_m291 3 0 [some (2, 428)] [] m Q
/-- PaperHouseModel.build(II[I[I)I -/
abbrev xc_m_build (d : Nat) (l1 l2 l3 l4 : Int) (m : w_M) (Q : Int → w_M → Prop) : Prop := x_C sM d 292 0 [(2, 428), (0, l1), (0, l2), (2, l3), (2, l4)] m Q
abbrev xp_m_build_3 (d : Nat) (l1 l2 l3 l4 l5 : Int) (m : w_M) (Q : Int → w_M → Prop) : Prop := x_W sM d ex_m292 0 3 [some (2, 428), some (0, l1), some (0, l2), some (2, l3), some (2, l4), some (0, l5), none, none] [] m Q
abbrev xp_m_build_24 (d : Nat) (l1 l2 l3 l4 l5 : Int) (m : w_M) (Q : Int → w_M → Prop) : Prop := x_W sM d ex_m292 0 24 [some (2, 428), some (0, l1), some (0, l2), some (2, l3), some (2, l4), some (0, l5), none, none] [] m Q
abbrev xp_m_build_57 (d : Nat) (l1 l2 l3 l4 l5 l6 : Int) (m : w_M) (Q : Int → w_M → Prop) : Prop := x_W sM d ex_m292 0 57 [some (2, 428), some (0, l1), some (0, l2), some (2, l3), some (2, l4), some (0, l5), some (0, l6), none] [] m Q
abbrev xp_m_build_99 (d : Nat) (l1 l2 l3 l4 l5 l6 : Int) (m : w_M) (Q : Int → w_M → Prop) : Prop := x_W sM d ex_m292 0 99 [some (2, 428), some (0, l1), some (0, l2), some (2, l3), some (2, l4), some (0, l5), some (0, l6), none] [] m Q
abbrev xp_m_build_136 (d : Nat) (l1 l2 l4 l5 l6 : Int) (m : w_M) (Q : Int → w_M → Prop) : Prop := x_W sM d ex_m292 0 136 [some (2, 428), some (0, l1), some (0, l2), none, some (2, l4), some (0, l5), some (0, l6), none] [] m Q
/-- PaperHouseModel.byteHere(I)I -/
abbrev xc_m_byteHere (d : Nat) (l1 : Int) (m : w_M) (Q : Int → w_M → Prop) : Prop := x_C sM d 293 0 [(2, 428), (0, l1)] m Q
/-- PaperHouseModel.chainAt([BI)I -/
abbrev xc_m_chainAt (d : Nat) (l0 l1 : Int) (m : w_M) (Q : Int → w_M → Prop) : Prop := x_C sM d 294 0 [(2, l0), (0, l1)] m Q
/-- PaperHouseModel.changed(I)V -/
abbrev xc_m_changed (d : Nat) (l1 : Int) (m : w_M) (Q : Int → w_M → Prop) : Prop := x_C sM d 295 3 [(2, 428), (0, l1)] m Q
/-- PaperHouseModel.codeOf([BII)V -/
abbrev xc_m_codeOf (d : Nat) (l1 l2 l3 : Int) (m : w_M) (Q : Int → w_M → Prop) : Prop := x_C sM d 296 3 [(2, 428), (2, l1), (0, l2), (0, l3)] m Q
abbrev xp_m_codeOf_3 (d : Nat) (l1 l2 l3 l4 : Int) (m : w_M) (Q : Int → w_M → Prop) : Prop := x_W sM d ex_m296 3 3 [some (2, 428), some (2, l1), some (0, l2), some (0, l3), some (0, l4), none, none, none, none, none, none, none] [] m Q
abbrev xp_m_codeOf_77 (d : Nat) (l1 l2 l3 l4 : Int) (m : w_M) (Q : Int → w_M → Prop) : Prop := x_W sM d ex_m296 3 77 [some (2, 428), some (2, l1), some (0, l2), some (0, l3), some (0, l4), none, none, none, none, none, none, none] [] m Q
abbrev xp_m_codeOf_138 (d : Nat) (l1 l2 l3 l4 l5 l6 l7 l8 : Int) (m : w_M) (Q : Int → w_M → Prop) : Prop := x_W sM d ex_m296 3 138 [some (2, 428), some (2, l1), some (0, l2), some (0, l3), some (0, l4), some (0, l5), some (0, l6), some (0, l7), some (0, l8), none, none, none] [] m Q
abbrev xp_m_codeOf_185 (d : Nat) (l1 l2 l3 l4 l5 l6 l7 l8 l9 : Int) (m : w_M) (Q : Int → w_M → Prop) : Prop := x_W sM d ex_m296 3 185 [some (2, 428), some (2, l1), some (0, l2), some (0, l3), some (0, l4), some (0, l5), some (0, l6), some (0, l7), some (0, l8), some (0, l9), none, none] [] m Q
abbrev xp_m_codeOf_236 (d : Nat) (l1 l2 l3 l4 l5 l7 l8 l9 s0 : Int) (m : w_M) (Q : Int → w_M → Prop) : Prop := x_W sM d ex_m296 3 236 [some (2, 428), some (2, l1), some (0, l2), some (0, l3), some (0, l4), some (0, l5), none, some (0, l7), some (0, l8), some (0, l9), none, none] [(0, s0)] m Q
abbrev xp_m_codeOf_280 (d : Nat) (l1 l2 l3 l4 l5 l6 s0 : Int) (m : w_M) (Q : Int → w_M → Prop) : Prop := x_W sM d ex_m296 3 280 [some (2, 428), some (2, l1), some (0, l2), some (0, l3), some (0, l4), some (0, l5), some (0, l6), none, none, none, none, none] [(0, s0)] m Q
abbrev xp_m_codeOf_317 (d : Nat) (l1 l2 l3 l4 l9 l10 : Int) (m : w_M) (Q : Int → w_M → Prop) : Prop := x_W sM d ex_m296 3 317 [some (2, 428), some (2, l1), some (0, l2), some (0, l3), some (0, l4), none, none, none, none, some (0, l9), some (0, l10), none] [] m Q
abbrev xp_m_codeOf_402 (d : Nat) (l1 l2 l3 l5 l6 l7 : Int) (m : w_M) (Q : Int → w_M → Prop) : Prop := x_W sM d ex_m296 3 402 [some (2, 428), some (2, l1), some (0, l2), some (0, l3), none, some (0, l5), some (0, l6), some (0, l7), none, none, none, none] [] m Q
/-- PaperHouseModel.codes()V -/
abbrev xc_m_codes (d : Nat) (m : w_M) (Q : Int → w_M → Prop) : Prop := x_C sM d 297 3 [(2, 428)] m Q
abbrev xp_m_codes_0 (d : Nat) (m : w_M) (Q : Int → w_M → Prop) : Prop := x_W sM d ex_m297 3 0 [some (2, 428), none, none, none, none, none] [] m Q
abbrev xp_m_codes_157 (d : Nat) (l2 l4 l5 : Int) (m : w_M) (Q : Int → w_M → Prop) : Prop := x_W sM d ex_m297 3 157 [some (2, 428), none, some (0, l2), none, some (0, l4), some (0, l5)] [] m Q
/-- PaperHouseModel.collect(I)V -/
abbrev xc_m_collect (d : Nat) (l1 : Int) (m : w_M) (Q : Int → w_M → Prop) : Prop := x_C sM d 298 3 [(2, 428), (0, l1)] m Q
abbrev xp_m_collect_2 (d : Nat) (l1 l2 : Int) (m : w_M) (Q : Int → w_M → Prop) : Prop := x_W sM d ex_m298 3 2 [some (2, 428), some (0, l1), some (0, l2)] [] m Q
/-- PaperHouseModel.contents(I)I -/
abbrev xc_m_contents (d : Nat) (l1 : Int) (m : w_M) (Q : Int → w_M → Prop) : Prop := x_C sM d 299 0 [(2, 428), (0, l1)] m Q
abbrev xp_m_contents_80 (d : Nat) (l1 l2 l3 l4 : Int) (m : w_M) (Q : Int → w_M → Prop) : Prop := x_W sM d ex_m299 0 80 [some (2, 428), some (0, l1), some (0, l2), some (0, l3), some (0, l4)] [] m Q
/-- PaperHouseModel.contentsOf(I)I -/
abbrev xc_m_contentsOf (d : Nat) (l1 : Int) (m : w_M) (Q : Int → w_M → Prop) : Prop := x_C sM d 300 0 [(2, 428), (0, l1)] m Q
abbrev xp_m_contentsOf_76 (d : Nat) (l4 l5 : Int) (m : w_M) (Q : Int → w_M → Prop) : Prop := x_W sM d ex_m300 0 76 [some (2, 428), none, none, none, some (0, l4), some (0, l5), none] [] m Q
/-- PaperHouseModel.count(I)I -/
abbrev xc_m_count (d : Nat) (l1 : Int) (m : w_M) (Q : Int → w_M → Prop) : Prop := x_C sM d 301 0 [(2, 428), (0, l1)] m Q
abbrev xp_m_count_13 (d : Nat) (l1 l2 l3 : Int) (m : w_M) (Q : Int → w_M → Prop) : Prop := x_W sM d ex_m301 0 13 [some (2, 428), some (0, l1), some (0, l2), some (0, l3)] [] m Q
/-- PaperHouseModel.countTo(II)V -/
abbrev xc_m_countTo (d : Nat) (l1 l2 : Int) (m : w_M) (Q : Int → w_M → Prop) : Prop := x_C sM d 302 3 [(2, 428), (0, l1), (0, l2)] m Q
abbrev xp_m_countTo_2 (d : Nat) (l2 l3 : Int) (m : w_M) (Q : Int → w_M → Prop) : Prop := x_W sM d ex_m302 3 2 [some (2, 428), none, some (0, l2), some (0, l3), none] [] m Q
/-- PaperHouseModel.counted()V -/
abbrev xc_m_counted (d : Nat) (m : w_M) (Q : Int → w_M → Prop) : Prop := x_C sM d 303 3 [(2, 428)] m Q
abbrev xp_m_counted_49 (d : Nat) (s1 s2 : Int) (m : w_M) (Q : Int → w_M → Prop) : Prop := x_W sM d ex_m303 3 49 [some (2, 428), none] [(0, s2), (0, s1), (2, 428)] m Q
/-- PaperHouseModel.cut(I)I -/
abbrev xc_m_cut (d : Nat) (l1 : Int) (m : w_M) (Q : Int → w_M → Prop) : Prop := x_C sM d 304 0 [(2, 428), (0, l1)] m Q
/-- PaperHouseModel.data(II)I -/
abbrev xc_m_data (d : Nat) (l1 l2 : Int) (m : w_M) (Q : Int → w_M → Prop) : Prop := x_C sM d 305 0 [(2, 428), (0, l1), (0, l2)] m Q
/-- PaperHouseModel.decode(IIII)I -/
abbrev xc_m_decode (d : Nat) (l1 l2 l3 l4 : Int) (m : w_M) (Q : Int → w_M → Prop) : Prop := x_C sM d 306 0 [(2, 428), (0, l1), (0, l2), (0, l3), (0, l4)] m Q
abbrev xp_m_decode_3 (d : Nat) (l1 l2 l3 l4 l5 : Int) (m : w_M) (Q : Int → w_M → Prop) : Prop := x_W sM d ex_m306 0 3 [some (2, 428), some (0, l1), some (0, l2), some (0, l3), some (0, l4), some (0, l5), none] [] m Q
abbrev xp_m_decode_70 (d : Nat) (l6 : Int) (m : w_M) (Q : Int → w_M → Prop) : Prop := x_W sM d ex_m306 0 70 [some (2, 428), none, none, none, none, none, some (0, l6)] [] m Q
/-- PaperHouseModel.delete(I)I -/
abbrev xc_m_delete (d : Nat) (l1 : Int) (m : w_M) (Q : Int → w_M → Prop) : Prop := x_C sM d 307 0 [(2, 428), (0, l1)] m Q
/-- PaperHouseModel.dict(IZ)I -/
abbrev xc_m_dict (d : Nat) (l1 l2 : Int) (m : w_M) (Q : Int → w_M → Prop) : Prop := x_C sM d 308 0 [(2, 428), (0, l1), (0, l2)] m Q
abbrev xp_m_dict_15 (d : Nat) (l1 l2 l3 l4 : Int) (m : w_M) (Q : Int → w_M → Prop) : Prop := x_W sM d ex_m308 0 15 [some (2, 428), some (0, l1), some (0, l2), some (0, l3), some (0, l4), none, none, none] [] m Q
abbrev xp_m_dict_71 (d : Nat) (l1 l2 l3 l4 l5 : Int) (m : w_M) (Q : Int → w_M → Prop) : Prop := x_W sM d ex_m308 0 71 [some (2, 428), some (0, l1), some (0, l2), some (0, l3), some (0, l4), some (0, l5), none, none] [] m Q
abbrev xp_m_dict_100 (d : Nat) (l1 l2 l3 l4 l5 l6 l7 : Int) (m : w_M) (Q : Int → w_M → Prop) : Prop := x_W sM d ex_m308 0 100 [some (2, 428), some (0, l1), some (0, l2), some (0, l3), some (0, l4), some (0, l5), some (0, l6), some (0, l7)] [] m Q
/-- PaperHouseModel.dictAt(I)I -/
abbrev xc_m_dictAt (d : Nat) (l1 : Int) (m : w_M) (Q : Int → w_M → Prop) : Prop := x_C sM d 309 0 [(2, 428), (0, l1)] m Q
/-- PaperHouseModel.dictNumber(I)I -/
abbrev xc_m_dictNumber (d : Nat) (l1 : Int) (m : w_M) (Q : Int → w_M → Prop) : Prop := x_C sM d 310 0 [(2, 428), (0, l1)] m Q
/-- PaperHouseModel.digits(II)J -/
abbrev xc_m_digits (d : Nat) (l1 l2 : Int) (m : w_M) (Q : Int → w_M → Prop) : Prop := x_C sM d 311 1 [(2, 428), (0, l1), (0, l2)] m Q
abbrev xp_m_digits_5 (d : Nat) (l1 l2 l3 l5 : Int) (m : w_M) (Q : Int → w_M → Prop) : Prop := x_W sM d ex_m311 1 5 [some (2, 428), some (0, l1), some (0, l2), some (1, l3), none, some (0, l5)] [] m Q
/-- PaperHouseModel.direct(ILjava/lang/String;)I -/
abbrev xc_m_direct (d : Nat) (l1 l2 : Int) (m : w_M) (Q : Int → w_M → Prop) : Prop := x_C sM d 312 0 [(2, 428), (0, l1), (2, l2)] m Q
/-- PaperHouseModel.distanceOf(I)I -/
abbrev xc_m_distanceOf (d : Nat) (l0 : Int) (m : w_M) (Q : Int → w_M → Prop) : Prop := x_C sM d 313 0 [(0, l0)] m Q
/-- PaperHouseModel.down(I)I -/
abbrev xc_m_down (d : Nat) (l1 : Int) (m : w_M) (Q : Int → w_M → Prop) : Prop := x_C sM d 314 0 [(2, 428), (0, l1)] m Q
abbrev xp_m_down_49 (d : Nat) (l1 : Int) (m : w_M) (Q : Int → w_M → Prop) : Prop := x_W sM d ex_m314 0 49 [some (2, 428), some (0, l1), none, none, none] [] m Q
abbrev xp_m_down_87 (d : Nat) (l1 l3 l4 : Int) (m : w_M) (Q : Int → w_M → Prop) : Prop := x_W sM d ex_m314 0 87 [some (2, 428), some (0, l1), none, some (0, l3), some (0, l4)] [] m Q
/-- PaperHouseModel.dynamic()V -/
abbrev xc_m_dynamic (d : Nat) (m : w_M) (Q : Int → w_M → Prop) : Prop := x_C sM d 315 3 [(2, 428)] m Q
abbrev xp_m_dynamic_55 (d : Nat) (l1 l2 l3 l4 : Int) (m : w_M) (Q : Int → w_M → Prop) : Prop := x_W sM d ex_m315 3 55 [some (2, 428), some (0, l1), some (0, l2), some (0, l3), some (0, l4), none, none, none, none] [] m Q
abbrev xp_m_dynamic_127 (d : Nat) (l1 l2 l4 : Int) (m : w_M) (Q : Int → w_M → Prop) : Prop := x_W sM d ex_m315 3 127 [some (2, 428), some (0, l1), some (0, l2), none, some (0, l4), none, none, none, none] [] m Q
abbrev xp_m_dynamic_224 (d : Nat) (l1 l2 l4 l5 s0 : Int) (m : w_M) (Q : Int → w_M → Prop) : Prop := x_W sM d ex_m315 3 224 [some (2, 428), some (0, l1), some (0, l2), none, some (0, l4), some (0, l5), none, none, none] [(0, s0)] m Q
abbrev xp_m_dynamic_291 (d : Nat) (l1 l2 l4 l6 l7 l8 : Int) (m : w_M) (Q : Int → w_M → Prop) : Prop := x_W sM d ex_m315 3 291 [some (2, 428), some (0, l1), some (0, l2), none, some (0, l4), none, some (0, l6), some (0, l7), some (0, l8)] [] m Q
abbrev xp_m_dynamic_322 (d : Nat) (l1 l2 l5 : Int) (m : w_M) (Q : Int → w_M → Prop) : Prop := x_W sM d ex_m315 3 322 [some (2, 428), some (0, l1), some (0, l2), none, none, some (0, l5), none, none, none] [] m Q
abbrev xp_m_dynamic_390 (d : Nat) (l1 l2 s0 : Int) (m : w_M) (Q : Int → w_M → Prop) : Prop := x_W sM d ex_m315 3 390 [some (2, 428), some (0, l1), some (0, l2), none, none, none, none, none, none] [(0, s0)] m Q
/-- PaperHouseModel.element(II)I -/
abbrev xc_m_element (d : Nat) (l1 l2 : Int) (m : w_M) (Q : Int → w_M → Prop) : Prop := x_C sM d 316 0 [(2, 428), (0, l1), (0, l2)] m Q
abbrev xp_m_element_7 (d : Nat) (l2 l3 : Int) (m : w_M) (Q : Int → w_M → Prop) : Prop := x_W sM d ex_m316 0 7 [some (2, 428), none, some (0, l2), some (0, l3)] [] m Q
/-- PaperHouseModel.emit(I)V -/
abbrev xc_m_emit (d : Nat) (l1 : Int) (m : w_M) (Q : Int → w_M → Prop) : Prop := x_C sM d 317 3 [(2, 428), (0, l1)] m Q
/-- PaperHouseModel.ending(I)J -/
abbrev xc_m_ending (d : Nat) (l1 : Int) (m : w_M) (Q : Int → w_M → Prop) : Prop := x_C sM d 318 1 [(2, 428), (0, l1)] m Q
abbrev xp_m_ending_2 (d : Nat) (l1 l2 : Int) (m : w_M) (Q : Int → w_M → Prop) : Prop := x_W sM d ex_m318 1 2 [some (2, 428), some (0, l1), some (0, l2), none, none, none, none, none, none] [] m Q
abbrev xp_m_ending_50 (d : Nat) (l2 l3 l4 : Int) (m : w_M) (Q : Int → w_M → Prop) : Prop := x_W sM d ex_m318 1 50 [some (2, 428), none, some (0, l2), some (0, l3), some (1, l4), none, none, none, none] [] m Q
abbrev xp_m_ending_122 (d : Nat) (l2 l4 l6 : Int) (m : w_M) (Q : Int → w_M → Prop) : Prop := x_W sM d ex_m318 1 122 [some (2, 428), none, some (0, l2), none, some (1, l4), none, some (0, l6), none, none] [] m Q
abbrev xp_m_ending_163 (d : Nat) (l2 l4 l8 : Int) (m : w_M) (Q : Int → w_M → Prop) : Prop := x_W sM d ex_m318 1 163 [some (2, 428), none, some (0, l2), none, some (1, l4), none, none, some (2, 194), some (0, l8)] [] m Q
abbrev xp_m_ending_203 (d : Nat) (l2 l4 : Int) (m : w_M) (Q : Int → w_M → Prop) : Prop := x_W sM d ex_m318 1 203 [some (2, 428), none, some (0, l2), none, some (1, l4), none, none, none, none] [] m Q
/-- PaperHouseModel.entries(III)V -/
abbrev xc_m_entries1 (d : Nat) (l1 l2 l3 : Int) (m : w_M) (Q : Int → w_M → Prop) : Prop := x_C sM d 319 3 [(2, 428), (0, l1), (0, l2), (0, l3)] m Q
abbrev xp_m_entries1_81 (d : Nat) (l1 l2 l3 l5 l6 l8 l9 : Int) (m : w_M) (Q : Int → w_M → Prop) : Prop := x_W sM d ex_m319 3 81 [some (2, 428), some (0, l1), some (0, l2), some (0, l3), none, some (0, l5), some (0, l6), some (2, 467), some (0, l8), some (0, l9), none, none, none, none, none, none, none, none, none, none, none, none] [] m Q
abbrev xp_m_entries1_158 (d : Nat) (l1 l2 l3 l5 l6 : Int) (m : w_M) (Q : Int → w_M → Prop) : Prop := x_W sM d ex_m319 3 158 [some (2, 428), some (0, l1), some (0, l2), some (0, l3), none, some (0, l5), some (0, l6), some (2, 467), none, none, none, none, none, none, none, none, none, none, none, none, none, none] [] m Q
abbrev xp_m_entries1_213 (d : Nat) (l1 l2 l3 l5 s0 : Int) (m : w_M) (Q : Int → w_M → Prop) : Prop := x_W sM d ex_m319 3 213 [some (2, 428), some (0, l1), some (0, l2), some (0, l3), none, some (0, l5), none, some (2, 467), none, none, none, none, none, none, none, none, none, none, none, none, none, none] [(0, s0)] m Q
abbrev xp_m_entries1_242 (d : Nat) (l1 l2 l3 l5 l6 l8 l9 : Int) (m : w_M) (Q : Int → w_M → Prop) : Prop := x_W sM d ex_m319 3 242 [some (2, 428), some (0, l1), some (0, l2), some (0, l3), none, some (0, l5), some (0, l6), some (2, 467), some (0, l8), some (0, l9), none, none, none, none, none, none, none, none, none, none, none, none] [] m Q
abbrev xp_m_entries1_319 (d : Nat) (l1 l2 l3 l8 l9 l10 : Int) (m : w_M) (Q : Int → w_M → Prop) : Prop := x_W sM d ex_m319 3 319 [some (2, 428), some (0, l1), some (0, l2), some (0, l3), none, none, none, some (2, 467), some (0, l8), some (0, l9), some (0, l10), none, none, none, none, none, none, none, none, none, none, none] [] m Q
abbrev xp_m_entries1_336 (d : Nat) (l1 l2 l3 l8 l9 l10 : Int) (m : w_M) (Q : Int → w_M → Prop) : Prop := x_W sM d ex_m319 3 336 [some (2, 428), some (0, l1), some (0, l2), some (0, l3), none, none, none, some (2, 467), some (0, l8), some (0, l9), some (0, l10), none, none, none, none, none, none, none, none, none, none, none] [] m Q
abbrev xp_m_entries1_386 (d : Nat) (l1 l2 l3 l8 l9 l10 l11 s0 : Int) (m : w_M) (Q : Int → w_M → Prop) : Prop := x_W sM d ex_m319 3 386 [some (2, 428), some (0, l1), some (0, l2), some (0, l3), none, none, none, some (2, 467), some (0, l8), some (0, l9), some (0, l10), some (1, l11), none, none, none, none, none, none, none, none, none, none] [(1, s0)] m Q
abbrev xp_m_entries1_436 (d : Nat) (l1 l2 l3 l8 l9 l10 l11 l13 l15 : Int) (m : w_M) (Q : Int → w_M → Prop) : Prop := x_W sM d ex_m319 3 436 [some (2, 428), some (0, l1), some (0, l2), some (0, l3), none, none, none, some (2, 467), some (0, l8), some (0, l9), some (0, l10), some (1, l11), none, some (1, l13), none, some (0, l15), none, none, none, none, none, none] [] m Q
abbrev xp_m_entries1_494 (d : Nat) (l1 l2 l3 l8 l9 l10 l11 l13 l15 s0 : Int) (m : w_M) (Q : Int → w_M → Prop) : Prop := x_W sM d ex_m319 3 494 [some (2, 428), some (0, l1), some (0, l2), some (0, l3), none, none, none, some (2, 467), some (0, l8), some (0, l9), some (0, l10), some (1, l11), none, some (1, l13), none, some (0, l15), none, none, none, none, none, none] [(1, s0)] m Q
/-- PaperHouseModel.entries(IZ)V -/
abbrev xc_m_entries2 (d : Nat) (l1 l2 : Int) (m : w_M) (Q : Int → w_M → Prop) : Prop := x_C sM d 320 3 [(2, 428), (0, l1), (0, l2)] m Q
abbrev xp_m_entries2_7 (d : Nat) (l2 l3 : Int) (m : w_M) (Q : Int → w_M → Prop) : Prop := x_W sM d ex_m320 3 7 [some (2, 428), none, some (0, l2), some (0, l3), none] [] m Q
abbrev xp_m_entries2_93 (d : Nat) (l2 l3 : Int) (m : w_M) (Q : Int → w_M → Prop) : Prop := x_W sM d ex_m320 3 93 [some (2, 428), none, some (0, l2), some (0, l3), none] [] m Q
/-- PaperHouseModel.entry(ILjava/lang/String;)I -/
abbrev xc_m_entry (d : Nat) (l1 l2 : Int) (m : w_M) (Q : Int → w_M → Prop) : Prop := x_C sM d 321 0 [(2, 428), (0, l1), (2, l2)] m Q
/-- PaperHouseModel.entryTo(ILjava/lang/String;III)I -/
abbrev xc_m_entryTo (d : Nat) (l1 l2 l3 l4 l5 : Int) (m : w_M) (Q : Int → w_M → Prop) : Prop := x_C sM d 322 0 [(2, 428), (0, l1), (2, l2), (0, l3), (0, l4), (0, l5)] m Q
abbrev xp_m_entryTo_36 (d : Nat) (l3 l4 l5 l6 : Int) (m : w_M) (Q : Int → w_M → Prop) : Prop := x_W sM d ex_m322 0 36 [some (2, 428), none, none, some (0, l3), some (0, l4), some (0, l5), some (0, l6)] [] m Q
/-- PaperHouseModel.escape()V -/
abbrev xc_m_escape (d : Nat) (m : w_M) (Q : Int → w_M → Prop) : Prop := x_C sM d 323 3 [(2, 428)] m Q
abbrev xp_m_escape_27 (d : Nat) (l2 l3 : Int) (m : w_M) (Q : Int → w_M → Prop) : Prop := x_W sM d ex_m323 3 27 [some (2, 428), none, some (0, l2), some (0, l3)] [] m Q
abbrev xp_m_escape_92 (d : Nat) (l1 : Int) (m : w_M) (Q : Int → w_M → Prop) : Prop := x_W sM d ex_m323 3 92 [some (2, 428), some (0, l1), none, none] [] m Q
abbrev xp_m_escape_170 (d : Nat) (l1 s0 : Int) (m : w_M) (Q : Int → w_M → Prop) : Prop := x_W sM d ex_m323 3 170 [some (2, 428), some (0, l1), none, none] [(0, s0)] m Q
/-- PaperHouseModel.extraOf(I)I -/
abbrev xc_m_extraOf (d : Nat) (l0 : Int) (m : w_M) (Q : Int → w_M → Prop) : Prop := x_C sM d 324 0 [(0, l0)] m Q
/-- PaperHouseModel.fail(II)V -/
abbrev xc_m_fail (d : Nat) (l1 l2 : Int) (m : w_M) (Q : Int → w_M → Prop) : Prop := x_C sM d 325 3 [(2, 428), (0, l1), (0, l2)] m Q
/-- PaperHouseModel.farExtra(I)I -/
abbrev xc_m_farExtra (d : Nat) (l0 : Int) (m : w_M) (Q : Int → w_M → Prop) : Prop := x_C sM d 326 0 [(0, l0)] m Q
/-- PaperHouseModel.fault(I)I -/
abbrev xc_m_fault (d : Nat) (l1 : Int) (m : w_M) (Q : Int → w_M → Prop) : Prop := x_C sM d 327 0 [(2, 428), (0, l1)] m Q
/-- PaperHouseModel.feed(IIIII)I -/
abbrev xc_m_feed (d : Nat) (l1 l2 l3 l4 l5 : Int) (m : w_M) (Q : Int → w_M → Prop) : Prop := x_C sM d 328 0 [(2, 428), (0, l1), (0, l2), (0, l3), (0, l4), (0, l5)] m Q
/-- PaperHouseModel.filters(III)V -/
abbrev xc_m_filters (d : Nat) (l1 l2 l3 : Int) (m : w_M) (Q : Int → w_M → Prop) : Prop := x_C sM d 329 3 [(2, 428), (0, l1), (0, l2), (0, l3)] m Q
abbrev xp_m_filters_58 (d : Nat) (l1 l2 l3 l4 s0 : Int) (m : w_M) (Q : Int → w_M → Prop) : Prop := x_W sM d ex_m329 3 58 [some (2, 428), some (0, l1), some (0, l2), some (0, l3), some (0, l4), none, none, none, none, none, none, none, none, none] [(0, s0)] m Q
abbrev xp_m_filters_89 (d : Nat) (l1 l3 l4 l5 l6 l7 l8 : Int) (m : w_M) (Q : Int → w_M → Prop) : Prop := x_W sM d ex_m329 3 89 [some (2, 428), some (0, l1), none, some (0, l3), some (0, l4), some (0, l5), some (0, l6), some (0, l7), some (0, l8), none, none, none, none, none] [] m Q
abbrev xp_m_filters_147 (d : Nat) (l1 l3 l4 l5 l6 : Int) (m : w_M) (Q : Int → w_M → Prop) : Prop := x_W sM d ex_m329 3 147 [some (2, 428), some (0, l1), none, some (0, l3), some (0, l4), some (0, l5), some (0, l6), none, none, none, none, none, none, none] [] m Q
abbrev xp_m_filters_195 (d : Nat) (l3 l5 l6 l8 : Int) (m : w_M) (Q : Int → w_M → Prop) : Prop := x_W sM d ex_m329 3 195 [some (2, 428), none, none, some (0, l3), none, some (0, l5), some (0, l6), none, some (0, l8), none, none, none, none, none] [] m Q
abbrev xp_m_filters_248 (d : Nat) (l3 l4 l5 l6 l8 s0 : Int) (m : w_M) (Q : Int → w_M → Prop) : Prop := x_W sM d ex_m329 3 248 [some (2, 428), none, none, some (0, l3), some (0, l4), some (0, l5), some (0, l6), none, some (0, l8), none, none, none, none, none] [(0, s0)] m Q
abbrev xp_m_filters_290 (d : Nat) (l3 l4 l5 l6 l7 l8 l9 l10 l11 : Int) (m : w_M) (Q : Int → w_M → Prop) : Prop := x_W sM d ex_m329 3 290 [some (2, 428), none, none, some (0, l3), some (0, l4), some (0, l5), some (0, l6), some (0, l7), some (0, l8), some (0, l9), some (0, l10), some (0, l11), none, none] [] m Q
abbrev xp_m_filters_334 (d : Nat) (l3 l5 l6 l7 l8 l9 l10 l11 s0 : Int) (m : w_M) (Q : Int → w_M → Prop) : Prop := x_W sM d ex_m329 3 334 [some (2, 428), none, none, some (0, l3), none, some (0, l5), some (0, l6), some (0, l7), some (0, l8), some (0, l9), some (0, l10), some (0, l11), none, none] [(0, s0)] m Q
abbrev xp_m_filters_378 (d : Nat) (l3 l4 l5 l6 l7 l8 l9 l10 l11 : Int) (m : w_M) (Q : Int → w_M → Prop) : Prop := x_W sM d ex_m329 3 378 [some (2, 428), none, none, some (0, l3), some (0, l4), some (0, l5), some (0, l6), some (0, l7), some (0, l8), some (0, l9), some (0, l10), some (0, l11), none, none] [] m Q
abbrev xp_m_filters_412 (d : Nat) (l3 l4 l5 l6 l8 l9 : Int) (m : w_M) (Q : Int → w_M → Prop) : Prop := x_W sM d ex_m329 3 412 [some (2, 428), none, none, some (0, l3), some (0, l4), some (0, l5), some (0, l6), none, some (0, l8), some (0, l9), none, none, none, none] [] m Q
abbrev xp_m_filters_460 (d : Nat) (l3 l5 l7 l9 l10 l11 : Int) (m : w_M) (Q : Int → w_M → Prop) : Prop := x_W sM d ex_m329 3 460 [some (2, 428), none, none, some (0, l3), none, some (0, l5), none, some (0, l7), none, some (0, l9), some (0, l10), some (0, l11), none, none] [] m Q
abbrev xp_m_filters_516 (d : Nat) (l3 l5 l7 l9 l10 l11 l12 l13 : Int) (m : w_M) (Q : Int → w_M → Prop) : Prop := x_W sM d ex_m329 3 516 [some (2, 428), none, none, some (0, l3), none, some (0, l5), none, some (0, l7), none, some (0, l9), some (0, l10), some (0, l11), some (0, l12), some (0, l13)] [] m Q
abbrev xp_m_filters_599 (d : Nat) (l3 l5 l7 l9 l10 l11 : Int) (m : w_M) (Q : Int → w_M → Prop) : Prop := x_W sM d ex_m329 3 599 [some (2, 428), none, none, some (0, l3), none, some (0, l5), none, some (0, l7), none, some (0, l9), some (0, l10), some (0, l11), none, none] [] m Q
/-- PaperHouseModel.finish(I)I -/
abbrev xc_m_finish (d : Nat) (l1 : Int) (m : w_M) (Q : Int → w_M → Prop) : Prop := x_C sM d 330 0 [(2, 428), (0, l1)] m Q
/-- PaperHouseModel.fixed()V -/
abbrev xc_m_fixed (d : Nat) (m : w_M) (Q : Int → w_M → Prop) : Prop := x_C sM d 331 3 [(2, 428)] m Q
abbrev xp_m_fixed_2 (d : Nat) (l1 : Int) (m : w_M) (Q : Int → w_M → Prop) : Prop := x_W sM d ex_m331 3 2 [some (2, 428), some (0, l1)] [] m Q
abbrev xp_m_fixed_78 (d : Nat) (l1 : Int) (m : w_M) (Q : Int → w_M → Prop) : Prop := x_W sM d ex_m331 3 78 [some (2, 428), some (0, l1)] [] m Q
/-- PaperHouseModel.font()V -/
abbrev xc_m_font (d : Nat) (m : w_M) (Q : Int → w_M → Prop) : Prop := x_C sM d 332 3 [(2, 428)] m Q
abbrev xp_m_font_52 (d : Nat) (l2 l3 l4 : Int) (m : w_M) (Q : Int → w_M → Prop) : Prop := x_W sM d ex_m332 3 52 [some (2, 428), none, some (0, l2), some (0, l3), some (0, l4), none, none, none, none, none, none] [] m Q
abbrev xp_m_font_83 (d : Nat) (l2 l3 l4 l5 l6 : Int) (m : w_M) (Q : Int → w_M → Prop) : Prop := x_W sM d ex_m332 3 83 [some (2, 428), none, some (0, l2), some (0, l3), some (0, l4), some (0, l5), some (0, l6), none, none, none, none] [] m Q
abbrev xp_m_font_188 (d : Nat) (l4 s0 : Int) (m : w_M) (Q : Int → w_M → Prop) : Prop := x_W sM d ex_m332 3 188 [some (2, 428), none, none, none, some (0, l4), none, none, none, none, none, none] [(0, s0)] m Q
abbrev xp_m_font_239 (d : Nat) (l4 l5 l6 s0 : Int) (m : w_M) (Q : Int → w_M → Prop) : Prop := x_W sM d ex_m332 3 239 [some (2, 428), none, none, none, some (0, l4), some (0, l5), some (0, l6), none, none, none, none] [(0, s0)] m Q
abbrev xp_m_font_279 (d : Nat) (l4 l5 l7 l8 s0 : Int) (m : w_M) (Q : Int → w_M → Prop) : Prop := x_W sM d ex_m332 3 279 [some (2, 428), none, none, none, some (0, l4), some (0, l5), none, some (0, l7), some (0, l8), none, none] [(0, s0)] m Q
abbrev xp_m_font_335 (d : Nat) (l4 l5 l7 l8 l9 s0 : Int) (m : w_M) (Q : Int → w_M → Prop) : Prop := x_W sM d ex_m332 3 335 [some (2, 428), none, none, none, some (0, l4), some (0, l5), none, some (0, l7), some (0, l8), some (0, l9), none] [(0, s0)] m Q
abbrev xp_m_font_434 (d : Nat) (l4 l5 l6 l7 l8 l9 l10 : Int) (m : w_M) (Q : Int → w_M → Prop) : Prop := x_W sM d ex_m332 3 434 [some (2, 428), none, none, none, some (0, l4), some (0, l5), some (0, l6), some (0, l7), some (0, l8), some (0, l9), some (0, l10)] [] m Q
/-- PaperHouseModel.from([BII)V -/
abbrev xc_m_from (d : Nat) (l1 l2 l3 : Int) (m : w_M) (Q : Int → w_M → Prop) : Prop := x_C sM d 333 3 [(2, 428), (2, l1), (0, l2), (0, l3)] m Q
/-- PaperHouseModel.gather(I)V -/
abbrev xc_m_gather (d : Nat) (l1 : Int) (m : w_M) (Q : Int → w_M → Prop) : Prop := x_C sM d 334 3 [(2, 428), (0, l1)] m Q
abbrev xp_m_gather_63 (d : Nat) (l4 : Int) (m : w_M) (Q : Int → w_M → Prop) : Prop := x_W sM d ex_m334 3 63 [some (2, 428), none, none, none, some (0, l4)] [] m Q
/-- PaperHouseModel.generationOf(I)J -/
abbrev xc_m_generationOf (d : Nat) (l1 : Int) (m : w_M) (Q : Int → w_M → Prop) : Prop := x_C sM d 335 1 [(2, 428), (0, l1)] m Q
/-- PaperHouseModel.glyph(II)I -/
abbrev xc_m_glyph (d : Nat) (l1 l2 : Int) (m : w_M) (Q : Int → w_M → Prop) : Prop := x_C sM d 336 0 [(2, 428), (0, l1), (0, l2)] m Q
/-- PaperHouseModel.go(I)I -/
abbrev xc_m_go (d : Nat) (l1 : Int) (m : w_M) (Q : Int → w_M → Prop) : Prop := x_C sM d 337 0 [(2, 428), (0, l1)] m Q
/-- PaperHouseModel.goes(II)V -/
abbrev xc_m_goes (d : Nat) (l1 l2 : Int) (m : w_M) (Q : Int → w_M → Prop) : Prop := x_C sM d 338 3 [(2, 428), (0, l1), (0, l2)] m Q
abbrev xp_m_goes_39 (d : Nat) (l3 : Int) (m : w_M) (Q : Int → w_M → Prop) : Prop := x_W sM d ex_m338 3 39 [some (2, 428), none, none, some (0, l3)] [] m Q
/-- PaperHouseModel.good()Z -/
abbrev xc_m_good (d : Nat) (m : w_M) (Q : Int → w_M → Prop) : Prop := x_C sM d 339 0 [(2, 428)] m Q
/-- PaperHouseModel.header()Z -/
abbrev xc_m_header (d : Nat) (m : w_M) (Q : Int → w_M → Prop) : Prop := x_C sM d 340 0 [(2, 428)] m Q
abbrev xp_m_header_24 (d : Nat) (s0 : Int) (m : w_M) (Q : Int → w_M → Prop) : Prop := x_W sM d ex_m340 0 24 [some (2, 428), none] [(0, s0)] m Q
/-- PaperHouseModel.here(I)I -/
abbrev xc_m_here (d : Nat) (l1 : Int) (m : w_M) (Q : Int → w_M → Prop) : Prop := x_C sM d 341 0 [(2, 428), (0, l1)] m Q
/-- PaperHouseModel.hexDigit(I)I -/
abbrev xc_m_hexDigit (d : Nat) (l0 : Int) (m : w_M) (Q : Int → w_M → Prop) : Prop := x_C sM d 342 0 [(0, l0)] m Q
/-- PaperHouseModel.hexOf(I)I -/
abbrev xc_m_hexOf (d : Nat) (l0 : Int) (m : w_M) (Q : Int → w_M → Prop) : Prop := x_C sM d 343 0 [(0, l0)] m Q
/-- PaperHouseModel.holder(ILjava/lang/String;)I -/
abbrev xc_m_holder (d : Nat) (l1 l2 : Int) (m : w_M) (Q : Int → w_M → Prop) : Prop := x_C sM d 344 0 [(2, 428), (0, l1), (2, l2)] m Q
abbrev xp_m_holder_2 (d : Nat) (l2 l3 : Int) (m : w_M) (Q : Int → w_M → Prop) : Prop := x_W sM d ex_m344 0 2 [some (2, 428), none, some (2, l2), some (0, l3)] [] m Q
/-- PaperHouseModel.huffman(II)V -/
abbrev xc_m_huffman (d : Nat) (l1 l2 : Int) (m : w_M) (Q : Int → w_M → Prop) : Prop := x_C sM d 345 3 [(2, 428), (0, l1), (0, l2)] m Q
abbrev xp_m_huffman_4 (d : Nat) (l1 l3 : Int) (m : w_M) (Q : Int → w_M → Prop) : Prop := x_W sM d ex_m345 3 4 [some (2, 428), some (0, l1), none, some (0, l3)] [] m Q
/-- PaperHouseModel.identity([I)V -/
abbrev xc_m_identity (d : Nat) (l0 : Int) (m : w_M) (Q : Int → w_M → Prop) : Prop := x_C sM d 346 3 [(2, l0)] m Q
abbrev xp_m_identity_2 (d : Nat) (l0 l1 : Int) (m : w_M) (Q : Int → w_M → Prop) : Prop := x_W sM d ex_m346 3 2 [some (2, l0), some (0, l1)] [] m Q
/-- PaperHouseModel.idle(Ljava/lang/String;)Z -/
abbrev xc_m_idle (d : Nat) (l1 : Int) (m : w_M) (Q : Int → w_M → Prop) : Prop := x_C sM d 347 0 [(2, 428), (2, l1)] m Q
abbrev xp_m_idle_734 (d : Nat) (l3 : Int) (m : w_M) (Q : Int → w_M → Prop) : Prop := x_W sM d ex_m347 0 734 [some (2, 428), none, none, some (0, l3)] [] m Q
/-- PaperHouseModel.inflate()Z -/
abbrev xc_m_inflate (d : Nat) (m : w_M) (Q : Int → w_M → Prop) : Prop := x_C sM d 348 0 [(2, 428)] m Q
abbrev xp_m_inflate_89 (d : Nat) (l3 : Int) (m : w_M) (Q : Int → w_M → Prop) : Prop := x_W sM d ex_m348 0 89 [some (2, 428), none, none, some (0, l3), none, none, none] [] m Q
abbrev xp_m_inflate_114 (d : Nat) (s0 : Int) (m : w_M) (Q : Int → w_M → Prop) : Prop := x_W sM d ex_m348 0 114 [some (2, 428), none, none, none, none, none, none] [(0, s0)] m Q
abbrev xp_m_inflate_183 (d : Nat) (m : w_M) (Q : Int → w_M → Prop) : Prop := x_W sM d ex_m348 0 183 [some (2, 428), none, none, none, none, none, none] [] m Q
/-- PaperHouseModel.info(I)I -/
abbrev xc_m_info (d : Nat) (l1 : Int) (m : w_M) (Q : Int → w_M → Prop) : Prop := x_C sM d 349 0 [(2, 428), (0, l1)] m Q
abbrev xp_m_info_52 (d : Nat) (l1 l2 : Int) (m : w_M) (Q : Int → w_M → Prop) : Prop := x_W sM d ex_m349 0 52 [some (2, 428), some (0, l1), some (0, l2), none, none, none] [] m Q
abbrev xp_m_info_109 (d : Nat) (l1 l2 s0 : Int) (m : w_M) (Q : Int → w_M → Prop) : Prop := x_W sM d ex_m349 0 109 [some (2, 428), some (0, l1), some (0, l2), none, none, none] [(2, s0)] m Q
abbrev xp_m_info_156 (d : Nat) (l2 l4 l5 : Int) (m : w_M) (Q : Int → w_M → Prop) : Prop := x_W sM d ex_m349 0 156 [some (2, 428), none, some (0, l2), none, some (0, l4), some (0, l5)] [] m Q
/-- PaperHouseModel.inherited(ILjava/lang/String;)I -/
abbrev xc_m_inherited (d : Nat) (l1 l2 : Int) (m : w_M) (Q : Int → w_M → Prop) : Prop := x_C sM d 350 0 [(2, 428), (0, l1), (2, l2)] m Q
/-- PaperHouseModel.insert(III)I -/
abbrev xc_m_insert (d : Nat) (l1 l2 l3 : Int) (m : w_M) (Q : Int → w_M → Prop) : Prop := x_C sM d 351 0 [(2, 428), (0, l1), (0, l2), (0, l3)] m Q
/-- PaperHouseModel.isBlank(I)Z -/
abbrev xc_m_isBlank (d : Nat) (l0 : Int) (m : w_M) (Q : Int → w_M → Prop) : Prop := x_C sM d 352 0 [(0, l0)] m Q
/-- PaperHouseModel.isBox(I)Z -/
abbrev xc_m_isBox (d : Nat) (l1 : Int) (m : w_M) (Q : Int → w_M → Prop) : Prop := x_C sM d 353 0 [(2, 428), (0, l1)] m Q
abbrev xp_m_isBox_32 (d : Nat) (l2 l3 : Int) (m : w_M) (Q : Int → w_M → Prop) : Prop := x_W sM d ex_m353 0 32 [some (2, 428), none, some (0, l2), some (0, l3)] [] m Q
/-- PaperHouseModel.isDelimiter(I)Z -/
abbrev xc_m_isDelimiter (d : Nat) (l0 : Int) (m : w_M) (Q : Int → w_M → Prop) : Prop := x_C sM d 354 0 [(0, l0)] m Q
/-- PaperHouseModel.isDict(I)Z -/
abbrev xc_m_isDict (d : Nat) (l1 : Int) (m : w_M) (Q : Int → w_M → Prop) : Prop := x_C sM d 355 0 [(2, 428), (0, l1)] m Q
/-- PaperHouseModel.isDigit(I)Z -/
abbrev xc_m_isDigit (d : Nat) (l0 : Int) (m : w_M) (Q : Int → w_M → Prop) : Prop := x_C sM d 356 0 [(0, l0)] m Q
/-- PaperHouseModel.isEntry()Z -/
abbrev xc_m_isEntry (d : Nat) (m : w_M) (Q : Int → w_M → Prop) : Prop := x_C sM d 357 0 [(2, 428)] m Q
abbrev xp_m_isEntry_49 (d : Nat) (s0 : Int) (m : w_M) (Q : Int → w_M → Prop) : Prop := x_W sM d ex_m357 0 49 [some (2, 428), none, none] [(0, s0)] m Q
abbrev xp_m_isEntry_87 (d : Nat) (m : w_M) (Q : Int → w_M → Prop) : Prop := x_W sM d ex_m357 0 87 [some (2, 428), none, none] [] m Q
abbrev xp_m_isEntry_117 (d : Nat) (l1 l2 : Int) (m : w_M) (Q : Int → w_M → Prop) : Prop := x_W sM d ex_m357 0 117 [some (2, 428), some (0, l1), some (0, l2)] [] m Q
/-- PaperHouseModel.isName(ILjava/lang/String;)Z -/
abbrev xc_m_isName (d : Nat) (l1 l2 : Int) (m : w_M) (Q : Int → w_M → Prop) : Prop := x_C sM d 358 0 [(2, 428), (0, l1), (2, l2)] m Q
/-- PaperHouseModel.isNothing(I)Z -/
abbrev xc_m_isNothing (d : Nat) (l1 : Int) (m : w_M) (Q : Int → w_M → Prop) : Prop := x_C sM d 359 0 [(2, 428), (0, l1)] m Q
/-- PaperHouseModel.isNumber(I)Z -/
abbrev xc_m_isNumber (d : Nat) (l1 : Int) (m : w_M) (Q : Int → w_M → Prop) : Prop := x_C sM d 360 0 [(2, 428), (0, l1)] m Q
/-- PaperHouseModel.isObject(I)Z -/
abbrev xc_m_isObject (d : Nat) (l1 : Int) (m : w_M) (Q : Int → w_M → Prop) : Prop := x_C sM d 361 0 [(2, 428), (0, l1)] m Q
/-- PaperHouseModel.isOf(II)Z -/
abbrev xc_m_isOf (d : Nat) (l1 l2 : Int) (m : w_M) (Q : Int → w_M → Prop) : Prop := x_C sM d 362 0 [(2, 428), (0, l1), (0, l2)] m Q
/-- PaperHouseModel.isPage(I)Z -/
abbrev xc_m_isPage (d : Nat) (l1 : Int) (m : w_M) (Q : Int → w_M → Prop) : Prop := x_C sM d 363 0 [(2, 428), (0, l1)] m Q
/-- PaperHouseModel.isPredictor(I)Z -/
abbrev xc_m_isPredictor (d : Nat) (l1 : Int) (m : w_M) (Q : Int → w_M → Prop) : Prop := x_C sM d 364 0 [(2, 428), (0, l1)] m Q
/-- PaperHouseModel.isRegular(I)Z -/
abbrev xc_m_isRegular (d : Nat) (l0 : Int) (m : w_M) (Q : Int → w_M → Prop) : Prop := x_C sM d 365 0 [(0, l0)] m Q
/-- PaperHouseModel.isText(IILjava/lang/String;)Z -/
abbrev xc_m_isText (d : Nat) (l1 l2 l3 : Int) (m : w_M) (Q : Int → w_M → Prop) : Prop := x_C sM d 366 0 [(2, 428), (0, l1), (0, l2), (2, l3)] m Q
abbrev xp_m_isText_16 (d : Nat) (l1 l2 l3 l4 l5 : Int) (m : w_M) (Q : Int → w_M → Prop) : Prop := x_W sM d ex_m366 0 16 [some (2, 428), some (0, l1), some (0, l2), some (2, l3), some (0, l4), some (0, l5)] [] m Q
/-- PaperHouseModel.isWord(Ljava/lang/String;)Z -/
abbrev xc_m_isWord (d : Nat) (l1 : Int) (m : w_M) (Q : Int → w_M → Prop) : Prop := x_C sM d 367 0 [(2, 428), (2, l1)] m Q
abbrev xp_m_isWord_25 (d : Nat) (l1 l2 l3 : Int) (m : w_M) (Q : Int → w_M → Prop) : Prop := x_W sM d ex_m367 0 25 [some (2, 428), some (2, l1), some (0, l2), some (0, l3)] [] m Q
/-- PaperHouseModel.keep(Ljava/lang/String;)I -/
abbrev xc_m_keep (d : Nat) (l1 : Int) (m : w_M) (Q : Int → w_M → Prop) : Prop := x_C sM d 368 0 [(2, 428), (2, l1)] m Q
abbrev xp_m_keep_7 (d : Nat) (l1 l2 l3 : Int) (m : w_M) (Q : Int → w_M → Prop) : Prop := x_W sM d ex_m368 0 7 [some (2, 428), some (2, l1), some (0, l2), some (0, l3)] [] m Q
/-- PaperHouseModel.keepStream(IIIII)V -/
abbrev xc_m_keepStream (d : Nat) (l1 l2 l3 l4 l5 : Int) (m : w_M) (Q : Int → w_M → Prop) : Prop := x_C sM d 369 3 [(2, 428), (0, l1), (0, l2), (0, l3), (0, l4), (0, l5)] m Q
abbrev xp_m_keepStream_38 (d : Nat) (l1 l6 : Int) (m : w_M) (Q : Int → w_M → Prop) : Prop := x_W sM d ex_m369 3 38 [some (2, 428), some (0, l1), none, none, none, none, some (0, l6)] [] m Q
/-- PaperHouseModel.kidsOf(I)I -/
abbrev xc_m_kidsOf (d : Nat) (l1 : Int) (m : w_M) (Q : Int → w_M → Prop) : Prop := x_C sM d 370 0 [(2, 428), (0, l1)] m Q
abbrev xp_m_kidsOf_57 (d : Nat) (l2 l4 : Int) (m : w_M) (Q : Int → w_M → Prop) : Prop := x_W sM d ex_m370 0 57 [some (2, 428), none, some (0, l2), none, some (0, l4), none] [] m Q
/-- PaperHouseModel.kindHere()I -/
abbrev xc_m_kindHere (d : Nat) (m : w_M) (Q : Int → w_M → Prop) : Prop := x_C sM d 371 0 [(2, 428)] m Q
/-- PaperHouseModel.known()V -/
abbrev xc_m_known (d : Nat) (m : w_M) (Q : Int → w_M → Prop) : Prop := x_C sM d 372 3 [(2, 428)] m Q
/-- PaperHouseModel.lay(I)V -/
abbrev xc_m_lay (d : Nat) (l1 : Int) (m : w_M) (Q : Int → w_M → Prop) : Prop := x_C sM d 373 3 [(2, 428), (0, l1)] m Q
abbrev xp_m_lay_3 (d : Nat) (l1 l2 : Int) (m : w_M) (Q : Int → w_M → Prop) : Prop := x_W sM d ex_m373 3 3 [some (2, 428), some (0, l1), some (0, l2)] [] m Q
/-- PaperHouseModel.lengthOf(I)I -/
abbrev xc_m_lengthOf (d : Nat) (l0 : Int) (m : w_M) (Q : Int → w_M → Prop) : Prop := x_C sM d 374 0 [(0, l0)] m Q
/-- PaperHouseModel.letter(IZ)I -/
abbrev xc_m_letter (d : Nat) (l1 l2 : Int) (m : w_M) (Q : Int → w_M → Prop) : Prop := x_C sM d 375 0 [(2, 428), (0, l1), (0, l2)] m Q
abbrev xp_m_letter_65 (d : Nat) (l1 l2 l3 l4 s0 : Int) (m : w_M) (Q : Int → w_M → Prop) : Prop := x_W sM d ex_m375 0 65 [some (2, 428), some (0, l1), some (0, l2), some (0, l3), some (0, l4), none, none] [(0, s0)] m Q
/-- PaperHouseModel.literal(I)V -/
abbrev xc_m_literal (d : Nat) (l1 : Int) (m : w_M) (Q : Int → w_M → Prop) : Prop := x_C sM d 376 3 [(2, 428), (0, l1)] m Q
/-- PaperHouseModel.load()I -/
abbrev xc_m_load (d : Nat) (m : w_M) (Q : Int → w_M → Prop) : Prop := x_C sM d 377 0 [(2, 428)] m Q
abbrev xp_m_load_12 (d : Nat) (l1 l2 : Int) (m : w_M) (Q : Int → w_M → Prop) : Prop := x_W sM d ex_m377 0 12 [some (2, 428), some (0, l1), some (0, l2)] [] m Q
abbrev xp_m_load_118 (d : Nat) (l2 : Int) (m : w_M) (Q : Int → w_M → Prop) : Prop := x_W sM d ex_m377 0 118 [some (2, 428), none, some (0, l2)] [] m Q
abbrev xp_m_load_173 (d : Nat) (m : w_M) (Q : Int → w_M → Prop) : Prop := x_W sM d ex_m377 0 173 [some (2, 428), none, none] [] m Q
abbrev xp_m_load_232 (d : Nat) (l2 : Int) (m : w_M) (Q : Int → w_M → Prop) : Prop := x_W sM d ex_m377 0 232 [some (2, 428), none, some (0, l2)] [] m Q
abbrev xp_m_load_269 (d : Nat) (l2 : Int) (m : w_M) (Q : Int → w_M → Prop) : Prop := x_W sM d ex_m377 0 269 [some (2, 428), none, some (0, l2)] [] m Q
/-- PaperHouseModel.meet(III)V -/
abbrev xc_m_meet (d : Nat) (l1 l2 l3 : Int) (m : w_M) (Q : Int → w_M → Prop) : Prop := x_C sM d 378 3 [(2, 428), (0, l1), (0, l2), (0, l3)] m Q
abbrev xp_m_meet_132 (d : Nat) (l1 l3 l4 l6 : Int) (m : w_M) (Q : Int → w_M → Prop) : Prop := x_W sM d ex_m378 3 132 [some (2, 428), some (0, l1), none, some (0, l3), some (0, l4), none, some (0, l6)] [] m Q
/-- PaperHouseModel.meetNode(III)V -/
abbrev xc_m_meetNode (d : Nat) (l1 l2 l3 : Int) (m : w_M) (Q : Int → w_M → Prop) : Prop := x_C sM d 379 3 [(2, 428), (0, l1), (0, l2), (0, l3)] m Q
abbrev xp_m_meetNode_50 (d : Nat) (l1 l2 l3 l5 l6 : Int) (m : w_M) (Q : Int → w_M → Prop) : Prop := x_W sM d ex_m379 3 50 [some (2, 428), some (0, l1), some (0, l2), some (0, l3), none, some (0, l5), some (0, l6), none] [] m Q
abbrev xp_m_meetNode_107 (d : Nat) (l1 l2 l5 : Int) (m : w_M) (Q : Int → w_M → Prop) : Prop := x_W sM d ex_m379 3 107 [some (2, 428), some (0, l1), some (0, l2), none, none, some (0, l5), none, none] [] m Q
/-- PaperHouseModel.meetPage(II)V -/
abbrev xc_m_meetPage (d : Nat) (l1 l2 : Int) (m : w_M) (Q : Int → w_M → Prop) : Prop := x_C sM d 380 3 [(2, 428), (0, l1), (0, l2)] m Q
/-- PaperHouseModel.more()I -/
abbrev xc_m_more (d : Nat) (m : w_M) (Q : Int → w_M → Prop) : Prop := x_C sM d 381 0 [(2, 428)] m Q
abbrev xp_m_more_38 (d : Nat) (l1 : Int) (m : w_M) (Q : Int → w_M → Prop) : Prop := x_W sM d ex_m381 0 38 [some (2, 428), some (0, l1)] [] m Q
abbrev xp_m_more_93 (d : Nat) (l1 : Int) (m : w_M) (Q : Int → w_M → Prop) : Prop := x_W sM d ex_m381 0 93 [some (2, 428), some (0, l1)] [] m Q
/-- PaperHouseModel.move(II)I -/
abbrev xc_m_move (d : Nat) (l1 l2 : Int) (m : w_M) (Q : Int → w_M → Prop) : Prop := x_C sM d 382 0 [(2, 428), (0, l1), (0, l2)] m Q
/-- PaperHouseModel.moves(J)V -/
abbrev xc_m_moves (d : Nat) (l1 : Int) (m : w_M) (Q : Int → w_M → Prop) : Prop := x_C sM d 383 3 [(2, 428), (1, l1)] m Q
/-- PaperHouseModel.name(ILjava/lang/String;)V -/
abbrev xc_m_name (d : Nat) (l1 l2 : Int) (m : w_M) (Q : Int → w_M → Prop) : Prop := x_C sM d 384 3 [(2, 428), (0, l1), (2, l2)] m Q
/-- PaperHouseModel.nameAll(I)V -/
abbrev xc_m_nameAll (d : Nat) (l1 : Int) (m : w_M) (Q : Int → w_M → Prop) : Prop := x_C sM d 385 3 [(2, 428), (0, l1)] m Q
abbrev xp_m_nameAll_55 (d : Nat) (l2 : Int) (m : w_M) (Q : Int → w_M → Prop) : Prop := x_W sM d ex_m385 3 55 [some (2, 428), none, some (0, l2)] [] m Q
/-- PaperHouseModel.nameNode(Ljava/lang/String;)I -/
abbrev xc_m_nameNode (d : Nat) (l1 : Int) (m : w_M) (Q : Int → w_M → Prop) : Prop := x_C sM d 386 0 [(2, 428), (2, l1)] m Q
/-- PaperHouseModel.near(J)V -/
abbrev xc_m_near (d : Nat) (l1 : Int) (m : w_M) (Q : Int → w_M → Prop) : Prop := x_C sM d 387 3 [(2, 428), (1, l1)] m Q
/-- PaperHouseModel.newLine()V -/
abbrev xc_m_newLine (d : Nat) (m : w_M) (Q : Int → w_M → Prop) : Prop := x_C sM d 388 3 [(2, 428)] m Q
/-- PaperHouseModel.newNode(II)I -/
abbrev xc_m_newNode (d : Nat) (l1 l2 : Int) (m : w_M) (Q : Int → w_M → Prop) : Prop := x_C sM d 389 0 [(2, 428), (0, l1), (0, l2)] m Q
/-- PaperHouseModel.newObject(I)I -/
abbrev xc_m_newObject (d : Nat) (l1 : Int) (m : w_M) (Q : Int → w_M → Prop) : Prop := x_C sM d 390 0 [(2, 428), (0, l1)] m Q
abbrev xp_m_newObject_10 (d : Nat) (l1 l2 l3 : Int) (m : w_M) (Q : Int → w_M → Prop) : Prop := x_W sM d ex_m390 0 10 [some (2, 428), some (0, l1), some (0, l2), some (0, l3)] [] m Q
/-- PaperHouseModel.nextNumber()I -/
abbrev xc_m_nextNumber (d : Nat) (m : w_M) (Q : Int → w_M → Prop) : Prop := x_C sM d 391 0 [(2, 428)] m Q
abbrev xp_m_nextNumber_5 (d : Nat) (l1 : Int) (m : w_M) (Q : Int → w_M → Prop) : Prop := x_W sM d ex_m391 0 5 [some (2, 428), some (0, l1)] [] m Q
/-- PaperHouseModel.numberOf(I)I -/
abbrev xc_m_numberOf (d : Nat) (l1 : Int) (m : w_M) (Q : Int → w_M → Prop) : Prop := x_C sM d 392 0 [(2, 428), (0, l1)] m Q
/-- PaperHouseModel.numbered(IIJ)V -/
abbrev xc_m_numbered (d : Nat) (l1 l2 l3 : Int) (m : w_M) (Q : Int → w_M → Prop) : Prop := x_C sM d 393 3 [(2, 428), (0, l1), (0, l2), (1, l3)] m Q
/-- PaperHouseModel.object(IZ)I -/
abbrev xc_m_object (d : Nat) (l1 l2 : Int) (m : w_M) (Q : Int → w_M → Prop) : Prop := x_C sM d 394 0 [(2, 428), (0, l1), (0, l2)] m Q
abbrev xp_m_object_59 (d : Nat) (l1 l2 s0 : Int) (m : w_M) (Q : Int → w_M → Prop) : Prop := x_W sM d ex_m394 0 59 [some (2, 428), some (0, l1), some (0, l2), none, none] [(0, s0)] m Q
abbrev xp_m_object_113 (d : Nat) (l1 l2 : Int) (m : w_M) (Q : Int → w_M → Prop) : Prop := x_W sM d ex_m394 0 113 [some (2, 428), some (0, l1), some (0, l2), none, none] [] m Q
abbrev xp_m_object_148 (d : Nat) (l1 l2 : Int) (m : w_M) (Q : Int → w_M → Prop) : Prop := x_W sM d ex_m394 0 148 [some (2, 428), some (0, l1), some (0, l2), none, none] [] m Q
abbrev xp_m_object_291 (d : Nat) (s1 : Int) (m : w_M) (Q : Int → w_M → Prop) : Prop := x_W sM d ex_m394 0 291 [some (2, 428), none, none, none, none] [(0, s1), (2, 428)] m Q
/-- PaperHouseModel.objects()I -/
abbrev xc_m_objects (d : Nat) (m : w_M) (Q : Int → w_M → Prop) : Prop := x_C sM d 395 0 [(2, 428)] m Q
abbrev xp_m_objects_13 (d : Nat) (l1 l2 : Int) (m : w_M) (Q : Int → w_M → Prop) : Prop := x_W sM d ex_m395 0 13 [some (2, 428), some (0, l1), some (0, l2)] [] m Q
/-- PaperHouseModel.operandsTo([I)V -/
abbrev xc_m_operandsTo (d : Nat) (l1 : Int) (m : w_M) (Q : Int → w_M → Prop) : Prop := x_C sM d 396 3 [(2, 428), (2, l1)] m Q
abbrev xp_m_operandsTo_2 (d : Nat) (l1 l2 : Int) (m : w_M) (Q : Int → w_M → Prop) : Prop := x_W sM d ex_m396 3 2 [some (2, 428), some (2, l1), some (0, l2)] [] m Q
/-- PaperHouseModel.operator()V -/
abbrev xc_m_operator (d : Nat) (m : w_M) (Q : Int → w_M → Prop) : Prop := x_C sM d 397 3 [(2, 428)] m Q
abbrev xp_m_operator_19 (d : Nat) (l1 : Int) (m : w_M) (Q : Int → w_M → Prop) : Prop := x_W sM d ex_m397 3 19 [some (2, 428), some (0, l1), none, none, none, none, none, none, none, none] [] m Q
abbrev xp_m_operator_71 (d : Nat) (l2 s0 : Int) (m : w_M) (Q : Int → w_M → Prop) : Prop := x_W sM d ex_m397 3 71 [some (2, 428), none, some (2, l2), none, none, none, none, none, none, none] [(0, s0)] m Q
abbrev xp_m_operator_149 (d : Nat) (l2 l3 s0 : Int) (m : w_M) (Q : Int → w_M → Prop) : Prop := x_W sM d ex_m397 3 149 [some (2, 428), none, some (2, l2), some (0, l3), none, none, none, none, none, none] [(0, s0)] m Q
abbrev xp_m_operator_190 (d : Nat) (l2 l3 l4 s0 : Int) (m : w_M) (Q : Int → w_M → Prop) : Prop := x_W sM d ex_m397 3 190 [some (2, 428), none, some (2, l2), some (0, l3), some (0, l4), none, none, none, none, none] [(0, s0)] m Q
abbrev xp_m_operator_215 (d : Nat) (l2 l5 : Int) (m : w_M) (Q : Int → w_M → Prop) : Prop := x_W sM d ex_m397 3 215 [some (2, 428), none, some (2, l2), none, none, some (0, l5), none, none, none, none] [] m Q
abbrev xp_m_operator_618 (d : Nat) (l7 : Int) (m : w_M) (Q : Int → w_M → Prop) : Prop := x_W sM d ex_m397 3 618 [some (2, 428), none, none, none, none, none, none, some (0, l7), none, none] [] m Q
abbrev xp_m_operator_699 (d : Nat) (l8 : Int) (m : w_M) (Q : Int → w_M → Prop) : Prop := x_W sM d ex_m397 3 699 [some (2, 428), none, none, none, none, none, none, none, some (0, l8), none] [] m Q
abbrev xp_m_operator_780 (d : Nat) (l8 : Int) (m : w_M) (Q : Int → w_M → Prop) : Prop := x_W sM d ex_m397 3 780 [some (2, 428), none, none, none, none, none, none, none, some (0, l8), none] [] m Q
/-- PaperHouseModel.orderOf(I)I -/
abbrev xc_m_orderOf (d : Nat) (l0 : Int) (m : w_M) (Q : Int → w_M → Prop) : Prop := x_C sM d 398 0 [(0, l0)] m Q
/-- PaperHouseModel.out(I)I -/
abbrev xc_m_out (d : Nat) (l1 : Int) (m : w_M) (Q : Int → w_M → Prop) : Prop := x_C sM d 399 0 [(2, 428), (0, l1)] m Q
/-- PaperHouseModel.outs()I -/
abbrev xc_m_outs (d : Nat) (m : w_M) (Q : Int → w_M → Prop) : Prop := x_C sM d 400 0 [(2, 428)] m Q
/-- PaperHouseModel.ownsRight(I)Z -/
abbrev xc_m_ownsRight (d : Nat) (l1 : Int) (m : w_M) (Q : Int → w_M → Prop) : Prop := x_C sM d 401 0 [(2, 428), (0, l1)] m Q
abbrev xp_m_ownsRight_54 (d : Nat) (l1 l3 l4 s0 : Int) (m : w_M) (Q : Int → w_M → Prop) : Prop := x_W sM d ex_m401 0 54 [some (2, 428), some (0, l1), none, some (0, l3), some (0, l4), none] [(0, s0)] m Q
abbrev xp_m_ownsRight_94 (d : Nat) (l4 s0 : Int) (m : w_M) (Q : Int → w_M → Prop) : Prop := x_W sM d ex_m401 0 94 [some (2, 428), none, none, none, some (0, l4), none] [(0, s0)] m Q
/-- PaperHouseModel.paeth(III)I -/
abbrev xc_m_paeth (d : Nat) (l0 l1 l2 : Int) (m : w_M) (Q : Int → w_M → Prop) : Prop := x_C sM d 402 0 [(0, l0), (0, l1), (0, l2)] m Q
/-- PaperHouseModel.page(II)I -/
abbrev xc_m_page (d : Nat) (l1 l2 : Int) (m : w_M) (Q : Int → w_M → Prop) : Prop := x_C sM d 403 0 [(2, 428), (0, l1), (0, l2)] m Q
abbrev xp_m_page_65 (d : Nat) (l2 l4 l5 : Int) (m : w_M) (Q : Int → w_M → Prop) : Prop := x_W sM d ex_m403 0 65 [some (2, 428), none, some (0, l2), none, some (0, l4), some (0, l5)] [] m Q
/-- PaperHouseModel.pages()I -/
abbrev xc_m_pages (d : Nat) (m : w_M) (Q : Int → w_M → Prop) : Prop := x_C sM d 404 0 [(2, 428)] m Q
/-- PaperHouseModel.pair(II)V -/
abbrev xc_m_pair (d : Nat) (l1 l2 : Int) (m : w_M) (Q : Int → w_M → Prop) : Prop := x_C sM d 405 3 [(2, 428), (0, l1), (0, l2)] m Q
abbrev xp_m_pair_3 (d : Nat) (l1 l2 l3 : Int) (m : w_M) (Q : Int → w_M → Prop) : Prop := x_W sM d ex_m405 3 3 [some (2, 428), some (0, l1), some (0, l2), some (0, l3), none] [] m Q
abbrev xp_m_pair_44 (d : Nat) (l2 l4 : Int) (m : w_M) (Q : Int → w_M → Prop) : Prop := x_W sM d ex_m405 3 44 [some (2, 428), none, some (0, l2), none, some (0, l4)] [] m Q
/-- PaperHouseModel.peek(I)I -/
abbrev xc_m_peek (d : Nat) (l1 : Int) (m : w_M) (Q : Int → w_M → Prop) : Prop := x_C sM d 406 0 [(2, 428), (0, l1)] m Q
/-- PaperHouseModel.plainRow()J -/
abbrev xc_m_plainRow (d : Nat) (m : w_M) (Q : Int → w_M → Prop) : Prop := x_C sM d 407 1 [(2, 428)] m Q
abbrev xp_m_plainRow_4 (d : Nat) (l1 l3 : Int) (m : w_M) (Q : Int → w_M → Prop) : Prop := x_W sM d ex_m407 1 4 [some (2, 428), some (1, l1), none, some (0, l3)] [] m Q
/-- PaperHouseModel.product([I[I[I)V -/
abbrev xc_m_product (d : Nat) (l1 l2 l3 : Int) (m : w_M) (Q : Int → w_M → Prop) : Prop := x_C sM d 408 3 [(2, 428), (2, l1), (2, l2), (2, l3)] m Q
abbrev xp_m_product_3 (d : Nat) (l1 l2 l3 l4 : Int) (m : w_M) (Q : Int → w_M → Prop) : Prop := x_W sM d ex_m408 3 3 [some (2, 428), some (2, l1), some (2, l2), some (2, l3), some (0, l4)] [] m Q
abbrev xp_m_product_56 (d : Nat) (l1 l2 l3 l4 s1 s2 s3 : Int) (m : w_M) (Q : Int → w_M → Prop) : Prop := x_W sM d ex_m408 3 56 [some (2, 428), some (2, l1), some (2, l2), some (2, l3), some (0, l4)] [(0, s3), (1, s2), (0, s1), (2, 478)] m Q
abbrev xp_m_product_119 (d : Nat) (l3 l4 : Int) (m : w_M) (Q : Int → w_M → Prop) : Prop := x_W sM d ex_m408 3 119 [some (2, 428), none, none, some (2, l3), some (0, l4)] [] m Q
abbrev xp_m_product_146 (d : Nat) (l3 l4 : Int) (m : w_M) (Q : Int → w_M → Prop) : Prop := x_W sM d ex_m408 3 146 [some (2, 428), none, none, some (2, l3), some (0, l4)] [] m Q
/-- PaperHouseModel.put(I)V -/
abbrev xc_m_put1 (d : Nat) (l1 : Int) (m : w_M) (Q : Int → w_M → Prop) : Prop := x_C sM d 409 3 [(2, 428), (0, l1)] m Q
/-- PaperHouseModel.put(III)V -/
abbrev xc_m_put2 (d : Nat) (l1 l2 l3 : Int) (m : w_M) (Q : Int → w_M → Prop) : Prop := x_C sM d 410 3 [(2, 428), (0, l1), (0, l2), (0, l3)] m Q
abbrev xp_m_put2_43 (d : Nat) (l1 l2 l3 l4 s0 : Int) (m : w_M) (Q : Int → w_M → Prop) : Prop := x_W sM d ex_m410 3 43 [some (2, 428), some (0, l1), some (0, l2), some (0, l3), some (0, l4), none, none, none, none, none, none] [(0, s0)] m Q
abbrev xp_m_put2_89 (d : Nat) (l1 l2 l4 l5 l6 l7 s0 : Int) (m : w_M) (Q : Int → w_M → Prop) : Prop := x_W sM d ex_m410 3 89 [some (2, 428), some (0, l1), some (0, l2), none, some (0, l4), some (0, l5), some (0, l6), some (0, l7), none, none, none] [(0, s0)] m Q
abbrev xp_m_put2_146 (d : Nat) (l1 l2 l4 l6 l7 l8 s0 : Int) (m : w_M) (Q : Int → w_M → Prop) : Prop := x_W sM d ex_m410 3 146 [some (2, 428), some (0, l1), some (0, l2), none, some (0, l4), none, some (0, l6), some (0, l7), some (0, l8), none, none] [(0, s0)] m Q
abbrev xp_m_put2_248 (d : Nat) (l1 l2 l6 l7 l8 l9 l10 : Int) (m : w_M) (Q : Int → w_M → Prop) : Prop := x_W sM d ex_m410 3 248 [some (2, 428), some (0, l1), some (0, l2), none, none, none, some (0, l6), some (0, l7), some (0, l8), some (0, l9), some (0, l10)] [] m Q
abbrev xp_m_put2_292 (d : Nat) (l1 l2 l6 : Int) (m : w_M) (Q : Int → w_M → Prop) : Prop := x_W sM d ex_m410 3 292 [some (2, 428), some (0, l1), some (0, l2), none, none, none, some (0, l6), none, none, none, none] [] m Q
abbrev xp_m_put2_343 (d : Nat) (l1 l2 l10 : Int) (m : w_M) (Q : Int → w_M → Prop) : Prop := x_W sM d ex_m410 3 343 [some (2, 428), some (0, l1), some (0, l2), none, none, none, none, none, none, none, some (0, l10)] [] m Q
/-- PaperHouseModel.rawEntry(ILjava/lang/String;)I -/
abbrev xc_m_rawEntry (d : Nat) (l1 l2 : Int) (m : w_M) (Q : Int → w_M → Prop) : Prop := x_C sM d 411 0 [(2, 428), (0, l1), (2, l2)] m Q
abbrev xp_m_rawEntry_7 (d : Nat) (l2 l3 : Int) (m : w_M) (Q : Int → w_M → Prop) : Prop := x_W sM d ex_m411 0 7 [some (2, 428), none, some (2, l2), some (0, l3)] [] m Q
/-- PaperHouseModel.rawStream(II)I -/
abbrev xc_m_rawStream (d : Nat) (l1 l2 : Int) (m : w_M) (Q : Int → w_M → Prop) : Prop := x_C sM d 412 0 [(2, 428), (0, l1), (0, l2)] m Q
abbrev xp_m_rawStream_39 (d : Nat) (l1 l2 s0 : Int) (m : w_M) (Q : Int → w_M → Prop) : Prop := x_W sM d ex_m412 0 39 [some (2, 428), some (0, l1), some (0, l2), none, none, none, none, none, none] [(0, s0)] m Q
abbrev xp_m_rawStream_102 (d : Nat) (l2 l4 l5 s0 : Int) (m : w_M) (Q : Int → w_M → Prop) : Prop := x_W sM d ex_m412 0 102 [some (2, 428), none, some (0, l2), none, some (0, l4), some (0, l5), none, none, none] [(0, s0)] m Q
abbrev xp_m_rawStream_217 (d : Nat) (l2 l4 l7 l8 : Int) (m : w_M) (Q : Int → w_M → Prop) : Prop := x_W sM d ex_m412 0 217 [some (2, 428), none, some (0, l2), none, some (0, l4), none, none, some (0, l7), some (0, l8)] [] m Q
abbrev xp_m_rawStream_269 (d : Nat) (l2 l4 l6 : Int) (m : w_M) (Q : Int → w_M → Prop) : Prop := x_W sM d ex_m412 0 269 [some (2, 428), none, some (0, l2), none, some (0, l4), none, some (0, l6), none, none] [] m Q
/-- PaperHouseModel.readAt(I)V -/
abbrev xc_m_readAt (d : Nat) (l1 : Int) (m : w_M) (Q : Int → w_M → Prop) : Prop := x_C sM d 413 3 [(2, 428), (0, l1)] m Q
abbrev xp_m_readAt_202 (d : Nat) (l1 l2 l3 l4 l5 : Int) (m : w_M) (Q : Int → w_M → Prop) : Prop := x_W sM d ex_m413 3 202 [some (2, 428), some (0, l1), some (0, l2), some (0, l3), some (0, l4), some (0, l5)] [] m Q
/-- PaperHouseModel.readFile()V -/
abbrev xc_m_readFile (d : Nat) (m : w_M) (Q : Int → w_M → Prop) : Prop := x_C sM d 414 3 [(2, 428)] m Q
abbrev xp_m_readFile_2 (d : Nat) (l1 : Int) (m : w_M) (Q : Int → w_M → Prop) : Prop := x_W sM d ex_m414 3 2 [some (2, 428), some (0, l1), none, none, none] [] m Q
abbrev xp_m_readFile_73 (d : Nat) (l2 : Int) (m : w_M) (Q : Int → w_M → Prop) : Prop := x_W sM d ex_m414 3 73 [some (2, 428), some (2, 276), some (0, l2), none, none] [] m Q
abbrev xp_m_readFile_151 (d : Nat) (l2 : Int) (m : w_M) (Q : Int → w_M → Prop) : Prop := x_W sM d ex_m414 3 151 [some (2, 428), none, some (0, l2), none, none] [] m Q
abbrev xp_m_readFile_195 (d : Nat) (l3 : Int) (m : w_M) (Q : Int → w_M → Prop) : Prop := x_W sM d ex_m414 3 195 [some (2, 428), none, none, some (1, l3), none] [] m Q
/-- PaperHouseModel.readHex()V -/
abbrev xc_m_readHex (d : Nat) (m : w_M) (Q : Int → w_M → Prop) : Prop := x_C sM d 415 3 [(2, 428)] m Q
abbrev xp_m_readHex_17 (d : Nat) (l1 : Int) (m : w_M) (Q : Int → w_M → Prop) : Prop := x_W sM d ex_m415 3 17 [some (2, 428), some (0, l1), none, none] [] m Q
abbrev xp_m_readHex_56 (d : Nat) (l1 l3 : Int) (m : w_M) (Q : Int → w_M → Prop) : Prop := x_W sM d ex_m415 3 56 [some (2, 428), some (0, l1), none, some (0, l3)] [] m Q
/-- PaperHouseModel.readIn(I)V -/
abbrev xc_m_readIn (d : Nat) (l1 : Int) (m : w_M) (Q : Int → w_M → Prop) : Prop := x_C sM d 416 3 [(2, 428), (0, l1)] m Q
abbrev xp_m_readIn_80 (d : Nat) (l1 l4 s0 : Int) (m : w_M) (Q : Int → w_M → Prop) : Prop := x_W sM d ex_m416 3 80 [some (2, 428), some (0, l1), none, none, some (0, l4), none, none, none, none, none, none, none, none, none, none] [(0, s0)] m Q
abbrev xp_m_readIn_119 (d : Nat) (l1 l4 l5 : Int) (m : w_M) (Q : Int → w_M → Prop) : Prop := x_W sM d ex_m416 3 119 [some (2, 428), some (0, l1), none, none, some (0, l4), some (0, l5), none, none, none, none, none, none, none, none, none] [] m Q
abbrev xp_m_readIn_170 (d : Nat) (l1 l4 l5 l6 s0 : Int) (m : w_M) (Q : Int → w_M → Prop) : Prop := x_W sM d ex_m416 3 170 [some (2, 428), some (0, l1), none, none, some (0, l4), some (0, l5), some (0, l6), none, none, none, none, none, none, none, none] [(0, s0)] m Q
abbrev xp_m_readIn_212 (d : Nat) (l1 l4 l5 l8 s0 : Int) (m : w_M) (Q : Int → w_M → Prop) : Prop := x_W sM d ex_m416 3 212 [some (2, 428), some (0, l1), none, none, some (0, l4), some (0, l5), none, none, some (0, l8), none, none, none, none, none, none] [(0, s0)] m Q
abbrev xp_m_readIn_284 (d : Nat) (l1 l5 l8 l9 l10 l12 : Int) (m : w_M) (Q : Int → w_M → Prop) : Prop := x_W sM d ex_m416 3 284 [some (2, 428), some (0, l1), none, none, none, some (0, l5), none, none, some (0, l8), some (0, l9), some (1, l10), none, some (0, l12), none, none] [] m Q
abbrev xp_m_readIn_315 (d : Nat) (l1 l5 l8 l9 l10 l12 s0 : Int) (m : w_M) (Q : Int → w_M → Prop) : Prop := x_W sM d ex_m416 3 315 [some (2, 428), some (0, l1), none, none, none, some (0, l5), none, none, some (0, l8), some (0, l9), some (1, l10), none, some (0, l12), none, none] [(0, s0)] m Q
abbrev xp_m_readIn_354 (d : Nat) (l1 l5 l8 l9 l10 l12 l13 l14 : Int) (m : w_M) (Q : Int → w_M → Prop) : Prop := x_W sM d ex_m416 3 354 [some (2, 428), some (0, l1), none, none, none, some (0, l5), none, none, some (0, l8), some (0, l9), some (1, l10), none, some (0, l12), some (0, l13), some (0, l14)] [] m Q
abbrev xp_m_readIn_448 (d : Nat) (l1 s1 : Int) (m : w_M) (Q : Int → w_M → Prop) : Prop := x_W sM d ex_m416 3 448 [some (2, 428), some (0, l1), none, none, none, none, none, none, none, none, none, none, none, none, none] [(0, s1), (2, 428)] m Q
/-- PaperHouseModel.readName()V -/
abbrev xc_m_readName (d : Nat) (m : w_M) (Q : Int → w_M → Prop) : Prop := x_C sM d 417 3 [(2, 428)] m Q
abbrev xp_m_readName_20 (d : Nat) (m : w_M) (Q : Int → w_M → Prop) : Prop := x_W sM d ex_m417 3 20 [some (2, 428), none, none, none] [] m Q
abbrev xp_m_readName_83 (d : Nat) (s0 : Int) (m : w_M) (Q : Int → w_M → Prop) : Prop := x_W sM d ex_m417 3 83 [some (2, 428), none, none, none] [(0, s0)] m Q
/-- PaperHouseModel.readObject(I)V -/
abbrev xc_m_readObject (d : Nat) (l1 : Int) (m : w_M) (Q : Int → w_M → Prop) : Prop := x_C sM d 418 3 [(2, 428), (0, l1)] m Q
/-- PaperHouseModel.readString()V -/
abbrev xc_m_readString (d : Nat) (m : w_M) (Q : Int → w_M → Prop) : Prop := x_C sM d 419 3 [(2, 428)] m Q
abbrev xp_m_readString_17 (d : Nat) (l1 : Int) (m : w_M) (Q : Int → w_M → Prop) : Prop := x_W sM d ex_m419 3 17 [some (2, 428), some (0, l1), none] [] m Q
/-- PaperHouseModel.realOf(ZJJII)V -/
abbrev xc_m_realOf (d : Nat) (l1 l2 l4 l6 l7 : Int) (m : w_M) (Q : Int → w_M → Prop) : Prop := x_C sM d 420 3 [(2, 428), (0, l1), (1, l2), (1, l4), (0, l6), (0, l7)] m Q
abbrev xp_m_realOf_27 (d : Nat) (l1 l2 l4 l6 l8 l10 : Int) (m : w_M) (Q : Int → w_M → Prop) : Prop := x_W sM d ex_m420 3 27 [some (2, 428), some (0, l1), some (1, l2), none, some (1, l4), none, some (0, l6), none, some (1, l8), none, some (0, l10), none, none, none] [] m Q
abbrev xp_m_realOf_88 (d : Nat) (s0 : Int) (m : w_M) (Q : Int → w_M → Prop) : Prop := x_W sM d ex_m420 3 88 [some (2, 428), none, none, none, none, none, none, none, none, none, none, none, none, none] [(1, s0)] m Q
/-- PaperHouseModel.reference(I)V -/
abbrev xc_m_reference (d : Nat) (l1 : Int) (m : w_M) (Q : Int → w_M → Prop) : Prop := x_C sM d 421 3 [(2, 428), (0, l1)] m Q
/-- PaperHouseModel.resolve(I)I -/
abbrev xc_m_resolve (d : Nat) (l1 : Int) (m : w_M) (Q : Int → w_M → Prop) : Prop := x_C sM d 422 0 [(2, 428), (0, l1)] m Q
abbrev xp_m_resolve_9 (d : Nat) (l2 l3 : Int) (m : w_M) (Q : Int → w_M → Prop) : Prop := x_W sM d ex_m422 0 9 [some (2, 428), none, some (0, l2), some (0, l3), none] [] m Q
abbrev xp_m_resolve_42 (d : Nat) (l3 s0 : Int) (m : w_M) (Q : Int → w_M → Prop) : Prop := x_W sM d ex_m422 0 42 [some (2, 428), none, none, some (0, l3), none] [(0, s0)] m Q
/-- PaperHouseModel.row()V -/
abbrev xc_m_row1 (d : Nat) (m : w_M) (Q : Int → w_M → Prop) : Prop := x_C sM d 423 3 [(2, 428)] m Q
abbrev xp_m_row1_25 (d : Nat) (s0 : Int) (m : w_M) (Q : Int → w_M → Prop) : Prop := x_W sM d ex_m423 3 25 [some (2, 428), none, none, none, none, none, none, none, none, none, none, none, none, none, none] [(0, s0)] m Q
abbrev xp_m_row1_65 (d : Nat) (l1 l2 l3 l4 l5 l6 l7 l9 l11 l12 : Int) (m : w_M) (Q : Int → w_M → Prop) : Prop := x_W sM d ex_m423 3 65 [some (2, 428), some (0, l1), some (0, l2), some (0, l3), some (0, l4), some (0, l5), some (0, l6), some (1, l7), none, some (1, l9), none, some (0, l11), some (0, l12), none, none] [] m Q
abbrev xp_m_row1_292 (d : Nat) (l11 s0 : Int) (m : w_M) (Q : Int → w_M → Prop) : Prop := x_W sM d ex_m423 3 292 [some (2, 428), none, none, none, none, none, none, none, none, none, none, some (0, l11), none, none, none] [(1, s0)] m Q
/-- PaperHouseModel.row(I)V -/
abbrev xc_m_row2 (d : Nat) (l1 : Int) (m : w_M) (Q : Int → w_M → Prop) : Prop := x_C sM d 424 3 [(2, 428), (0, l1)] m Q
abbrev xp_m_row2_9 (d : Nat) (l1 l2 l3 : Int) (m : w_M) (Q : Int → w_M → Prop) : Prop := x_W sM d ex_m424 3 9 [some (2, 428), some (0, l1), some (0, l2), some (0, l3)] [] m Q
abbrev xp_m_row2_71 (d : Nat) (l3 : Int) (m : w_M) (Q : Int → w_M → Prop) : Prop := x_W sM d ex_m424 3 71 [some (2, 428), none, none, some (0, l3)] [] m Q
/-- PaperHouseModel.rowEntry(IJJ)V -/
abbrev xc_m_rowEntry (d : Nat) (l1 l2 l4 : Int) (m : w_M) (Q : Int → w_M → Prop) : Prop := x_C sM d 425 3 [(2, 428), (0, l1), (1, l2), (1, l4)] m Q
abbrev xp_m_rowEntry_14 (d : Nat) (l2 l4 l6 : Int) (m : w_M) (Q : Int → w_M → Prop) : Prop := x_W sM d ex_m425 3 14 [some (2, 428), none, some (1, l2), none, some (1, l4), none, some (0, l6)] [] m Q
/-- PaperHouseModel.rowSection(I)V -/
abbrev xc_m_rowSection (d : Nat) (l1 : Int) (m : w_M) (Q : Int → w_M → Prop) : Prop := x_C sM d 426 3 [(2, 428), (0, l1)] m Q
abbrev xp_m_rowSection_43 (d : Nat) (l1 l2 l3 l4 : Int) (m : w_M) (Q : Int → w_M → Prop) : Prop := x_W sM d ex_m426 3 43 [some (2, 428), some (0, l1), some (0, l2), some (0, l3), some (0, l4), none, none] [] m Q
abbrev xp_m_rowSection_80 (d : Nat) (l1 l2 l3 l5 s0 : Int) (m : w_M) (Q : Int → w_M → Prop) : Prop := x_W sM d ex_m426 3 80 [some (2, 428), some (0, l1), some (0, l2), some (0, l3), none, some (0, l5), none] [(0, s0)] m Q
abbrev xp_m_rowSection_123 (d : Nat) (l1 l2 l3 l4 l5 l6 : Int) (m : w_M) (Q : Int → w_M → Prop) : Prop := x_W sM d ex_m426 3 123 [some (2, 428), some (0, l1), some (0, l2), some (0, l3), some (0, l4), some (0, l5), some (0, l6)] [] m Q
abbrev xp_m_rowSection_214 (d : Nat) (l1 : Int) (m : w_M) (Q : Int → w_M → Prop) : Prop := x_W sM d ex_m426 3 214 [some (2, 428), some (0, l1), none, none, none, none, none] [] m Q
/-- PaperHouseModel.rowStream(I)I -/
abbrev xc_m_rowStream (d : Nat) (l1 : Int) (m : w_M) (Q : Int → w_M → Prop) : Prop := x_C sM d 427 0 [(2, 428), (0, l1)] m Q
abbrev xp_m_rowStream_155 (d : Nat) (l1 l3 l4 l5 l6 : Int) (m : w_M) (Q : Int → w_M → Prop) : Prop := x_W sM d ex_m427 0 155 [some (2, 428), some (0, l1), none, some (0, l3), some (0, l4), some (0, l5), some (0, l6), none] [] m Q
/-- PaperHouseModel.runFrom(II)I -/
abbrev xc_m_runFrom (d : Nat) (l1 l2 : Int) (m : w_M) (Q : Int → w_M → Prop) : Prop := x_C sM d 428 0 [(2, 428), (0, l1), (0, l2)] m Q
abbrev xp_m_runFrom_2 (d : Nat) (l1 l2 l3 : Int) (m : w_M) (Q : Int → w_M → Prop) : Prop := x_W sM d ex_m428 0 2 [some (2, 428), some (0, l1), some (0, l2), some (0, l3)] [] m Q
/-- PaperHouseModel.say(I)V -/
abbrev xc_m_say (d : Nat) (l1 : Int) (m : w_M) (Q : Int → w_M → Prop) : Prop := x_C sM d 429 3 [(2, 428), (0, l1)] m Q
/-- PaperHouseModel.sayDigits(JI)V -/
abbrev xc_m_sayDigits (d : Nat) (l1 l3 : Int) (m : w_M) (Q : Int → w_M → Prop) : Prop := x_C sM d 430 3 [(2, 428), (1, l1), (0, l3)] m Q
abbrev xp_m_sayDigits_6 (d : Nat) (l1 l3 l4 l6 : Int) (m : w_M) (Q : Int → w_M → Prop) : Prop := x_W sM d ex_m430 3 6 [some (2, 428), some (1, l1), none, some (0, l3), some (1, l4), none, some (0, l6)] [] m Q
abbrev xp_m_sayDigits_37 (d : Nat) (l1 l4 : Int) (m : w_M) (Q : Int → w_M → Prop) : Prop := x_W sM d ex_m430 3 37 [some (2, 428), some (1, l1), none, none, some (1, l4), none, none] [] m Q
/-- PaperHouseModel.sayEntry(JJ)V -/
abbrev xc_m_sayEntry (d : Nat) (l1 l3 : Int) (m : w_M) (Q : Int → w_M → Prop) : Prop := x_C sM d 431 3 [(2, 428), (1, l1), (1, l3)] m Q
/-- PaperHouseModel.sayName(II)V -/
abbrev xc_m_sayName (d : Nat) (l1 l2 : Int) (m : w_M) (Q : Int → w_M → Prop) : Prop := x_C sM d 432 3 [(2, 428), (0, l1), (0, l2)] m Q
abbrev xp_m_sayName_8 (d : Nat) (l1 l2 l3 : Int) (m : w_M) (Q : Int → w_M → Prop) : Prop := x_W sM d ex_m432 3 8 [some (2, 428), some (0, l1), some (0, l2), some (0, l3), none] [] m Q
/-- PaperHouseModel.sayNumber(J)V -/
abbrev xc_m_sayNumber (d : Nat) (l1 : Int) (m : w_M) (Q : Int → w_M → Prop) : Prop := x_C sM d 433 3 [(2, 428), (1, l1)] m Q
/-- PaperHouseModel.sayReal(I)V -/
abbrev xc_m_sayReal (d : Nat) (l1 : Int) (m : w_M) (Q : Int → w_M → Prop) : Prop := x_C sM d 434 3 [(2, 428), (0, l1)] m Q
abbrev xp_m_sayReal_12 (d : Nat) (l1 s0 : Int) (m : w_M) (Q : Int → w_M → Prop) : Prop := x_W sM d ex_m434 3 12 [some (2, 428), some (0, l1), none, none, none, none, none] [(1, s0)] m Q
abbrev xp_m_sayReal_60 (d : Nat) (l4 l6 : Int) (m : w_M) (Q : Int → w_M → Prop) : Prop := x_W sM d ex_m434 3 60 [some (2, 428), none, none, none, some (1, l4), none, some (0, l6)] [] m Q
/-- PaperHouseModel.sayReference(IJ)V -/
abbrev xc_m_sayReference (d : Nat) (l1 l2 : Int) (m : w_M) (Q : Int → w_M → Prop) : Prop := x_C sM d 435 3 [(2, 428), (0, l1), (1, l2)] m Q
/-- PaperHouseModel.sayString(I)V -/
abbrev xc_m_sayString (d : Nat) (l1 : Int) (m : w_M) (Q : Int → w_M → Prop) : Prop := x_C sM d 436 3 [(2, 428), (0, l1)] m Q
abbrev xp_m_sayString_9 (d : Nat) (l1 l2 l3 : Int) (m : w_M) (Q : Int → w_M → Prop) : Prop := x_W sM d ex_m436 3 9 [some (2, 428), some (0, l1), some (0, l2), some (0, l3), none] [] m Q
abbrev xp_m_sayString_111 (d : Nat) (l1 l2 l3 : Int) (m : w_M) (Q : Int → w_M → Prop) : Prop := x_W sM d ex_m436 3 111 [some (2, 428), some (0, l1), some (0, l2), some (0, l3), none] [] m Q
/-- PaperHouseModel.sayText(Ljava/lang/String;)V -/
abbrev xc_m_sayText (d : Nat) (l1 : Int) (m : w_M) (Q : Int → w_M → Prop) : Prop := x_C sM d 437 3 [(2, 428), (2, l1)] m Q
abbrev xp_m_sayText_2 (d : Nat) (l1 l2 : Int) (m : w_M) (Q : Int → w_M → Prop) : Prop := x_W sM d ex_m437 3 2 [some (2, 428), some (2, l1), some (0, l2)] [] m Q
/-- PaperHouseModel.section(J)J -/
abbrev xc_m_section (d : Nat) (l1 : Int) (m : w_M) (Q : Int → w_M → Prop) : Prop := x_C sM d 438 1 [(2, 428), (1, l1)] m Q
abbrev xp_m_section_2 (d : Nat) (l1 l3 : Int) (m : w_M) (Q : Int → w_M → Prop) : Prop := x_W sM d ex_m438 1 2 [some (2, 428), some (1, l1), none, some (0, l3), none, none, none, none, none] [] m Q
abbrev xp_m_section_57 (d : Nat) (l1 s0 : Int) (m : w_M) (Q : Int → w_M → Prop) : Prop := x_W sM d ex_m438 1 57 [some (2, 428), some (1, l1), none, none, none, none, none, none, none] [(0, s0)] m Q
abbrev xp_m_section_113 (d : Nat) (l3 l4 : Int) (m : w_M) (Q : Int → w_M → Prop) : Prop := x_W sM d ex_m438 1 113 [some (2, 428), none, none, some (0, l3), some (0, l4), none, none, none, none] [] m Q
abbrev xp_m_section_218 (d : Nat) (l3 l4 l5 : Int) (m : w_M) (Q : Int → w_M → Prop) : Prop := x_W sM d ex_m438 1 218 [some (2, 428), none, none, some (0, l3), some (0, l4), some (0, l5), none, none, none] [] m Q
abbrev xp_m_section_351 (d : Nat) (l4 l5 l6 l7 : Int) (m : w_M) (Q : Int → w_M → Prop) : Prop := x_W sM d ex_m438 1 351 [some (2, 428), none, none, none, some (0, l4), some (0, l5), some (0, l6), some (0, l7), none] [] m Q
abbrev xp_m_section_408 (d : Nat) (l7 l8 : Int) (m : w_M) (Q : Int → w_M → Prop) : Prop := x_W sM d ex_m438 1 408 [some (2, 428), none, none, none, none, none, none, some (0, l7), some (0, l8)] [] m Q
/-- PaperHouseModel.show(I)I -/
abbrev xc_m_show (d : Nat) (l1 : Int) (m : w_M) (Q : Int → w_M → Prop) : Prop := x_C sM d 439 0 [(2, 428), (0, l1)] m Q
abbrev xp_m_show_60 (d : Nat) (s1 : Int) (m : w_M) (Q : Int → w_M → Prop) : Prop := x_W sM d ex_m439 0 60 [some (2, 428), none, none, none, none, none] [(0, s1), (2, 428)] m Q
abbrev xp_m_show_124 (d : Nat) (l3 l4 l5 : Int) (m : w_M) (Q : Int → w_M → Prop) : Prop := x_W sM d ex_m439 0 124 [some (2, 428), none, none, some (0, l3), some (0, l4), some (0, l5)] [] m Q
abbrev xp_m_show_169 (d : Nat) (l3 l4 : Int) (m : w_M) (Q : Int → w_M → Prop) : Prop := x_W sM d ex_m439 0 169 [some (2, 428), none, none, some (0, l3), some (0, l4), none] [] m Q
abbrev xp_m_show_257 (d : Nat) (l3 l4 : Int) (m : w_M) (Q : Int → w_M → Prop) : Prop := x_W sM d ex_m439 0 257 [some (2, 428), none, none, some (0, l3), some (0, l4), none] [] m Q
abbrev xp_m_show_353 (d : Nat) (l3 l4 : Int) (m : w_M) (Q : Int → w_M → Prop) : Prop := x_W sM d ex_m439 0 353 [some (2, 428), none, none, some (0, l3), some (0, l4), none] [] m Q
/-- PaperHouseModel.shows(I)V -/
abbrev xc_m_shows (d : Nat) (l1 : Int) (m : w_M) (Q : Int → w_M → Prop) : Prop := x_C sM d 440 3 [(2, 428), (0, l1)] m Q
abbrev xp_m_shows_22 (d : Nat) (l1 l2 : Int) (m : w_M) (Q : Int → w_M → Prop) : Prop := x_W sM d ex_m440 3 22 [some (2, 428), some (0, l1), some (0, l2), none] [] m Q
/-- PaperHouseModel.size(I)I -/
abbrev xc_m_size (d : Nat) (l1 : Int) (m : w_M) (Q : Int → w_M → Prop) : Prop := x_C sM d 441 0 [(2, 428), (0, l1)] m Q
/-- PaperHouseModel.stand(Ljava/lang/String;I)Z -/
abbrev xc_m_stand (d : Nat) (l1 l2 : Int) (m : w_M) (Q : Int → w_M → Prop) : Prop := x_C sM d 442 0 [(2, 428), (2, l1), (0, l2)] m Q
abbrev xp_m_stand_22 (d : Nat) (l1 l2 l3 l4 : Int) (m : w_M) (Q : Int → w_M → Prop) : Prop := x_W sM d ex_m442 0 22 [some (2, 428), some (2, l1), some (0, l2), some (0, l3), some (0, l4)] [] m Q
/-- PaperHouseModel.stored()V -/
abbrev xc_m_stored (d : Nat) (m : w_M) (Q : Int → w_M → Prop) : Prop := x_C sM d 443 3 [(2, 428)] m Q
abbrev xp_m_stored_55 (d : Nat) (l1 l3 : Int) (m : w_M) (Q : Int → w_M → Prop) : Prop := x_W sM d ex_m443 3 55 [some (2, 428), some (0, l1), none, some (0, l3)] [] m Q
/-- PaperHouseModel.streamEnd(II)Z -/
abbrev xc_m_streamEnd (d : Nat) (l1 l2 : Int) (m : w_M) (Q : Int → w_M → Prop) : Prop := x_C sM d 444 0 [(2, 428), (0, l1), (0, l2)] m Q
/-- PaperHouseModel.streamNumber(I)I -/
abbrev xc_m_streamNumber (d : Nat) (l1 : Int) (m : w_M) (Q : Int → w_M → Prop) : Prop := x_C sM d 445 0 [(2, 428), (0, l1)] m Q
/-- PaperHouseModel.streamStart()I -/
abbrev xc_m_streamStart (d : Nat) (m : w_M) (Q : Int → w_M → Prop) : Prop := x_C sM d 446 0 [(2, 428)] m Q
abbrev xp_m_streamStart_40 (d : Nat) (m : w_M) (Q : Int → w_M → Prop) : Prop := x_W sM d ex_m446 0 40 [some (2, 428), none] [] m Q
/-- PaperHouseModel.streamTail()V -/
abbrev xc_m_streamTail (d : Nat) (m : w_M) (Q : Int → w_M → Prop) : Prop := x_C sM d 447 3 [(2, 428)] m Q
abbrev xp_m_streamTail_25 (d : Nat) (l1 : Int) (m : w_M) (Q : Int → w_M → Prop) : Prop := x_W sM d ex_m447 3 25 [some (2, 428), some (0, l1)] [] m Q
/-- PaperHouseModel.sum()I -/
abbrev xc_m_sum (d : Nat) (m : w_M) (Q : Int → w_M → Prop) : Prop := x_C sM d 448 0 [(2, 428)] m Q
/-- PaperHouseModel.symbol([I[I)I -/
abbrev xc_m_symbol (d : Nat) (l1 l2 : Int) (m : w_M) (Q : Int → w_M → Prop) : Prop := x_C sM d 449 0 [(2, 428), (2, l1), (2, l2)] m Q
abbrev xp_m_symbol_11 (d : Nat) (l1 l2 l3 l4 l5 l6 : Int) (m : w_M) (Q : Int → w_M → Prop) : Prop := x_W sM d ex_m449 0 11 [some (2, 428), some (2, l1), some (2, l2), some (0, l3), some (0, l4), some (0, l5), some (0, l6), none] [] m Q
/-- PaperHouseModel.table(I)I -/
abbrev xc_m_table (d : Nat) (l1 : Int) (m : w_M) (Q : Int → w_M → Prop) : Prop := x_C sM d 450 0 [(2, 428), (0, l1)] m Q
abbrev xp_m_table_2 (d : Nat) (l1 l2 : Int) (m : w_M) (Q : Int → w_M → Prop) : Prop := x_W sM d ex_m450 0 2 [some (2, 428), some (0, l1), some (0, l2), none, none, none, none, none, none, none] [] m Q
abbrev xp_m_table_72 (d : Nat) (l1 l2 l4 s0 : Int) (m : w_M) (Q : Int → w_M → Prop) : Prop := x_W sM d ex_m450 0 72 [some (2, 428), some (0, l1), some (0, l2), none, some (1, l4), none, none, none, none, none] [(1, s0)] m Q
abbrev xp_m_table_158 (d : Nat) (l1 l2 l4 l6 s1 s2 : Int) (m : w_M) (Q : Int → w_M → Prop) : Prop := x_W sM d ex_m450 0 158 [some (2, 428), some (0, l1), some (0, l2), none, some (1, l4), none, some (1, l6), none, none, none] [(0, s2), (0, s1), (2, 428)] m Q
abbrev xp_m_table_186 (d : Nat) (l1 l2 l4 l6 : Int) (m : w_M) (Q : Int → w_M → Prop) : Prop := x_W sM d ex_m450 0 186 [some (2, 428), some (0, l1), some (0, l2), none, some (1, l4), none, some (1, l6), none, none, none] [] m Q
abbrev xp_m_table_240 (d : Nat) (l1 l2 l4 l6 l9 : Int) (m : w_M) (Q : Int → w_M → Prop) : Prop := x_W sM d ex_m450 0 240 [some (2, 428), some (0, l1), some (0, l2), none, some (1, l4), none, some (1, l6), none, none, some (0, l9)] [] m Q
abbrev xp_m_table_327 (d : Nat) (l1 : Int) (m : w_M) (Q : Int → w_M → Prop) : Prop := x_W sM d ex_m450 0 327 [some (2, 428), some (0, l1), none, none, none, none, none, none, none, none] [] m Q
/-- PaperHouseModel.tableSection()V -/
abbrev xc_m_tableSection (d : Nat) (m : w_M) (Q : Int → w_M → Prop) : Prop := x_C sM d 451 3 [(2, 428)] m Q
abbrev xp_m_tableSection_11 (d : Nat) (l1 l2 : Int) (m : w_M) (Q : Int → w_M → Prop) : Prop := x_W sM d ex_m451 3 11 [some (2, 428), some (0, l1), some (0, l2), none, none] [] m Q
abbrev xp_m_tableSection_68 (d : Nat) (l1 l2 l3 l4 : Int) (m : w_M) (Q : Int → w_M → Prop) : Prop := x_W sM d ex_m451 3 68 [some (2, 428), some (0, l1), some (0, l2), some (0, l3), some (0, l4)] [] m Q
/-- PaperHouseModel.take()I -/
abbrev xc_m_take1 (d : Nat) (m : w_M) (Q : Int → w_M → Prop) : Prop := x_C sM d 452 0 [(2, 428)] m Q
abbrev xp_m_take1_14 (d : Nat) (l1 : Int) (m : w_M) (Q : Int → w_M → Prop) : Prop := x_W sM d ex_m452 0 14 [some (2, 428), some (0, l1)] [] m Q
/-- PaperHouseModel.take(I)V -/
abbrev xc_m_take2 (d : Nat) (l1 : Int) (m : w_M) (Q : Int → w_M → Prop) : Prop := x_C sM d 453 3 [(2, 428), (0, l1)] m Q
abbrev xp_m_take2_2 (d : Nat) (l1 l2 : Int) (m : w_M) (Q : Int → w_M → Prop) : Prop := x_W sM d ex_m453 3 2 [some (2, 428), some (0, l1), some (0, l2)] [] m Q
/-- PaperHouseModel.takeOut(I)I -/
abbrev xc_m_takeOut (d : Nat) (l1 : Int) (m : w_M) (Q : Int → w_M → Prop) : Prop := x_C sM d 454 0 [(2, 428), (0, l1)] m Q
abbrev xp_m_takeOut_68 (d : Nat) (l1 l3 l4 l5 l6 : Int) (m : w_M) (Q : Int → w_M → Prop) : Prop := x_W sM d ex_m454 0 68 [some (2, 428), some (0, l1), none, some (0, l3), some (0, l4), some (0, l5), some (0, l6)] [] m Q
abbrev xp_m_takeOut_106 (d : Nat) (l1 l3 l4 l5 : Int) (m : w_M) (Q : Int → w_M → Prop) : Prop := x_W sM d ex_m454 0 106 [some (2, 428), some (0, l1), none, some (0, l3), some (0, l4), some (0, l5), none] [] m Q
abbrev xp_m_takeOut_144 (d : Nat) (l5 l6 : Int) (m : w_M) (Q : Int → w_M → Prop) : Prop := x_W sM d ex_m454 0 144 [some (2, 428), none, none, none, none, some (0, l5), some (0, l6)] [] m Q
/-- PaperHouseModel.takeOver(ILjava/lang/String;)V -/
abbrev xc_m_takeOver (d : Nat) (l1 l2 : Int) (m : w_M) (Q : Int → w_M → Prop) : Prop := x_C sM d 455 3 [(2, 428), (0, l1), (2, l2)] m Q
/-- PaperHouseModel.target(I)I -/
abbrev xc_m_target (d : Nat) (l1 : Int) (m : w_M) (Q : Int → w_M → Prop) : Prop := x_C sM d 456 0 [(2, 428), (0, l1)] m Q
/-- PaperHouseModel.tell(IIJJ)V -/
abbrev xc_m_tell (d : Nat) (l1 l2 l3 l5 : Int) (m : w_M) (Q : Int → w_M → Prop) : Prop := x_C sM d 457 3 [(2, 428), (0, l1), (0, l2), (1, l3), (1, l5)] m Q
abbrev xp_m_tell_17 (d : Nat) (l1 l2 l3 l5 s1 : Int) (m : w_M) (Q : Int → w_M → Prop) : Prop := x_W sM d ex_m457 3 17 [some (2, 428), some (0, l1), some (0, l2), some (1, l3), none, some (1, l5), none] [(0, s1), (2, 428)] m Q
/-- PaperHouseModel.thousandth(J)J -/
abbrev xc_m_thousandth (d : Nat) (l0 : Int) (m : w_M) (Q : Int → w_M → Prop) : Prop := x_C sM d 458 1 [(1, l0)] m Q
/-- PaperHouseModel.times(JJ)J -/
abbrev xc_m_times (d : Nat) (l0 l2 : Int) (m : w_M) (Q : Int → w_M → Prop) : Prop := x_C sM d 459 1 [(1, l0), (1, l2)] m Q
/-- PaperHouseModel.token()V -/
abbrev xc_m_token (d : Nat) (m : w_M) (Q : Int → w_M → Prop) : Prop := x_C sM d 460 3 [(2, 428)] m Q
abbrev xp_m_token_105 (d : Nat) (l1 : Int) (m : w_M) (Q : Int → w_M → Prop) : Prop := x_W sM d ex_m460 3 105 [some (2, 428), some (0, l1)] [] m Q
abbrev xp_m_token_165 (d : Nat) (l1 : Int) (m : w_M) (Q : Int → w_M → Prop) : Prop := x_W sM d ex_m460 3 165 [some (2, 428), some (0, l1)] [] m Q
/-- PaperHouseModel.tree()V -/
abbrev xc_m_tree (d : Nat) (m : w_M) (Q : Int → w_M → Prop) : Prop := x_C sM d 461 3 [(2, 428)] m Q
abbrev xp_m_tree_132 (d : Nat) (l2 : Int) (m : w_M) (Q : Int → w_M → Prop) : Prop := x_W sM d ex_m461 3 132 [some (2, 428), none, some (0, l2)] [] m Q
/-- PaperHouseModel.turn(II)Z -/
abbrev xc_m_turn (d : Nat) (l1 l2 : Int) (m : w_M) (Q : Int → w_M → Prop) : Prop := x_C sM d 462 0 [(2, 428), (0, l1), (0, l2)] m Q
/-- PaperHouseModel.unhex()Z -/
abbrev xc_m_unhex (d : Nat) (m : w_M) (Q : Int → w_M → Prop) : Prop := x_C sM d 463 0 [(2, 428)] m Q
abbrev xp_m_unhex_9 (d : Nat) (l1 l2 : Int) (m : w_M) (Q : Int → w_M → Prop) : Prop := x_W sM d ex_m463 0 9 [some (2, 428), some (0, l1), some (0, l2), none, none] [] m Q
abbrev xp_m_unhex_59 (d : Nat) (l1 l2 l4 : Int) (m : w_M) (Q : Int → w_M → Prop) : Prop := x_W sM d ex_m463 0 59 [some (2, 428), some (0, l1), some (0, l2), none, some (0, l4)] [] m Q
abbrev xp_m_unhex_114 (d : Nat) (l1 l2 : Int) (m : w_M) (Q : Int → w_M → Prop) : Prop := x_W sM d ex_m463 0 114 [some (2, 428), some (0, l1), some (0, l2), none, none] [] m Q
abbrev xp_m_unhex_159 (d : Nat) (l3 l4 : Int) (m : w_M) (Q : Int → w_M → Prop) : Prop := x_W sM d ex_m463 0 159 [some (2, 428), none, none, some (0, l3), some (0, l4)] [] m Q
/-- PaperHouseModel.unitsOf(I)I -/
abbrev xc_m_unitsOf (d : Nat) (l1 : Int) (m : w_M) (Q : Int → w_M → Prop) : Prop := x_C sM d 464 0 [(2, 428), (0, l1)] m Q
/-- PaperHouseModel.unpredict(I)Z -/
abbrev xc_m_unpredict (d : Nat) (l1 : Int) (m : w_M) (Q : Int → w_M → Prop) : Prop := x_C sM d 465 0 [(2, 428), (0, l1)] m Q
abbrev xp_m_unpredict_20 (d : Nat) (l1 l2 : Int) (m : w_M) (Q : Int → w_M → Prop) : Prop := x_W sM d ex_m465 0 20 [some (2, 428), some (0, l1), some (0, l2), none, none, none, none, none, none] [] m Q
abbrev xp_m_unpredict_57 (d : Nat) (l1 l2 l3 l4 : Int) (m : w_M) (Q : Int → w_M → Prop) : Prop := x_W sM d ex_m465 0 57 [some (2, 428), some (0, l1), some (0, l2), some (0, l3), some (0, l4), none, none, none, none] [] m Q
abbrev xp_m_unpredict_87 (d : Nat) (l1 l2 l3 l4 s0 : Int) (m : w_M) (Q : Int → w_M → Prop) : Prop := x_W sM d ex_m465 0 87 [some (2, 428), some (0, l1), some (0, l2), some (0, l3), some (0, l4), none, none, none, none] [(0, s0)] m Q
abbrev xp_m_unpredict_144 (d : Nat) (l1 l2 l3 l4 l5 l6 s0 : Int) (m : w_M) (Q : Int → w_M → Prop) : Prop := x_W sM d ex_m465 0 144 [some (2, 428), some (0, l1), some (0, l2), some (0, l3), some (0, l4), some (0, l5), some (0, l6), none, none] [(0, s0)] m Q
abbrev xp_m_unpredict_198 (d : Nat) (l1 l2 l3 l4 s0 : Int) (m : w_M) (Q : Int → w_M → Prop) : Prop := x_W sM d ex_m465 0 198 [some (2, 428), some (0, l1), some (0, l2), some (0, l3), some (0, l4), none, none, none, none] [(0, s0)] m Q
/-- PaperHouseModel.unsigned(II)J -/
abbrev xc_m_unsigned (d : Nat) (l1 l2 : Int) (m : w_M) (Q : Int → w_M → Prop) : Prop := x_C sM d 466 1 [(2, 428), (0, l1), (0, l2)] m Q
abbrev xp_m_unsigned_5 (d : Nat) (l1 l2 l3 l5 : Int) (m : w_M) (Q : Int → w_M → Prop) : Prop := x_W sM d ex_m466 1 5 [some (2, 428), some (0, l1), some (0, l2), some (1, l3), none, some (0, l5)] [] m Q
/-- PaperHouseModel.up()I -/
abbrev xc_m_up (d : Nat) (m : w_M) (Q : Int → w_M → Prop) : Prop := x_C sM d 467 0 [(2, 428)] m Q
/-- PaperHouseModel.which()I -/
abbrev xc_m_which (d : Nat) (m : w_M) (Q : Int → w_M → Prop) : Prop := x_C sM d 468 0 [(2, 428)] m Q
abbrev xp_m_which_383 (d : Nat) (l1 l3 : Int) (m : w_M) (Q : Int → w_M → Prop) : Prop := x_W sM d ex_m468 0 383 [some (2, 428), some (2, l1), none, some (0, l3)] [] m Q
/-- PaperHouseModel.white()V -/
abbrev xc_m_white (d : Nat) (m : w_M) (Q : Int → w_M → Prop) : Prop := x_C sM d 469 3 [(2, 428)] m Q
abbrev xp_m_white_4 (d : Nat) (m : w_M) (Q : Int → w_M → Prop) : Prop := x_W sM d ex_m469 3 4 [some (2, 428)] [] m Q
abbrev xp_m_white_14 (d : Nat) (m : w_M) (Q : Int → w_M → Prop) : Prop := x_W sM d ex_m469 3 14 [some (2, 428)] [] m Q
/-- PaperHouseModel.whole()I -/
abbrev xc_m_whole (d : Nat) (m : w_M) (Q : Int → w_M → Prop) : Prop := x_C sM d 470 0 [(2, 428)] m Q
abbrev xp_m_whole_26 (d : Nat) (l1 : Int) (m : w_M) (Q : Int → w_M → Prop) : Prop := x_W sM d ex_m470 0 26 [some (2, 428), some (0, l1), none] [] m Q
abbrev xp_m_whole_80 (d : Nat) (l1 : Int) (m : w_M) (Q : Int → w_M → Prop) : Prop := x_W sM d ex_m470 0 80 [some (2, 428), some (0, l1), none] [] m Q
abbrev xp_m_whole_150 (d : Nat) (l1 l2 : Int) (m : w_M) (Q : Int → w_M → Prop) : Prop := x_W sM d ex_m470 0 150 [some (2, 428), some (0, l1), some (0, l2)] [] m Q
/-- PaperHouseModel.wholeAt(ILjava/lang/String;I)I -/
abbrev xc_m_wholeAt (d : Nat) (l1 l2 l3 : Int) (m : w_M) (Q : Int → w_M → Prop) : Prop := x_C sM d 471 0 [(2, 428), (0, l1), (2, l2), (0, l3)] m Q
/-- PaperHouseModel.wholeOrReference()I -/
abbrev xc_m_wholeOrReference (d : Nat) (m : w_M) (Q : Int → w_M → Prop) : Prop := x_C sM d 472 0 [(2, 428)] m Q
abbrev xp_m_wholeOrReference_65 (d : Nat) (l1 l2 l3 l4 l5 : Int) (m : w_M) (Q : Int → w_M → Prop) : Prop := x_W sM d ex_m472 0 65 [some (2, 428), some (0, l1), some (0, l2), some (0, l3), some (0, l4), some (0, l5), none] [] m Q
/-- PaperHouseModel.widthOf(I)I -/
abbrev xc_m_widthOf (d : Nat) (l1 : Int) (m : w_M) (Q : Int → w_M → Prop) : Prop := x_C sM d 473 0 [(2, 428), (0, l1)] m Q
abbrev xp_m_widthOf_41 (d : Nat) (l1 l2 l3 : Int) (m : w_M) (Q : Int → w_M → Prop) : Prop := x_W sM d ex_m473 0 41 [some (2, 428), some (0, l1), some (0, l2), some (0, l3)] [] m Q
/-- PaperHouseModel.word()Ljava/lang/String; -/
abbrev xc_m_word (d : Nat) (m : w_M) (Q : Int → w_M → Prop) : Prop := x_C sM d 474 2 [(2, 428)] m Q
abbrev xp_m_word_2 (d : Nat) (l1 : Int) (m : w_M) (Q : Int → w_M → Prop) : Prop := x_W sM d ex_m474 2 2 [some (2, 428), some (0, l1)] [] m Q
/-- PaperHouseModel.write(I)V -/
abbrev xc_m_write (d : Nat) (l1 : Int) (m : w_M) (Q : Int → w_M → Prop) : Prop := x_C sM d 475 3 [(2, 428), (0, l1)] m Q
abbrev xp_m_write_156 (d : Nat) (l2 : Int) (m : w_M) (Q : Int → w_M → Prop) : Prop := x_W sM d ex_m475 3 156 [some (2, 428), none, some (0, l2)] [] m Q
/-- java/lang/String.charAt(I)C -/
abbrev xc_js_charAt (S : Nat → Prop) (d : Nat) (l0 l1 : Int) (m : w_M) (Q : Int → w_M → Prop) : Prop := x_C S d 476 0 [(2, l0), (0, l1)] m Q
/-- java/lang/String.checkIndex(II)V -/
abbrev xc_js_checkIndex (S : Nat → Prop) (d : Nat) (l0 l1 : Int) (m : w_M) (Q : Int → w_M → Prop) : Prop := x_C S d 477 3 [(0, l0), (0, l1)] m Q
/-- java/lang/String.coder()B -/
abbrev xc_js_coder (S : Nat → Prop) (d : Nat) (l0 : Int) (m : w_M) (Q : Int → w_M → Prop) : Prop := x_C S d 478 0 [(2, l0)] m Q
/-- java/lang/String.equals(Ljava/lang/Object;)Z -/
abbrev xc_js_equals (S : Nat → Prop) (d : Nat) (l0 l1 : Int) (m : w_M) (Q : Int → w_M → Prop) : Prop := x_C S d 479 0 [(2, l0), (2, l1)] m Q
/-- java/lang/String.hashCode()I -/
abbrev xc_js_hashCode (S : Nat → Prop) (d : Nat) (l0 : Int) (m : w_M) (Q : Int → w_M → Prop) : Prop := x_C S d 480 0 [(2, l0)] m Q
/-- java/lang/String.isLatin1()Z -/
abbrev xc_js_isLatin1 (S : Nat → Prop) (d : Nat) (l0 : Int) (m : w_M) (Q : Int → w_M → Prop) : Prop := x_C S d 481 0 [(2, l0)] m Q
/-- java/lang/String.length()I -/
abbrev xc_js_length (S : Nat → Prop) (d : Nat) (l0 : Int) (m : w_M) (Q : Int → w_M → Prop) : Prop := x_C S d 482 0 [(2, l0)] m Q
/-- java/lang/Math.floorDiv(JJ)J -/
abbrev xc_jm_floorDiv (S : Nat → Prop) (d : Nat) (l0 l2 : Int) (m : w_M) (Q : Int → w_M → Prop) : Prop := x_C S d 483 1 [(1, l0), (1, l2)] m Q
/-- java/lang/StringLatin1.charAt([BI)C -/
abbrev xc_jl_charAt (S : Nat → Prop) (d : Nat) (l0 l1 : Int) (m : w_M) (Q : Int → w_M → Prop) : Prop := x_C S d 484 0 [(2, l0), (0, l1)] m Q
/-- java/lang/StringLatin1.equals([B[B)Z -/
abbrev xc_jl_equals (S : Nat → Prop) (d : Nat) (l0 l1 : Int) (m : w_M) (Q : Int → w_M → Prop) : Prop := x_C S d 485 0 [(2, l0), (2, l1)] m Q
abbrev xp_jl_equals_9 (S : Nat → Prop) (d : Nat) (l0 l1 l2 : Int) (m : w_M) (Q : Int → w_M → Prop) : Prop := x_W S d ex_m485 0 9 [some (2, l0), some (2, l1), some (0, l2)] [] m Q
/-- java/util/Arrays.fill([II)V -/
abbrev xc_ja_fill (S : Nat → Prop) (d : Nat) (l0 l1 : Int) (m : w_M) (Q : Int → w_M → Prop) : Prop := x_C S d 486 3 [(2, l0), (0, l1)] m Q
abbrev xp_ja_fill_5 (S : Nat → Prop) (d : Nat) (l0 l1 l2 l3 : Int) (m : w_M) (Q : Int → w_M → Prop) : Prop := x_W S d ex_m486 3 5 [some (2, l0), some (0, l1), some (0, l2), some (0, l3)] [] m Q
/-- jdk/internal/util/Preconditions.checkIndex(IILjava/util/function/BiFunction;)I -/
abbrev xc_jp_checkIndex (S : Nat → Prop) (d : Nat) (l0 l1 : Int) (m : w_M) (Q : Int → w_M → Prop) : Prop := x_C S d 487 0 [(0, l0), (0, l1), (3, 0)] m Q
