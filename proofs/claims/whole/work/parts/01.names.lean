-- ===== PART A: goes FIRST, ahead of the names: the tables' words, and 'selects' of the private methods out of them =====
/-- a private method of a class that the tables say can be made, by its rows of tables_1 -/
def lw_okq (q : MethodName × Nat) : Prop := (q.1.cls ≠ "java/lang/invoke/MethodHandle" ∧ q.1.cls ≠ "java/lang/invoke/VarHandle") ∧ Cond.instantiable q.1.cls q.2 ∈ tables_1 ∧ Cond.privateMethod q.1 ∈ tables_1 ∧ Cond.instanceMethod q.1 ∈ tables_1
theorem lw_p0 : lw_okq (⟨"MostSold$Tally", "takeIn", "(II)V"⟩, 13) := ⟨⟨by decide +kernel, by decide +kernel⟩, List.mem_of_getElem? (i := 204) (by decide +kernel), List.mem_of_getElem? (i := 456) (by decide +kernel), List.mem_of_getElem? (i := 457) (by decide +kernel)⟩
theorem lw_p1 : lw_okq (⟨"MostSold", "enter", "(JJJJJJJ)I"⟩, 9) := ⟨⟨by decide +kernel, by decide +kernel⟩, List.mem_of_getElem? (i := 15) (by decide +kernel), List.mem_of_getElem? (i := 481) (by decide +kernel), List.mem_of_getElem? (i := 482) (by decide +kernel)⟩
theorem lw_p2 : lw_okq (⟨"MostSold$Rules", "parseLast", "()V"⟩, 11) := ⟨⟨by decide +kernel, by decide +kernel⟩, List.mem_of_getElem? (i := 158) (by decide +kernel), List.mem_of_getElem? (i := 542) (by decide +kernel), List.mem_of_getElem? (i := 543) (by decide +kernel)⟩
theorem lw_p3 : lw_okq (⟨"MostSold$Rules", "parsePart", "()I"⟩, 11) := ⟨⟨by decide +kernel, by decide +kernel⟩, List.mem_of_getElem? (i := 158) (by decide +kernel), List.mem_of_getElem? (i := 546) (by decide +kernel), List.mem_of_getElem? (i := 547) (by decide +kernel)⟩
theorem lw_p4 : lw_okq (⟨"MostSold$Rules", "byteAt", "(I)I"⟩, 11) := ⟨⟨by decide +kernel, by decide +kernel⟩, List.mem_of_getElem? (i := 158) (by decide +kernel), List.mem_of_getElem? (i := 550) (by decide +kernel), List.mem_of_getElem? (i := 551) (by decide +kernel)⟩
theorem lw_p5 : lw_okq (⟨"MostSold$Rules", "parseNumber", "(I)I"⟩, 11) := ⟨⟨by decide +kernel, by decide +kernel⟩, List.mem_of_getElem? (i := 158) (by decide +kernel), List.mem_of_getElem? (i := 559) (by decide +kernel), List.mem_of_getElem? (i := 560) (by decide +kernel)⟩
theorem lw_p6 : lw_okq (⟨"MostSold$Tally", "weighShop", "(II)V"⟩, 13) := ⟨⟨by decide +kernel, by decide +kernel⟩, List.mem_of_getElem? (i := 204) (by decide +kernel), List.mem_of_getElem? (i := 608) (by decide +kernel), List.mem_of_getElem? (i := 609) (by decide +kernel)⟩
theorem lw_p7 : lw_okq (⟨"MostSold$Tally", "hundredthsAt", "(II)J"⟩, 13) := ⟨⟨by decide +kernel, by decide +kernel⟩, List.mem_of_getElem? (i := 204) (by decide +kernel), List.mem_of_getElem? (i := 612) (by decide +kernel), List.mem_of_getElem? (i := 613) (by decide +kernel)⟩
theorem lw_p8 : lw_okq (⟨"MostSold$Tally", "shareOfTold", "(III)J"⟩, 13) := ⟨⟨by decide +kernel, by decide +kernel⟩, List.mem_of_getElem? (i := 204) (by decide +kernel), List.mem_of_getElem? (i := 622) (by decide +kernel), List.mem_of_getElem? (i := 623) (by decide +kernel)⟩
theorem lw_p9 : lw_okq (⟨"MostSold$Tally", "insert", "(I)V"⟩, 13) := ⟨⟨by decide +kernel, by decide +kernel⟩, List.mem_of_getElem? (i := 204) (by decide +kernel), List.mem_of_getElem? (i := 653) (by decide +kernel), List.mem_of_getElem? (i := 654) (by decide +kernel)⟩
theorem lw_p10 : lw_okq (⟨"MostSold$Tally", "isAhead", "(II)Z"⟩, 13) := ⟨⟨by decide +kernel, by decide +kernel⟩, List.mem_of_getElem? (i := 204) (by decide +kernel), List.mem_of_getElem? (i := 657) (by decide +kernel), List.mem_of_getElem? (i := 658) (by decide +kernel)⟩
theorem lw_p11 : lw_okq (⟨"MostSold$Tally", "sharesPlace", "(I)Z"⟩, 13) := ⟨⟨by decide +kernel, by decide +kernel⟩, List.mem_of_getElem? (i := 204) (by decide +kernel), List.mem_of_getElem? (i := 661) (by decide +kernel), List.mem_of_getElem? (i := 662) (by decide +kernel)⟩
theorem lw_p12 : lw_okq (⟨"MostSold$Doubts", "isClaim", "(I)Z"⟩, 8) := ⟨⟨by decide +kernel, by decide +kernel⟩, List.mem_of_getElem? (i := 278) (by decide +kernel), List.mem_of_getElem? (i := 717) (by decide +kernel), List.mem_of_getElem? (i := 718) (by decide +kernel)⟩
theorem lw_p13 : lw_okq (⟨"MostSold$Doubts", "isUntimely", "(I)Z"⟩, 8) := ⟨⟨by decide +kernel, by decide +kernel⟩, List.mem_of_getElem? (i := 278) (by decide +kernel), List.mem_of_getElem? (i := 722) (by decide +kernel), List.mem_of_getElem? (i := 723) (by decide +kernel)⟩
theorem lw_p14 : lw_okq (⟨"MostSold$Doubts", "chooseFewest", "()V"⟩, 8) := ⟨⟨by decide +kernel, by decide +kernel⟩, List.mem_of_getElem? (i := 278) (by decide +kernel), List.mem_of_getElem? (i := 727) (by decide +kernel), List.mem_of_getElem? (i := 728) (by decide +kernel)⟩
theorem lw_p15 : lw_okq (⟨"MostSold", "bearsOn", "(II)Z"⟩, 9) := ⟨⟨by decide +kernel, by decide +kernel⟩, List.mem_of_getElem? (i := 15) (by decide +kernel), List.mem_of_getElem? (i := 747) (by decide +kernel), List.mem_of_getElem? (i := 748) (by decide +kernel)⟩
def lw_privs_1 : List (MethodName × Nat) := [(⟨"MostSold$Tally", "takeIn", "(II)V"⟩, 13), (⟨"MostSold", "enter", "(JJJJJJJ)I"⟩, 9), (⟨"MostSold$Rules", "parseLast", "()V"⟩, 11), (⟨"MostSold$Rules", "parsePart", "()I"⟩, 11), (⟨"MostSold$Rules", "byteAt", "(I)I"⟩, 11), (⟨"MostSold$Rules", "parseNumber", "(I)I"⟩, 11), (⟨"MostSold$Tally", "weighShop", "(II)V"⟩, 13), (⟨"MostSold$Tally", "hundredthsAt", "(II)J"⟩, 13), (⟨"MostSold$Tally", "shareOfTold", "(III)J"⟩, 13), (⟨"MostSold$Tally", "insert", "(I)V"⟩, 13), (⟨"MostSold$Tally", "isAhead", "(II)Z"⟩, 13), (⟨"MostSold$Tally", "sharesPlace", "(I)Z"⟩, 13), (⟨"MostSold$Doubts", "isClaim", "(I)Z"⟩, 8), (⟨"MostSold$Doubts", "isUntimely", "(I)Z"⟩, 8), (⟨"MostSold$Doubts", "chooseFewest", "()V"⟩, 8), (⟨"MostSold", "bearsOn", "(II)Z"⟩, 9)]
theorem lw_r1 : ∀ q ∈ lw_privs_1, lw_okq q := List.forall_mem_cons.mpr ⟨lw_p0, List.forall_mem_cons.mpr ⟨lw_p1, List.forall_mem_cons.mpr ⟨lw_p2, List.forall_mem_cons.mpr ⟨lw_p3, List.forall_mem_cons.mpr ⟨lw_p4, List.forall_mem_cons.mpr ⟨lw_p5, List.forall_mem_cons.mpr ⟨lw_p6, List.forall_mem_cons.mpr ⟨lw_p7, List.forall_mem_cons.mpr ⟨lw_p8, List.forall_mem_cons.mpr ⟨lw_p9, List.forall_mem_cons.mpr ⟨lw_p10, List.forall_mem_cons.mpr ⟨lw_p11, List.forall_mem_cons.mpr ⟨lw_p12, List.forall_mem_cons.mpr ⟨lw_p13, List.forall_mem_cons.mpr ⟨lw_p14, List.forall_mem_cons.mpr ⟨lw_p15, fun _ h => absurd h List.not_mem_nil⟩⟩⟩⟩⟩⟩⟩⟩⟩⟩⟩⟩⟩⟩⟩⟩
theorem lw_p16 : lw_okq (⟨"MostSold", "changesList", "(II)Z"⟩, 9) := ⟨⟨by decide +kernel, by decide +kernel⟩, List.mem_of_getElem? (i := 15) (by decide +kernel), List.mem_of_getElem? (i := 751) (by decide +kernel), List.mem_of_getElem? (i := 752) (by decide +kernel)⟩
theorem lw_p17 : lw_okq (⟨"MostSold$Errand", "shopBits", "(I)I"⟩, 5) := ⟨⟨by decide +kernel, by decide +kernel⟩, List.mem_of_getElem? (i := 311) (by decide +kernel), List.mem_of_getElem? (i := 781) (by decide +kernel), List.mem_of_getElem? (i := 782) (by decide +kernel)⟩
theorem lw_p18 : lw_okq (⟨"MostSoldModel", "met", "(I)I"⟩, 53) := ⟨⟨by decide +kernel, by decide +kernel⟩, List.mem_of_getElem? (i := 853) (by decide +kernel), List.mem_of_getElem? (i := 1030) (by decide +kernel), List.mem_of_getElem? (i := 1031) (by decide +kernel)⟩
theorem lw_p19 : lw_okq (⟨"MostSoldModel", "lacks", "(III)I"⟩, 53) := ⟨⟨by decide +kernel, by decide +kernel⟩, List.mem_of_getElem? (i := 853) (by decide +kernel), List.mem_of_getElem? (i := 1042) (by decide +kernel), List.mem_of_getElem? (i := 1043) (by decide +kernel)⟩
theorem lw_p20 : lw_okq (⟨"MostSoldModel", "isTitle", "(I)Z"⟩, 53) := ⟨⟨by decide +kernel, by decide +kernel⟩, List.mem_of_getElem? (i := 853) (by decide +kernel), List.mem_of_getElem? (i := 1070) (by decide +kernel), List.mem_of_getElem? (i := 1071) (by decide +kernel)⟩
theorem lw_p21 : lw_okq (⟨"MostSoldModel", "isShop", "(J)Z"⟩, 53) := ⟨⟨by decide +kernel, by decide +kernel⟩, List.mem_of_getElem? (i := 853) (by decide +kernel), List.mem_of_getElem? (i := 1084) (by decide +kernel), List.mem_of_getElem? (i := 1085) (by decide +kernel)⟩
theorem lw_p22 : lw_okq (⟨"MostSoldModel", "isSale", "(JJJJJJJ)Z"⟩, 53) := ⟨⟨by decide +kernel, by decide +kernel⟩, List.mem_of_getElem? (i := 853) (by decide +kernel), List.mem_of_getElem? (i := 1097) (by decide +kernel), List.mem_of_getElem? (i := 1098) (by decide +kernel)⟩
theorem lw_p23 : lw_okq (⟨"MostSoldModel", "isThing", "(J)Z"⟩, 53) := ⟨⟨by decide +kernel, by decide +kernel⟩, List.mem_of_getElem? (i := 853) (by decide +kernel), List.mem_of_getElem? (i := 1101) (by decide +kernel), List.mem_of_getElem? (i := 1102) (by decide +kernel)⟩
theorem lw_p24 : lw_okq (⟨"MostSoldModel", "adds", "(IIIIIII)I"⟩, 53) := ⟨⟨by decide +kernel, by decide +kernel⟩, List.mem_of_getElem? (i := 853) (by decide +kernel), List.mem_of_getElem? (i := 1107) (by decide +kernel), List.mem_of_getElem? (i := 1108) (by decide +kernel)⟩
theorem lw_p25 : lw_okq (⟨"MostSoldModel", "item", "(III)J"⟩, 53) := ⟨⟨by decide +kernel, by decide +kernel⟩, List.mem_of_getElem? (i := 853) (by decide +kernel), List.mem_of_getElem? (i := 1115) (by decide +kernel), List.mem_of_getElem? (i := 1116) (by decide +kernel)⟩
theorem lw_p26 : lw_okq (⟨"MostSoldModel", "hasSale", "(I)Z"⟩, 53) := ⟨⟨by decide +kernel, by decide +kernel⟩, List.mem_of_getElem? (i := 853) (by decide +kernel), List.mem_of_getElem? (i := 1123) (by decide +kernel), List.mem_of_getElem? (i := 1124) (by decide +kernel)⟩
theorem lw_p27 : lw_okq (⟨"MostSoldModel", "isKnown", "(I)Z"⟩, 53) := ⟨⟨by decide +kernel, by decide +kernel⟩, List.mem_of_getElem? (i := 853) (by decide +kernel), List.mem_of_getElem? (i := 1127) (by decide +kernel), List.mem_of_getElem? (i := 1128) (by decide +kernel)⟩
theorem lw_p28 : lw_okq (⟨"MostSoldModel", "statusOf", "(II)I"⟩, 53) := ⟨⟨by decide +kernel, by decide +kernel⟩, List.mem_of_getElem? (i := 853) (by decide +kernel), List.mem_of_getElem? (i := 1147) (by decide +kernel), List.mem_of_getElem? (i := 1148) (by decide +kernel)⟩
theorem lw_p29 : lw_okq (⟨"MostSoldModel", "isOpen", "(II)Z"⟩, 53) := ⟨⟨by decide +kernel, by decide +kernel⟩, List.mem_of_getElem? (i := 853) (by decide +kernel), List.mem_of_getElem? (i := 1151) (by decide +kernel), List.mem_of_getElem? (i := 1152) (by decide +kernel)⟩
theorem lw_p30 : lw_okq (⟨"MostSoldModel", "speaks", "(II)Z"⟩, 53) := ⟨⟨by decide +kernel, by decide +kernel⟩, List.mem_of_getElem? (i := 853) (by decide +kernel), List.mem_of_getElem? (i := 1155) (by decide +kernel), List.mem_of_getElem? (i := 1156) (by decide +kernel)⟩
theorem lw_p31 : lw_okq (⟨"MostSoldModel", "reads", "()I"⟩, 53) := ⟨⟨by decide +kernel, by decide +kernel⟩, List.mem_of_getElem? (i := 853) (by decide +kernel), List.mem_of_getElem? (i := 1172) (by decide +kernel), List.mem_of_getElem? (i := 1173) (by decide +kernel)⟩
def lw_privs_2 : List (MethodName × Nat) := [(⟨"MostSold", "changesList", "(II)Z"⟩, 9), (⟨"MostSold$Errand", "shopBits", "(I)I"⟩, 5), (⟨"MostSoldModel", "met", "(I)I"⟩, 53), (⟨"MostSoldModel", "lacks", "(III)I"⟩, 53), (⟨"MostSoldModel", "isTitle", "(I)Z"⟩, 53), (⟨"MostSoldModel", "isShop", "(J)Z"⟩, 53), (⟨"MostSoldModel", "isSale", "(JJJJJJJ)Z"⟩, 53), (⟨"MostSoldModel", "isThing", "(J)Z"⟩, 53), (⟨"MostSoldModel", "adds", "(IIIIIII)I"⟩, 53), (⟨"MostSoldModel", "item", "(III)J"⟩, 53), (⟨"MostSoldModel", "hasSale", "(I)Z"⟩, 53), (⟨"MostSoldModel", "isKnown", "(I)Z"⟩, 53), (⟨"MostSoldModel", "statusOf", "(II)I"⟩, 53), (⟨"MostSoldModel", "isOpen", "(II)Z"⟩, 53), (⟨"MostSoldModel", "speaks", "(II)Z"⟩, 53), (⟨"MostSoldModel", "reads", "()I"⟩, 53)]
theorem lw_r2 : ∀ q ∈ lw_privs_2, lw_okq q := List.forall_mem_cons.mpr ⟨lw_p16, List.forall_mem_cons.mpr ⟨lw_p17, List.forall_mem_cons.mpr ⟨lw_p18, List.forall_mem_cons.mpr ⟨lw_p19, List.forall_mem_cons.mpr ⟨lw_p20, List.forall_mem_cons.mpr ⟨lw_p21, List.forall_mem_cons.mpr ⟨lw_p22, List.forall_mem_cons.mpr ⟨lw_p23, List.forall_mem_cons.mpr ⟨lw_p24, List.forall_mem_cons.mpr ⟨lw_p25, List.forall_mem_cons.mpr ⟨lw_p26, List.forall_mem_cons.mpr ⟨lw_p27, List.forall_mem_cons.mpr ⟨lw_p28, List.forall_mem_cons.mpr ⟨lw_p29, List.forall_mem_cons.mpr ⟨lw_p30, List.forall_mem_cons.mpr ⟨lw_p31, fun _ h => absurd h List.not_mem_nil⟩⟩⟩⟩⟩⟩⟩⟩⟩⟩⟩⟩⟩⟩⟩⟩
theorem lw_p32 : lw_okq (⟨"MostSoldModel", "readsPart", "()Z"⟩, 53) := ⟨⟨by decide +kernel, by decide +kernel⟩, List.mem_of_getElem? (i := 853) (by decide +kernel), List.mem_of_getElem? (i := 1176) (by decide +kernel), List.mem_of_getElem? (i := 1177) (by decide +kernel)⟩
theorem lw_p33 : lw_okq (⟨"MostSoldModel", "number", "(III)I"⟩, 53) := ⟨⟨by decide +kernel, by decide +kernel⟩, List.mem_of_getElem? (i := 853) (by decide +kernel), List.mem_of_getElem? (i := 1183) (by decide +kernel), List.mem_of_getElem? (i := 1184) (by decide +kernel)⟩
theorem lw_p34 : lw_okq (⟨"MostSoldModel", "must", "(I)Z"⟩, 53) := ⟨⟨by decide +kernel, by decide +kernel⟩, List.mem_of_getElem? (i := 853) (by decide +kernel), List.mem_of_getElem? (i := 1189) (by decide +kernel), List.mem_of_getElem? (i := 1190) (by decide +kernel)⟩
theorem lw_p35 : lw_okq (⟨"MostSoldModel", "says", "(II)I"⟩, 53) := ⟨⟨by decide +kernel, by decide +kernel⟩, List.mem_of_getElem? (i := 853) (by decide +kernel), List.mem_of_getElem? (i := 1204) (by decide +kernel), List.mem_of_getElem? (i := 1205) (by decide +kernel)⟩
theorem lw_p36 : lw_okq (⟨"MostSoldModel", "partIn", "(II)I"⟩, 53) := ⟨⟨by decide +kernel, by decide +kernel⟩, List.mem_of_getElem? (i := 853) (by decide +kernel), List.mem_of_getElem? (i := 1208) (by decide +kernel), List.mem_of_getElem? (i := 1209) (by decide +kernel)⟩
theorem lw_p37 : lw_okq (⟨"MostSoldModel", "findAmounts", "(II)V"⟩, 53) := ⟨⟨by decide +kernel, by decide +kernel⟩, List.mem_of_getElem? (i := 853) (by decide +kernel), List.mem_of_getElem? (i := 1222) (by decide +kernel), List.mem_of_getElem? (i := 1223) (by decide +kernel)⟩
theorem lw_p38 : lw_okq (⟨"MostSoldModel", "counts", "(II)Z"⟩, 53) := ⟨⟨by decide +kernel, by decide +kernel⟩, List.mem_of_getElem? (i := 853) (by decide +kernel), List.mem_of_getElem? (i := 1226) (by decide +kernel), List.mem_of_getElem? (i := 1227) (by decide +kernel)⟩
theorem lw_p39 : lw_okq (⟨"MostSoldModel", "findSums", "(II)V"⟩, 53) := ⟨⟨by decide +kernel, by decide +kernel⟩, List.mem_of_getElem? (i := 853) (by decide +kernel), List.mem_of_getElem? (i := 1235) (by decide +kernel), List.mem_of_getElem? (i := 1236) (by decide +kernel)⟩
theorem lw_p40 : lw_okq (⟨"MostSoldModel", "sumOf", "(I)J"⟩, 53) := ⟨⟨by decide +kernel, by decide +kernel⟩, List.mem_of_getElem? (i := 853) (by decide +kernel), List.mem_of_getElem? (i := 1239) (by decide +kernel), List.mem_of_getElem? (i := 1240) (by decide +kernel)⟩
theorem lw_p41 : lw_okq (⟨"MostSoldModel", "findList", "(II)V"⟩, 53) := ⟨⟨by decide +kernel, by decide +kernel⟩, List.mem_of_getElem? (i := 853) (by decide +kernel), List.mem_of_getElem? (i := 1253) (by decide +kernel), List.mem_of_getElem? (i := 1254) (by decide +kernel)⟩
theorem lw_p42 : lw_okq (⟨"MostSoldModel", "ahead", "(III)Z"⟩, 53) := ⟨⟨by decide +kernel, by decide +kernel⟩, List.mem_of_getElem? (i := 853) (by decide +kernel), List.mem_of_getElem? (i := 1257) (by decide +kernel), List.mem_of_getElem? (i := 1258) (by decide +kernel)⟩
theorem lw_p43 : lw_okq (⟨"MostSoldModel", "hoursOf", "(II)I"⟩, 53) := ⟨⟨by decide +kernel, by decide +kernel⟩, List.mem_of_getElem? (i := 853) (by decide +kernel), List.mem_of_getElem? (i := 1277) (by decide +kernel), List.mem_of_getElem? (i := 1278) (by decide +kernel)⟩
theorem lw_p44 : lw_okq (⟨"MostSoldModel", "findDoubts", "(I)Z"⟩, 53) := ⟨⟨by decide +kernel, by decide +kernel⟩, List.mem_of_getElem? (i := 853) (by decide +kernel), List.mem_of_getElem? (i := 1298) (by decide +kernel), List.mem_of_getElem? (i := 1299) (by decide +kernel)⟩
theorem lw_p45 : lw_okq (⟨"MostSoldModel", "isGiven", "(II)Z"⟩, 53) := ⟨⟨by decide +kernel, by decide +kernel⟩, List.mem_of_getElem? (i := 853) (by decide +kernel), List.mem_of_getElem? (i := 1302) (by decide +kernel), List.mem_of_getElem? (i := 1303) (by decide +kernel)⟩
theorem lw_p46 : lw_okq (⟨"MostSoldModel", "isNever", "(I)Z"⟩, 53) := ⟨⟨by decide +kernel, by decide +kernel⟩, List.mem_of_getElem? (i := 853) (by decide +kernel), List.mem_of_getElem? (i := 1306) (by decide +kernel), List.mem_of_getElem? (i := 1307) (by decide +kernel)⟩
theorem lw_p47 : lw_okq (⟨"MostSoldModel", "worthOf", "(I)J"⟩, 53) := ⟨⟨by decide +kernel, by decide +kernel⟩, List.mem_of_getElem? (i := 853) (by decide +kernel), List.mem_of_getElem? (i := 1325) (by decide +kernel), List.mem_of_getElem? (i := 1326) (by decide +kernel)⟩
def lw_privs_3 : List (MethodName × Nat) := [(⟨"MostSoldModel", "readsPart", "()Z"⟩, 53), (⟨"MostSoldModel", "number", "(III)I"⟩, 53), (⟨"MostSoldModel", "must", "(I)Z"⟩, 53), (⟨"MostSoldModel", "says", "(II)I"⟩, 53), (⟨"MostSoldModel", "partIn", "(II)I"⟩, 53), (⟨"MostSoldModel", "findAmounts", "(II)V"⟩, 53), (⟨"MostSoldModel", "counts", "(II)Z"⟩, 53), (⟨"MostSoldModel", "findSums", "(II)V"⟩, 53), (⟨"MostSoldModel", "sumOf", "(I)J"⟩, 53), (⟨"MostSoldModel", "findList", "(II)V"⟩, 53), (⟨"MostSoldModel", "ahead", "(III)Z"⟩, 53), (⟨"MostSoldModel", "hoursOf", "(II)I"⟩, 53), (⟨"MostSoldModel", "findDoubts", "(I)Z"⟩, 53), (⟨"MostSoldModel", "isGiven", "(II)Z"⟩, 53), (⟨"MostSoldModel", "isNever", "(I)Z"⟩, 53), (⟨"MostSoldModel", "worthOf", "(I)J"⟩, 53)]
theorem lw_r3 : ∀ q ∈ lw_privs_3, lw_okq q := List.forall_mem_cons.mpr ⟨lw_p32, List.forall_mem_cons.mpr ⟨lw_p33, List.forall_mem_cons.mpr ⟨lw_p34, List.forall_mem_cons.mpr ⟨lw_p35, List.forall_mem_cons.mpr ⟨lw_p36, List.forall_mem_cons.mpr ⟨lw_p37, List.forall_mem_cons.mpr ⟨lw_p38, List.forall_mem_cons.mpr ⟨lw_p39, List.forall_mem_cons.mpr ⟨lw_p40, List.forall_mem_cons.mpr ⟨lw_p41, List.forall_mem_cons.mpr ⟨lw_p42, List.forall_mem_cons.mpr ⟨lw_p43, List.forall_mem_cons.mpr ⟨lw_p44, List.forall_mem_cons.mpr ⟨lw_p45, List.forall_mem_cons.mpr ⟨lw_p46, List.forall_mem_cons.mpr ⟨lw_p47, fun _ h => absurd h List.not_mem_nil⟩⟩⟩⟩⟩⟩⟩⟩⟩⟩⟩⟩⟩⟩⟩⟩
def lw_privs : List (MethodName × Nat) := lw_privs_1 ++ (lw_privs_2 ++ (lw_privs_3))
def lw_tbl : List Cond := k2_sels lw_privs ++ tables_1
theorem lw_privs_ok : ∀ q ∈ lw_privs, lw_okq q := by
  show ∀ q ∈ lw_privs_1 ++ (lw_privs_2 ++ (lw_privs_3)), lw_okq q
  exact List.forall_mem_append.mpr ⟨lw_r1, List.forall_mem_append.mpr ⟨lw_r2, lw_r3⟩⟩
def RX0 : String := "MostSold$Doubts"
def TX0 : u_T := fun k => match k with
  | 0 => ("MostSold$Doubts", "trade", "LMostSold$Trade;", true)
  | 1 => ("MostSold$Doubts", "ledger", "LMostSold$Ledger;", true)
  | 2 => ("MostSold$Doubts", "others", "[I", true)
  | 3 => ("MostSold$Doubts", "othersCount", "I", false)
  | 4 => ("MostSold$Doubts", "excess", "I", false)
  | 5 => ("MostSold$Doubts", "untimely", "I", false)
  | 6 => ("MostSold$Doubts", "fewest", "I", false)
  | _ => ("MostSold$Doubts", "chosen", "I", false)
def tyX0 : Nat → FieldType := fun k => match k with
  | 0 => .object "MostSold$Trade"
  | 1 => .object "MostSold$Ledger"
  | 2 => .array .int
  | 3 => .int
  | 4 => .int
  | 5 => .int
  | 6 => .int
  | _ => .int
abbrev wsX00 : List Cond := u_ws RX0 TX0 8
theorem nmX0 : ∀ a, a < 8 → ∀ b, b < 8 → a ≠ b → (TX0 a).2.1 ≠ (TX0 b).2.1 := by decide +kernel
theorem tyX0_ok : ∀ k, k < 8 → parseFieldDescriptor (TX0 k).2.2.1 = some (tyX0 k) := by decide +kernel
abbrev cX0_init : ByteArray := prog_2_method_1_code
def yX0_init : MethodName := ⟨RX0, "<init>", "(LMostSold$Trade;LMostSold$Ledger;)V"⟩
abbrev cX0_examine : ByteArray := prog_2_method_2_code
def yX0_examine : MethodName := ⟨RX0, "examine", "(I)Z"⟩
abbrev cX0_isClaim : ByteArray := prog_2_method_3_code
def yX0_isClaim : MethodName := ⟨RX0, "isClaim", "(I)Z"⟩
abbrev cX0_isUntimely : ByteArray := prog_2_method_4_code
def yX0_isUntimely : MethodName := ⟨RX0, "isUntimely", "(I)Z"⟩
abbrev cX0_chooseFewest : ByteArray := prog_2_method_5_code
def yX0_chooseFewest : MethodName := ⟨RX0, "chooseFewest", "()V"⟩
abbrev cX0_isDoubted : ByteArray := prog_2_method_6_code
def yX0_isDoubted : MethodName := ⟨RX0, "isDoubted", "(I)Z"⟩
def RX1 : String := "MostSold$Errand"
def TX1 : u_T := fun k => match k with
  | 0 => ("MostSold$Errand", "shops", "[I", true)
  | 1 => ("MostSold$Errand", "worths", "[J", true)
  | 2 => ("MostSold$Errand", "prices", "[I", true)
  | 3 => ("MostSold$Errand", "offered", "I", false)
  | _ => ("MostSold$Errand", "purse", "I", false)
def tyX1 : Nat → FieldType := fun k => match k with
  | 0 => .array .int
  | 1 => .array .long
  | 2 => .array .int
  | 3 => .int
  | _ => .int
abbrev wsX10 : List Cond := u_ws RX1 TX1 5
theorem nmX1 : ∀ a, a < 5 → ∀ b, b < 5 → a ≠ b → (TX1 a).2.1 ≠ (TX1 b).2.1 := by decide +kernel
theorem tyX1_ok : ∀ k, k < 5 → parseFieldDescriptor (TX1 k).2.2.1 = some (tyX1 k) := by decide +kernel
abbrev cX1_init : ByteArray := prog_3_method_1_code
def yX1_init : MethodName := ⟨RX1, "<init>", "()V"⟩
abbrev cX1_start : ByteArray := prog_3_method_2_code
def yX1_start : MethodName := ⟨RX1, "start", "(I)V"⟩
abbrev cX1_offer : ByteArray := prog_3_method_3_code
def yX1_offer : MethodName := ⟨RX1, "offer", "(IJI)V"⟩
abbrev cX1_choose : ByteArray := prog_3_method_4_code
def yX1_choose : MethodName := ⟨RX1, "choose", "()I"⟩
abbrev cX1_shopBits : ByteArray := prog_3_method_5_code
def yX1_shopBits : MethodName := ⟨RX1, "shopBits", "(I)I"⟩
def RX2 : String := "MostSold$Habits"
def TX2 : u_T := fun k => match k with
  | 0 => ("MostSold$Habits", "ledger", "LMostSold$Ledger;", true)
  | 1 => ("MostSold$Habits", "rules", "LMostSold$Rules;", true)
  | 2 => ("MostSold$Habits", "hoursOf", "[I", true)
  | _ => ("MostSold$Habits", "ways", "[[J", true)
def tyX2 : Nat → FieldType := fun k => match k with
  | 0 => .object "MostSold$Ledger"
  | 1 => .object "MostSold$Rules"
  | 2 => .array .int
  | _ => .array (.array .long)
abbrev wsX20 : List Cond := u_ws RX2 TX2 4
theorem nmX2 : ∀ a, a < 4 → ∀ b, b < 4 → a ≠ b → (TX2 a).2.1 ≠ (TX2 b).2.1 := by decide +kernel
theorem tyX2_ok : ∀ k, k < 4 → parseFieldDescriptor (TX2 k).2.2.1 = some (tyX2 k) := by decide +kernel
abbrev cX2_init : ByteArray := prog_4_method_1_code
def yX2_init : MethodName := ⟨RX2, "<init>", "(LMostSold$Ledger;LMostSold$Rules;)V"⟩
abbrev cX2_gather : ByteArray := prog_4_method_2_code
def yX2_gather : MethodName := ⟨RX2, "gather", "(I)V"⟩
abbrev cX2_chance : ByteArray := prog_4_method_3_code
def yX2_chance : MethodName := ⟨RX2, "chance", "(II)I"⟩
abbrev cX2_oddPair : ByteArray := prog_4_method_4_code
def yX2_oddPair : MethodName := ⟨RX2, "oddPair", "(I)I"⟩
def RX3 : String := "MostSold$Ledger"
def TX3 : u_T := fun k => match k with
  | 0 => ("MostSold$Ledger", "sales", "I", false)
  | 1 => ("MostSold$Ledger", "asOfWeek", "I", false)
  | 2 => ("MostSold$Ledger", "unheardOf", "I", false)
  | 3 => ("MostSold$Ledger", "shopOf", "[I", true)
  | 4 => ("MostSold$Ledger", "thingOf", "[I", true)
  | 5 => ("MostSold$Ledger", "weekOf", "[I", true)
  | 6 => ("MostSold$Ledger", "hourOf", "[I", true)
  | 7 => ("MostSold$Ledger", "manyOf", "[I", true)
  | 8 => ("MostSold$Ledger", "sortOf", "[I", true)
  | 9 => ("MostSold$Ledger", "toldIn", "[I", true)
  | _ => ("MostSold$Ledger", "struckIn", "[I", true)
def tyX3 : Nat → FieldType := fun k => match k with
  | 0 => .int
  | 1 => .int
  | 2 => .int
  | 3 => .array .int
  | 4 => .array .int
  | 5 => .array .int
  | 6 => .array .int
  | 7 => .array .int
  | 8 => .array .int
  | 9 => .array .int
  | _ => .array .int
abbrev wsX30 : List Cond := u_ws RX3 TX3 11
theorem nmX3 : ∀ a, a < 11 → ∀ b, b < 11 → a ≠ b → (TX3 a).2.1 ≠ (TX3 b).2.1 := by decide +kernel
theorem tyX3_ok : ∀ k, k < 11 → parseFieldDescriptor (TX3 k).2.2.1 = some (tyX3 k) := by decide +kernel
abbrev cX3_init : ByteArray := prog_5_method_1_code
def yX3_init : MethodName := ⟨RX3, "<init>", "()V"⟩
abbrev cX3_isSale : ByteArray := prog_5_method_2_code
def yX3_isSale : MethodName := ⟨RX3, "isSale", "(I)Z"⟩
abbrev cX3_add : ByteArray := prog_5_method_3_code
def yX3_add : MethodName := ⟨RX3, "add", "(IIIIIII)I"⟩
abbrev cX3_isKnown : ByteArray := prog_5_method_4_code
def yX3_isKnown : MethodName := ⟨RX3, "isKnown", "(I)Z"⟩
abbrev cX3_countKnown : ByteArray := prog_5_method_5_code
def yX3_countKnown : MethodName := ⟨RX3, "countKnown", "()I"⟩
abbrev cX3_doesCount : ByteArray := prog_5_method_6_code
def yX3_doesCount : MethodName := ⟨RX3, "doesCount", "(ILMostSold$Rules;)Z"⟩
def RX4 : String := "MostSold$Rules"
def TX4 : u_T := fun k => match k with
  | 0 => ("MostSold$Rules", "text", "[I", true)
  | 1 => ("MostSold$Rules", "length", "I", false)
  | 2 => ("MostSold$Rules", "faultAt", "I", false)
  | 3 => ("MostSold$Rules", "inForce", "[I", true)
  | 4 => ("MostSold$Rules", "byPart", "[I", true)
  | 5 => ("MostSold$Rules", "itemOf", "[I", true)
  | 6 => ("MostSold$Rules", "numberOf", "[I", true)
  | 7 => ("MostSold$Rules", "fromWeek", "[I", true)
  | 8 => ("MostSold$Rules", "closedParts", "I", false)
  | 9 => ("MostSold$Rules", "startOfLast", "I", false)
  | _ => ("MostSold$Rules", "at", "I", false)
def tyX4 : Nat → FieldType := fun k => match k with
  | 0 => .array .int
  | 1 => .int
  | 2 => .int
  | 3 => .array .int
  | 4 => .array .int
  | 5 => .array .int
  | 6 => .array .int
  | 7 => .array .int
  | 8 => .int
  | 9 => .int
  | _ => .int
abbrev wsX40 : List Cond := u_ws RX4 TX4 11
theorem nmX4 : ∀ a, a < 11 → ∀ b, b < 11 → a ≠ b → (TX4 a).2.1 ≠ (TX4 b).2.1 := by decide +kernel
theorem tyX4_ok : ∀ k, k < 11 → parseFieldDescriptor (TX4 k).2.2.1 = some (tyX4 k) := by decide +kernel
abbrev cX4_init : ByteArray := prog_6_method_1_code
def yX4_init : MethodName := ⟨RX4, "<init>", "()V"⟩
abbrev cX4_append : ByteArray := prog_6_method_2_code
def yX4_append : MethodName := ⟨RX4, "append", "(I)I"⟩
abbrev cX4_clear : ByteArray := prog_6_method_3_code
def yX4_clear : MethodName := ⟨RX4, "clear", "()I"⟩
abbrev cX4_bindTo : ByteArray := prog_6_method_4_code
def yX4_bindTo : MethodName := ⟨RX4, "bindTo", "(I)V"⟩
abbrev cX4_parseLast : ByteArray := prog_6_method_5_code
def yX4_parseLast : MethodName := ⟨RX4, "parseLast", "()V"⟩
abbrev cX4_parsePart : ByteArray := prog_6_method_6_code
def yX4_parsePart : MethodName := ⟨RX4, "parsePart", "()I"⟩
abbrev cX4_parseNumber : ByteArray := prog_6_method_7_code
def yX4_parseNumber : MethodName := ⟨RX4, "parseNumber", "(I)I"⟩
abbrev cX4_byteAt : ByteArray := prog_6_method_8_code
def yX4_byteAt : MethodName := ⟨RX4, "byteAt", "(I)I"⟩
abbrev cX4_itemOfLetter : ByteArray := prog_6_method_9_code
def yX4_itemOfLetter : MethodName := ⟨RX4, "itemOfLetter", "(I)I"⟩
def RX5 : String := "MostSold$Sheets"
def TX5 : u_T := fun k => match k with
  | 0 => ("MostSold$Sheets", "rows", "[[J", true)
  | 1 => ("MostSold$Sheets", "lengths", "[I", true)
  | 2 => ("MostSold$Sheets", "moulds", "[I", true)
  | _ => ("MostSold$Sheets", "latest", "I", false)
def tyX5 : Nat → FieldType := fun k => match k with
  | 0 => .array (.array .long)
  | 1 => .array .int
  | 2 => .array .int
  | _ => .int
abbrev wsX50 : List Cond := u_ws RX5 TX5 4
theorem nmX5 : ∀ a, a < 4 → ∀ b, b < 4 → a ≠ b → (TX5 a).2.1 ≠ (TX5 b).2.1 := by decide +kernel
theorem tyX5_ok : ∀ k, k < 4 → parseFieldDescriptor (TX5 k).2.2.1 = some (tyX5 k) := by decide +kernel
abbrev cX5_init : ByteArray := prog_7_method_1_code
def yX5_init : MethodName := ⟨RX5, "<init>", "()V"⟩
abbrev cX5_isNumber : ByteArray := prog_7_method_2_code
def yX5_isNumber : MethodName := ⟨RX5, "isNumber", "(I)Z"⟩
abbrev cX5_isMould : ByteArray := prog_7_method_3_code
def yX5_isMould : MethodName := ⟨RX5, "isMould", "(I)Z"⟩
abbrev cX5_isLost : ByteArray := prog_7_method_4_code
def yX5_isLost : MethodName := ⟨RX5, "isLost", "(I)Z"⟩
abbrev cX5_found : ByteArray := prog_7_method_5_code
def yX5_found : MethodName := ⟨RX5, "found", "(I)I"⟩
abbrev cX5_renew : ByteArray := prog_7_method_6_code
def yX5_renew : MethodName := ⟨RX5, "renew", "(III)V"⟩
abbrev cX5_check : ByteArray := prog_7_method_7_code
def yX5_check : MethodName := ⟨RX5, "check", "(III)I"⟩
abbrev cX5_hasRange : ByteArray := prog_7_method_8_code
def yX5_hasRange : MethodName := ⟨RX5, "hasRange", "(III)Z"⟩
abbrev cX5_store : ByteArray := prog_7_method_9_code
def yX5_store : MethodName := ⟨RX5, "store", "(IIJ)V"⟩
abbrev cX5_lowestBits : ByteArray := prog_7_method_10_code
def yX5_lowestBits : MethodName := ⟨RX5, "lowestBits", "(IJ)J"⟩
def RX6 : String := "MostSold$Tally"
def TX6 : u_T := fun k => match k with
  | 0 => ("MostSold$Tally", "trade", "LMostSold$Trade;", true)
  | 1 => ("MostSold$Tally", "ledger", "LMostSold$Ledger;", true)
  | 2 => ("MostSold$Tally", "rules", "LMostSold$Rules;", true)
  | 3 => ("MostSold$Tally", "taken", "[I", true)
  | 4 => ("MostSold$Tally", "heard", "[I", true)
  | 5 => ("MostSold$Tally", "state", "[I", true)
  | 6 => ("MostSold$Tally", "told", "[J", true)
  | 7 => ("MostSold$Tally", "sizeTelling", "[I", true)
  | 8 => ("MostSold$Tally", "sizeSilent", "[I", true)
  | 9 => ("MostSold$Tally", "sums", "[J", true)
  | 10 => ("MostSold$Tally", "order", "[I", true)
  | 11 => ("MostSold$Tally", "listed", "I", false)
  | _ => ("MostSold$Tally", "places", "[I", true)
def tyX6 : Nat → FieldType := fun k => match k with
  | 0 => .object "MostSold$Trade"
  | 1 => .object "MostSold$Ledger"
  | 2 => .object "MostSold$Rules"
  | 3 => .array .int
  | 4 => .array .int
  | 5 => .array .int
  | 6 => .array .long
  | 7 => .array .int
  | 8 => .array .int
  | 9 => .array .long
  | 10 => .array .int
  | 11 => .int
  | _ => .array .int
abbrev wsX60 : List Cond := u_ws RX6 TX6 13
theorem nmX6 : ∀ a, a < 13 → ∀ b, b < 13 → a ≠ b → (TX6 a).2.1 ≠ (TX6 b).2.1 := by decide +kernel
theorem tyX6_ok : ∀ k, k < 13 → parseFieldDescriptor (TX6 k).2.2.1 = some (tyX6 k) := by decide +kernel
abbrev cX6_init : ByteArray := prog_8_method_1_code
def yX6_init : MethodName := ⟨RX6, "<init>", "(LMostSold$Trade;LMostSold$Ledger;LMostSold$Rules;)V"⟩
abbrev cX6_makeList : ByteArray := prog_8_method_2_code
def yX6_makeList : MethodName := ⟨RX6, "makeList", "(II)V"⟩
abbrev cX6_gather : ByteArray := prog_8_method_3_code
def yX6_gather : MethodName := ⟨RX6, "gather", "(II)V"⟩
abbrev cX6_takeIn : ByteArray := prog_8_method_4_code
def yX6_takeIn : MethodName := ⟨RX6, "takeIn", "(II)V"⟩
abbrev cX6_amountAt : ByteArray := prog_8_method_5_code
def yX6_amountAt : MethodName := ⟨RX6, "amountAt", "(II)I"⟩
abbrev cX6_hundredthsAt : ByteArray := prog_8_method_6_code
def yX6_hundredthsAt : MethodName := ⟨RX6, "hundredthsAt", "(II)J"⟩
abbrev cX6_weigh : ByteArray := prog_8_method_7_code
def yX6_weigh : MethodName := ⟨RX6, "weigh", "(I)V"⟩
abbrev cX6_weighShop : ByteArray := prog_8_method_8_code
def yX6_weighShop : MethodName := ⟨RX6, "weighShop", "(II)V"⟩
abbrev cX6_toldOf : ByteArray := prog_8_method_9_code
def yX6_toldOf : MethodName := ⟨RX6, "toldOf", "(I)J"⟩
abbrev cX6_shareOfTold : ByteArray := prog_8_method_10_code
def yX6_shareOfTold : MethodName := ⟨RX6, "shareOfTold", "(III)J"⟩
abbrev cX6_worthOf : ByteArray := prog_8_method_11_code
def yX6_worthOf : MethodName := ⟨RX6, "worthOf", "(I)J"⟩
abbrev cX6_rank : ByteArray := prog_8_method_12_code
def yX6_rank : MethodName := ⟨RX6, "rank", "(I)V"⟩
abbrev cX6_insert : ByteArray := prog_8_method_13_code
def yX6_insert : MethodName := ⟨RX6, "insert", "(I)V"⟩
abbrev cX6_isAhead : ByteArray := prog_8_method_14_code
def yX6_isAhead : MethodName := ⟨RX6, "isAhead", "(II)Z"⟩
abbrev cX6_sharesPlace : ByteArray := prog_8_method_15_code
def yX6_sharesPlace : MethodName := ⟨RX6, "sharesPlace", "(I)Z"⟩
def RX7 : String := "MostSold$Trade"
def TX7 : u_T := fun k => match k with
  | 0 => ("MostSold$Trade", "titles", "I", false)
  | 1 => ("MostSold$Trade", "cameOut", "[I", true)
  | 2 => ("MostSold$Trade", "things", "I", false)
  | 3 => ("MostSold$Trade", "titleOf", "[I", true)
  | 4 => ("MostSold$Trade", "formOf", "[I", true)
  | 5 => ("MostSold$Trade", "madeOf", "[I", true)
  | 6 => ("MostSold$Trade", "shops", "I", false)
  | 7 => ("MostSold$Trade", "kindOf", "[I", true)
  | 8 => ("MostSold$Trade", "sizeOf", "[I", true)
  | 9 => ("MostSold$Trade", "opens", "[I", true)
  | 10 => ("MostSold$Trade", "closes", "[I", true)
  | 11 => ("MostSold$Trade", "price", "[I", true)
  | 12 => ("MostSold$Trade", "empties", "I", false)
  | _ => ("MostSold$Trade", "emptyToldIn", "[I", true)
def tyX7 : Nat → FieldType := fun k => match k with
  | 0 => .int
  | 1 => .array .int
  | 2 => .int
  | 3 => .array .int
  | 4 => .array .int
  | 5 => .array .int
  | 6 => .int
  | 7 => .array .int
  | 8 => .array .int
  | 9 => .array .int
  | 10 => .array .int
  | 11 => .array .int
  | 12 => .int
  | _ => .array .int
abbrev wsX70 : List Cond := u_ws RX7 TX7 14
theorem nmX7 : ∀ a, a < 14 → ∀ b, b < 14 → a ≠ b → (TX7 a).2.1 ≠ (TX7 b).2.1 := by decide +kernel
theorem tyX7_ok : ∀ k, k < 14 → parseFieldDescriptor (TX7 k).2.2.1 = some (tyX7 k) := by decide +kernel
abbrev cX7_init : ByteArray := prog_9_method_1_code
def yX7_init : MethodName := ⟨RX7, "<init>", "()V"⟩
abbrev cX7_isTitle : ByteArray := prog_9_method_2_code
def yX7_isTitle : MethodName := ⟨RX7, "isTitle", "(J)Z"⟩
abbrev cX7_isThing : ByteArray := prog_9_method_3_code
def yX7_isThing : MethodName := ⟨RX7, "isThing", "(J)Z"⟩
abbrev cX7_isShop : ByteArray := prog_9_method_4_code
def yX7_isShop : MethodName := ⟨RX7, "isShop", "(J)Z"⟩
abbrev cX7_addTitle : ByteArray := prog_9_method_5_code
def yX7_addTitle : MethodName := ⟨RX7, "addTitle", "(I)I"⟩
abbrev cX7_addThing : ByteArray := prog_9_method_6_code
def yX7_addThing : MethodName := ⟨RX7, "addThing", "(III)I"⟩
abbrev cX7_addShop : ByteArray := prog_9_method_7_code
def yX7_addShop : MethodName := ⟨RX7, "addShop", "(IIII)I"⟩
abbrev cX7_isOpen : ByteArray := prog_9_method_8_code
def yX7_isOpen : MethodName := ⟨RX7, "isOpen", "(II)Z"⟩
abbrev cX7_sayEmpty : ByteArray := prog_9_method_9_code
def yX7_sayEmpty : MethodName := ⟨RX7, "sayEmpty", "(III)I"⟩
abbrev cX7_saidEmpty : ByteArray := prog_9_method_10_code
def yX7_saidEmpty : MethodName := ⟨RX7, "saidEmpty", "(III)Z"⟩
def RX8 : String := "MostSold"
def TX8 : u_T := fun k => match k with
  | 0 => ("MostSold", "trade", "LMostSold$Trade;", true)
  | 1 => ("MostSold", "ledger", "LMostSold$Ledger;", true)
  | 2 => ("MostSold", "rules", "LMostSold$Rules;", true)
  | 3 => ("MostSold", "tally", "LMostSold$Tally;", true)
  | 4 => ("MostSold", "habits", "LMostSold$Habits;", true)
  | 5 => ("MostSold", "doubts", "LMostSold$Doubts;", true)
  | 6 => ("MostSold", "errand", "LMostSold$Errand;", true)
  | 7 => ("MostSold", "sheets", "LMostSold$Sheets;", true)
  | _ => ("MostSold", "placesBefore", "[I", true)
def tyX8 : Nat → FieldType := fun k => match k with
  | 0 => .object "MostSold$Trade"
  | 1 => .object "MostSold$Ledger"
  | 2 => .object "MostSold$Rules"
  | 3 => .object "MostSold$Tally"
  | 4 => .object "MostSold$Habits"
  | 5 => .object "MostSold$Doubts"
  | 6 => .object "MostSold$Errand"
  | 7 => .object "MostSold$Sheets"
  | _ => .array .int
abbrev wsX80 : List Cond := u_ws RX8 TX8 9
theorem nmX8 : ∀ a, a < 9 → ∀ b, b < 9 → a ≠ b → (TX8 a).2.1 ≠ (TX8 b).2.1 := by decide +kernel
theorem tyX8_ok : ∀ k, k < 9 → parseFieldDescriptor (TX8 k).2.2.1 = some (tyX8 k) := by decide +kernel
abbrev cX8_init : ByteArray := prog_1_method_1_code
def yX8_init : MethodName := ⟨RX8, "<init>", "()V"⟩
abbrev cX8_title : ByteArray := prog_1_method_2_code
def yX8_title : MethodName := ⟨RX8, "title", "(I)I"⟩
abbrev cX8_thing : ByteArray := prog_1_method_3_code
def yX8_thing : MethodName := ⟨RX8, "thing", "(III)I"⟩
abbrev cX8_shop : ByteArray := prog_1_method_4_code
def yX8_shop : MethodName := ⟨RX8, "shop", "(IIII)I"⟩
abbrev cX8_tells : ByteArray := prog_1_method_5_code
def yX8_tells : MethodName := ⟨RX8, "tells", "(II)I"⟩
abbrev cX8_empty : ByteArray := prog_1_method_6_code
def yX8_empty : MethodName := ⟨RX8, "empty", "(III)I"⟩
abbrev cX8_coins : ByteArray := prog_1_method_7_code
def yX8_coins : MethodName := ⟨RX8, "coins", "(II)I"⟩
abbrev cX8_sale : ByteArray := prog_1_method_8_code
def yX8_sale : MethodName := ⟨RX8, "sale", "(IIIIIII)I"⟩
abbrev cX8_read : ByteArray := prog_1_method_9_code
def yX8_read : MethodName := ⟨RX8, "read", "(I)I"⟩
abbrev cX8_about : ByteArray := prog_1_method_10_code
def yX8_about : MethodName := ⟨RX8, "about", "(II)I"⟩
abbrev cX8_strike : ByteArray := prog_1_method_11_code
def yX8_strike : MethodName := ⟨RX8, "strike", "(II)I"⟩
abbrev cX8_back : ByteArray := prog_1_method_12_code
def yX8_back : MethodName := ⟨RX8, "back", "(I)I"⟩
abbrev cX8_asOf : ByteArray := prog_1_method_13_code
def yX8_asOf : MethodName := ⟨RX8, "asOf", "(I)I"⟩
abbrev cX8_type : ByteArray := prog_1_method_14_code
def yX8_type : MethodName := ⟨RX8, "type", "(I)I"⟩
abbrev cX8_wipe : ByteArray := prog_1_method_15_code
def yX8_wipe : MethodName := ⟨RX8, "wipe", "()I"⟩
abbrev cX8_fault : ByteArray := prog_1_method_16_code
def yX8_fault : MethodName := ⟨RX8, "fault", "()I"⟩
abbrev cX8_rule : ByteArray := prog_1_method_17_code
def yX8_rule : MethodName := ⟨RX8, "rule", "(II)I"⟩
abbrev cX8_why : ByteArray := prog_1_method_18_code
def yX8_why : MethodName := ⟨RX8, "why", "(II)I"⟩
abbrev cX8_amount : ByteArray := prog_1_method_19_code
def yX8_amount : MethodName := ⟨RX8, "amount", "(IIII)J"⟩
abbrev cX8_sum : ByteArray := prog_1_method_20_code
def yX8_sum : MethodName := ⟨RX8, "sum", "(IIII)J"⟩
abbrev cX8_sure : ByteArray := prog_1_method_21_code
def yX8_sure : MethodName := ⟨RX8, "sure", "(II)I"⟩
abbrev cX8_place : ByteArray := prog_1_method_22_code
def yX8_place : MethodName := ⟨RX8, "place", "(III)I"⟩
abbrev cX8_line : ByteArray := prog_1_method_23_code
def yX8_line : MethodName := ⟨RX8, "line", "(III)I"⟩
abbrev cX8_span : ByteArray := prog_1_method_24_code
def yX8_span : MethodName := ⟨RX8, "span", "(III)J"⟩
abbrev cX8_firm : ByteArray := prog_1_method_25_code
def yX8_firm : MethodName := ⟨RX8, "firm", "(I)I"⟩
abbrev cX8_alike : ByteArray := prog_1_method_26_code
def yX8_alike : MethodName := ⟨RX8, "alike", "(IIII)I"⟩
abbrev cX8_odd : ByteArray := prog_1_method_27_code
def yX8_odd : MethodName := ⟨RX8, "odd", "(I)I"⟩
abbrev cX8_cannot : ByteArray := prog_1_method_28_code
def yX8_cannot : MethodName := ⟨RX8, "cannot", "(I)I"⟩
abbrev cX8_doubted : ByteArray := prog_1_method_29_code
def yX8_doubted : MethodName := ⟨RX8, "doubted", "(I)I"⟩
abbrev cX8_moves : ByteArray := prog_1_method_30_code
def yX8_moves : MethodName := ⟨RX8, "moves", "(I)J"⟩
abbrev cX8_worth : ByteArray := prog_1_method_31_code
def yX8_worth : MethodName := ⟨RX8, "worth", "(II)J"⟩
abbrev cX8_ask : ByteArray := prog_1_method_32_code
def yX8_ask : MethodName := ⟨RX8, "ask", "(II)I"⟩
abbrev cX8_sheet : ByteArray := prog_1_method_33_code
def yX8_sheet : MethodName := ⟨RX8, "sheet", "(III)I"⟩
abbrev cX8_lose : ByteArray := prog_1_method_34_code
def yX8_lose : MethodName := ⟨RX8, "lose", "(I)I"⟩
abbrev cX8_put : ByteArray := prog_1_method_35_code
def yX8_put : MethodName := ⟨RX8, "put", "(IIIJ)I"⟩
abbrev cX8_get : ByteArray := prog_1_method_36_code
def yX8_get : MethodName := ⟨RX8, "get", "(III)J"⟩
abbrev cX8_copy : ByteArray := prog_1_method_37_code
def yX8_copy : MethodName := ⟨RX8, "copy", "(IIIII)I"⟩
abbrev cX8_write : ByteArray := prog_1_method_38_code
def yX8_write : MethodName := ⟨RX8, "write", "(II)I"⟩
abbrev cX8_count : ByteArray := prog_1_method_39_code
def yX8_count : MethodName := ⟨RX8, "count", "(I)I"⟩
abbrev cX8_digest : ByteArray := prog_1_method_40_code
def yX8_digest : MethodName := ⟨RX8, "digest", "()J"⟩
abbrev cX8_within : ByteArray := prog_1_method_41_code
def yX8_within : MethodName := ⟨RX8, "within", "(JJJ)Z"⟩
abbrev cX8_isWeek : ByteArray := prog_1_method_42_code
def yX8_isWeek : MethodName := ⟨RX8, "isWeek", "(J)Z"⟩
abbrev cX8_refused : ByteArray := prog_1_method_43_code
def yX8_refused : MethodName := ⟨RX8, "refused", "(I)J"⟩
abbrev cX8_enter : ByteArray := prog_1_method_44_code
def yX8_enter : MethodName := ⟨RX8, "enter", "(JJJJJJJ)I"⟩
abbrev cX8_bearsOn : ByteArray := prog_1_method_45_code
def yX8_bearsOn : MethodName := ⟨RX8, "bearsOn", "(II)Z"⟩
abbrev cX8_changesList : ByteArray := prog_1_method_46_code
def yX8_changesList : MethodName := ⟨RX8, "changesList", "(II)Z"⟩
def RX9 : String := "MostSoldModel"
def TX9 : u_T := fun k => match k with
  | 0 => ("MostSoldModel", "moulds", "[I", true)
  | 1 => ("MostSoldModel", "sizes", "[I", true)
  | 2 => ("MostSoldModel", "items", "[J", true)
  | 3 => ("MostSoldModel", "moved", "[J", true)
  | 4 => ("MostSoldModel", "latest", "I", false)
  | 5 => ("MostSoldModel", "titles", "I", false)
  | 6 => ("MostSoldModel", "outs", "[I", true)
  | 7 => ("MostSoldModel", "things", "I", false)
  | 8 => ("MostSoldModel", "titleOf", "[I", true)
  | 9 => ("MostSoldModel", "formOf", "[I", true)
  | 10 => ("MostSoldModel", "madeOf", "[I", true)
  | 11 => ("MostSoldModel", "shops", "I", false)
  | 12 => ("MostSoldModel", "kindOf", "[I", true)
  | 13 => ("MostSoldModel", "sizeOf", "[I", true)
  | 14 => ("MostSoldModel", "froms", "[I", true)
  | 15 => ("MostSoldModel", "tos", "[I", true)
  | 16 => ("MostSoldModel", "coinsOf", "[I", true)
  | 17 => ("MostSoldModel", "emptyTold", "[I", true)
  | 18 => ("MostSoldModel", "asOf", "I", false)
  | 19 => ("MostSoldModel", "sales", "I", false)
  | 20 => ("MostSoldModel", "shopOf", "[I", true)
  | 21 => ("MostSoldModel", "thingOf", "[I", true)
  | 22 => ("MostSoldModel", "weekOf", "[I", true)
  | 23 => ("MostSoldModel", "hourOf", "[I", true)
  | 24 => ("MostSoldModel", "manyOf", "[I", true)
  | 25 => ("MostSoldModel", "sortOf", "[I", true)
  | 26 => ("MostSoldModel", "toldIn", "[I", true)
  | 27 => ("MostSoldModel", "struckIn", "[I", true)
  | 28 => ("MostSoldModel", "without", "I", false)
  | 29 => ("MostSoldModel", "leftOut", "I", false)
  | 30 => ("MostSoldModel", "text", "[I", true)
  | 31 => ("MostSoldModel", "typed", "I", false)
  | 32 => ("MostSoldModel", "at", "I", false)
  | 33 => ("MostSoldModel", "parts", "I", false)
  | 34 => ("MostSoldModel", "partOf", "[I", true)
  | 35 => ("MostSoldModel", "partSays", "[I", true)
  | 36 => ("MostSoldModel", "partFrom", "[I", true)
  | 37 => ("MostSoldModel", "counted", "[J", true)
  | 38 => ("MostSoldModel", "heards", "[J", true)
  | 39 => ("MostSoldModel", "telling", "[I", true)
  | 40 => ("MostSoldModel", "silent", "[I", true)
  | 41 => ("MostSoldModel", "statuses", "[I", true)
  | 42 => ("MostSoldModel", "tolds", "[J", true)
  | 43 => ("MostSoldModel", "foretolds", "[J", true)
  | 44 => ("MostSoldModel", "toldAt", "[J", true)
  | 45 => ("MostSoldModel", "listed", "I", false)
  | 46 => ("MostSoldModel", "list", "[I", true)
  | 47 => ("MostSoldModel", "places", "[I", true)
  | 48 => ("MostSoldModel", "others", "I", false)
  | 49 => ("MostSoldModel", "other", "[I", true)
  | 50 => ("MostSoldModel", "never", "I", false)
  | 51 => ("MostSoldModel", "doubts", "I", false)
  | _ => ("MostSoldModel", "before", "[I", true)
def tyX9 : Nat → FieldType := fun k => match k with
  | 0 => .array .int
  | 1 => .array .int
  | 2 => .array .long
  | 3 => .array .long
  | 4 => .int
  | 5 => .int
  | 6 => .array .int
  | 7 => .int
  | 8 => .array .int
  | 9 => .array .int
  | 10 => .array .int
  | 11 => .int
  | 12 => .array .int
  | 13 => .array .int
  | 14 => .array .int
  | 15 => .array .int
  | 16 => .array .int
  | 17 => .array .int
  | 18 => .int
  | 19 => .int
  | 20 => .array .int
  | 21 => .array .int
  | 22 => .array .int
  | 23 => .array .int
  | 24 => .array .int
  | 25 => .array .int
  | 26 => .array .int
  | 27 => .array .int
  | 28 => .int
  | 29 => .int
  | 30 => .array .int
  | 31 => .int
  | 32 => .int
  | 33 => .int
  | 34 => .array .int
  | 35 => .array .int
  | 36 => .array .int
  | 37 => .array .long
  | 38 => .array .long
  | 39 => .array .int
  | 40 => .array .int
  | 41 => .array .int
  | 42 => .array .long
  | 43 => .array .long
  | 44 => .array .long
  | 45 => .int
  | 46 => .array .int
  | 47 => .array .int
  | 48 => .int
  | 49 => .array .int
  | 50 => .int
  | 51 => .int
  | _ => .array .int
abbrev wsX90 : List Cond := u_ws RX9 TX9 53
theorem nmX9 : ∀ a, a < 53 → ∀ b, b < 53 → a ≠ b → (TX9 a).2.1 ≠ (TX9 b).2.1 := by decide +kernel
theorem tyX9_ok : ∀ k, k < 53 → parseFieldDescriptor (TX9 k).2.2.1 = some (tyX9 k) := by decide +kernel
abbrev cX9_init : ByteArray := prog_11_method_1_code
def yX9_init : MethodName := ⟨RX9, "<init>", "()V"⟩
abbrev cX9_in : ByteArray := prog_11_method_3_code
def yX9_in : MethodName := ⟨RX9, "in", "(JJJ)Z"⟩
abbrev cX9_no : ByteArray := prog_11_method_4_code
def yX9_no : MethodName := ⟨RX9, "no", "(I)J"⟩
abbrev cX9_met : ByteArray := prog_11_method_5_code
def yX9_met : MethodName := ⟨RX9, "met", "(I)I"⟩
abbrev cX9_isSheet : ByteArray := prog_11_method_6_code
def yX9_isSheet : MethodName := ⟨RX9, "isSheet", "(I)Z"⟩
abbrev cX9_sheet : ByteArray := prog_11_method_7_code
def yX9_sheet : MethodName := ⟨RX9, "sheet", "(III)I"⟩
abbrev cX9_lose : ByteArray := prog_11_method_8_code
def yX9_lose : MethodName := ⟨RX9, "lose", "(I)I"⟩
abbrev cX9_lacks : ByteArray := prog_11_method_9_code
def yX9_lacks : MethodName := ⟨RX9, "lacks", "(III)I"⟩
abbrev cX9_cut : ByteArray := prog_11_method_10_code
def yX9_cut : MethodName := ⟨RX9, "cut", "(IJ)J"⟩
abbrev cX9_put : ByteArray := prog_11_method_11_code
def yX9_put : MethodName := ⟨RX9, "put", "(IIIJ)I"⟩
abbrev cX9_get : ByteArray := prog_11_method_12_code
def yX9_get : MethodName := ⟨RX9, "get", "(III)J"⟩
abbrev cX9_copy : ByteArray := prog_11_method_13_code
def yX9_copy : MethodName := ⟨RX9, "copy", "(IIIII)I"⟩
abbrev cX9_isWeek : ByteArray := prog_11_method_14_code
def yX9_isWeek : MethodName := ⟨RX9, "isWeek", "(J)Z"⟩
abbrev cX9_isTitle : ByteArray := prog_11_method_15_code
def yX9_isTitle : MethodName := ⟨RX9, "isTitle", "(I)Z"⟩
abbrev cX9_isThing : ByteArray := prog_11_method_16_code
def yX9_isThing : MethodName := ⟨RX9, "isThing", "(J)Z"⟩
abbrev cX9_isShop : ByteArray := prog_11_method_17_code
def yX9_isShop : MethodName := ⟨RX9, "isShop", "(J)Z"⟩
abbrev cX9_title : ByteArray := prog_11_method_18_code
def yX9_title : MethodName := ⟨RX9, "title", "(I)I"⟩
abbrev cX9_thing : ByteArray := prog_11_method_19_code
def yX9_thing : MethodName := ⟨RX9, "thing", "(III)I"⟩
abbrev cX9_shop : ByteArray := prog_11_method_20_code
def yX9_shop : MethodName := ⟨RX9, "shop", "(IIII)I"⟩
abbrev cX9_empty : ByteArray := prog_11_method_21_code
def yX9_empty : MethodName := ⟨RX9, "empty", "(III)I"⟩
abbrev cX9_coins : ByteArray := prog_11_method_22_code
def yX9_coins : MethodName := ⟨RX9, "coins", "(II)I"⟩
abbrev cX9_isSale : ByteArray := prog_11_method_23_code
def yX9_isSale : MethodName := ⟨RX9, "isSale", "(JJJJJJJ)Z"⟩
abbrev cX9_adds : ByteArray := prog_11_method_24_code
def yX9_adds : MethodName := ⟨RX9, "adds", "(IIIIIII)I"⟩
abbrev cX9_sale : ByteArray := prog_11_method_25_code
def yX9_sale : MethodName := ⟨RX9, "sale", "(IIIIIII)I"⟩
abbrev cX9_item : ByteArray := prog_11_method_26_code
def yX9_item : MethodName := ⟨RX9, "item", "(III)J"⟩
abbrev cX9_read : ByteArray := prog_11_method_27_code
def yX9_read : MethodName := ⟨RX9, "read", "(I)I"⟩
abbrev cX9_isKnown : ByteArray := prog_11_method_28_code
def yX9_isKnown : MethodName := ⟨RX9, "isKnown", "(I)Z"⟩
abbrev cX9_hasSale : ByteArray := prog_11_method_29_code
def yX9_hasSale : MethodName := ⟨RX9, "hasSale", "(I)Z"⟩
abbrev cX9_about : ByteArray := prog_11_method_30_code
def yX9_about : MethodName := ⟨RX9, "about", "(II)I"⟩
abbrev cX9_strike : ByteArray := prog_11_method_31_code
def yX9_strike : MethodName := ⟨RX9, "strike", "(II)I"⟩
abbrev cX9_back : ByteArray := prog_11_method_32_code
def yX9_back : MethodName := ⟨RX9, "back", "(I)I"⟩
abbrev cX9_asOf : ByteArray := prog_11_method_33_code
def yX9_asOf : MethodName := ⟨RX9, "asOf", "(I)I"⟩
abbrev cX9_isOpen : ByteArray := prog_11_method_34_code
def yX9_isOpen : MethodName := ⟨RX9, "isOpen", "(II)Z"⟩
abbrev cX9_speaks : ByteArray := prog_11_method_35_code
def yX9_speaks : MethodName := ⟨RX9, "speaks", "(II)Z"⟩
abbrev cX9_statusOf : ByteArray := prog_11_method_36_code
def yX9_statusOf : MethodName := ⟨RX9, "statusOf", "(II)I"⟩
abbrev cX9_tells : ByteArray := prog_11_method_37_code
def yX9_tells : MethodName := ⟨RX9, "tells", "(II)I"⟩
abbrev cX9_type : ByteArray := prog_11_method_38_code
def yX9_type : MethodName := ⟨RX9, "type", "(I)I"⟩
abbrev cX9_wipe : ByteArray := prog_11_method_39_code
def yX9_wipe : MethodName := ⟨RX9, "wipe", "()I"⟩
abbrev cX9_must : ByteArray := prog_11_method_40_code
def yX9_must : MethodName := ⟨RX9, "must", "(I)Z"⟩
abbrev cX9_number : ByteArray := prog_11_method_41_code
def yX9_number : MethodName := ⟨RX9, "number", "(III)I"⟩
abbrev cX9_itemOf : ByteArray := prog_11_method_42_code
def yX9_itemOf : MethodName := ⟨RX9, "itemOf", "(I)I"⟩
abbrev cX9_mostOf : ByteArray := prog_11_method_43_code
def yX9_mostOf : MethodName := ⟨RX9, "mostOf", "(I)I"⟩
abbrev cX9_readsPart : ByteArray := prog_11_method_44_code
def yX9_readsPart : MethodName := ⟨RX9, "readsPart", "()Z"⟩
abbrev cX9_reads : ByteArray := prog_11_method_45_code
def yX9_reads : MethodName := ⟨RX9, "reads", "()I"⟩
abbrev cX9_fault : ByteArray := prog_11_method_46_code
def yX9_fault : MethodName := ⟨RX9, "fault", "()I"⟩
abbrev cX9_partIn : ByteArray := prog_11_method_47_code
def yX9_partIn : MethodName := ⟨RX9, "partIn", "(II)I"⟩
abbrev cX9_says : ByteArray := prog_11_method_48_code
def yX9_says : MethodName := ⟨RX9, "says", "(II)I"⟩
abbrev cX9_isItem : ByteArray := prog_11_method_49_code
def yX9_isItem : MethodName := ⟨RX9, "isItem", "(I)Z"⟩
abbrev cX9_rule : ByteArray := prog_11_method_50_code
def yX9_rule : MethodName := ⟨RX9, "rule", "(II)I"⟩
abbrev cX9_why : ByteArray := prog_11_method_51_code
def yX9_why : MethodName := ⟨RX9, "why", "(II)I"⟩
abbrev cX9_counts : ByteArray := prog_11_method_52_code
def yX9_counts : MethodName := ⟨RX9, "counts", "(II)Z"⟩
abbrev cX9_findAmounts : ByteArray := prog_11_method_53_code
def yX9_findAmounts : MethodName := ⟨RX9, "findAmounts", "(II)V"⟩
abbrev cX9_findSums : ByteArray := prog_11_method_54_code
def yX9_findSums : MethodName := ⟨RX9, "findSums", "(II)V"⟩
abbrev cX9_sumOf : ByteArray := prog_11_method_55_code
def yX9_sumOf : MethodName := ⟨RX9, "sumOf", "(I)J"⟩
abbrev cX9_amount : ByteArray := prog_11_method_56_code
def yX9_amount : MethodName := ⟨RX9, "amount", "(IIII)J"⟩
abbrev cX9_sum : ByteArray := prog_11_method_57_code
def yX9_sum : MethodName := ⟨RX9, "sum", "(IIII)J"⟩
abbrev cX9_sure : ByteArray := prog_11_method_58_code
def yX9_sure : MethodName := ⟨RX9, "sure", "(II)I"⟩
abbrev cX9_ahead : ByteArray := prog_11_method_59_code
def yX9_ahead : MethodName := ⟨RX9, "ahead", "(III)Z"⟩
abbrev cX9_findList : ByteArray := prog_11_method_60_code
def yX9_findList : MethodName := ⟨RX9, "findList", "(II)V"⟩
abbrev cX9_place : ByteArray := prog_11_method_61_code
def yX9_place : MethodName := ⟨RX9, "place", "(III)I"⟩
abbrev cX9_line : ByteArray := prog_11_method_62_code
def yX9_line : MethodName := ⟨RX9, "line", "(III)I"⟩
abbrev cX9_span : ByteArray := prog_11_method_63_code
def yX9_span : MethodName := ⟨RX9, "span", "(III)J"⟩
abbrev cX9_firm : ByteArray := prog_11_method_64_code
def yX9_firm : MethodName := ⟨RX9, "firm", "(I)I"⟩
abbrev cX9_ones : ByteArray := prog_11_method_65_code
def yX9_ones : MethodName := ⟨RX9, "ones", "(I)I"⟩
abbrev cX9_hoursOf : ByteArray := prog_11_method_66_code
def yX9_hoursOf : MethodName := ⟨RX9, "hoursOf", "(II)I"⟩
abbrev cX9_ways : ByteArray := prog_11_method_67_code
def yX9_ways : MethodName := ⟨RX9, "ways", "(II)J"⟩
abbrev cX9_chanceOf : ByteArray := prog_11_method_68_code
def yX9_chanceOf : MethodName := ⟨RX9, "chanceOf", "(III)I"⟩
abbrev cX9_alike : ByteArray := prog_11_method_69_code
def yX9_alike : MethodName := ⟨RX9, "alike", "(IIII)I"⟩
abbrev cX9_odd : ByteArray := prog_11_method_70_code
def yX9_odd : MethodName := ⟨RX9, "odd", "(I)I"⟩
abbrev cX9_isGiven : ByteArray := prog_11_method_71_code
def yX9_isGiven : MethodName := ⟨RX9, "isGiven", "(II)Z"⟩
abbrev cX9_isNever : ByteArray := prog_11_method_72_code
def yX9_isNever : MethodName := ⟨RX9, "isNever", "(I)Z"⟩
abbrev cX9_findDoubts : ByteArray := prog_11_method_73_code
def yX9_findDoubts : MethodName := ⟨RX9, "findDoubts", "(I)Z"⟩
abbrev cX9_cannot : ByteArray := prog_11_method_74_code
def yX9_cannot : MethodName := ⟨RX9, "cannot", "(I)I"⟩
abbrev cX9_doubted : ByteArray := prog_11_method_75_code
def yX9_doubted : MethodName := ⟨RX9, "doubted", "(I)I"⟩
abbrev cX9_moves : ByteArray := prog_11_method_76_code
def yX9_moves : MethodName := ⟨RX9, "moves", "(I)J"⟩
abbrev cX9_worthOf : ByteArray := prog_11_method_77_code
def yX9_worthOf : MethodName := ⟨RX9, "worthOf", "(I)J"⟩
abbrev cX9_worth : ByteArray := prog_11_method_78_code
def yX9_worth : MethodName := ⟨RX9, "worth", "(II)J"⟩
abbrev cX9_ask : ByteArray := prog_11_method_79_code
def yX9_ask : MethodName := ⟨RX9, "ask", "(II)I"⟩
abbrev cX9_write : ByteArray := prog_11_method_80_code
def yX9_write : MethodName := ⟨RX9, "write", "(II)I"⟩
abbrev cX9_count : ByteArray := prog_11_method_81_code
def yX9_count : MethodName := ⟨RX9, "count", "(I)I"⟩
abbrev cX9_digest : ByteArray := prog_11_method_82_code
def yX9_digest : MethodName := ⟨RX9, "digest", "()J"⟩
def RJ6 : String := "java/lang/Integer"
def TJ6 : u_T := fun k => match k with
  | _ => ("", "", "", false)
def tyJ6 : Nat → FieldType := fun k => match k with
  | _ => .int
abbrev wsJ60 : List Cond := u_ws RJ6 TJ6 0
theorem nmJ6 : ∀ a, a < 0 → ∀ b, b < 0 → a ≠ b → (TJ6 a).2.1 ≠ (TJ6 b).2.1 := by decide +kernel
theorem tyJ6_ok : ∀ k, k < 0 → parseFieldDescriptor (TJ6 k).2.2.1 = some (tyJ6 k) := by decide +kernel
abbrev cJ6_bitCount_0f7a4 : ByteArray := prog_12_method_49_code
def yJ6_bitCount_0f7a4 : MethodName := ⟨RJ6, "bitCount", "(I)I"⟩
def RJ9 : String := "java/lang/Math"
def TJ9 : u_T := fun k => match k with
  | _ => ("", "", "", false)
def tyJ9 : Nat → FieldType := fun k => match k with
  | _ => .int
abbrev wsJ90 : List Cond := u_ws RJ9 TJ9 0
theorem nmJ9 : ∀ a, a < 0 → ∀ b, b < 0 → a ≠ b → (TJ9 a).2.1 ≠ (TJ9 b).2.1 := by decide +kernel
theorem tyJ9_ok : ∀ k, k < 0 → parseFieldDescriptor (TJ9 k).2.2.1 = some (tyJ9 k) := by decide +kernel
abbrev cJ9_max_f86c9 : ByteArray := prog_13_method_66_code
def yJ9_max_f86c9 : MethodName := ⟨RJ9, "max", "(JJ)J"⟩
abbrev cJ9_min_7cf53 : ByteArray := prog_13_method_69_code
def yJ9_min_7cf53 : MethodName := ⟨RJ9, "min", "(II)I"⟩
abbrev cJ9_min_f86c9 : ByteArray := prog_13_method_70_code
def yJ9_min_f86c9 : MethodName := ⟨RJ9, "min", "(JJ)J"⟩
def RJ10 : String := "java/lang/System"
def TJ10 : u_T := fun k => match k with
  | _ => ("", "", "", false)
def tyJ10 : Nat → FieldType := fun k => match k with
  | _ => .int
abbrev wsJ100 : List Cond := u_ws RJ10 TJ10 0
theorem nmJ10 : ∀ a, a < 0 → ∀ b, b < 0 → a ≠ b → (TJ10 a).2.1 ≠ (TJ10 b).2.1 := by decide +kernel
theorem tyJ10_ok : ∀ k, k < 0 → parseFieldDescriptor (TJ10 k).2.2.1 = some (tyJ10 k) := by decide +kernel
def RL : String := "MostSoldLaw"
abbrev cL_law : ByteArray := code
def yL_law : MethodName := ⟨RL, "law", "([I)Z"⟩
abbrev vwCl : List vw_C := [(RX0, TX0, 8), (RX1, TX1, 5), (RX2, TX2, 4), (RX3, TX3, 11), (RX4, TX4, 11), (RX5, TX5, 4), (RX6, TX6, 13), (RX7, TX7, 14), (RX8, TX8, 9), (RX9, TX9, 53)]
set_option maxRecDepth 20000 in
theorem inX0 : ∀ w ∈ wsX00, w ∈ lw_tbl := fun w h => (goodIn_p wsX00 [] (by decide +kernel) (by decide +kernel) w h).1
set_option maxRecDepth 20000 in
theorem inX1 : ∀ w ∈ wsX10, w ∈ lw_tbl := fun w h => (goodIn_p wsX10 [] (by decide +kernel) (by decide +kernel) w h).1
set_option maxRecDepth 20000 in
theorem inX2 : ∀ w ∈ wsX20, w ∈ lw_tbl := fun w h => (goodIn_p wsX20 [] (by decide +kernel) (by decide +kernel) w h).1
set_option maxRecDepth 20000 in
theorem inX3 : ∀ w ∈ wsX30, w ∈ lw_tbl := fun w h => (goodIn_p wsX30 [] (by decide +kernel) (by decide +kernel) w h).1
set_option maxRecDepth 20000 in
theorem inX4 : ∀ w ∈ wsX40, w ∈ lw_tbl := fun w h => (goodIn_p wsX40 [] (by decide +kernel) (by decide +kernel) w h).1
set_option maxRecDepth 20000 in
theorem inX5 : ∀ w ∈ wsX50, w ∈ lw_tbl := fun w h => (goodIn_p wsX50 [] (by decide +kernel) (by decide +kernel) w h).1
set_option maxRecDepth 20000 in
theorem inX6 : ∀ w ∈ wsX60, w ∈ lw_tbl := fun w h => (goodIn_p wsX60 [] (by decide +kernel) (by decide +kernel) w h).1
set_option maxRecDepth 20000 in
theorem inX7 : ∀ w ∈ wsX70, w ∈ lw_tbl := fun w h => (goodIn_p wsX70 [] (by decide +kernel) (by decide +kernel) w h).1
set_option maxRecDepth 20000 in
theorem inX8 : ∀ w ∈ wsX80, w ∈ lw_tbl := fun w h => (goodIn_p wsX80 [] (by decide +kernel) (by decide +kernel) w h).1
set_option maxRecDepth 20000 in
theorem inX9 : ∀ w ∈ wsX90, w ∈ lw_tbl := fun w h => (goodIn_p wsX90 [] (by decide +kernel) (by decide +kernel) w h).1
