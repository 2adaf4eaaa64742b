section
-- ===== PART A: goes FIRST, ahead of the names: the tables' words, and 'selects' of the private methods out of them =====
/-- a private method of a class that the tables say can be made, by its rows of tables_1 -/
def lw_okq (q : MethodName × Nat) : Prop := (q.1.cls ≠ "java/lang/invoke/MethodHandle" ∧ q.1.cls ≠ "java/lang/invoke/VarHandle") ∧ Cond.instantiable q.1.cls q.2 ∈ tables_1 ∧ Cond.privateMethod q.1 ∈ tables_1 ∧ Cond.instanceMethod q.1 ∈ tables_1
theorem lw_p0 : lw_okq (⟨"MostSold$Tally", "takeIn", "(II)V"⟩, 13) := ⟨⟨by decide +kernel, by decide +kernel⟩, List.mem_of_getElem? (i := 204) (by decide +kernel), List.mem_of_getElem? (i := 456) (by decide +kernel), List.mem_of_getElem? (i := 457) (by decide +kernel)⟩
theorem lw_p1 : lw_okq (⟨"MostSold", "enter", "(JJJJJJJ)I"⟩, 9) := ⟨⟨by decide +kernel, by decide +kernel⟩, List.mem_of_getElem? (i := 15) (by decide +kernel), List.mem_of_getElem? (i := 481) (by decide +kernel), List.mem_of_getElem? (i := 482) (by decide +kernel)⟩
theorem lw_p2 : lw_okq (⟨"MostSold$Rules", "parseLast", "()V"⟩, 11) := ⟨⟨by decide +kernel, by decide +kernel⟩, List.mem_of_getElem? (i := 158) (by decide +kernel), List.mem_of_getElem? (i := 542) (by decide +kernel), List.mem_of_getElem? (i := 543) (by decide +kernel)⟩
theorem lw_p3 : lw_okq (⟨"MostSold$Rules", "parsePart", "()I"⟩, 11) := ⟨⟨by decide +kernel, by decide +kernel⟩, List.mem_of_getElem? (i := 158) (by decide +kernel), List.mem_of_getElem? (i := 546) (by decide +kernel), List.mem_of_getElem? (i := 547) (by decide +kernel)⟩
theorem lw_p4 : lw_okq (⟨"MostSold$Rules", "byteAt", "(I)I"⟩, 11) := ⟨⟨by decide +kernel, by decide +kernel⟩, List.mem_of_getElem? (i := 158) (by decide +kernel), List.mem_of_getElem? (i := 550) (by decide +kernel), List.mem_of_getElem? (i := 551) (by decide +kernel)⟩
theorem lw_p5 : lw_okq (⟨"MostSold$Rules", "parseNumber", "(I)I"⟩, 11) := ⟨⟨by decide +kernel, by decide +kernel⟩, List.mem_of_getElem? (i := 158) (by decide +kernel), List.mem_of_getElem? (i := 559) (by decide +kernel), List.mem_of_getElem? (i := 560) (by decide +kernel)⟩
theorem lw_p6 : lw_okq (⟨"MostSold$Tally", "weighShop", "(II)V"⟩, 13) := ⟨⟨by decide +kernel, by decide +kernel⟩, List.mem_of_getElem? (i := 204) (by decide +kernel), List.mem_of_getElem? (i := 608) (by decide +kernel), List.mem_of_getElem? (i := 609) (by decide +kernel)⟩
theorem lw_p7 : lw_okq (⟨"MostSold$Tally", "hundredthsAt", "(II)J"⟩, 13) := ⟨⟨by decide +kernel, by decide +kernel⟩, List.mem_of_getElem? (i := 204) (by decide +kernel), List.mem_of_getElem? (i := 612) (by decide +kernel), List.mem_of_getElem? (i := 613) (by decide +kernel)⟩
theorem lw_p8 : lw_okq (⟨"MostSold$Tally", "shareOfTold", "(III)J"⟩, 13) := ⟨⟨by decide +kernel, by decide +kernel⟩, List.mem_of_getElem? (i := 204) (by decide +kernel), List.mem_of_getElem? (i := 622) (by decide +kernel), List.mem_of_getElem? (i := 623) (by decide +kernel)⟩
theorem lw_p9 : lw_okq (⟨"MostSold$Tally", "insert", "(I)V"⟩, 13) := ⟨⟨by decide +kernel, by decide +kernel⟩, List.mem_of_getElem? (i := 204) (by decide +kernel), List.mem_of_getElem? (i := 653) (by decide +kernel), List.mem_of_getElem? (i := 654) (by decide +kernel)⟩
theorem lw_p10 : lw_okq (⟨"MostSold$Tally", "isAhead", "(II)Z"⟩, 13) := ⟨⟨by decide +kernel, by decide +kernel⟩, List.mem_of_getElem? (i := 204) (by decide +kernel), List.mem_of_getElem? (i := 657) (by decide +kernel), List.mem_of_getElem? (i := 658) (by decide +kernel)⟩
theorem lw_p11 : lw_okq (⟨"MostSold$Tally", "sharesPlace", "(I)Z"⟩, 13) := ⟨⟨by decide +kernel, by decide +kernel⟩, List.mem_of_getElem? (i := 204) (by decide +kernel), List.mem_of_getElem? (i := 661) (by decide +kernel), List.mem_of_getElem? (i := 662) (by decide +kernel)⟩
theorem lw_p12 : lw_okq (⟨"MostSold$Doubts", "isClaim", "(I)Z"⟩, 8) := ⟨⟨by decide +kernel, by decide +kernel⟩, List.mem_of_getElem? (i := 278) (by decide +kernel), List.mem_of_getElem? (i := 717) (by decide +kernel), List.mem_of_getElem? (i := 718) (by decide +kernel)⟩
theorem lw_p13 : lw_okq (⟨"MostSold$Doubts", "isUntimely", "(I)Z"⟩, 8) := ⟨⟨by decide +kernel, by decide +kernel⟩, List.mem_of_getElem? (i := 278) (by decide +kernel), List.mem_of_getElem? (i := 722) (by decide +kernel), List.mem_of_getElem? (i := 723) (by decide +kernel)⟩
theorem lw_p14 : lw_okq (⟨"MostSold$Doubts", "chooseFewest", "()V"⟩, 8) := ⟨⟨by decide +kernel, by decide +kernel⟩, List.mem_of_getElem? (i := 278) (by decide +kernel), List.mem_of_getElem? (i := 727) (by decide +kernel), List.mem_of_getElem? (i := 728) (by decide +kernel)⟩
theorem lw_p15 : lw_okq (⟨"MostSold", "bearsOn", "(II)Z"⟩, 9) := ⟨⟨by decide +kernel, by decide +kernel⟩, List.mem_of_getElem? (i := 15) (by decide +kernel), List.mem_of_getElem? (i := 747) (by decide +kernel), List.mem_of_getElem? (i := 748) (by decide +kernel)⟩
def lw_privs_1 : List (MethodName × Nat) := [(⟨"MostSold$Tally", "takeIn", "(II)V"⟩, 13), (⟨"MostSold", "enter", "(JJJJJJJ)I"⟩, 9), (⟨"MostSold$Rules", "parseLast", "()V"⟩, 11), (⟨"MostSold$Rules", "parsePart", "()I"⟩, 11), (⟨"MostSold$Rules", "byteAt", "(I)I"⟩, 11), (⟨"MostSold$Rules", "parseNumber", "(I)I"⟩, 11), (⟨"MostSold$Tally", "weighShop", "(II)V"⟩, 13), (⟨"MostSold$Tally", "hundredthsAt", "(II)J"⟩, 13), (⟨"MostSold$Tally", "shareOfTold", "(III)J"⟩, 13), (⟨"MostSold$Tally", "insert", "(I)V"⟩, 13), (⟨"MostSold$Tally", "isAhead", "(II)Z"⟩, 13), (⟨"MostSold$Tally", "sharesPlace", "(I)Z"⟩, 13), (⟨"MostSold$Doubts", "isClaim", "(I)Z"⟩, 8), (⟨"MostSold$Doubts", "isUntimely", "(I)Z"⟩, 8), (⟨"MostSold$Doubts", "chooseFewest", "()V"⟩, 8), (⟨"MostSold", "bearsOn", "(II)Z"⟩, 9)]
theorem lw_r1 : ∀ q ∈ lw_privs_1, lw_okq q := List.forall_mem_cons.mpr ⟨lw_p0, List.forall_mem_cons.mpr ⟨lw_p1, List.forall_mem_cons.mpr ⟨lw_p2, List.forall_mem_cons.mpr ⟨lw_p3, List.forall_mem_cons.mpr ⟨lw_p4, List.forall_mem_cons.mpr ⟨lw_p5, List.forall_mem_cons.mpr ⟨lw_p6, List.forall_mem_cons.mpr ⟨lw_p7, List.forall_mem_cons.mpr ⟨lw_p8, List.forall_mem_cons.mpr ⟨lw_p9, List.forall_mem_cons.mpr ⟨lw_p10, List.forall_mem_cons.mpr ⟨lw_p11, List.forall_mem_cons.mpr ⟨lw_p12, List.forall_mem_cons.mpr ⟨lw_p13, List.forall_mem_cons.mpr ⟨lw_p14, List.forall_mem_cons.mpr ⟨lw_p15, fun _ h => absurd h List.not_mem_nil⟩⟩⟩⟩⟩⟩⟩⟩⟩⟩⟩⟩⟩⟩⟩⟩
theorem lw_p16 : lw_okq (⟨"MostSold", "changesList", "(II)Z"⟩, 9) := ⟨⟨by decide +kernel, by decide +kernel⟩, List.mem_of_getElem? (i := 15) (by decide +kernel), List.mem_of_getElem? (i := 751) (by decide +kernel), List.mem_of_getElem? (i := 752) (by decide +kernel)⟩
theorem lw_p17 : lw_okq (⟨"MostSold$Errand", "shopBits", "(I)I"⟩, 5) := ⟨⟨by decide +kernel, by decide +kernel⟩, List.mem_of_getElem? (i := 311) (by decide +kernel), List.mem_of_getElem? (i := 781) (by decide +kernel), List.mem_of_getElem? (i := 782) (by decide +kernel)⟩
theorem lw_p18 : lw_okq (⟨"MostSoldModel", "met", "(I)I"⟩, 53) := ⟨⟨by decide +kernel, by decide +kernel⟩, List.mem_of_getElem? (i := 853) (by decide +kernel), List.mem_of_getElem? (i := 1030) (by decide +kernel), List.mem_of_getElem? (i := 1031) (by decide +kernel)⟩
theorem lw_p19 : lw_okq (⟨"MostSoldModel", "lacks", "(III)I"⟩, 53) := ⟨⟨by decide +kernel, by decide +kernel⟩, List.mem_of_getElem? (i := 853) (by decide +kernel), List.mem_of_getElem? (i := 1042) (by decide +kernel), List.mem_of_getElem? (i := 1043) (by decide +kernel)⟩
theorem lw_p20 : lw_okq (⟨"MostSoldModel", "isTitle", "(I)Z"⟩, 53) := ⟨⟨by decide +kernel, by decide +kernel⟩, List.mem_of_getElem? (i := 853) (by decide +kernel), List.mem_of_getElem? (i := 1070) (by decide +kernel), List.mem_of_getElem? (i := 1071) (by decide +kernel)⟩
theorem lw_p21 : lw_okq (⟨"MostSoldModel", "isShop", "(J)Z"⟩, 53) := ⟨⟨by decide +kernel, by decide +kernel⟩, List.mem_of_getElem? (i := 853) (by decide +kernel), List.mem_of_getElem? (i := 1084) (by decide +kernel), List.mem_of_getElem? (i := 1085) (by decide +kernel)⟩
theorem lw_p22 : lw_okq (⟨"MostSoldModel", "isSale", "(JJJJJJJ)Z"⟩, 53) := ⟨⟨by decide +kernel, by decide +kernel⟩, List.mem_of_getElem? (i := 853) (by decide +kernel), List.mem_of_getElem? (i := 1097) (by decide +kernel), List.mem_of_getElem? (i := 1098) (by decide +kernel)⟩
theorem lw_p23 : lw_okq (⟨"MostSoldModel", "isThing", "(J)Z"⟩, 53) := ⟨⟨by decide +kernel, by decide +kernel⟩, List.mem_of_getElem? (i := 853) (by decide +kernel), List.mem_of_getElem? (i := 1101) (by decide +kernel), List.mem_of_getElem? (i := 1102) (by decide +kernel)⟩
theorem lw_p24 : lw_okq (⟨"MostSoldModel", "adds", "(IIIIIII)I"⟩, 53) := ⟨⟨by decide +kernel, by decide +kernel⟩, List.mem_of_getElem? (i := 853) (by decide +kernel), List.mem_of_getElem? (i := 1107) (by decide +kernel), List.mem_of_getElem? (i := 1108) (by decide +kernel)⟩
theorem lw_p25 : lw_okq (⟨"MostSoldModel", "item", "(III)J"⟩, 53) := ⟨⟨by decide +kernel, by decide +kernel⟩, List.mem_of_getElem? (i := 853) (by decide +kernel), List.mem_of_getElem? (i := 1115) (by decide +kernel), List.mem_of_getElem? (i := 1116) (by decide +kernel)⟩
theorem lw_p26 : lw_okq (⟨"MostSoldModel", "hasSale", "(I)Z"⟩, 53) := ⟨⟨by decide +kernel, by decide +kernel⟩, List.mem_of_getElem? (i := 853) (by decide +kernel), List.mem_of_getElem? (i := 1123) (by decide +kernel), List.mem_of_getElem? (i := 1124) (by decide +kernel)⟩
theorem lw_p27 : lw_okq (⟨"MostSoldModel", "isKnown", "(I)Z"⟩, 53) := ⟨⟨by decide +kernel, by decide +kernel⟩, List.mem_of_getElem? (i := 853) (by decide +kernel), List.mem_of_getElem? (i := 1127) (by decide +kernel), List.mem_of_getElem? (i := 1128) (by decide +kernel)⟩
theorem lw_p28 : lw_okq (⟨"MostSoldModel", "statusOf", "(II)I"⟩, 53) := ⟨⟨by decide +kernel, by decide +kernel⟩, List.mem_of_getElem? (i := 853) (by decide +kernel), List.mem_of_getElem? (i := 1147) (by decide +kernel), List.mem_of_getElem? (i := 1148) (by decide +kernel)⟩
theorem lw_p29 : lw_okq (⟨"MostSoldModel", "isOpen", "(II)Z"⟩, 53) := ⟨⟨by decide +kernel, by decide +kernel⟩, List.mem_of_getElem? (i := 853) (by decide +kernel), List.mem_of_getElem? (i := 1151) (by decide +kernel), List.mem_of_getElem? (i := 1152) (by decide +kernel)⟩
theorem lw_p30 : lw_okq (⟨"MostSoldModel", "speaks", "(II)Z"⟩, 53) := ⟨⟨by decide +kernel, by decide +kernel⟩, List.mem_of_getElem? (i := 853) (by decide +kernel), List.mem_of_getElem? (i := 1155) (by decide +kernel), List.mem_of_getElem? (i := 1156) (by decide +kernel)⟩
theorem lw_p31 : lw_okq (⟨"MostSoldModel", "reads", "()I"⟩, 53) := ⟨⟨by decide +kernel, by decide +kernel⟩, List.mem_of_getElem? (i := 853) (by decide +kernel), List.mem_of_getElem? (i := 1172) (by decide +kernel), List.mem_of_getElem? (i := 1173) (by decide +kernel)⟩
def lw_privs_2 : List (MethodName × Nat) := [(⟨"MostSold", "changesList", "(II)Z"⟩, 9), (⟨"MostSold$Errand", "shopBits", "(I)I"⟩, 5), (⟨"MostSoldModel", "met", "(I)I"⟩, 53), (⟨"MostSoldModel", "lacks", "(III)I"⟩, 53), (⟨"MostSoldModel", "isTitle", "(I)Z"⟩, 53), (⟨"MostSoldModel", "isShop", "(J)Z"⟩, 53), (⟨"MostSoldModel", "isSale", "(JJJJJJJ)Z"⟩, 53), (⟨"MostSoldModel", "isThing", "(J)Z"⟩, 53), (⟨"MostSoldModel", "adds", "(IIIIIII)I"⟩, 53), (⟨"MostSoldModel", "item", "(III)J"⟩, 53), (⟨"MostSoldModel", "hasSale", "(I)Z"⟩, 53), (⟨"MostSoldModel", "isKnown", "(I)Z"⟩, 53), (⟨"MostSoldModel", "statusOf", "(II)I"⟩, 53), (⟨"MostSoldModel", "isOpen", "(II)Z"⟩, 53), (⟨"MostSoldModel", "speaks", "(II)Z"⟩, 53), (⟨"MostSoldModel", "reads", "()I"⟩, 53)]
theorem lw_r2 : ∀ q ∈ lw_privs_2, lw_okq q := List.forall_mem_cons.mpr ⟨lw_p16, List.forall_mem_cons.mpr ⟨lw_p17, List.forall_mem_cons.mpr ⟨lw_p18, List.forall_mem_cons.mpr ⟨lw_p19, List.forall_mem_cons.mpr ⟨lw_p20, List.forall_mem_cons.mpr ⟨lw_p21, List.forall_mem_cons.mpr ⟨lw_p22, List.forall_mem_cons.mpr ⟨lw_p23, List.forall_mem_cons.mpr ⟨lw_p24, List.forall_mem_cons.mpr ⟨lw_p25, List.forall_mem_cons.mpr ⟨lw_p26, List.forall_mem_cons.mpr ⟨lw_p27, List.forall_mem_cons.mpr ⟨lw_p28, List.forall_mem_cons.mpr ⟨lw_p29, List.forall_mem_cons.mpr ⟨lw_p30, List.forall_mem_cons.mpr ⟨lw_p31, fun _ h => absurd h List.not_mem_nil⟩⟩⟩⟩⟩⟩⟩⟩⟩⟩⟩⟩⟩⟩⟩⟩
theorem lw_p32 : lw_okq (⟨"MostSoldModel", "readsPart", "()Z"⟩, 53) := ⟨⟨by decide +kernel, by decide +kernel⟩, List.mem_of_getElem? (i := 853) (by decide +kernel), List.mem_of_getElem? (i := 1176) (by decide +kernel), List.mem_of_getElem? (i := 1177) (by decide +kernel)⟩
theorem lw_p33 : lw_okq (⟨"MostSoldModel", "number", "(III)I"⟩, 53) := ⟨⟨by decide +kernel, by decide +kernel⟩, List.mem_of_getElem? (i := 853) (by decide +kernel), List.mem_of_getElem? (i := 1183) (by decide +kernel), List.mem_of_getElem? (i := 1184) (by decide +kernel)⟩
theorem lw_p34 : lw_okq (⟨"MostSoldModel", "must", "(I)Z"⟩, 53) := ⟨⟨by decide +kernel, by decide +kernel⟩, List.mem_of_getElem? (i := 853) (by decide +kernel), List.mem_of_getElem? (i := 1189) (by decide +kernel), List.mem_of_getElem? (i := 1190) (by decide +kernel)⟩
theorem lw_p35 : lw_okq (⟨"MostSoldModel", "says", "(II)I"⟩, 53) := ⟨⟨by decide +kernel, by decide +kernel⟩, List.mem_of_getElem? (i := 853) (by decide +kernel), List.mem_of_getElem? (i := 1204) (by decide +kernel), List.mem_of_getElem? (i := 1205) (by decide +kernel)⟩
theorem lw_p36 : lw_okq (⟨"MostSoldModel", "partIn", "(II)I"⟩, 53) := ⟨⟨by decide +kernel, by decide +kernel⟩, List.mem_of_getElem? (i := 853) (by decide +kernel), List.mem_of_getElem? (i := 1208) (by decide +kernel), List.mem_of_getElem? (i := 1209) (by decide +kernel)⟩
theorem lw_p37 : lw_okq (⟨"MostSoldModel", "findAmounts", "(II)V"⟩, 53) := ⟨⟨by decide +kernel, by decide +kernel⟩, List.mem_of_getElem? (i := 853) (by decide +kernel), List.mem_of_getElem? (i := 1222) (by decide +kernel), List.mem_of_getElem? (i := 1223) (by decide +kernel)⟩
theorem lw_p38 : lw_okq (⟨"MostSoldModel", "counts", "(II)Z"⟩, 53) := ⟨⟨by decide +kernel, by decide +kernel⟩, List.mem_of_getElem? (i := 853) (by decide +kernel), List.mem_of_getElem? (i := 1226) (by decide +kernel), List.mem_of_getElem? (i := 1227) (by decide +kernel)⟩
theorem lw_p39 : lw_okq (⟨"MostSoldModel", "findSums", "(II)V"⟩, 53) := ⟨⟨by decide +kernel, by decide +kernel⟩, List.mem_of_getElem? (i := 853) (by decide +kernel), List.mem_of_getElem? (i := 1235) (by decide +kernel), List.mem_of_getElem? (i := 1236) (by decide +kernel)⟩
theorem lw_p40 : lw_okq (⟨"MostSoldModel", "sumOf", "(I)J"⟩, 53) := ⟨⟨by decide +kernel, by decide +kernel⟩, List.mem_of_getElem? (i := 853) (by decide +kernel), List.mem_of_getElem? (i := 1239) (by decide +kernel), List.mem_of_getElem? (i := 1240) (by decide +kernel)⟩
theorem lw_p41 : lw_okq (⟨"MostSoldModel", "findList", "(II)V"⟩, 53) := ⟨⟨by decide +kernel, by decide +kernel⟩, List.mem_of_getElem? (i := 853) (by decide +kernel), List.mem_of_getElem? (i := 1253) (by decide +kernel), List.mem_of_getElem? (i := 1254) (by decide +kernel)⟩
theorem lw_p42 : lw_okq (⟨"MostSoldModel", "ahead", "(III)Z"⟩, 53) := ⟨⟨by decide +kernel, by decide +kernel⟩, List.mem_of_getElem? (i := 853) (by decide +kernel), List.mem_of_getElem? (i := 1257) (by decide +kernel), List.mem_of_getElem? (i := 1258) (by decide +kernel)⟩
theorem lw_p43 : lw_okq (⟨"MostSoldModel", "hoursOf", "(II)I"⟩, 53) := ⟨⟨by decide +kernel, by decide +kernel⟩, List.mem_of_getElem? (i := 853) (by decide +kernel), List.mem_of_getElem? (i := 1277) (by decide +kernel), List.mem_of_getElem? (i := 1278) (by decide +kernel)⟩
theorem lw_p44 : lw_okq (⟨"MostSoldModel", "findDoubts", "(I)Z"⟩, 53) := ⟨⟨by decide +kernel, by decide +kernel⟩, List.mem_of_getElem? (i := 853) (by decide +kernel), List.mem_of_getElem? (i := 1298) (by decide +kernel), List.mem_of_getElem? (i := 1299) (by decide +kernel)⟩
theorem lw_p45 : lw_okq (⟨"MostSoldModel", "isGiven", "(II)Z"⟩, 53) := ⟨⟨by decide +kernel, by decide +kernel⟩, List.mem_of_getElem? (i := 853) (by decide +kernel), List.mem_of_getElem? (i := 1302) (by decide +kernel), List.mem_of_getElem? (i := 1303) (by decide +kernel)⟩
theorem lw_p46 : lw_okq (⟨"MostSoldModel", "isNever", "(I)Z"⟩, 53) := ⟨⟨by decide +kernel, by decide +kernel⟩, List.mem_of_getElem? (i := 853) (by decide +kernel), List.mem_of_getElem? (i := 1306) (by decide +kernel), List.mem_of_getElem? (i := 1307) (by decide +kernel)⟩
theorem lw_p47 : lw_okq (⟨"MostSoldModel", "worthOf", "(I)J"⟩, 53) := ⟨⟨by decide +kernel, by decide +kernel⟩, List.mem_of_getElem? (i := 853) (by decide +kernel), List.mem_of_getElem? (i := 1325) (by decide +kernel), List.mem_of_getElem? (i := 1326) (by decide +kernel)⟩
def lw_privs_3 : List (MethodName × Nat) := [(⟨"MostSoldModel", "readsPart", "()Z"⟩, 53), (⟨"MostSoldModel", "number", "(III)I"⟩, 53), (⟨"MostSoldModel", "must", "(I)Z"⟩, 53), (⟨"MostSoldModel", "says", "(II)I"⟩, 53), (⟨"MostSoldModel", "partIn", "(II)I"⟩, 53), (⟨"MostSoldModel", "findAmounts", "(II)V"⟩, 53), (⟨"MostSoldModel", "counts", "(II)Z"⟩, 53), (⟨"MostSoldModel", "findSums", "(II)V"⟩, 53), (⟨"MostSoldModel", "sumOf", "(I)J"⟩, 53), (⟨"MostSoldModel", "findList", "(II)V"⟩, 53), (⟨"MostSoldModel", "ahead", "(III)Z"⟩, 53), (⟨"MostSoldModel", "hoursOf", "(II)I"⟩, 53), (⟨"MostSoldModel", "findDoubts", "(I)Z"⟩, 53), (⟨"MostSoldModel", "isGiven", "(II)Z"⟩, 53), (⟨"MostSoldModel", "isNever", "(I)Z"⟩, 53), (⟨"MostSoldModel", "worthOf", "(I)J"⟩, 53)]
theorem lw_r3 : ∀ q ∈ lw_privs_3, lw_okq q := List.forall_mem_cons.mpr ⟨lw_p32, List.forall_mem_cons.mpr ⟨lw_p33, List.forall_mem_cons.mpr ⟨lw_p34, List.forall_mem_cons.mpr ⟨lw_p35, List.forall_mem_cons.mpr ⟨lw_p36, List.forall_mem_cons.mpr ⟨lw_p37, List.forall_mem_cons.mpr ⟨lw_p38, List.forall_mem_cons.mpr ⟨lw_p39, List.forall_mem_cons.mpr ⟨lw_p40, List.forall_mem_cons.mpr ⟨lw_p41, List.forall_mem_cons.mpr ⟨lw_p42, List.forall_mem_cons.mpr ⟨lw_p43, List.forall_mem_cons.mpr ⟨lw_p44, List.forall_mem_cons.mpr ⟨lw_p45, List.forall_mem_cons.mpr ⟨lw_p46, List.forall_mem_cons.mpr ⟨lw_p47, fun _ h => absurd h List.not_mem_nil⟩⟩⟩⟩⟩⟩⟩⟩⟩⟩⟩⟩⟩⟩⟩⟩
def lw_privs : List (MethodName × Nat) := lw_privs_1 ++ (lw_privs_2 ++ (lw_privs_3))
def lw_tbl : List Cond := k2_sels lw_privs ++ tables_1
theorem lw_privs_ok : ∀ q ∈ lw_privs, lw_okq q := by
  show ∀ q ∈ lw_privs_1 ++ (lw_privs_2 ++ (lw_privs_3)), lw_okq q
  exact List.forall_mem_append.mpr ⟨lw_r1, List.forall_mem_append.mpr ⟨lw_r2, lw_r3⟩⟩
def RX0 : String := "MostSold$Doubts"
def TX0 : u_T := fun k => match k with
  | 0 => ("MostSold$Doubts", "trade", "LMostSold$Trade;", true)
  | 1 => ("MostSold$Doubts", "ledger", "LMostSold$Ledger;", true)
  | 2 => ("MostSold$Doubts", "others", "[I", true)
  | 3 => ("MostSold$Doubts", "othersCount", "I", false)
  | 4 => ("MostSold$Doubts", "excess", "I", false)
  | 5 => ("MostSold$Doubts", "untimely", "I", false)
  | 6 => ("MostSold$Doubts", "fewest", "I", false)
  | _ => ("MostSold$Doubts", "chosen", "I", false)
def tyX0 : Nat → FieldType := fun k => match k with
  | 0 => .object "MostSold$Trade"
  | 1 => .object "MostSold$Ledger"
  | 2 => .array .int
  | 3 => .int
  | 4 => .int
  | 5 => .int
  | 6 => .int
  | _ => .int
abbrev wsX00 : List Cond := u_ws RX0 TX0 8
theorem nmX0 : ∀ a, a < 8 → ∀ b, b < 8 → a ≠ b → (TX0 a).2.1 ≠ (TX0 b).2.1 := by decide +kernel
theorem tyX0_ok : ∀ k, k < 8 → parseFieldDescriptor (TX0 k).2.2.1 = some (tyX0 k) := by decide +kernel
abbrev cX0_init : ByteArray := prog_2_method_1_code
def yX0_init : MethodName := ⟨RX0, "<init>", "(LMostSold$Trade;LMostSold$Ledger;)V"⟩
abbrev cX0_examine : ByteArray := prog_2_method_2_code
def yX0_examine : MethodName := ⟨RX0, "examine", "(I)Z"⟩
abbrev cX0_isClaim : ByteArray := prog_2_method_3_code
def yX0_isClaim : MethodName := ⟨RX0, "isClaim", "(I)Z"⟩
abbrev cX0_isUntimely : ByteArray := prog_2_method_4_code
def yX0_isUntimely : MethodName := ⟨RX0, "isUntimely", "(I)Z"⟩
abbrev cX0_chooseFewest : ByteArray := prog_2_method_5_code
def yX0_chooseFewest : MethodName := ⟨RX0, "chooseFewest", "()V"⟩
abbrev cX0_isDoubted : ByteArray := prog_2_method_6_code
def yX0_isDoubted : MethodName := ⟨RX0, "isDoubted", "(I)Z"⟩
def RX1 : String := "MostSold$Errand"
def TX1 : u_T := fun k => match k with
  | 0 => ("MostSold$Errand", "shops", "[I", true)
  | 1 => ("MostSold$Errand", "worths", "[J", true)
  | 2 => ("MostSold$Errand", "prices", "[I", true)
  | 3 => ("MostSold$Errand", "offered", "I", false)
  | _ => ("MostSold$Errand", "purse", "I", false)
def tyX1 : Nat → FieldType := fun k => match k with
  | 0 => .array .int
  | 1 => .array .long
  | 2 => .array .int
  | 3 => .int
  | _ => .int
abbrev wsX10 : List Cond := u_ws RX1 TX1 5
theorem nmX1 : ∀ a, a < 5 → ∀ b, b < 5 → a ≠ b → (TX1 a).2.1 ≠ (TX1 b).2.1 := by decide +kernel
theorem tyX1_ok : ∀ k, k < 5 → parseFieldDescriptor (TX1 k).2.2.1 = some (tyX1 k) := by decide +kernel
abbrev cX1_init : ByteArray := prog_3_method_1_code
def yX1_init : MethodName := ⟨RX1, "<init>", "()V"⟩
abbrev cX1_start : ByteArray := prog_3_method_2_code
def yX1_start : MethodName := ⟨RX1, "start", "(I)V"⟩
abbrev cX1_offer : ByteArray := prog_3_method_3_code
def yX1_offer : MethodName := ⟨RX1, "offer", "(IJI)V"⟩
abbrev cX1_choose : ByteArray := prog_3_method_4_code
def yX1_choose : MethodName := ⟨RX1, "choose", "()I"⟩
abbrev cX1_shopBits : ByteArray := prog_3_method_5_code
def yX1_shopBits : MethodName := ⟨RX1, "shopBits", "(I)I"⟩
def RX2 : String := "MostSold$Habits"
def TX2 : u_T := fun k => match k with
  | 0 => ("MostSold$Habits", "ledger", "LMostSold$Ledger;", true)
  | 1 => ("MostSold$Habits", "rules", "LMostSold$Rules;", true)
  | 2 => ("MostSold$Habits", "hoursOf", "[I", true)
  | _ => ("MostSold$Habits", "ways", "[[J", true)
def tyX2 : Nat → FieldType := fun k => match k with
  | 0 => .object "MostSold$Ledger"
  | 1 => .object "MostSold$Rules"
  | 2 => .array .int
  | _ => .array (.array .long)
abbrev wsX20 : List Cond := u_ws RX2 TX2 4
theorem nmX2 : ∀ a, a < 4 → ∀ b, b < 4 → a ≠ b → (TX2 a).2.1 ≠ (TX2 b).2.1 := by decide +kernel
theorem tyX2_ok : ∀ k, k < 4 → parseFieldDescriptor (TX2 k).2.2.1 = some (tyX2 k) := by decide +kernel
abbrev cX2_init : ByteArray := prog_4_method_1_code
def yX2_init : MethodName := ⟨RX2, "<init>", "(LMostSold$Ledger;LMostSold$Rules;)V"⟩
abbrev cX2_gather : ByteArray := prog_4_method_2_code
def yX2_gather : MethodName := ⟨RX2, "gather", "(I)V"⟩
abbrev cX2_chance : ByteArray := prog_4_method_3_code
def yX2_chance : MethodName := ⟨RX2, "chance", "(II)I"⟩
abbrev cX2_oddPair : ByteArray := prog_4_method_4_code
def yX2_oddPair : MethodName := ⟨RX2, "oddPair", "(I)I"⟩
def RX3 : String := "MostSold$Ledger"
def TX3 : u_T := fun k => match k with
  | 0 => ("MostSold$Ledger", "sales", "I", false)
  | 1 => ("MostSold$Ledger", "asOfWeek", "I", false)
  | 2 => ("MostSold$Ledger", "unheardOf", "I", false)
  | 3 => ("MostSold$Ledger", "shopOf", "[I", true)
  | 4 => ("MostSold$Ledger", "thingOf", "[I", true)
  | 5 => ("MostSold$Ledger", "weekOf", "[I", true)
  | 6 => ("MostSold$Ledger", "hourOf", "[I", true)
  | 7 => ("MostSold$Ledger", "manyOf", "[I", true)
  | 8 => ("MostSold$Ledger", "sortOf", "[I", true)
  | 9 => ("MostSold$Ledger", "toldIn", "[I", true)
  | _ => ("MostSold$Ledger", "struckIn", "[I", true)
def tyX3 : Nat → FieldType := fun k => match k with
  | 0 => .int
  | 1 => .int
  | 2 => .int
  | 3 => .array .int
  | 4 => .array .int
  | 5 => .array .int
  | 6 => .array .int
  | 7 => .array .int
  | 8 => .array .int
  | 9 => .array .int
  | _ => .array .int
abbrev wsX30 : List Cond := u_ws RX3 TX3 11
theorem nmX3 : ∀ a, a < 11 → ∀ b, b < 11 → a ≠ b → (TX3 a).2.1 ≠ (TX3 b).2.1 := by decide +kernel
theorem tyX3_ok : ∀ k, k < 11 → parseFieldDescriptor (TX3 k).2.2.1 = some (tyX3 k) := by decide +kernel
abbrev cX3_init : ByteArray := prog_5_method_1_code
def yX3_init : MethodName := ⟨RX3, "<init>", "()V"⟩
abbrev cX3_isSale : ByteArray := prog_5_method_2_code
def yX3_isSale : MethodName := ⟨RX3, "isSale", "(I)Z"⟩
abbrev cX3_add : ByteArray := prog_5_method_3_code
def yX3_add : MethodName := ⟨RX3, "add", "(IIIIIII)I"⟩
abbrev cX3_isKnown : ByteArray := prog_5_method_4_code
def yX3_isKnown : MethodName := ⟨RX3, "isKnown", "(I)Z"⟩
abbrev cX3_countKnown : ByteArray := prog_5_method_5_code
def yX3_countKnown : MethodName := ⟨RX3, "countKnown", "()I"⟩
abbrev cX3_doesCount : ByteArray := prog_5_method_6_code
def yX3_doesCount : MethodName := ⟨RX3, "doesCount", "(ILMostSold$Rules;)Z"⟩
def RX4 : String := "MostSold$Rules"
def TX4 : u_T := fun k => match k with
  | 0 => ("MostSold$Rules", "text", "[I", true)
  | 1 => ("MostSold$Rules", "length", "I", false)
  | 2 => ("MostSold$Rules", "faultAt", "I", false)
  | 3 => ("MostSold$Rules", "inForce", "[I", true)
  | 4 => ("MostSold$Rules", "byPart", "[I", true)
  | 5 => ("MostSold$Rules", "itemOf", "[I", true)
  | 6 => ("MostSold$Rules", "numberOf", "[I", true)
  | 7 => ("MostSold$Rules", "fromWeek", "[I", true)
  | 8 => ("MostSold$Rules", "closedParts", "I", false)
  | 9 => ("MostSold$Rules", "startOfLast", "I", false)
  | _ => ("MostSold$Rules", "at", "I", false)
def tyX4 : Nat → FieldType := fun k => match k with
  | 0 => .array .int
  | 1 => .int
  | 2 => .int
  | 3 => .array .int
  | 4 => .array .int
  | 5 => .array .int
  | 6 => .array .int
  | 7 => .array .int
  | 8 => .int
  | 9 => .int
  | _ => .int
abbrev wsX40 : List Cond := u_ws RX4 TX4 11
theorem nmX4 : ∀ a, a < 11 → ∀ b, b < 11 → a ≠ b → (TX4 a).2.1 ≠ (TX4 b).2.1 := by decide +kernel
theorem tyX4_ok : ∀ k, k < 11 → parseFieldDescriptor (TX4 k).2.2.1 = some (tyX4 k) := by decide +kernel
abbrev cX4_init : ByteArray := prog_6_method_1_code
def yX4_init : MethodName := ⟨RX4, "<init>", "()V"⟩
abbrev cX4_append : ByteArray := prog_6_method_2_code
def yX4_append : MethodName := ⟨RX4, "append", "(I)I"⟩
abbrev cX4_clear : ByteArray := prog_6_method_3_code
def yX4_clear : MethodName := ⟨RX4, "clear", "()I"⟩
abbrev cX4_bindTo : ByteArray := prog_6_method_4_code
def yX4_bindTo : MethodName := ⟨RX4, "bindTo", "(I)V"⟩
abbrev cX4_parseLast : ByteArray := prog_6_method_5_code
def yX4_parseLast : MethodName := ⟨RX4, "parseLast", "()V"⟩
abbrev cX4_parsePart : ByteArray := prog_6_method_6_code
def yX4_parsePart : MethodName := ⟨RX4, "parsePart", "()I"⟩
abbrev cX4_parseNumber : ByteArray := prog_6_method_7_code
def yX4_parseNumber : MethodName := ⟨RX4, "parseNumber", "(I)I"⟩
abbrev cX4_byteAt : ByteArray := prog_6_method_8_code
def yX4_byteAt : MethodName := ⟨RX4, "byteAt", "(I)I"⟩
abbrev cX4_itemOfLetter : ByteArray := prog_6_method_9_code
def yX4_itemOfLetter : MethodName := ⟨RX4, "itemOfLetter", "(I)I"⟩
def RX5 : String := "MostSold$Sheets"
def TX5 : u_T := fun k => match k with
  | 0 => ("MostSold$Sheets", "rows", "[[J", true)
  | 1 => ("MostSold$Sheets", "lengths", "[I", true)
  | 2 => ("MostSold$Sheets", "moulds", "[I", true)
  | _ => ("MostSold$Sheets", "latest", "I", false)
def tyX5 : Nat → FieldType := fun k => match k with
  | 0 => .array (.array .long)
  | 1 => .array .int
  | 2 => .array .int
  | _ => .int
abbrev wsX50 : List Cond := u_ws RX5 TX5 4
theorem nmX5 : ∀ a, a < 4 → ∀ b, b < 4 → a ≠ b → (TX5 a).2.1 ≠ (TX5 b).2.1 := by decide +kernel
theorem tyX5_ok : ∀ k, k < 4 → parseFieldDescriptor (TX5 k).2.2.1 = some (tyX5 k) := by decide +kernel
abbrev cX5_init : ByteArray := prog_7_method_1_code
def yX5_init : MethodName := ⟨RX5, "<init>", "()V"⟩
abbrev cX5_isNumber : ByteArray := prog_7_method_2_code
def yX5_isNumber : MethodName := ⟨RX5, "isNumber", "(I)Z"⟩
abbrev cX5_isMould : ByteArray := prog_7_method_3_code
def yX5_isMould : MethodName := ⟨RX5, "isMould", "(I)Z"⟩
abbrev cX5_isLost : ByteArray := prog_7_method_4_code
def yX5_isLost : MethodName := ⟨RX5, "isLost", "(I)Z"⟩
abbrev cX5_found : ByteArray := prog_7_method_5_code
def yX5_found : MethodName := ⟨RX5, "found", "(I)I"⟩
abbrev cX5_renew : ByteArray := prog_7_method_6_code
def yX5_renew : MethodName := ⟨RX5, "renew", "(III)V"⟩
abbrev cX5_check : ByteArray := prog_7_method_7_code
def yX5_check : MethodName := ⟨RX5, "check", "(III)I"⟩
abbrev cX5_hasRange : ByteArray := prog_7_method_8_code
def yX5_hasRange : MethodName := ⟨RX5, "hasRange", "(III)Z"⟩
abbrev cX5_store : ByteArray := prog_7_method_9_code
def yX5_store : MethodName := ⟨RX5, "store", "(IIJ)V"⟩
abbrev cX5_lowestBits : ByteArray := prog_7_method_10_code
def yX5_lowestBits : MethodName := ⟨RX5, "lowestBits", "(IJ)J"⟩
def RX6 : String := "MostSold$Tally"
def TX6 : u_T := fun k => match k with
  | 0 => ("MostSold$Tally", "trade", "LMostSold$Trade;", true)
  | 1 => ("MostSold$Tally", "ledger", "LMostSold$Ledger;", true)
  | 2 => ("MostSold$Tally", "rules", "LMostSold$Rules;", true)
  | 3 => ("MostSold$Tally", "taken", "[I", true)
  | 4 => ("MostSold$Tally", "heard", "[I", true)
  | 5 => ("MostSold$Tally", "state", "[I", true)
  | 6 => ("MostSold$Tally", "told", "[J", true)
  | 7 => ("MostSold$Tally", "sizeTelling", "[I", true)
  | 8 => ("MostSold$Tally", "sizeSilent", "[I", true)
  | 9 => ("MostSold$Tally", "sums", "[J", true)
  | 10 => ("MostSold$Tally", "order", "[I", true)
  | 11 => ("MostSold$Tally", "listed", "I", false)
  | _ => ("MostSold$Tally", "places", "[I", true)
def tyX6 : Nat → FieldType := fun k => match k with
  | 0 => .object "MostSold$Trade"
  | 1 => .object "MostSold$Ledger"
  | 2 => .object "MostSold$Rules"
  | 3 => .array .int
  | 4 => .array .int
  | 5 => .array .int
  | 6 => .array .long
  | 7 => .array .int
  | 8 => .array .int
  | 9 => .array .long
  | 10 => .array .int
  | 11 => .int
  | _ => .array .int
abbrev wsX60 : List Cond := u_ws RX6 TX6 13
theorem nmX6 : ∀ a, a < 13 → ∀ b, b < 13 → a ≠ b → (TX6 a).2.1 ≠ (TX6 b).2.1 := by decide +kernel
theorem tyX6_ok : ∀ k, k < 13 → parseFieldDescriptor (TX6 k).2.2.1 = some (tyX6 k) := by decide +kernel
abbrev cX6_init : ByteArray := prog_8_method_1_code
def yX6_init : MethodName := ⟨RX6, "<init>", "(LMostSold$Trade;LMostSold$Ledger;LMostSold$Rules;)V"⟩
abbrev cX6_makeList : ByteArray := prog_8_method_2_code
def yX6_makeList : MethodName := ⟨RX6, "makeList", "(II)V"⟩
abbrev cX6_gather : ByteArray := prog_8_method_3_code
def yX6_gather : MethodName := ⟨RX6, "gather", "(II)V"⟩
abbrev cX6_takeIn : ByteArray := prog_8_method_4_code
def yX6_takeIn : MethodName := ⟨RX6, "takeIn", "(II)V"⟩
abbrev cX6_amountAt : ByteArray := prog_8_method_5_code
def yX6_amountAt : MethodName := ⟨RX6, "amountAt", "(II)I"⟩
abbrev cX6_hundredthsAt : ByteArray := prog_8_method_6_code
def yX6_hundredthsAt : MethodName := ⟨RX6, "hundredthsAt", "(II)J"⟩
abbrev cX6_weigh : ByteArray := prog_8_method_7_code
def yX6_weigh : MethodName := ⟨RX6, "weigh", "(I)V"⟩
abbrev cX6_weighShop : ByteArray := prog_8_method_8_code
def yX6_weighShop : MethodName := ⟨RX6, "weighShop", "(II)V"⟩
abbrev cX6_toldOf : ByteArray := prog_8_method_9_code
def yX6_toldOf : MethodName := ⟨RX6, "toldOf", "(I)J"⟩
abbrev cX6_shareOfTold : ByteArray := prog_8_method_10_code
def yX6_shareOfTold : MethodName := ⟨RX6, "shareOfTold", "(III)J"⟩
abbrev cX6_worthOf : ByteArray := prog_8_method_11_code
def yX6_worthOf : MethodName := ⟨RX6, "worthOf", "(I)J"⟩
abbrev cX6_rank : ByteArray := prog_8_method_12_code
def yX6_rank : MethodName := ⟨RX6, "rank", "(I)V"⟩
abbrev cX6_insert : ByteArray := prog_8_method_13_code
def yX6_insert : MethodName := ⟨RX6, "insert", "(I)V"⟩
abbrev cX6_isAhead : ByteArray := prog_8_method_14_code
def yX6_isAhead : MethodName := ⟨RX6, "isAhead", "(II)Z"⟩
abbrev cX6_sharesPlace : ByteArray := prog_8_method_15_code
def yX6_sharesPlace : MethodName := ⟨RX6, "sharesPlace", "(I)Z"⟩
def RX7 : String := "MostSold$Trade"
def TX7 : u_T := fun k => match k with
  | 0 => ("MostSold$Trade", "titles", "I", false)
  | 1 => ("MostSold$Trade", "cameOut", "[I", true)
  | 2 => ("MostSold$Trade", "things", "I", false)
  | 3 => ("MostSold$Trade", "titleOf", "[I", true)
  | 4 => ("MostSold$Trade", "formOf", "[I", true)
  | 5 => ("MostSold$Trade", "madeOf", "[I", true)
  | 6 => ("MostSold$Trade", "shops", "I", false)
  | 7 => ("MostSold$Trade", "kindOf", "[I", true)
  | 8 => ("MostSold$Trade", "sizeOf", "[I", true)
  | 9 => ("MostSold$Trade", "opens", "[I", true)
  | 10 => ("MostSold$Trade", "closes", "[I", true)
  | 11 => ("MostSold$Trade", "price", "[I", true)
  | 12 => ("MostSold$Trade", "empties", "I", false)
  | _ => ("MostSold$Trade", "emptyToldIn", "[I", true)
def tyX7 : Nat → FieldType := fun k => match k with
  | 0 => .int
  | 1 => .array .int
  | 2 => .int
  | 3 => .array .int
  | 4 => .array .int
  | 5 => .array .int
  | 6 => .int
  | 7 => .array .int
  | 8 => .array .int
  | 9 => .array .int
  | 10 => .array .int
  | 11 => .array .int
  | 12 => .int
  | _ => .array .int
abbrev wsX70 : List Cond := u_ws RX7 TX7 14
theorem nmX7 : ∀ a, a < 14 → ∀ b, b < 14 → a ≠ b → (TX7 a).2.1 ≠ (TX7 b).2.1 := by decide +kernel
theorem tyX7_ok : ∀ k, k < 14 → parseFieldDescriptor (TX7 k).2.2.1 = some (tyX7 k) := by decide +kernel
abbrev cX7_init : ByteArray := prog_9_method_1_code
def yX7_init : MethodName := ⟨RX7, "<init>", "()V"⟩
abbrev cX7_isTitle : ByteArray := prog_9_method_2_code
def yX7_isTitle : MethodName := ⟨RX7, "isTitle", "(J)Z"⟩
abbrev cX7_isThing : ByteArray := prog_9_method_3_code
def yX7_isThing : MethodName := ⟨RX7, "isThing", "(J)Z"⟩
abbrev cX7_isShop : ByteArray := prog_9_method_4_code
def yX7_isShop : MethodName := ⟨RX7, "isShop", "(J)Z"⟩
abbrev cX7_addTitle : ByteArray := prog_9_method_5_code
def yX7_addTitle : MethodName := ⟨RX7, "addTitle", "(I)I"⟩
abbrev cX7_addThing : ByteArray := prog_9_method_6_code
def yX7_addThing : MethodName := ⟨RX7, "addThing", "(III)I"⟩
abbrev cX7_addShop : ByteArray := prog_9_method_7_code
def yX7_addShop : MethodName := ⟨RX7, "addShop", "(IIII)I"⟩
abbrev cX7_isOpen : ByteArray := prog_9_method_8_code
def yX7_isOpen : MethodName := ⟨RX7, "isOpen", "(II)Z"⟩
abbrev cX7_sayEmpty : ByteArray := prog_9_method_9_code
def yX7_sayEmpty : MethodName := ⟨RX7, "sayEmpty", "(III)I"⟩
abbrev cX7_saidEmpty : ByteArray := prog_9_method_10_code
def yX7_saidEmpty : MethodName := ⟨RX7, "saidEmpty", "(III)Z"⟩
def RX8 : String := "MostSold"
def TX8 : u_T := fun k => match k with
  | 0 => ("MostSold", "trade", "LMostSold$Trade;", true)
  | 1 => ("MostSold", "ledger", "LMostSold$Ledger;", true)
  | 2 => ("MostSold", "rules", "LMostSold$Rules;", true)
  | 3 => ("MostSold", "tally", "LMostSold$Tally;", true)
  | 4 => ("MostSold", "habits", "LMostSold$Habits;", true)
  | 5 => ("MostSold", "doubts", "LMostSold$Doubts;", true)
  | 6 => ("MostSold", "errand", "LMostSold$Errand;", true)
  | 7 => ("MostSold", "sheets", "LMostSold$Sheets;", true)
  | _ => ("MostSold", "placesBefore", "[I", true)
def tyX8 : Nat → FieldType := fun k => match k with
  | 0 => .object "MostSold$Trade"
  | 1 => .object "MostSold$Ledger"
  | 2 => .object "MostSold$Rules"
  | 3 => .object "MostSold$Tally"
  | 4 => .object "MostSold$Habits"
  | 5 => .object "MostSold$Doubts"
  | 6 => .object "MostSold$Errand"
  | 7 => .object "MostSold$Sheets"
  | _ => .array .int
abbrev wsX80 : List Cond := u_ws RX8 TX8 9
theorem nmX8 : ∀ a, a < 9 → ∀ b, b < 9 → a ≠ b → (TX8 a).2.1 ≠ (TX8 b).2.1 := by decide +kernel
theorem tyX8_ok : ∀ k, k < 9 → parseFieldDescriptor (TX8 k).2.2.1 = some (tyX8 k) := by decide +kernel
abbrev cX8_init : ByteArray := prog_1_method_1_code
def yX8_init : MethodName := ⟨RX8, "<init>", "()V"⟩
abbrev cX8_title : ByteArray := prog_1_method_2_code
def yX8_title : MethodName := ⟨RX8, "title", "(I)I"⟩
abbrev cX8_thing : ByteArray := prog_1_method_3_code
def yX8_thing : MethodName := ⟨RX8, "thing", "(III)I"⟩
abbrev cX8_shop : ByteArray := prog_1_method_4_code
def yX8_shop : MethodName := ⟨RX8, "shop", "(IIII)I"⟩
abbrev cX8_tells : ByteArray := prog_1_method_5_code
def yX8_tells : MethodName := ⟨RX8, "tells", "(II)I"⟩
abbrev cX8_empty : ByteArray := prog_1_method_6_code
def yX8_empty : MethodName := ⟨RX8, "empty", "(III)I"⟩
abbrev cX8_coins : ByteArray := prog_1_method_7_code
def yX8_coins : MethodName := ⟨RX8, "coins", "(II)I"⟩
abbrev cX8_sale : ByteArray := prog_1_method_8_code
def yX8_sale : MethodName := ⟨RX8, "sale", "(IIIIIII)I"⟩
abbrev cX8_read : ByteArray := prog_1_method_9_code
def yX8_read : MethodName := ⟨RX8, "read", "(I)I"⟩
abbrev cX8_about : ByteArray := prog_1_method_10_code
def yX8_about : MethodName := ⟨RX8, "about", "(II)I"⟩
abbrev cX8_strike : ByteArray := prog_1_method_11_code
def yX8_strike : MethodName := ⟨RX8, "strike", "(II)I"⟩
abbrev cX8_back : ByteArray := prog_1_method_12_code
def yX8_back : MethodName := ⟨RX8, "back", "(I)I"⟩
abbrev cX8_asOf : ByteArray := prog_1_method_13_code
def yX8_asOf : MethodName := ⟨RX8, "asOf", "(I)I"⟩
abbrev cX8_type : ByteArray := prog_1_method_14_code
def yX8_type : MethodName := ⟨RX8, "type", "(I)I"⟩
abbrev cX8_wipe : ByteArray := prog_1_method_15_code
def yX8_wipe : MethodName := ⟨RX8, "wipe", "()I"⟩
abbrev cX8_fault : ByteArray := prog_1_method_16_code
def yX8_fault : MethodName := ⟨RX8, "fault", "()I"⟩
abbrev cX8_rule : ByteArray := prog_1_method_17_code
def yX8_rule : MethodName := ⟨RX8, "rule", "(II)I"⟩
abbrev cX8_why : ByteArray := prog_1_method_18_code
def yX8_why : MethodName := ⟨RX8, "why", "(II)I"⟩
abbrev cX8_amount : ByteArray := prog_1_method_19_code
def yX8_amount : MethodName := ⟨RX8, "amount", "(IIII)J"⟩
abbrev cX8_sum : ByteArray := prog_1_method_20_code
def yX8_sum : MethodName := ⟨RX8, "sum", "(IIII)J"⟩
abbrev cX8_sure : ByteArray := prog_1_method_21_code
def yX8_sure : MethodName := ⟨RX8, "sure", "(II)I"⟩
abbrev cX8_place : ByteArray := prog_1_method_22_code
def yX8_place : MethodName := ⟨RX8, "place", "(III)I"⟩
abbrev cX8_line : ByteArray := prog_1_method_23_code
def yX8_line : MethodName := ⟨RX8, "line", "(III)I"⟩
abbrev cX8_span : ByteArray := prog_1_method_24_code
def yX8_span : MethodName := ⟨RX8, "span", "(III)J"⟩
abbrev cX8_firm : ByteArray := prog_1_method_25_code
def yX8_firm : MethodName := ⟨RX8, "firm", "(I)I"⟩
abbrev cX8_alike : ByteArray := prog_1_method_26_code
def yX8_alike : MethodName := ⟨RX8, "alike", "(IIII)I"⟩
abbrev cX8_odd : ByteArray := prog_1_method_27_code
def yX8_odd : MethodName := ⟨RX8, "odd", "(I)I"⟩
abbrev cX8_cannot : ByteArray := prog_1_method_28_code
def yX8_cannot : MethodName := ⟨RX8, "cannot", "(I)I"⟩
abbrev cX8_doubted : ByteArray := prog_1_method_29_code
def yX8_doubted : MethodName := ⟨RX8, "doubted", "(I)I"⟩
abbrev cX8_moves : ByteArray := prog_1_method_30_code
def yX8_moves : MethodName := ⟨RX8, "moves", "(I)J"⟩
abbrev cX8_worth : ByteArray := prog_1_method_31_code
def yX8_worth : MethodName := ⟨RX8, "worth", "(II)J"⟩
abbrev cX8_ask : ByteArray := prog_1_method_32_code
def yX8_ask : MethodName := ⟨RX8, "ask", "(II)I"⟩
abbrev cX8_sheet : ByteArray := prog_1_method_33_code
def yX8_sheet : MethodName := ⟨RX8, "sheet", "(III)I"⟩
abbrev cX8_lose : ByteArray := prog_1_method_34_code
def yX8_lose : MethodName := ⟨RX8, "lose", "(I)I"⟩
abbrev cX8_put : ByteArray := prog_1_method_35_code
def yX8_put : MethodName := ⟨RX8, "put", "(IIIJ)I"⟩
abbrev cX8_get : ByteArray := prog_1_method_36_code
def yX8_get : MethodName := ⟨RX8, "get", "(III)J"⟩
abbrev cX8_copy : ByteArray := prog_1_method_37_code
def yX8_copy : MethodName := ⟨RX8, "copy", "(IIIII)I"⟩
abbrev cX8_write : ByteArray := prog_1_method_38_code
def yX8_write : MethodName := ⟨RX8, "write", "(II)I"⟩
abbrev cX8_count : ByteArray := prog_1_method_39_code
def yX8_count : MethodName := ⟨RX8, "count", "(I)I"⟩
abbrev cX8_digest : ByteArray := prog_1_method_40_code
def yX8_digest : MethodName := ⟨RX8, "digest", "()J"⟩
abbrev cX8_within : ByteArray := prog_1_method_41_code
def yX8_within : MethodName := ⟨RX8, "within", "(JJJ)Z"⟩
abbrev cX8_isWeek : ByteArray := prog_1_method_42_code
def yX8_isWeek : MethodName := ⟨RX8, "isWeek", "(J)Z"⟩
abbrev cX8_refused : ByteArray := prog_1_method_43_code
def yX8_refused : MethodName := ⟨RX8, "refused", "(I)J"⟩
abbrev cX8_enter : ByteArray := prog_1_method_44_code
def yX8_enter : MethodName := ⟨RX8, "enter", "(JJJJJJJ)I"⟩
abbrev cX8_bearsOn : ByteArray := prog_1_method_45_code
def yX8_bearsOn : MethodName := ⟨RX8, "bearsOn", "(II)Z"⟩
abbrev cX8_changesList : ByteArray := prog_1_method_46_code
def yX8_changesList : MethodName := ⟨RX8, "changesList", "(II)Z"⟩
def RX9 : String := "MostSoldModel"
def TX9 : u_T := fun k => match k with
  | 0 => ("MostSoldModel", "moulds", "[I", true)
  | 1 => ("MostSoldModel", "sizes", "[I", true)
  | 2 => ("MostSoldModel", "items", "[J", true)
  | 3 => ("MostSoldModel", "moved", "[J", true)
  | 4 => ("MostSoldModel", "latest", "I", false)
  | 5 => ("MostSoldModel", "titles", "I", false)
  | 6 => ("MostSoldModel", "outs", "[I", true)
  | 7 => ("MostSoldModel", "things", "I", false)
  | 8 => ("MostSoldModel", "titleOf", "[I", true)
  | 9 => ("MostSoldModel", "formOf", "[I", true)
  | 10 => ("MostSoldModel", "madeOf", "[I", true)
  | 11 => ("MostSoldModel", "shops", "I", false)
  | 12 => ("MostSoldModel", "kindOf", "[I", true)
  | 13 => ("MostSoldModel", "sizeOf", "[I", true)
  | 14 => ("MostSoldModel", "froms", "[I", true)
  | 15 => ("MostSoldModel", "tos", "[I", true)
  | 16 => ("MostSoldModel", "coinsOf", "[I", true)
  | 17 => ("MostSoldModel", "emptyTold", "[I", true)
  | 18 => ("MostSoldModel", "asOf", "I", false)
  | 19 => ("MostSoldModel", "sales", "I", false)
  | 20 => ("MostSoldModel", "shopOf", "[I", true)
  | 21 => ("MostSoldModel", "thingOf", "[I", true)
  | 22 => ("MostSoldModel", "weekOf", "[I", true)
  | 23 => ("MostSoldModel", "hourOf", "[I", true)
  | 24 => ("MostSoldModel", "manyOf", "[I", true)
  | 25 => ("MostSoldModel", "sortOf", "[I", true)
  | 26 => ("MostSoldModel", "toldIn", "[I", true)
  | 27 => ("MostSoldModel", "struckIn", "[I", true)
  | 28 => ("MostSoldModel", "without", "I", false)
  | 29 => ("MostSoldModel", "leftOut", "I", false)
  | 30 => ("MostSoldModel", "text", "[I", true)
  | 31 => ("MostSoldModel", "typed", "I", false)
  | 32 => ("MostSoldModel", "at", "I", false)
  | 33 => ("MostSoldModel", "parts", "I", false)
  | 34 => ("MostSoldModel", "partOf", "[I", true)
  | 35 => ("MostSoldModel", "partSays", "[I", true)
  | 36 => ("MostSoldModel", "partFrom", "[I", true)
  | 37 => ("MostSoldModel", "counted", "[J", true)
  | 38 => ("MostSoldModel", "heards", "[J", true)
  | 39 => ("MostSoldModel", "telling", "[I", true)
  | 40 => ("MostSoldModel", "silent", "[I", true)
  | 41 => ("MostSoldModel", "statuses", "[I", true)
  | 42 => ("MostSoldModel", "tolds", "[J", true)
  | 43 => ("MostSoldModel", "foretolds", "[J", true)
  | 44 => ("MostSoldModel", "toldAt", "[J", true)
  | 45 => ("MostSoldModel", "listed", "I", false)
  | 46 => ("MostSoldModel", "list", "[I", true)
  | 47 => ("MostSoldModel", "places", "[I", true)
  | 48 => ("MostSoldModel", "others", "I", false)
  | 49 => ("MostSoldModel", "other", "[I", true)
  | 50 => ("MostSoldModel", "never", "I", false)
  | 51 => ("MostSoldModel", "doubts", "I", false)
  | _ => ("MostSoldModel", "before", "[I", true)
def tyX9 : Nat → FieldType := fun k => match k with
  | 0 => .array .int
  | 1 => .array .int
  | 2 => .array .long
  | 3 => .array .long
  | 4 => .int
  | 5 => .int
  | 6 => .array .int
  | 7 => .int
  | 8 => .array .int
  | 9 => .array .int
  | 10 => .array .int
  | 11 => .int
  | 12 => .array .int
  | 13 => .array .int
  | 14 => .array .int
  | 15 => .array .int
  | 16 => .array .int
  | 17 => .array .int
  | 18 => .int
  | 19 => .int
  | 20 => .array .int
  | 21 => .array .int
  | 22 => .array .int
  | 23 => .array .int
  | 24 => .array .int
  | 25 => .array .int
  | 26 => .array .int
  | 27 => .array .int
  | 28 => .int
  | 29 => .int
  | 30 => .array .int
  | 31 => .int
  | 32 => .int
  | 33 => .int
  | 34 => .array .int
  | 35 => .array .int
  | 36 => .array .int
  | 37 => .array .long
  | 38 => .array .long
  | 39 => .array .int
  | 40 => .array .int
  | 41 => .array .int
  | 42 => .array .long
  | 43 => .array .long
  | 44 => .array .long
  | 45 => .int
  | 46 => .array .int
  | 47 => .array .int
  | 48 => .int
  | 49 => .array .int
  | 50 => .int
  | 51 => .int
  | _ => .array .int
abbrev wsX90 : List Cond := u_ws RX9 TX9 53
theorem nmX9 : ∀ a, a < 53 → ∀ b, b < 53 → a ≠ b → (TX9 a).2.1 ≠ (TX9 b).2.1 := by decide +kernel
theorem tyX9_ok : ∀ k, k < 53 → parseFieldDescriptor (TX9 k).2.2.1 = some (tyX9 k) := by decide +kernel
abbrev cX9_init : ByteArray := prog_11_method_1_code
def yX9_init : MethodName := ⟨RX9, "<init>", "()V"⟩
abbrev cX9_in : ByteArray := prog_11_method_3_code
def yX9_in : MethodName := ⟨RX9, "in", "(JJJ)Z"⟩
abbrev cX9_no : ByteArray := prog_11_method_4_code
def yX9_no : MethodName := ⟨RX9, "no", "(I)J"⟩
abbrev cX9_met : ByteArray := prog_11_method_5_code
def yX9_met : MethodName := ⟨RX9, "met", "(I)I"⟩
abbrev cX9_isSheet : ByteArray := prog_11_method_6_code
def yX9_isSheet : MethodName := ⟨RX9, "isSheet", "(I)Z"⟩
abbrev cX9_sheet : ByteArray := prog_11_method_7_code
def yX9_sheet : MethodName := ⟨RX9, "sheet", "(III)I"⟩
abbrev cX9_lose : ByteArray := prog_11_method_8_code
def yX9_lose : MethodName := ⟨RX9, "lose", "(I)I"⟩
abbrev cX9_lacks : ByteArray := prog_11_method_9_code
def yX9_lacks : MethodName := ⟨RX9, "lacks", "(III)I"⟩
abbrev cX9_cut : ByteArray := prog_11_method_10_code
def yX9_cut : MethodName := ⟨RX9, "cut", "(IJ)J"⟩
abbrev cX9_put : ByteArray := prog_11_method_11_code
def yX9_put : MethodName := ⟨RX9, "put", "(IIIJ)I"⟩
abbrev cX9_get : ByteArray := prog_11_method_12_code
def yX9_get : MethodName := ⟨RX9, "get", "(III)J"⟩
abbrev cX9_copy : ByteArray := prog_11_method_13_code
def yX9_copy : MethodName := ⟨RX9, "copy", "(IIIII)I"⟩
abbrev cX9_isWeek : ByteArray := prog_11_method_14_code
def yX9_isWeek : MethodName := ⟨RX9, "isWeek", "(J)Z"⟩
abbrev cX9_isTitle : ByteArray := prog_11_method_15_code
def yX9_isTitle : MethodName := ⟨RX9, "isTitle", "(I)Z"⟩
abbrev cX9_isThing : ByteArray := prog_11_method_16_code
def yX9_isThing : MethodName := ⟨RX9, "isThing", "(J)Z"⟩
abbrev cX9_isShop : ByteArray := prog_11_method_17_code
def yX9_isShop : MethodName := ⟨RX9, "isShop", "(J)Z"⟩
abbrev cX9_title : ByteArray := prog_11_method_18_code
def yX9_title : MethodName := ⟨RX9, "title", "(I)I"⟩
abbrev cX9_thing : ByteArray := prog_11_method_19_code
def yX9_thing : MethodName := ⟨RX9, "thing", "(III)I"⟩
abbrev cX9_shop : ByteArray := prog_11_method_20_code
def yX9_shop : MethodName := ⟨RX9, "shop", "(IIII)I"⟩
abbrev cX9_empty : ByteArray := prog_11_method_21_code
def yX9_empty : MethodName := ⟨RX9, "empty", "(III)I"⟩
abbrev cX9_coins : ByteArray := prog_11_method_22_code
def yX9_coins : MethodName := ⟨RX9, "coins", "(II)I"⟩
abbrev cX9_isSale : ByteArray := prog_11_method_23_code
def yX9_isSale : MethodName := ⟨RX9, "isSale", "(JJJJJJJ)Z"⟩
abbrev cX9_adds : ByteArray := prog_11_method_24_code
def yX9_adds : MethodName := ⟨RX9, "adds", "(IIIIIII)I"⟩
abbrev cX9_sale : ByteArray := prog_11_method_25_code
def yX9_sale : MethodName := ⟨RX9, "sale", "(IIIIIII)I"⟩
abbrev cX9_item : ByteArray := prog_11_method_26_code
def yX9_item : MethodName := ⟨RX9, "item", "(III)J"⟩
abbrev cX9_read : ByteArray := prog_11_method_27_code
def yX9_read : MethodName := ⟨RX9, "read", "(I)I"⟩
abbrev cX9_isKnown : ByteArray := prog_11_method_28_code
def yX9_isKnown : MethodName := ⟨RX9, "isKnown", "(I)Z"⟩
abbrev cX9_hasSale : ByteArray := prog_11_method_29_code
def yX9_hasSale : MethodName := ⟨RX9, "hasSale", "(I)Z"⟩
abbrev cX9_about : ByteArray := prog_11_method_30_code
def yX9_about : MethodName := ⟨RX9, "about", "(II)I"⟩
abbrev cX9_strike : ByteArray := prog_11_method_31_code
def yX9_strike : MethodName := ⟨RX9, "strike", "(II)I"⟩
abbrev cX9_back : ByteArray := prog_11_method_32_code
def yX9_back : MethodName := ⟨RX9, "back", "(I)I"⟩
abbrev cX9_asOf : ByteArray := prog_11_method_33_code
def yX9_asOf : MethodName := ⟨RX9, "asOf", "(I)I"⟩
abbrev cX9_isOpen : ByteArray := prog_11_method_34_code
def yX9_isOpen : MethodName := ⟨RX9, "isOpen", "(II)Z"⟩
abbrev cX9_speaks : ByteArray := prog_11_method_35_code
def yX9_speaks : MethodName := ⟨RX9, "speaks", "(II)Z"⟩
abbrev cX9_statusOf : ByteArray := prog_11_method_36_code
def yX9_statusOf : MethodName := ⟨RX9, "statusOf", "(II)I"⟩
abbrev cX9_tells : ByteArray := prog_11_method_37_code
def yX9_tells : MethodName := ⟨RX9, "tells", "(II)I"⟩
abbrev cX9_type : ByteArray := prog_11_method_38_code
def yX9_type : MethodName := ⟨RX9, "type", "(I)I"⟩
abbrev cX9_wipe : ByteArray := prog_11_method_39_code
def yX9_wipe : MethodName := ⟨RX9, "wipe", "()I"⟩
abbrev cX9_must : ByteArray := prog_11_method_40_code
def yX9_must : MethodName := ⟨RX9, "must", "(I)Z"⟩
abbrev cX9_number : ByteArray := prog_11_method_41_code
def yX9_number : MethodName := ⟨RX9, "number", "(III)I"⟩
abbrev cX9_itemOf : ByteArray := prog_11_method_42_code
def yX9_itemOf : MethodName := ⟨RX9, "itemOf", "(I)I"⟩
abbrev cX9_mostOf : ByteArray := prog_11_method_43_code
def yX9_mostOf : MethodName := ⟨RX9, "mostOf", "(I)I"⟩
abbrev cX9_readsPart : ByteArray := prog_11_method_44_code
def yX9_readsPart : MethodName := ⟨RX9, "readsPart", "()Z"⟩
abbrev cX9_reads : ByteArray := prog_11_method_45_code
def yX9_reads : MethodName := ⟨RX9, "reads", "()I"⟩
abbrev cX9_fault : ByteArray := prog_11_method_46_code
def yX9_fault : MethodName := ⟨RX9, "fault", "()I"⟩
abbrev cX9_partIn : ByteArray := prog_11_method_47_code
def yX9_partIn : MethodName := ⟨RX9, "partIn", "(II)I"⟩
abbrev cX9_says : ByteArray := prog_11_method_48_code
def yX9_says : MethodName := ⟨RX9, "says", "(II)I"⟩
abbrev cX9_isItem : ByteArray := prog_11_method_49_code
def yX9_isItem : MethodName := ⟨RX9, "isItem", "(I)Z"⟩
abbrev cX9_rule : ByteArray := prog_11_method_50_code
def yX9_rule : MethodName := ⟨RX9, "rule", "(II)I"⟩
abbrev cX9_why : ByteArray := prog_11_method_51_code
def yX9_why : MethodName := ⟨RX9, "why", "(II)I"⟩
abbrev cX9_counts : ByteArray := prog_11_method_52_code
def yX9_counts : MethodName := ⟨RX9, "counts", "(II)Z"⟩
abbrev cX9_findAmounts : ByteArray := prog_11_method_53_code
def yX9_findAmounts : MethodName := ⟨RX9, "findAmounts", "(II)V"⟩
abbrev cX9_findSums : ByteArray := prog_11_method_54_code
def yX9_findSums : MethodName := ⟨RX9, "findSums", "(II)V"⟩
abbrev cX9_sumOf : ByteArray := prog_11_method_55_code
def yX9_sumOf : MethodName := ⟨RX9, "sumOf", "(I)J"⟩
abbrev cX9_amount : ByteArray := prog_11_method_56_code
def yX9_amount : MethodName := ⟨RX9, "amount", "(IIII)J"⟩
abbrev cX9_sum : ByteArray := prog_11_method_57_code
def yX9_sum : MethodName := ⟨RX9, "sum", "(IIII)J"⟩
abbrev cX9_sure : ByteArray := prog_11_method_58_code
def yX9_sure : MethodName := ⟨RX9, "sure", "(II)I"⟩
abbrev cX9_ahead : ByteArray := prog_11_method_59_code
def yX9_ahead : MethodName := ⟨RX9, "ahead", "(III)Z"⟩
abbrev cX9_findList : ByteArray := prog_11_method_60_code
def yX9_findList : MethodName := ⟨RX9, "findList", "(II)V"⟩
abbrev cX9_place : ByteArray := prog_11_method_61_code
def yX9_place : MethodName := ⟨RX9, "place", "(III)I"⟩
abbrev cX9_line : ByteArray := prog_11_method_62_code
def yX9_line : MethodName := ⟨RX9, "line", "(III)I"⟩
abbrev cX9_span : ByteArray := prog_11_method_63_code
def yX9_span : MethodName := ⟨RX9, "span", "(III)J"⟩
abbrev cX9_firm : ByteArray := prog_11_method_64_code
def yX9_firm : MethodName := ⟨RX9, "firm", "(I)I"⟩
abbrev cX9_ones : ByteArray := prog_11_method_65_code
def yX9_ones : MethodName := ⟨RX9, "ones", "(I)I"⟩
abbrev cX9_hoursOf : ByteArray := prog_11_method_66_code
def yX9_hoursOf : MethodName := ⟨RX9, "hoursOf", "(II)I"⟩
abbrev cX9_ways : ByteArray := prog_11_method_67_code
def yX9_ways : MethodName := ⟨RX9, "ways", "(II)J"⟩
abbrev cX9_chanceOf : ByteArray := prog_11_method_68_code
def yX9_chanceOf : MethodName := ⟨RX9, "chanceOf", "(III)I"⟩
abbrev cX9_alike : ByteArray := prog_11_method_69_code
def yX9_alike : MethodName := ⟨RX9, "alike", "(IIII)I"⟩
abbrev cX9_odd : ByteArray := prog_11_method_70_code
def yX9_odd : MethodName := ⟨RX9, "odd", "(I)I"⟩
abbrev cX9_isGiven : ByteArray := prog_11_method_71_code
def yX9_isGiven : MethodName := ⟨RX9, "isGiven", "(II)Z"⟩
abbrev cX9_isNever : ByteArray := prog_11_method_72_code
def yX9_isNever : MethodName := ⟨RX9, "isNever", "(I)Z"⟩
abbrev cX9_findDoubts : ByteArray := prog_11_method_73_code
def yX9_findDoubts : MethodName := ⟨RX9, "findDoubts", "(I)Z"⟩
abbrev cX9_cannot : ByteArray := prog_11_method_74_code
def yX9_cannot : MethodName := ⟨RX9, "cannot", "(I)I"⟩
abbrev cX9_doubted : ByteArray := prog_11_method_75_code
def yX9_doubted : MethodName := ⟨RX9, "doubted", "(I)I"⟩
abbrev cX9_moves : ByteArray := prog_11_method_76_code
def yX9_moves : MethodName := ⟨RX9, "moves", "(I)J"⟩
abbrev cX9_worthOf : ByteArray := prog_11_method_77_code
def yX9_worthOf : MethodName := ⟨RX9, "worthOf", "(I)J"⟩
abbrev cX9_worth : ByteArray := prog_11_method_78_code
def yX9_worth : MethodName := ⟨RX9, "worth", "(II)J"⟩
abbrev cX9_ask : ByteArray := prog_11_method_79_code
def yX9_ask : MethodName := ⟨RX9, "ask", "(II)I"⟩
abbrev cX9_write : ByteArray := prog_11_method_80_code
def yX9_write : MethodName := ⟨RX9, "write", "(II)I"⟩
abbrev cX9_count : ByteArray := prog_11_method_81_code
def yX9_count : MethodName := ⟨RX9, "count", "(I)I"⟩
abbrev cX9_digest : ByteArray := prog_11_method_82_code
def yX9_digest : MethodName := ⟨RX9, "digest", "()J"⟩
def RJ6 : String := "java/lang/Integer"
def TJ6 : u_T := fun k => match k with
  | _ => ("", "", "", false)
def tyJ6 : Nat → FieldType := fun k => match k with
  | _ => .int
abbrev wsJ60 : List Cond := u_ws RJ6 TJ6 0
theorem nmJ6 : ∀ a, a < 0 → ∀ b, b < 0 → a ≠ b → (TJ6 a).2.1 ≠ (TJ6 b).2.1 := by decide +kernel
theorem tyJ6_ok : ∀ k, k < 0 → parseFieldDescriptor (TJ6 k).2.2.1 = some (tyJ6 k) := by decide +kernel
abbrev cJ6_bitCount_0f7a4 : ByteArray := prog_12_method_49_code
def yJ6_bitCount_0f7a4 : MethodName := ⟨RJ6, "bitCount", "(I)I"⟩
def RJ9 : String := "java/lang/Math"
def TJ9 : u_T := fun k => match k with
  | _ => ("", "", "", false)
def tyJ9 : Nat → FieldType := fun k => match k with
  | _ => .int
abbrev wsJ90 : List Cond := u_ws RJ9 TJ9 0
theorem nmJ9 : ∀ a, a < 0 → ∀ b, b < 0 → a ≠ b → (TJ9 a).2.1 ≠ (TJ9 b).2.1 := by decide +kernel
theorem tyJ9_ok : ∀ k, k < 0 → parseFieldDescriptor (TJ9 k).2.2.1 = some (tyJ9 k) := by decide +kernel
abbrev cJ9_max_f86c9 : ByteArray := prog_13_method_66_code
def yJ9_max_f86c9 : MethodName := ⟨RJ9, "max", "(JJ)J"⟩
abbrev cJ9_min_7cf53 : ByteArray := prog_13_method_69_code
def yJ9_min_7cf53 : MethodName := ⟨RJ9, "min", "(II)I"⟩
abbrev cJ9_min_f86c9 : ByteArray := prog_13_method_70_code
def yJ9_min_f86c9 : MethodName := ⟨RJ9, "min", "(JJ)J"⟩
def RJ10 : String := "java/lang/System"
def TJ10 : u_T := fun k => match k with
  | _ => ("", "", "", false)
def tyJ10 : Nat → FieldType := fun k => match k with
  | _ => .int
abbrev wsJ100 : List Cond := u_ws RJ10 TJ10 0
theorem nmJ10 : ∀ a, a < 0 → ∀ b, b < 0 → a ≠ b → (TJ10 a).2.1 ≠ (TJ10 b).2.1 := by decide +kernel
theorem tyJ10_ok : ∀ k, k < 0 → parseFieldDescriptor (TJ10 k).2.2.1 = some (tyJ10 k) := by decide +kernel
def RL : String := "MostSoldLaw"
abbrev cL_law : ByteArray := code
def yL_law : MethodName := ⟨RL, "law", "([I)Z"⟩
abbrev vwCl : List vw_C := [(RX0, TX0, 8), (RX1, TX1, 5), (RX2, TX2, 4), (RX3, TX3, 11), (RX4, TX4, 11), (RX5, TX5, 4), (RX6, TX6, 13), (RX7, TX7, 14), (RX8, TX8, 9), (RX9, TX9, 53)]
set_option maxRecDepth 20000 in
theorem inX0 : ∀ w ∈ wsX00, w ∈ lw_tbl := fun w h => (goodIn_p wsX00 [] (by decide +kernel) (by decide +kernel) w h).1
set_option maxRecDepth 20000 in
theorem inX1 : ∀ w ∈ wsX10, w ∈ lw_tbl := fun w h => (goodIn_p wsX10 [] (by decide +kernel) (by decide +kernel) w h).1
set_option maxRecDepth 20000 in
theorem inX2 : ∀ w ∈ wsX20, w ∈ lw_tbl := fun w h => (goodIn_p wsX20 [] (by decide +kernel) (by decide +kernel) w h).1
set_option maxRecDepth 20000 in
theorem inX3 : ∀ w ∈ wsX30, w ∈ lw_tbl := fun w h => (goodIn_p wsX30 [] (by decide +kernel) (by decide +kernel) w h).1
set_option maxRecDepth 20000 in
theorem inX4 : ∀ w ∈ wsX40, w ∈ lw_tbl := fun w h => (goodIn_p wsX40 [] (by decide +kernel) (by decide +kernel) w h).1
set_option maxRecDepth 20000 in
theorem inX5 : ∀ w ∈ wsX50, w ∈ lw_tbl := fun w h => (goodIn_p wsX50 [] (by decide +kernel) (by decide +kernel) w h).1
set_option maxRecDepth 20000 in
theorem inX6 : ∀ w ∈ wsX60, w ∈ lw_tbl := fun w h => (goodIn_p wsX60 [] (by decide +kernel) (by decide +kernel) w h).1
set_option maxRecDepth 20000 in
theorem inX7 : ∀ w ∈ wsX70, w ∈ lw_tbl := fun w h => (goodIn_p wsX70 [] (by decide +kernel) (by decide +kernel) w h).1
set_option maxRecDepth 20000 in
theorem inX8 : ∀ w ∈ wsX80, w ∈ lw_tbl := fun w h => (goodIn_p wsX80 [] (by decide +kernel) (by decide +kernel) w h).1
set_option maxRecDepth 20000 in
theorem inX9 : ∀ w ∈ wsX90, w ∈ lw_tbl := fun w h => (goodIn_p wsX90 [] (by decide +kernel) (by decide +kernel) w h).1
end
section
/-- what a world is told by: where classes and their fields stand, where each cell stands, the classes of int[], long[], long[][] -/
abbrev XW : Type := va_G × (Nat → Nat) × ClassId × ClassId × ClassId
/-- what the cells hold: cell, place -/
abbrev XM : Type := Nat → Int → Int
/-- what the locals hold -/
abbrev XL : Type := Nat → Int
def xaI (ω : XW) (n : Nat) (f : Int → Int) : va_E := .inl (ω.2.2.1, n, .inl (fun i => Int32.ofInt (f (i : Int))))
def xaJ (ω : XW) (n : Nat) (f : Int → Int) : va_E := .inl (ω.2.2.2.1, n, .inr (.inl (fun i => Int64.ofInt (f (i : Int)))))
def xaQ (ω : XW) (n k : Nat) : va_E := .inl (ω.2.2.2.2, n, .inr (.inr (.inr (.inr (fun i => if i < n then some (ω.2.1 (k + i)) else none)))))
def xcell (ω : XW) (k : Nat) (f : Int → Int) : va_E := match k with
  | 0 => .inr (8, [.ref (ω.2.1 2), .ref (ω.2.1 13), .ref (ω.2.1 22), .ref (ω.2.1 29), .ref (ω.2.1 39), .ref (ω.2.1 67), .ref (ω.2.1 69), .ref (ω.2.1 73), .ref (ω.2.1 1)])
  | 1 => xaI ω 12 f
  | 2 => .inr (7, [.int (Int32.ofInt (f 0)), .ref (ω.2.1 3), .int (Int32.ofInt (f 2)), .ref (ω.2.1 4), .ref (ω.2.1 5), .ref (ω.2.1 6), .int (Int32.ofInt (f 6)), .ref (ω.2.1 7), .ref (ω.2.1 8), .ref (ω.2.1 9), .ref (ω.2.1 10), .ref (ω.2.1 11), .int (Int32.ofInt (f 12)), .ref (ω.2.1 12)])
  | 3 => xaI ω 12 f
  | 4 => xaI ω 24 f
  | 5 => xaI ω 24 f
  | 6 => xaI ω 24 f
  | 7 => xaI ω 16 f
  | 8 => xaI ω 16 f
  | 9 => xaI ω 16 f
  | 10 => xaI ω 16 f
  | 11 => xaI ω 16 f
  | 12 => xaI ω 832 f
  | 13 => .inr (3, [.int (Int32.ofInt (f 0)), .int (Int32.ofInt (f 1)), .int (Int32.ofInt (f 2)), .ref (ω.2.1 14), .ref (ω.2.1 15), .ref (ω.2.1 16), .ref (ω.2.1 17), .ref (ω.2.1 18), .ref (ω.2.1 19), .ref (ω.2.1 20), .ref (ω.2.1 21)])
  | 14 => xaI ω 150 f
  | 15 => xaI ω 150 f
  | 16 => xaI ω 150 f
  | 17 => xaI ω 150 f
  | 18 => xaI ω 150 f
  | 19 => xaI ω 150 f
  | 20 => xaI ω 150 f
  | 21 => xaI ω 150 f
  | 22 => .inr (4, [.ref (ω.2.1 23), .int (Int32.ofInt (f 1)), .int (Int32.ofInt (f 2)), .ref (ω.2.1 24), .ref (ω.2.1 25), .ref (ω.2.1 26), .ref (ω.2.1 27), .ref (ω.2.1 28), .int (Int32.ofInt (f 8)), .int (Int32.ofInt (f 9)), .int (Int32.ofInt (f 10))])
  | 23 => xaI ω 200 f
  | 24 => xaI ω 15 f
  | 25 => xaI ω 15 f
  | 26 => xaI ω 50 f
  | 27 => xaI ω 50 f
  | 28 => xaI ω 50 f
  | 29 => .inr (6, [.ref (ω.2.1 2), .ref (ω.2.1 13), .ref (ω.2.1 22), .ref (ω.2.1 30), .ref (ω.2.1 31), .ref (ω.2.1 32), .ref (ω.2.1 33), .ref (ω.2.1 34), .ref (ω.2.1 35), .ref (ω.2.1 36), .ref (ω.2.1 37), .int (Int32.ofInt (f 11)), .ref (ω.2.1 38)])
  | 30 => xaI ω 384 f
  | 31 => xaI ω 384 f
  | 32 => xaI ω 16 f
  | 33 => xaJ ω 48 f
  | 34 => xaI ω 4 f
  | 35 => xaI ω 4 f
  | 36 => xaJ ω 12 f
  | 37 => xaI ω 12 f
  | 38 => xaI ω 12 f
  | 39 => .inr (2, [.ref (ω.2.1 13), .ref (ω.2.1 22), .ref (ω.2.1 40), .ref (ω.2.1 41)])
  | 40 => xaI ω 16 f
  | 41 => xaQ ω 25 42
  | 42 => xaJ ω 25 f
  | 43 => xaJ ω 25 f
  | 44 => xaJ ω 25 f
  | 45 => xaJ ω 25 f
  | 46 => xaJ ω 25 f
  | 47 => xaJ ω 25 f
  | 48 => xaJ ω 25 f
  | 49 => xaJ ω 25 f
  | 50 => xaJ ω 25 f
  | 51 => xaJ ω 25 f
  | 52 => xaJ ω 25 f
  | 53 => xaJ ω 25 f
  | 54 => xaJ ω 25 f
  | 55 => xaJ ω 25 f
  | 56 => xaJ ω 25 f
  | 57 => xaJ ω 25 f
  | 58 => xaJ ω 25 f
  | 59 => xaJ ω 25 f
  | 60 => xaJ ω 25 f
  | 61 => xaJ ω 25 f
  | 62 => xaJ ω 25 f
  | 63 => xaJ ω 25 f
  | 64 => xaJ ω 25 f
  | 65 => xaJ ω 25 f
  | 66 => xaJ ω 25 f
  | 67 => .inr (0, [.ref (ω.2.1 2), .ref (ω.2.1 13), .ref (ω.2.1 68), .int (Int32.ofInt (f 3)), .int (Int32.ofInt (f 4)), .int (Int32.ofInt (f 5)), .int (Int32.ofInt (f 6)), .int (Int32.ofInt (f 7))])
  | 68 => xaI ω 12 f
  | 69 => .inr (1, [.ref (ω.2.1 70), .ref (ω.2.1 71), .ref (ω.2.1 72), .int (Int32.ofInt (f 3)), .int (Int32.ofInt (f 4))])
  | 70 => xaI ω 16 f
  | 71 => xaJ ω 16 f
  | 72 => xaI ω 16 f
  | 73 => .inr (5, [.ref (ω.2.1 74), .ref (ω.2.1 79), .ref (ω.2.1 80), .int (Int32.ofInt (f 3))])
  | 74 => xaQ ω 4 75
  | 75 => xaJ ω 120 f
  | 76 => xaJ ω 120 f
  | 77 => xaJ ω 120 f
  | 78 => xaJ ω 120 f
  | 79 => xaI ω 4 f
  | 80 => xaI ω 4 f
  | 81 => .inr (9, [.ref (ω.2.1 82), .ref (ω.2.1 83), .ref (ω.2.1 84), .ref (ω.2.1 85), .int (Int32.ofInt (f 4)), .int (Int32.ofInt (f 5)), .ref (ω.2.1 86), .int (Int32.ofInt (f 7)), .ref (ω.2.1 87), .ref (ω.2.1 88), .ref (ω.2.1 89), .int (Int32.ofInt (f 11)), .ref (ω.2.1 90), .ref (ω.2.1 91), .ref (ω.2.1 92), .ref (ω.2.1 93), .ref (ω.2.1 94), .ref (ω.2.1 95), .int (Int32.ofInt (f 18)), .int (Int32.ofInt (f 19)), .ref (ω.2.1 96), .ref (ω.2.1 97), .ref (ω.2.1 98), .ref (ω.2.1 99), .ref (ω.2.1 100), .ref (ω.2.1 101), .ref (ω.2.1 102), .ref (ω.2.1 103), .int (Int32.ofInt (f 28)), .int (Int32.ofInt (f 29)), .ref (ω.2.1 104), .int (Int32.ofInt (f 31)), .int (Int32.ofInt (f 32)), .int (Int32.ofInt (f 33)), .ref (ω.2.1 105), .ref (ω.2.1 106), .ref (ω.2.1 107), .ref (ω.2.1 108), .ref (ω.2.1 109), .ref (ω.2.1 110), .ref (ω.2.1 111), .ref (ω.2.1 112), .ref (ω.2.1 113), .ref (ω.2.1 114), .ref (ω.2.1 115), .int (Int32.ofInt (f 45)), .ref (ω.2.1 116), .ref (ω.2.1 117), .int (Int32.ofInt (f 48)), .ref (ω.2.1 118), .int (Int32.ofInt (f 50)), .int (Int32.ofInt (f 51)), .ref (ω.2.1 119)])
  | 82 => xaI ω 4 f
  | 83 => xaI ω 4 f
  | 84 => xaJ ω 480 f
  | 85 => xaJ ω 120 f
  | 86 => xaI ω 12 f
  | 87 => xaI ω 24 f
  | 88 => xaI ω 24 f
  | 89 => xaI ω 24 f
  | 90 => xaI ω 16 f
  | 91 => xaI ω 16 f
  | 92 => xaI ω 16 f
  | 93 => xaI ω 16 f
  | 94 => xaI ω 16 f
  | 95 => xaI ω 832 f
  | 96 => xaI ω 150 f
  | 97 => xaI ω 150 f
  | 98 => xaI ω 150 f
  | 99 => xaI ω 150 f
  | 100 => xaI ω 150 f
  | 101 => xaI ω 150 f
  | 102 => xaI ω 150 f
  | 103 => xaI ω 150 f
  | 104 => xaI ω 200 f
  | 105 => xaI ω 70 f
  | 106 => xaI ω 70 f
  | 107 => xaI ω 70 f
  | 108 => xaJ ω 384 f
  | 109 => xaJ ω 384 f
  | 110 => xaI ω 4 f
  | 111 => xaI ω 4 f
  | 112 => xaI ω 16 f
  | 113 => xaJ ω 12 f
  | 114 => xaJ ω 12 f
  | 115 => xaJ ω 48 f
  | 116 => xaI ω 12 f
  | 117 => xaI ω 12 f
  | 118 => xaI ω 150 f
  | 119 => xaI ω 12 f
  | _ => .inr (0, [])
/-- the cells that hold longs -/
def xlong (k : Nat) : Bool := match k with
  | 33 => true
  | 36 => true
  | 42 => true
  | 43 => true
  | 44 => true
  | 45 => true
  | 46 => true
  | 47 => true
  | 48 => true
  | 49 => true
  | 50 => true
  | 51 => true
  | 52 => true
  | 53 => true
  | 54 => true
  | 55 => true
  | 56 => true
  | 57 => true
  | 58 => true
  | 59 => true
  | 60 => true
  | 61 => true
  | 62 => true
  | 63 => true
  | 64 => true
  | 65 => true
  | 66 => true
  | 71 => true
  | 75 => true
  | 76 => true
  | 77 => true
  | 78 => true
  | 84 => true
  | 85 => true
  | 108 => true
  | 109 => true
  | 113 => true
  | 114 => true
  | 115 => true
  | _ => false
def xN : Nat := 120
def xNest : List Cond := [.methodLinkNest RX7 46 yX8_within "MostSold", .methodLinkNest RX3 46 yX8_within "MostSold", .methodLinkNest RX5 25 yX8_within "MostSold", .methodLinkNest RX4 65 yX8_within "MostSold", .methodLinkNest RX4 78 yX8_isWeek "MostSold"]
theorem xrowS (ω : XW) (k : Nat) (h1 : 75 ≤ k) (h2 : k < 79) (f : Int → Int) : xcell ω k f = xaJ ω 120 f ∧ xlong k = true := by
  have h : k = 75 ∨ k = 76 ∨ k = 77 ∨ k = 78 := by omega
  rcases h with rfl | rfl | rfl | rfl <;> exact ⟨rfl, rfl⟩
theorem xrowW (ω : XW) (k : Nat) (h1 : 42 ≤ k) (h2 : k < 67) (f : Int → Int) : xcell ω k f = xaJ ω 25 f ∧ xlong k = true := by
  have h : k = 42 ∨ k = 43 ∨ k = 44 ∨ k = 45 ∨ k = 46 ∨ k = 47 ∨ k = 48 ∨ k = 49 ∨ k = 50 ∨ k = 51 ∨ k = 52 ∨ k = 53 ∨ k = 54 ∨ k = 55 ∨ k = 56 ∨ k = 57 ∨ k = 58 ∨ k = 59 ∨ k = 60 ∨ k = 61 ∨ k = 62 ∨ k = 63 ∨ k = 64 ∨ k = 65 ∨ k = 66 := by omega
  rcases h with rfl | rfl | rfl | rfl | rfl | rfl | rfl | rfl | rfl | rfl | rfl | rfl | rfl | rfl | rfl | rfl | rfl | rfl | rfl | rfl | rfl | rfl | rfl | rfl | rfl <;> exact ⟨rfl, rfl⟩
/-! ===== numbers: ints and longs as whole numbers, cut to their width ===== -/
def x32 (x : Int) : Int := (x + 2147483648) % 4294967296 - 2147483648
def x64 (x : Int) : Int := (x + 9223372036854775808) % 18446744073709551616 - 9223372036854775808
def r32 (x : Int) : Prop := -2147483648 ≤ x ∧ x < 2147483648
def r64 (x : Int) : Prop := -9223372036854775808 ≤ x ∧ x < 9223372036854775808
theorem x32_r (x : Int) : r32 (x32 x) := by unfold r32 x32; omega
theorem x64_r (x : Int) : r64 (x64 x) := by unfold r64 x64; omega
theorem x32_id {x : Int} (h : r32 x) : x32 x = x := by unfold r32 at h; unfold x32; omega
theorem x64_id {x : Int} (h : r64 x) : x64 x = x := by unfold r64 at h; unfold x64; omega
theorem r32_64 {x : Int} (h : r32 x) : r64 x := by unfold r32 at h; unfold r64; omega
theorem xt32 (x : Int) : (Int32.ofInt x).toInt = x32 x := by
  rw [Int32.toInt_ofInt, show Int32.size = 4294967296 from rfl, Int.bmod_def]
  unfold x32
  split <;> rename_i h <;> simp at h ⊢ <;> omega
theorem xt64 (x : Int) : (Int64.ofInt x).toInt = x64 x := by
  rw [Int64.toInt_ofInt, show Int64.size = 18446744073709551616 from rfl, Int.bmod_def]
  unfold x64
  split <;> rename_i h <;> simp at h ⊢ <;> omega
theorem xt32i {x : Int} (h : r32 x) : (Int32.ofInt x).toInt = x := by rw [xt32, x32_id h]
theorem xt64i {x : Int} (h : r64 x) : (Int64.ofInt x).toInt = x := by rw [xt64, x64_id h]
theorem xo32 (x : Int) : Int32.ofInt (x32 x) = Int32.ofInt x := Int32.toInt.inj (by rw [xt32, xt32, x32_id (x32_r x)])
theorem xo64 (x : Int) : Int64.ofInt (x64 x) = Int64.ofInt x := Int64.toInt.inj (by rw [xt64, xt64, x64_id (x64_r x)])
theorem xr32 (x : Int32) : r32 x.toInt := ⟨by have := x.le_toInt; simpa using this, by have := x.toInt_lt; simpa using this⟩
theorem xr64 (x : Int64) : r64 x.toInt := ⟨by have := x.le_toInt; simpa using this, by have := x.toInt_lt; simpa using this⟩
theorem xlt32 {x y : Int} (hx : r32 x) (hy : r32 y) : Int32.ofInt x < Int32.ofInt y ↔ x < y := by rw [Int32.lt_iff_toInt_lt, xt32i hx, xt32i hy]
theorem xle32 {x y : Int} (hx : r32 x) (hy : r32 y) : Int32.ofInt x ≤ Int32.ofInt y ↔ x ≤ y := by rw [Int32.le_iff_toInt_le, xt32i hx, xt32i hy]
theorem xeq32 {x y : Int} (hx : r32 x) (hy : r32 y) : Int32.ofInt x = Int32.ofInt y ↔ x = y := by rw [← Int32.toInt_inj, xt32i hx, xt32i hy]
theorem xlt64 {x y : Int} (hx : r64 x) (hy : r64 y) : Int64.ofInt x < Int64.ofInt y ↔ x < y := by rw [Int64.lt_iff_toInt_lt, xt64i hx, xt64i hy]
theorem xeq64 {x y : Int} (hx : r64 x) (hy : r64 y) : Int64.ofInt x = Int64.ofInt y ↔ x = y := by rw [← Int64.toInt_inj, xt64i hx, xt64i hy]
theorem xz32 : r32 0 := by unfold r32; omega
theorem xz64 : r64 0 := by unfold r64; omega
def iAdd (x y : Int) : Int := x32 (x + y)
def iSub (x y : Int) : Int := x32 (x - y)
def iMul (x y : Int) : Int := x32 (x * y)
def iNeg (x : Int) : Int := x32 (-x)
def iDiv (x y : Int) : Int := x32 (x.tdiv y)
def iRem (x y : Int) : Int := x32 (x - x.tdiv y * y)
def iAnd (x y : Int) : Int := (Int32.ofInt x &&& Int32.ofInt y).toInt
def iOr (x y : Int) : Int := (Int32.ofInt x ||| Int32.ofInt y).toInt
def iXor (x y : Int) : Int := (Int32.ofInt x ^^^ Int32.ofInt y).toInt
def iShl (x y : Int) : Int := (Int32.ofInt x <<< (Int32.ofInt y &&& 31)).toInt
def iShr (x y : Int) : Int := (Int32.ofInt x >>> (Int32.ofInt y &&& 31)).toInt
def iUshr (x y : Int) : Int := ((Int32.ofInt x).toUInt32 >>> ((Int32.ofInt y).toUInt32 &&& Int32.toUInt32 31)).toInt32.toInt
def i2b (x : Int) : Int := (Int32.ofInt x).toInt8.toInt32.toInt
def i2s (x : Int) : Int := (Int32.ofInt x).toInt16.toInt32.toInt
def i2l (x : Int) : Int := x
def l2i (x : Int) : Int := x32 x
def lAdd (x y : Int) : Int := x64 (x + y)
def lSub (x y : Int) : Int := x64 (x - y)
def lMul (x y : Int) : Int := x64 (x * y)
def lNeg (x : Int) : Int := x64 (-x)
def lDiv (x y : Int) : Int := x64 (x.tdiv y)
def lAnd (x y : Int) : Int := (Int64.ofInt x &&& Int64.ofInt y).toInt
def lOr (x y : Int) : Int := (Int64.ofInt x ||| Int64.ofInt y).toInt
def lShl (x y : Int) : Int := (Int64.ofInt x <<< ((Int32.ofInt y).toInt64 &&& 63)).toInt
theorem oAdd (x y : Int) : Int32.ofInt (iAdd x y) = Int32.ofInt x + Int32.ofInt y := by unfold iAdd; rw [xo32, Int32.ofInt_add]
theorem oSub (x y : Int) : Int32.ofInt (iSub x y) = Int32.ofInt x - Int32.ofInt y := by unfold iSub; rw [xo32, Int32.ofInt_sub]
theorem oMul (x y : Int) : Int32.ofInt (iMul x y) = Int32.ofInt x * Int32.ofInt y := by unfold iMul; rw [xo32, Int32.ofInt_mul]
theorem oNeg (x : Int) : Int32.ofInt (iNeg x) = -Int32.ofInt x := by unfold iNeg; rw [xo32, Int32.ofInt_neg]
theorem oDiv {x y : Int} (hx : r32 x) (hy : r32 y) : Int32.ofInt (iDiv x y) = Int32.ofInt x / Int32.ofInt y := by
  refine Int32.toInt.inj ?_
  unfold iDiv
  rw [Int32.toInt_div, xt32i hx, xt32i hy, xo32, Int32.toInt_ofInt]
theorem oRem {x y : Int} (hx : r32 x) (hy : r32 y) : Int32.ofInt (iRem x y) = Int32.ofInt x - Int32.ofInt x / Int32.ofInt y * Int32.ofInt y := by
  rw [← oDiv hx hy]
  unfold iRem iDiv
  rw [xo32, xo32, Int32.ofInt_sub, Int32.ofInt_mul]
theorem oAnd (x y : Int) : Int32.ofInt (iAnd x y) = Int32.ofInt x &&& Int32.ofInt y := Int32.ofInt_toInt _
theorem oOr (x y : Int) : Int32.ofInt (iOr x y) = Int32.ofInt x ||| Int32.ofInt y := Int32.ofInt_toInt _
theorem oXor (x y : Int) : Int32.ofInt (iXor x y) = Int32.ofInt x ^^^ Int32.ofInt y := Int32.ofInt_toInt _
theorem oShl (x y : Int) : Int32.ofInt (iShl x y) = Int32.ofInt x <<< (Int32.ofInt y &&& 31) := Int32.ofInt_toInt _
theorem oShr (x y : Int) : Int32.ofInt (iShr x y) = Int32.ofInt x >>> (Int32.ofInt y &&& 31) := Int32.ofInt_toInt _
theorem oUshr (x y : Int) : Int32.ofInt (iUshr x y) = ((Int32.ofInt x).toUInt32 >>> ((Int32.ofInt y).toUInt32 &&& Int32.toUInt32 31)).toInt32 := Int32.ofInt_toInt _
theorem o2b (x : Int) : Int32.ofInt (i2b x) = (Int32.ofInt x).toInt8.toInt32 := Int32.ofInt_toInt _
theorem o2s (x : Int) : Int32.ofInt (i2s x) = (Int32.ofInt x).toInt16.toInt32 := Int32.ofInt_toInt _
theorem o2l {x : Int} (hx : r32 x) : Int64.ofInt (i2l x) = (Int32.ofInt x).toInt64 := by
  refine Int64.toInt.inj ?_
  unfold i2l
  rw [Int32.toInt_toInt64, xt32i hx, xt64i (r32_64 hx)]
theorem oL2i {x : Int} (hx : r64 x) : Int32.ofInt (l2i x) = (Int64.ofInt x).toInt32 := by
  unfold l2i
  rw [xo32, ← Int32.ofInt_int64ToInt, xt64i hx]
theorem oLAdd (x y : Int) : Int64.ofInt (lAdd x y) = Int64.ofInt x + Int64.ofInt y := by unfold lAdd; rw [xo64, Int64.ofInt_add]
theorem oLSub (x y : Int) : Int64.ofInt (lSub x y) = Int64.ofInt x - Int64.ofInt y := by unfold lSub; rw [xo64, Int64.ofInt_sub]
theorem oLMul (x y : Int) : Int64.ofInt (lMul x y) = Int64.ofInt x * Int64.ofInt y := by unfold lMul; rw [xo64, Int64.ofInt_mul]
theorem oLNeg (x : Int) : Int64.ofInt (lNeg x) = -Int64.ofInt x := by unfold lNeg; rw [xo64, Int64.ofInt_neg]
theorem oLDiv {x y : Int} (hx : r64 x) (hy : r64 y) : Int64.ofInt (lDiv x y) = Int64.ofInt x / Int64.ofInt y := by
  refine Int64.toInt.inj ?_
  unfold lDiv
  rw [Int64.toInt_div, xt64i hx, xt64i hy, xo64, Int64.toInt_ofInt]
theorem oLAnd (x y : Int) : Int64.ofInt (lAnd x y) = Int64.ofInt x &&& Int64.ofInt y := Int64.ofInt_toInt _
theorem oLOr (x y : Int) : Int64.ofInt (lOr x y) = Int64.ofInt x ||| Int64.ofInt y := Int64.ofInt_toInt _
theorem oLShl (x y : Int) : Int64.ofInt (lShl x y) = Int64.ofInt x <<< ((Int32.ofInt y).toInt64 &&& 63) := Int64.ofInt_toInt _
/-! ===== the world's cells by their numbers ===== -/
def xworld (ω : XW) (M : XM) : va_W := (List.range xN).map (fun k => (ω.2.1 k, xcell ω k (M k)))
def st (M : XM) (k : Nat) (j v : Int) : XM := fun a => if a = k then (fun b => if b = j then v else M k b) else M a
def sl (L : XL) (i : Nat) (v : Int) : XL := fun a => if a = i then v else L a
def xA (ω : XW) : Nat → Prop := fun q => ∃ k, k < xN ∧ q = ω.2.1 k
theorem xworld_get (ω : XW) (M : XM) {k : Nat} (h : k < xN) : (xworld ω M)[k]? = some (ω.2.1 k, xcell ω k (M k)) := by
  unfold xworld
  rw [List.getElem?_map, List.getElem?_range h]
  rfl
theorem xworld_at (ω : XW) (M : XM) {k : Nat} {q : Nat × va_E} (h : (xworld ω M)[k]? = some q) : k < xN ∧ q = (ω.2.1 k, xcell ω k (M k)) := by
  have hl := (List.getElem?_eq_some_iff.mp h).1
  have hk : k < xN := by simpa [xworld] using hl
  rw [xworld_get ω M hk] at h
  exact ⟨hk, (Option.some.inj h).symm⟩
theorem xworld_set (ω : XW) (M M' : XM) {k : Nat} {e : va_E} (h : k < xN) (he : e = xcell ω k (M' k)) (ho : ∀ a, a ≠ k → M' a = M a) : (xworld ω M).set k (ω.2.1 k, e) = xworld ω M' := by
  subst he
  refine List.ext_getElem? fun i => ?_
  by_cases hi : i = k
  · subst hi
    rw [List.getElem?_set_self (by simpa [xworld] using h), xworld_get ω M' h]
  · rw [List.getElem?_set_ne (Ne.symm hi)]
    by_cases h2 : i < xN
    · rw [xworld_get ω M h2, xworld_get ω M' h2, ho i hi]
    · rw [List.getElem?_eq_none (by simpa [xworld] using h2), List.getElem?_eq_none (by simpa [xworld] using h2)]
def xInj (ω : XW) : Prop := ∀ i j, i < xN → j < xN → ω.2.1 i = ω.2.1 j → i = j
theorem xworld_D {ω : XW} (h : xInj ω) (M : XM) : va_D (xA ω) (xworld ω M) := by
  refine ⟨fun i j p q hp hq e => ?_, fun k q hq => ?_⟩
  · obtain ⟨h1, rfl⟩ := xworld_at ω M hp
    obtain ⟨h2, rfl⟩ := xworld_at ω M hq
    exact h i j h1 h2 e
  · obtain ⟨h1, rfl⟩ := xworld_at ω M hq
    exact ⟨k, h1, rfl⟩
theorem st_self (M : XM) (k : Nat) (j v : Int) : st M k j v k = fun b => if b = j then v else M k b := by
  unfold st; rw [if_pos rfl]
theorem st_ne (M : XM) {k a : Nat} (j v : Int) (h : a ≠ k) : st M k j v a = M a := by
  unfold st; rw [if_neg h]
/-! ===== values: 0 int, 1 long, 2 a row of the sheets, 3 a row of the ways, k + 4 the cell k ===== -/
def x_val (ω : XW) (κ : Nat) (z : Int) : Value := match κ with
  | 0 => .int (Int32.ofInt z)
  | 1 => .long (Int64.ofInt z)
  | 2 => .ref (ω.2.1 z.toNat)
  | 3 => .ref (ω.2.1 z.toNat)
  | k + 4 => .ref (ω.2.1 k)
def x_wf (κ : Nat) (z : Int) : Prop := match κ with
  | 0 => r32 z
  | 1 => r64 z
  | 2 => 75 ≤ z ∧ z < 79
  | 3 => 42 ≤ z ∧ z < 67
  | _ => True
def x_cat (κ : Nat) : Nat := if κ = 1 then 2 else 1
theorem x_val_cat (ω : XW) (κ : Nat) (z : Int) : (x_val ω κ z).category = x_cat κ := by
  unfold x_val x_cat
  split <;> simp [Value.category]
abbrev XG : Type := List (Nat × Nat)
abbrev XT : Type := List (Nat × Int)
def xlv (ω : XW) (Γ : XG) (L : XL) : List (Nat × Value) := Γ.map fun q => (q.1, x_val ω q.2 (L q.1))
def xsv (ω : XW) (st : XT) : List Value := st.map fun q => x_val ω q.1 q.2
def xwG (Γ : XG) (L : XL) : Prop := ∀ q ∈ Γ, x_wf q.2 (L q.1)
def xwS (st : XT) : Prop := ∀ q ∈ st, x_wf q.1 q.2
def xwM (M : XM) : Prop := ∀ k j, if xlong k then r64 (M k j) else r32 (M k j)
def xsum (st : XT) : Nat := (st.map fun q => x_cat q.1).sum
theorem xwM32 {M : XM} (h : xwM M) {k : Nat} (hk : xlong k = false) (j : Int) : r32 (M k j) := by have := h k j; rwa [hk, if_neg (by decide)] at this
theorem xwM64 {M : XM} (h : xwM M) {k : Nat} (hk : xlong k = true) (j : Int) : r64 (M k j) := by have := h k j; rwa [hk, if_pos rfl] at this
theorem xwM_st {M : XM} (h : xwM M) {k : Nat} {j v : Int} (hv : if xlong k then r64 v else r32 v) : xwM (st M k j v) := by
  intro a b
  by_cases ha : a = k
  · subst ha
    rw [st_self]
    dsimp only
    split
    · rename_i h1
      rw [if_pos h1] at hv
      split
      · exact hv
      · exact xwM64 h h1 b
    · rename_i h1
      rw [if_neg h1] at hv
      split
      · exact hv
      · exact xwM32 h (by simpa using h1) b
  · rw [st_ne M j v ha]
    exact h a b
theorem xwS_cons {κ : Nat} {z : Int} {st : XT} (h1 : x_wf κ z) (h : xwS st) : xwS ((κ, z) :: st) := fun q hq => by
  rcases List.mem_cons.mp hq with rfl | hq
  · exact h1
  · exact h q hq
theorem xwS_hd {κ : Nat} {z : Int} {st : XT} (h : xwS ((κ, z) :: st)) : x_wf κ z := h _ List.mem_cons_self
theorem xwS_tl {q : Nat × Int} {st : XT} (h : xwS (q :: st)) : xwS st := fun p hp => h p (List.mem_cons_of_mem _ hp)
theorem xsum_eq (ω : XW) (st : XT) : ((xsv ω st).map fun v => v.category).sum = xsum st := by
  unfold xsv xsum
  rw [List.map_map]
  congr 1
  refine List.map_congr_left fun q _ => ?_
  exact x_val_cat ω q.1 q.2
/-! ===== what is known of the machine's tables, and of the arrays that stand outside ===== -/
def xtys (ω : XW) : List (ClassId × FieldType) := [(ω.2.2.1, .int), (ω.2.2.2.1, .long), (ω.2.2.2.2, .array .long)]
def xT : List Cond := lw_tbl.filter goodWord
theorem xT_good : GoodIn xT xT := fun w h => ⟨h, good_of_word (List.mem_filter.mp h).2⟩
theorem xT_in {w : Cond} (i : Nat) (h : lw_tbl[i]? = some w) (hg : goodWord w = true) : w ∈ xT := List.mem_filter.mpr ⟨List.mem_of_getElem? h, hg⟩
def xNs (U : State) : Prop := ∀ w ∈ xNest, va_Nw w U
def xE1 (ω : XW) (M : XM) (n : String) (k : Nat) (U : State) (H : Heap) : Prop := va_Z "MostSold22" n "[I" (.ref (ω.2.1 k)) (xA ω) U H ∧ va_T .int (ω.2.1 k) 15 (fun j => .int (Int32.ofInt (M k (j : Int)))) (xA ω) U H
def xE (ω : XW) (M : XM) (U : State) (H : Heap) : Prop := xE1 ω M "LEAST" 1001 U H ∧ xE1 ω M "MOST" 1002 U H ∧ xE1 ω M "USUAL" 1003 U H
def xK (ω : XW) (U : State) : Prop := va_K ω.1 vwCl (xtys ω) U ∧ xNs U ∧ xInj ω
def xSame (M0 M : XM) : Prop := ∀ k, xN ≤ k → M k = M0 k
theorem xSame_st {M0 M : XM} (h : xSame M0 M) {k : Nat} (hk : k < xN) (j v : Int) : xSame M0 (st M k j v) := fun a ha => by
  rw [st_ne M j v (by omega)]
  exact h a ha
theorem xE1_moved {ω : XW} {M : XM} {n : String} {k : Nat} {u U : State} {H : Heap} (hvm : u.vm.Alike U.vm) (h : xE1 ω M n k u H) : xE1 ω M n k U H := ⟨va_Z.moved hvm h.1, va_T.moved hvm h.2⟩
theorem xE1_kept {ω : XW} {M : XM} {n : String} {k : Nat} {U : State} {H H1 : Heap} (h : xE1 ω M n k U H) (hq : ∀ a : Nat, a < H.size → ¬ xA ω a → H1[a]? = H[a]?) : xE1 ω M n k U H1 := ⟨h.1.kept hq, h.2.kept hq⟩
theorem xE1_mem {ω : XW} {M M1 : XM} {n : String} {k : Nat} {U : State} {H : Heap} (h : xE1 ω M n k U H) (e : M1 k = M k) : xE1 ω M1 n k U H := by
  unfold xE1
  rw [e]
  exact h
theorem xE_moved {ω : XW} {M : XM} {u U : State} {H : Heap} (hvm : u.vm.Alike U.vm) (h : xE ω M u H) : xE ω M U H := ⟨xE1_moved hvm h.1, xE1_moved hvm h.2.1, xE1_moved hvm h.2.2⟩
theorem xE_kept {ω : XW} {M : XM} {U : State} {H H1 : Heap} (h : xE ω M U H) (hq : ∀ a : Nat, a < H.size → ¬ xA ω a → H1[a]? = H[a]?) : xE ω M U H1 := ⟨xE1_kept h.1 hq, xE1_kept h.2.1 hq, xE1_kept h.2.2 hq⟩
theorem xE_mem {ω : XW} {M M1 : XM} {U : State} {H : Heap} (h : xE ω M U H) (e : xSame M M1) : xE ω M1 U H := ⟨xE1_mem h.1 (e _ (by decide)), xE1_mem h.2.1 (e _ (by decide)), xE1_mem h.2.2 (e _ (by decide))⟩
theorem xNs_warm {s U : State} (hW : s.WarmedH U.vm) (h : xNs s) : xNs U := by
  intro w hw
  have h0 := h w hw
  simp only [xNest, List.mem_cons, List.not_mem_nil, or_false] at hw
  rcases hw with rfl | rfl | rfl | rfl | rfl <;> exact va_Nw.warmM hW h0
theorem xNs_same {u U : State} (h : u.vm = U.vm) (hZ : xNs u) : xNs U := by
  intro w hw
  have h0 := hZ w hw
  simp only [xNest, List.mem_cons, List.not_mem_nil, or_false] at hw
  rcases hw with rfl | rfl | rfl | rfl | rfl <;> exact va_Nw.same rfl h h0
theorem xK_warm {ω : XW} {s U : State} (hW : s.WarmedH U.vm) (h : xK ω s) : xK ω U := ⟨va_K.moved hW.alike h.1, xNs_warm hW h.2.1, h.2.2⟩
/-! ===== the judgement: from this place of the method, with these locals, stack and cells, the machine comes to the end ===== -/
abbrev XΘ : Type := Program × Launch × Env × Room × State × MethodId × Array Value × List Frame × Method × Code × (State → Prop) × XW × XM × Nat × Nat × Nat × (Int → XM → Prop)
def GG (θ : XΘ) (Γ : XG) (pc : Nat) (L : XL) (t : XT) (M : XM) : Prop := match θ with
  | (p, l, e, R, s, m, args, below, meth, c, Qf, ω, M0, nL, nc, ns, _) => xwG Γ L → xwS t → xwM M → xSame M0 M → ∀ (H : Heap) (locs : List Loc) (ls : Array Slot), va_P ω.1 vwCl (xworld ω M) H → va_S (xA ω) s.heap H locs → lv_has ls nL (xlv ω Γ L) → W p l e R s m args below meth c H locs nc ns Qf (F0 m pc ls (xsv ω t))
def XR (θ : XΘ) (v : Int) (M : XM) : Prop := match θ with
  | (_, _, _, _, _, _, _, _, _, _, _, _, _, _, _, _, fin) => fin v M
/-- a return with what the claim about this call wants -/
def XRet (θ : XΘ) (cc : ByteArray) (ret : Option FieldType) : Prop := match ret with
  | some .long => ∀ (Γ : XG) (pc : Nat) (L : XL) (v : Int) (M : XM), decode cc pc = .ok (.lreturn, 1) → XR θ v M → GG θ Γ pc L [(1, v)] M
  | some .int => ∀ (Γ : XG) (pc : Nat) (L : XL) (v : Int) (M : XM), decode cc pc = .ok (.ireturn, 1) → XR θ v M → GG θ Γ pc L [(0, v)] M
  | some .boolean => ∀ (Γ : XG) (pc : Nat) (L : XL) (v : Int) (M : XM), decode cc pc = .ok (.ireturn, 1) → (v = 0 ∨ v = 1) → XR θ v M → GG θ Γ pc L [(0, v)] M
  | none => ∀ (Γ : XG) (pc : Nat) (L : XL) (M : XM), decode cc pc = .ok (.return_, 1) → XR θ 0 M → GG θ Γ pc L [] M
  | _ => True
/-- what stands fast while a method of the class own with the code cc runs; ret: what it answers -/
def Fx (θ : XΘ) (own : String) (cc : ByteArray) (n : Nat) (rm : Nat × Nat) (ret : Option FieldType) : Prop := match θ with
  | (p, l, e, R, s, m, args, below, meth, c, Qf, ω, M0, nL, nc, ns, fin) => p.tables.exec = Jvm.exec ∧ c.code = cc ∧ c.maxLocals = nL ∧ s.vm.findClass own = some m.cls ∧ (∀ w ∈ xT, w.before args s = true) ∧ xK ω s ∧ xE ω M0 s s.heap ∧ rm.1 ≤ R.frames ∧ rm.2 ≤ R.locals ∧ nc ≤ R.cells ∧ ns ≤ R.slots ∧ XRet (p, l, e, R, s, m, args, below, meth, c, Qf, ω, M0, nL, nc, ns, fin) cc ret ∧ nL = n
end
section
/-! ===== a row an instruction ===== -/
theorem GG.iadd {θ : XΘ} {own : String} {cc : ByteArray} {nn : Nat} {rm : Nat × Nat} {ret : Option FieldType} (h : Fx θ own cc nn rm ret) {Γ : XG} {pc : Nat} {L : XL} {t : XT} {M : XM} {x y : Int} (d : decode cc pc = .ok (.iadd, 1)) (k : GG θ Γ (pc + 1) L ((0, iAdd x y) :: t) M) : GG θ Γ pc L ((0, y) :: (0, x) :: t) M := by
  obtain ⟨p, l, e, R, s, m, args, below, meth, c, Qf, ω, M0, nL, nc, ns, fin⟩ := θ
  obtain ⟨hx, hb, hml, hown, hts, hK, hE, hr1, hr2, hr3, hr4, hret, hnn⟩ := h
  intro hG hS hM hM0 H locs ls hP hSv hl
  refine lv_iadd hx hb d ?_
  rw [← oAdd _ _]
  exact k hG (xwS_cons (x32_r _) (xwS_tl (xwS_tl hS))) hM hM0 H locs ls hP hSv hl
theorem GG.isub {θ : XΘ} {own : String} {cc : ByteArray} {nn : Nat} {rm : Nat × Nat} {ret : Option FieldType} (h : Fx θ own cc nn rm ret) {Γ : XG} {pc : Nat} {L : XL} {t : XT} {M : XM} {x y : Int} (d : decode cc pc = .ok (.isub, 1)) (k : GG θ Γ (pc + 1) L ((0, iSub x y) :: t) M) : GG θ Γ pc L ((0, y) :: (0, x) :: t) M := by
  obtain ⟨p, l, e, R, s, m, args, below, meth, c, Qf, ω, M0, nL, nc, ns, fin⟩ := θ
  obtain ⟨hx, hb, hml, hown, hts, hK, hE, hr1, hr2, hr3, hr4, hret, hnn⟩ := h
  intro hG hS hM hM0 H locs ls hP hSv hl
  refine lv_isub hx hb d ?_
  rw [← oSub _ _]
  exact k hG (xwS_cons (x32_r _) (xwS_tl (xwS_tl hS))) hM hM0 H locs ls hP hSv hl
theorem GG.imul {θ : XΘ} {own : String} {cc : ByteArray} {nn : Nat} {rm : Nat × Nat} {ret : Option FieldType} (h : Fx θ own cc nn rm ret) {Γ : XG} {pc : Nat} {L : XL} {t : XT} {M : XM} {x y : Int} (d : decode cc pc = .ok (.imul, 1)) (k : GG θ Γ (pc + 1) L ((0, iMul x y) :: t) M) : GG θ Γ pc L ((0, y) :: (0, x) :: t) M := by
  obtain ⟨p, l, e, R, s, m, args, below, meth, c, Qf, ω, M0, nL, nc, ns, fin⟩ := θ
  obtain ⟨hx, hb, hml, hown, hts, hK, hE, hr1, hr2, hr3, hr4, hret, hnn⟩ := h
  intro hG hS hM hM0 H locs ls hP hSv hl
  refine lv_imul hx hb d ?_
  rw [← oMul _ _]
  exact k hG (xwS_cons (x32_r _) (xwS_tl (xwS_tl hS))) hM hM0 H locs ls hP hSv hl
theorem GG.iand {θ : XΘ} {own : String} {cc : ByteArray} {nn : Nat} {rm : Nat × Nat} {ret : Option FieldType} (h : Fx θ own cc nn rm ret) {Γ : XG} {pc : Nat} {L : XL} {t : XT} {M : XM} {x y : Int} (d : decode cc pc = .ok (.iand, 1)) (k : GG θ Γ (pc + 1) L ((0, iAnd x y) :: t) M) : GG θ Γ pc L ((0, y) :: (0, x) :: t) M := by
  obtain ⟨p, l, e, R, s, m, args, below, meth, c, Qf, ω, M0, nL, nc, ns, fin⟩ := θ
  obtain ⟨hx, hb, hml, hown, hts, hK, hE, hr1, hr2, hr3, hr4, hret, hnn⟩ := h
  intro hG hS hM hM0 H locs ls hP hSv hl
  refine lv_iand hx hb d ?_
  rw [← oAnd _ _]
  exact k hG (xwS_cons (xr32 _) (xwS_tl (xwS_tl hS))) hM hM0 H locs ls hP hSv hl
theorem GG.ior {θ : XΘ} {own : String} {cc : ByteArray} {nn : Nat} {rm : Nat × Nat} {ret : Option FieldType} (h : Fx θ own cc nn rm ret) {Γ : XG} {pc : Nat} {L : XL} {t : XT} {M : XM} {x y : Int} (d : decode cc pc = .ok (.ior, 1)) (k : GG θ Γ (pc + 1) L ((0, iOr x y) :: t) M) : GG θ Γ pc L ((0, y) :: (0, x) :: t) M := by
  obtain ⟨p, l, e, R, s, m, args, below, meth, c, Qf, ω, M0, nL, nc, ns, fin⟩ := θ
  obtain ⟨hx, hb, hml, hown, hts, hK, hE, hr1, hr2, hr3, hr4, hret, hnn⟩ := h
  intro hG hS hM hM0 H locs ls hP hSv hl
  refine lv_ior hx hb d ?_
  rw [← oOr _ _]
  exact k hG (xwS_cons (xr32 _) (xwS_tl (xwS_tl hS))) hM hM0 H locs ls hP hSv hl
theorem GG.ixor {θ : XΘ} {own : String} {cc : ByteArray} {nn : Nat} {rm : Nat × Nat} {ret : Option FieldType} (h : Fx θ own cc nn rm ret) {Γ : XG} {pc : Nat} {L : XL} {t : XT} {M : XM} {x y : Int} (d : decode cc pc = .ok (.ixor, 1)) (k : GG θ Γ (pc + 1) L ((0, iXor x y) :: t) M) : GG θ Γ pc L ((0, y) :: (0, x) :: t) M := by
  obtain ⟨p, l, e, R, s, m, args, below, meth, c, Qf, ω, M0, nL, nc, ns, fin⟩ := θ
  obtain ⟨hx, hb, hml, hown, hts, hK, hE, hr1, hr2, hr3, hr4, hret, hnn⟩ := h
  intro hG hS hM hM0 H locs ls hP hSv hl
  refine lv_ixor hx hb d ?_
  rw [← oXor _ _]
  exact k hG (xwS_cons (xr32 _) (xwS_tl (xwS_tl hS))) hM hM0 H locs ls hP hSv hl
theorem GG.ishl {θ : XΘ} {own : String} {cc : ByteArray} {nn : Nat} {rm : Nat × Nat} {ret : Option FieldType} (h : Fx θ own cc nn rm ret) {Γ : XG} {pc : Nat} {L : XL} {t : XT} {M : XM} {x y : Int} (d : decode cc pc = .ok (.ishl, 1)) (k : GG θ Γ (pc + 1) L ((0, iShl x y) :: t) M) : GG θ Γ pc L ((0, y) :: (0, x) :: t) M := by
  obtain ⟨p, l, e, R, s, m, args, below, meth, c, Qf, ω, M0, nL, nc, ns, fin⟩ := θ
  obtain ⟨hx, hb, hml, hown, hts, hK, hE, hr1, hr2, hr3, hr4, hret, hnn⟩ := h
  intro hG hS hM hM0 H locs ls hP hSv hl
  refine lv_ishl hx hb d ?_
  rw [← oShl _ _]
  exact k hG (xwS_cons (xr32 _) (xwS_tl (xwS_tl hS))) hM hM0 H locs ls hP hSv hl
theorem GG.ishr {θ : XΘ} {own : String} {cc : ByteArray} {nn : Nat} {rm : Nat × Nat} {ret : Option FieldType} (h : Fx θ own cc nn rm ret) {Γ : XG} {pc : Nat} {L : XL} {t : XT} {M : XM} {x y : Int} (d : decode cc pc = .ok (.ishr, 1)) (k : GG θ Γ (pc + 1) L ((0, iShr x y) :: t) M) : GG θ Γ pc L ((0, y) :: (0, x) :: t) M := by
  obtain ⟨p, l, e, R, s, m, args, below, meth, c, Qf, ω, M0, nL, nc, ns, fin⟩ := θ
  obtain ⟨hx, hb, hml, hown, hts, hK, hE, hr1, hr2, hr3, hr4, hret, hnn⟩ := h
  intro hG hS hM hM0 H locs ls hP hSv hl
  refine lv_ishr hx hb d ?_
  rw [← oShr _ _]
  exact k hG (xwS_cons (xr32 _) (xwS_tl (xwS_tl hS))) hM hM0 H locs ls hP hSv hl
theorem GG.iushr {θ : XΘ} {own : String} {cc : ByteArray} {nn : Nat} {rm : Nat × Nat} {ret : Option FieldType} (h : Fx θ own cc nn rm ret) {Γ : XG} {pc : Nat} {L : XL} {t : XT} {M : XM} {x y : Int} (d : decode cc pc = .ok (.iushr, 1)) (k : GG θ Γ (pc + 1) L ((0, iUshr x y) :: t) M) : GG θ Γ pc L ((0, y) :: (0, x) :: t) M := by
  obtain ⟨p, l, e, R, s, m, args, below, meth, c, Qf, ω, M0, nL, nc, ns, fin⟩ := θ
  obtain ⟨hx, hb, hml, hown, hts, hK, hE, hr1, hr2, hr3, hr4, hret, hnn⟩ := h
  intro hG hS hM hM0 H locs ls hP hSv hl
  refine lv_iushr hx hb d (oUshr x y).symm ?_
  exact k hG (xwS_cons (xr32 _) (xwS_tl (xwS_tl hS))) hM hM0 H locs ls hP hSv hl
theorem GG.idiv {θ : XΘ} {own : String} {cc : ByteArray} {nn : Nat} {rm : Nat × Nat} {ret : Option FieldType} (h : Fx θ own cc nn rm ret) {Γ : XG} {pc : Nat} {L : XL} {t : XT} {M : XM} {x y : Int} (hne : y ≠ 0) (d : decode cc pc = .ok (.idiv, 1)) (k : GG θ Γ (pc + 1) L ((0, iDiv x y) :: t) M) : GG θ Γ pc L ((0, y) :: (0, x) :: t) M := by
  obtain ⟨p, l, e, R, s, m, args, below, meth, c, Qf, ω, M0, nL, nc, ns, fin⟩ := θ
  obtain ⟨hx, hb, hml, hown, hts, hK, hE, hr1, hr2, hr3, hr4, hret, hnn⟩ := h
  intro hG hS hM hM0 H locs ls hP hSv hl
  refine lv_idiv hx hb d (fun q => hne ((xeq32 (xwS_hd hS) xz32).mp q)) ?_
  rw [← oDiv (xwS_hd (xwS_tl hS)) (xwS_hd hS)]
  exact k hG (xwS_cons (x32_r _) (xwS_tl (xwS_tl hS))) hM hM0 H locs ls hP hSv hl
theorem GG.irem {θ : XΘ} {own : String} {cc : ByteArray} {nn : Nat} {rm : Nat × Nat} {ret : Option FieldType} (h : Fx θ own cc nn rm ret) {Γ : XG} {pc : Nat} {L : XL} {t : XT} {M : XM} {x y : Int} (hne : y ≠ 0) (d : decode cc pc = .ok (.irem, 1)) (k : GG θ Γ (pc + 1) L ((0, iRem x y) :: t) M) : GG θ Γ pc L ((0, y) :: (0, x) :: t) M := by
  obtain ⟨p, l, e, R, s, m, args, below, meth, c, Qf, ω, M0, nL, nc, ns, fin⟩ := θ
  obtain ⟨hx, hb, hml, hown, hts, hK, hE, hr1, hr2, hr3, hr4, hret, hnn⟩ := h
  intro hG hS hM hM0 H locs ls hP hSv hl
  refine lv_irem hx hb d (fun q => hne ((xeq32 (xwS_hd hS) xz32).mp q)) ?_
  rw [← oRem (xwS_hd (xwS_tl hS)) (xwS_hd hS)]
  exact k hG (xwS_cons (x32_r _) (xwS_tl (xwS_tl hS))) hM hM0 H locs ls hP hSv hl
theorem GG.ladd {θ : XΘ} {own : String} {cc : ByteArray} {nn : Nat} {rm : Nat × Nat} {ret : Option FieldType} (h : Fx θ own cc nn rm ret) {Γ : XG} {pc : Nat} {L : XL} {t : XT} {M : XM} {x y : Int} (d : decode cc pc = .ok (.ladd, 1)) (k : GG θ Γ (pc + 1) L ((1, lAdd x y) :: t) M) : GG θ Γ pc L ((1, y) :: (1, x) :: t) M := by
  obtain ⟨p, l, e, R, s, m, args, below, meth, c, Qf, ω, M0, nL, nc, ns, fin⟩ := θ
  obtain ⟨hx, hb, hml, hown, hts, hK, hE, hr1, hr2, hr3, hr4, hret, hnn⟩ := h
  intro hG hS hM hM0 H locs ls hP hSv hl
  refine lv_ladd hx hb d ?_
  rw [← oLAdd _ _]
  exact k hG (xwS_cons (x64_r _) (xwS_tl (xwS_tl hS))) hM hM0 H locs ls hP hSv hl
theorem GG.lsub {θ : XΘ} {own : String} {cc : ByteArray} {nn : Nat} {rm : Nat × Nat} {ret : Option FieldType} (h : Fx θ own cc nn rm ret) {Γ : XG} {pc : Nat} {L : XL} {t : XT} {M : XM} {x y : Int} (d : decode cc pc = .ok (.lsub, 1)) (k : GG θ Γ (pc + 1) L ((1, lSub x y) :: t) M) : GG θ Γ pc L ((1, y) :: (1, x) :: t) M := by
  obtain ⟨p, l, e, R, s, m, args, below, meth, c, Qf, ω, M0, nL, nc, ns, fin⟩ := θ
  obtain ⟨hx, hb, hml, hown, hts, hK, hE, hr1, hr2, hr3, hr4, hret, hnn⟩ := h
  intro hG hS hM hM0 H locs ls hP hSv hl
  refine lv_lsub hx hb d ?_
  rw [← oLSub _ _]
  exact k hG (xwS_cons (x64_r _) (xwS_tl (xwS_tl hS))) hM hM0 H locs ls hP hSv hl
theorem GG.lmul {θ : XΘ} {own : String} {cc : ByteArray} {nn : Nat} {rm : Nat × Nat} {ret : Option FieldType} (h : Fx θ own cc nn rm ret) {Γ : XG} {pc : Nat} {L : XL} {t : XT} {M : XM} {x y : Int} (d : decode cc pc = .ok (.lmul, 1)) (k : GG θ Γ (pc + 1) L ((1, lMul x y) :: t) M) : GG θ Γ pc L ((1, y) :: (1, x) :: t) M := by
  obtain ⟨p, l, e, R, s, m, args, below, meth, c, Qf, ω, M0, nL, nc, ns, fin⟩ := θ
  obtain ⟨hx, hb, hml, hown, hts, hK, hE, hr1, hr2, hr3, hr4, hret, hnn⟩ := h
  intro hG hS hM hM0 H locs ls hP hSv hl
  refine lv_lmul hx hb d ?_
  rw [← oLMul _ _]
  exact k hG (xwS_cons (x64_r _) (xwS_tl (xwS_tl hS))) hM hM0 H locs ls hP hSv hl
theorem GG.land {θ : XΘ} {own : String} {cc : ByteArray} {nn : Nat} {rm : Nat × Nat} {ret : Option FieldType} (h : Fx θ own cc nn rm ret) {Γ : XG} {pc : Nat} {L : XL} {t : XT} {M : XM} {x y : Int} (d : decode cc pc = .ok (.land, 1)) (k : GG θ Γ (pc + 1) L ((1, lAnd x y) :: t) M) : GG θ Γ pc L ((1, y) :: (1, x) :: t) M := by
  obtain ⟨p, l, e, R, s, m, args, below, meth, c, Qf, ω, M0, nL, nc, ns, fin⟩ := θ
  obtain ⟨hx, hb, hml, hown, hts, hK, hE, hr1, hr2, hr3, hr4, hret, hnn⟩ := h
  intro hG hS hM hM0 H locs ls hP hSv hl
  refine lv_land hx hb d ?_
  rw [← oLAnd _ _]
  exact k hG (xwS_cons (xr64 _) (xwS_tl (xwS_tl hS))) hM hM0 H locs ls hP hSv hl
theorem GG.lor {θ : XΘ} {own : String} {cc : ByteArray} {nn : Nat} {rm : Nat × Nat} {ret : Option FieldType} (h : Fx θ own cc nn rm ret) {Γ : XG} {pc : Nat} {L : XL} {t : XT} {M : XM} {x y : Int} (d : decode cc pc = .ok (.lor, 1)) (k : GG θ Γ (pc + 1) L ((1, lOr x y) :: t) M) : GG θ Γ pc L ((1, y) :: (1, x) :: t) M := by
  obtain ⟨p, l, e, R, s, m, args, below, meth, c, Qf, ω, M0, nL, nc, ns, fin⟩ := θ
  obtain ⟨hx, hb, hml, hown, hts, hK, hE, hr1, hr2, hr3, hr4, hret, hnn⟩ := h
  intro hG hS hM hM0 H locs ls hP hSv hl
  refine lv_lor hx hb d ?_
  rw [← oLOr _ _]
  exact k hG (xwS_cons (xr64 _) (xwS_tl (xwS_tl hS))) hM hM0 H locs ls hP hSv hl
theorem GG.ldiv {θ : XΘ} {own : String} {cc : ByteArray} {nn : Nat} {rm : Nat × Nat} {ret : Option FieldType} (h : Fx θ own cc nn rm ret) {Γ : XG} {pc : Nat} {L : XL} {t : XT} {M : XM} {x y : Int} (hne : y ≠ 0) (d : decode cc pc = .ok (.ldiv, 1)) (k : GG θ Γ (pc + 1) L ((1, lDiv x y) :: t) M) : GG θ Γ pc L ((1, y) :: (1, x) :: t) M := by
  obtain ⟨p, l, e, R, s, m, args, below, meth, c, Qf, ω, M0, nL, nc, ns, fin⟩ := θ
  obtain ⟨hx, hb, hml, hown, hts, hK, hE, hr1, hr2, hr3, hr4, hret, hnn⟩ := h
  intro hG hS hM hM0 H locs ls hP hSv hl
  refine lv_ldiv hx hb d (fun q => hne ((xeq64 (xwS_hd hS) xz64).mp q)) ?_
  rw [← oLDiv (xwS_hd (xwS_tl hS)) (xwS_hd hS)]
  exact k hG (xwS_cons (x64_r _) (xwS_tl (xwS_tl hS))) hM hM0 H locs ls hP hSv hl
theorem GG.lshl {θ : XΘ} {own : String} {cc : ByteArray} {nn : Nat} {rm : Nat × Nat} {ret : Option FieldType} (h : Fx θ own cc nn rm ret) {Γ : XG} {pc : Nat} {L : XL} {t : XT} {M : XM} {x y : Int} (d : decode cc pc = .ok (.lshl, 1)) (k : GG θ Γ (pc + 1) L ((1, lShl x y) :: t) M) : GG θ Γ pc L ((0, y) :: (1, x) :: t) M := by
  obtain ⟨p, l, e, R, s, m, args, below, meth, c, Qf, ω, M0, nL, nc, ns, fin⟩ := θ
  obtain ⟨hx, hb, hml, hown, hts, hK, hE, hr1, hr2, hr3, hr4, hret, hnn⟩ := h
  intro hG hS hM hM0 H locs ls hP hSv hl
  refine lv_lshl hx hb d (oLShl x y).symm ?_
  exact k hG (xwS_cons (xr64 _) (xwS_tl (xwS_tl hS))) hM hM0 H locs ls hP hSv hl
theorem GG.ineg {θ : XΘ} {own : String} {cc : ByteArray} {nn : Nat} {rm : Nat × Nat} {ret : Option FieldType} (h : Fx θ own cc nn rm ret) {Γ : XG} {pc : Nat} {L : XL} {t : XT} {M : XM} {x : Int} (d : decode cc pc = .ok (.ineg, 1)) (k : GG θ Γ (pc + 1) L ((0, iNeg x) :: t) M) : GG θ Γ pc L ((0, x) :: t) M := by
  obtain ⟨p, l, e, R, s, m, args, below, meth, c, Qf, ω, M0, nL, nc, ns, fin⟩ := θ
  obtain ⟨hx, hb, hml, hown, hts, hK, hE, hr1, hr2, hr3, hr4, hret, hnn⟩ := h
  intro hG hS hM hM0 H locs ls hP hSv hl
  refine lv_ineg hx hb d ?_
  rw [← oNeg]
  exact k hG (xwS_cons (x32_r _) (xwS_tl hS)) hM hM0 H locs ls hP hSv hl
theorem GG.lneg {θ : XΘ} {own : String} {cc : ByteArray} {nn : Nat} {rm : Nat × Nat} {ret : Option FieldType} (h : Fx θ own cc nn rm ret) {Γ : XG} {pc : Nat} {L : XL} {t : XT} {M : XM} {x : Int} (d : decode cc pc = .ok (.lneg, 1)) (k : GG θ Γ (pc + 1) L ((1, lNeg x) :: t) M) : GG θ Γ pc L ((1, x) :: t) M := by
  obtain ⟨p, l, e, R, s, m, args, below, meth, c, Qf, ω, M0, nL, nc, ns, fin⟩ := θ
  obtain ⟨hx, hb, hml, hown, hts, hK, hE, hr1, hr2, hr3, hr4, hret, hnn⟩ := h
  intro hG hS hM hM0 H locs ls hP hSv hl
  refine lv_lneg hx hb d ?_
  rw [← oLNeg]
  exact k hG (xwS_cons (x64_r _) (xwS_tl hS)) hM hM0 H locs ls hP hSv hl
theorem GG.i2l {θ : XΘ} {own : String} {cc : ByteArray} {nn : Nat} {rm : Nat × Nat} {ret : Option FieldType} (h : Fx θ own cc nn rm ret) {Γ : XG} {pc : Nat} {L : XL} {t : XT} {M : XM} {x : Int} (d : decode cc pc = .ok (.i2l, 1)) (k : GG θ Γ (pc + 1) L ((1, i2l x) :: t) M) : GG θ Γ pc L ((0, x) :: t) M := by
  obtain ⟨p, l, e, R, s, m, args, below, meth, c, Qf, ω, M0, nL, nc, ns, fin⟩ := θ
  obtain ⟨hx, hb, hml, hown, hts, hK, hE, hr1, hr2, hr3, hr4, hret, hnn⟩ := h
  intro hG hS hM hM0 H locs ls hP hSv hl
  refine lv_i2l hx hb d (o2l (xwS_hd hS)).symm ?_
  exact k hG (xwS_cons (r32_64 (xwS_hd hS)) (xwS_tl hS)) hM hM0 H locs ls hP hSv hl
theorem GG.l2i {θ : XΘ} {own : String} {cc : ByteArray} {nn : Nat} {rm : Nat × Nat} {ret : Option FieldType} (h : Fx θ own cc nn rm ret) {Γ : XG} {pc : Nat} {L : XL} {t : XT} {M : XM} {x : Int} (d : decode cc pc = .ok (.l2i, 1)) (k : GG θ Γ (pc + 1) L ((0, l2i x) :: t) M) : GG θ Γ pc L ((1, x) :: t) M := by
  obtain ⟨p, l, e, R, s, m, args, below, meth, c, Qf, ω, M0, nL, nc, ns, fin⟩ := θ
  obtain ⟨hx, hb, hml, hown, hts, hK, hE, hr1, hr2, hr3, hr4, hret, hnn⟩ := h
  intro hG hS hM hM0 H locs ls hP hSv hl
  refine lv_l2i hx hb d (oL2i (xwS_hd hS)).symm ?_
  exact k hG (xwS_cons (x32_r _) (xwS_tl hS)) hM hM0 H locs ls hP hSv hl
theorem GG.i2b {θ : XΘ} {own : String} {cc : ByteArray} {nn : Nat} {rm : Nat × Nat} {ret : Option FieldType} (h : Fx θ own cc nn rm ret) {Γ : XG} {pc : Nat} {L : XL} {t : XT} {M : XM} {x : Int} (d : decode cc pc = .ok (.i2b, 1)) (k : GG θ Γ (pc + 1) L ((0, i2b x) :: t) M) : GG θ Γ pc L ((0, x) :: t) M := by
  obtain ⟨p, l, e, R, s, m, args, below, meth, c, Qf, ω, M0, nL, nc, ns, fin⟩ := θ
  obtain ⟨hx, hb, hml, hown, hts, hK, hE, hr1, hr2, hr3, hr4, hret, hnn⟩ := h
  intro hG hS hM hM0 H locs ls hP hSv hl
  refine lv_i2b hx hb d (o2b x).symm ?_
  exact k hG (xwS_cons (xr32 _) (xwS_tl hS)) hM hM0 H locs ls hP hSv hl
theorem GG.i2s {θ : XΘ} {own : String} {cc : ByteArray} {nn : Nat} {rm : Nat × Nat} {ret : Option FieldType} (h : Fx θ own cc nn rm ret) {Γ : XG} {pc : Nat} {L : XL} {t : XT} {M : XM} {x : Int} (d : decode cc pc = .ok (.i2s, 1)) (k : GG θ Γ (pc + 1) L ((0, i2s x) :: t) M) : GG θ Γ pc L ((0, x) :: t) M := by
  obtain ⟨p, l, e, R, s, m, args, below, meth, c, Qf, ω, M0, nL, nc, ns, fin⟩ := θ
  obtain ⟨hx, hb, hml, hown, hts, hK, hE, hr1, hr2, hr3, hr4, hret, hnn⟩ := h
  intro hG hS hM hM0 H locs ls hP hSv hl
  refine lv_i2s hx hb d (o2s x).symm ?_
  exact k hG (xwS_cons (xr32 _) (xwS_tl hS)) hM hM0 H locs ls hP hSv hl
theorem GG.iconst {θ : XΘ} {own : String} {cc : ByteArray} {nn : Nat} {rm : Nat × Nat} {ret : Option FieldType} (h : Fx θ own cc nn rm ret) {Γ : XG} {pc : Nat} {L : XL} {t : XT} {M : XM} {n z : Int} (d : decode cc pc = .ok (.iconst n, 1)) (hz : Int32.ofInt n = Int32.ofInt z) (hr : r32 z) (k : GG θ Γ (pc + 1) L ((0, z) :: t) M) : GG θ Γ pc L t M := by
  obtain ⟨p, l, e, R, s, m, args, below, meth, c, Qf, ω, M0, nL, nc, ns, fin⟩ := θ
  obtain ⟨hx, hb, hml, hown, hts, hK, hE, hr1, hr2, hr3, hr4, hret, hnn⟩ := h
  intro hG hS hM hM0 H locs ls hP hSv hl
  refine lv_iconst hx hb d hz ?_
  exact k hG (xwS_cons (hr) hS) hM hM0 H locs ls hP hSv hl
theorem GG.bipush {θ : XΘ} {own : String} {cc : ByteArray} {nn : Nat} {rm : Nat × Nat} {ret : Option FieldType} (h : Fx θ own cc nn rm ret) {Γ : XG} {pc : Nat} {L : XL} {t : XT} {M : XM} {n z : Int} (d : decode cc pc = .ok (.bipush n, 2)) (hz : (Int8.ofInt n).toInt32 = Int32.ofInt z) (hr : r32 z) (k : GG θ Γ (pc + 2) L ((0, z) :: t) M) : GG θ Γ pc L t M := by
  obtain ⟨p, l, e, R, s, m, args, below, meth, c, Qf, ω, M0, nL, nc, ns, fin⟩ := θ
  obtain ⟨hx, hb, hml, hown, hts, hK, hE, hr1, hr2, hr3, hr4, hret, hnn⟩ := h
  intro hG hS hM hM0 H locs ls hP hSv hl
  refine lv_bipush hx hb d hz ?_
  exact k hG (xwS_cons (hr) hS) hM hM0 H locs ls hP hSv hl
theorem GG.sipush {θ : XΘ} {own : String} {cc : ByteArray} {nn : Nat} {rm : Nat × Nat} {ret : Option FieldType} (h : Fx θ own cc nn rm ret) {Γ : XG} {pc : Nat} {L : XL} {t : XT} {M : XM} {n z : Int} (d : decode cc pc = .ok (.sipush n, 3)) (hz : (Int16.ofInt n).toInt32 = Int32.ofInt z) (hr : r32 z) (k : GG θ Γ (pc + 3) L ((0, z) :: t) M) : GG θ Γ pc L t M := by
  obtain ⟨p, l, e, R, s, m, args, below, meth, c, Qf, ω, M0, nL, nc, ns, fin⟩ := θ
  obtain ⟨hx, hb, hml, hown, hts, hK, hE, hr1, hr2, hr3, hr4, hret, hnn⟩ := h
  intro hG hS hM hM0 H locs ls hP hSv hl
  refine lv_sipush hx hb d hz ?_
  exact k hG (xwS_cons (hr) hS) hM hM0 H locs ls hP hSv hl
theorem GG.lconst {θ : XΘ} {own : String} {cc : ByteArray} {nn : Nat} {rm : Nat × Nat} {ret : Option FieldType} (h : Fx θ own cc nn rm ret) {Γ : XG} {pc : Nat} {L : XL} {t : XT} {M : XM} {n : Fin 2} {z : Int} (d : decode cc pc = .ok (.lconst n, 1)) (hz : Int64.ofNat (n : Nat) = Int64.ofInt z) (hr : r64 z) (k : GG θ Γ (pc + 1) L ((1, z) :: t) M) : GG θ Γ pc L t M := by
  obtain ⟨p, l, e, R, s, m, args, below, meth, c, Qf, ω, M0, nL, nc, ns, fin⟩ := θ
  obtain ⟨hx, hb, hml, hown, hts, hK, hE, hr1, hr2, hr3, hr4, hret, hnn⟩ := h
  intro hG hS hM hM0 H locs ls hP hSv hl
  refine lv_lconst hx hb d hz ?_
  exact k hG (xwS_cons (hr) hS) hM hM0 H locs ls hP hSv hl
theorem GG.ldc2 {θ : XΘ} {own : String} {cc : ByteArray} {nn : Nat} {rm : Nat × Nat} {ret : Option FieldType} (h : Fx θ own cc nn rm ret) {Γ : XG} {pc : Nat} {L : XL} {t : XT} {M : XM} {n : Nat} {v : Int64} {z : Int} (d : decode cc pc = .ok (.ldc2_w n, 3)) (hw : Cond.constantLong own n v ∈ xT) (hz : v = Int64.ofInt z) (hr : r64 z) (k : GG θ Γ (pc + 3) L ((1, z) :: t) M) : GG θ Γ pc L t M := by
  obtain ⟨p, l, e, R, s, m, args, below, meth, c, Qf, ω, M0, nL, nc, ns, fin⟩ := θ
  obtain ⟨hx, hb, hml, hown, hts, hK, hE, hr1, hr2, hr3, hr4, hret, hnn⟩ := h
  intro hG hS hM hM0 H locs ls hP hSv hl
  refine lv_ldc2 hx hb hown (hts _ hw) d ?_
  rw [hz]
  exact k hG (xwS_cons (hr) hS) hM hM0 H locs ls hP hSv hl
theorem GG.ldcw {θ : XΘ} {own : String} {cc : ByteArray} {nn : Nat} {rm : Nat × Nat} {ret : Option FieldType} (h : Fx θ own cc nn rm ret) {Γ : XG} {pc : Nat} {L : XL} {t : XT} {M : XM} {n : Nat} {v : Int32} {z : Int} (d : decode cc pc = .ok (.ldc_w n, 3)) (hw : Cond.constant own n v ∈ xT) (hz : v = Int32.ofInt z) (hr : r32 z) (k : GG θ Γ (pc + 3) L ((0, z) :: t) M) : GG θ Γ pc L t M := by
  obtain ⟨p, l, e, R, s, m, args, below, meth, c, Qf, ω, M0, nL, nc, ns, fin⟩ := θ
  obtain ⟨hx, hb, hml, hown, hts, hK, hE, hr1, hr2, hr3, hr4, hret, hnn⟩ := h
  intro hG hS hM hM0 H locs ls hP hSv hl
  refine lv_ldcw hx hb hown (hts _ hw) d ?_
  rw [hz]
  exact k hG (xwS_cons (hr) hS) hM hM0 H locs ls hP hSv hl
theorem xlv_at {ω : XW} {Γ : XG} {L : XL} {ls : Array Slot} {nL i κ : Nat} (hl : lv_has ls nL (xlv ω Γ L)) (hg : (i, κ) ∈ Γ) : ls[i]? = some (.val (x_val ω κ (L i))) := hl.2.2 (i, x_val ω κ (L i)) (List.mem_map.mpr ⟨(i, κ), hg, rfl⟩)
theorem GG.iload_n {θ : XΘ} {own : String} {cc : ByteArray} {nn : Nat} {rm : Nat × Nat} {ret : Option FieldType} (h : Fx θ own cc nn rm ret) {Γ : XG} {pc : Nat} {L : XL} {t : XT} {M : XM}  {j : Fin 4} {i : Nat} (d : decode cc pc = .ok (.iload_n j, 1)) (hi : (j : Nat) = i) (hg : (i, 0) ∈ Γ) (k : GG θ Γ (pc + 1) L ((0, L i) :: t) M) : GG θ Γ pc L t M := by
  obtain ⟨p, l, e, R, s, m, args, below, meth, c, Qf, ω, M0, nL, nc, ns, fin⟩ := θ
  obtain ⟨hx, hb, hml, hown, hts, hK, hE, hr1, hr2, hr3, hr4, hret, hnn⟩ := h
  intro hG hS hM hM0 H locs ls hP hSv hl
  refine lv_iload_n hx hb d hi (xlv_at hl hg) ?_
  exact k hG (xwS_cons (hG _ hg) hS) hM hM0 H locs ls hP hSv hl
theorem GG.iload {θ : XΘ} {own : String} {cc : ByteArray} {nn : Nat} {rm : Nat × Nat} {ret : Option FieldType} (h : Fx θ own cc nn rm ret) {Γ : XG} {pc : Nat} {L : XL} {t : XT} {M : XM}  {i : Nat} (d : decode cc pc = .ok (.iload i, 2)) (hg : (i, 0) ∈ Γ) (k : GG θ Γ (pc + 2) L ((0, L i) :: t) M) : GG θ Γ pc L t M := by
  obtain ⟨p, l, e, R, s, m, args, below, meth, c, Qf, ω, M0, nL, nc, ns, fin⟩ := θ
  obtain ⟨hx, hb, hml, hown, hts, hK, hE, hr1, hr2, hr3, hr4, hret, hnn⟩ := h
  intro hG hS hM hM0 H locs ls hP hSv hl
  refine lv_iload hx hb d (xlv_at hl hg) ?_
  exact k hG (xwS_cons (hG _ hg) hS) hM hM0 H locs ls hP hSv hl
theorem GG.lload_n {θ : XΘ} {own : String} {cc : ByteArray} {nn : Nat} {rm : Nat × Nat} {ret : Option FieldType} (h : Fx θ own cc nn rm ret) {Γ : XG} {pc : Nat} {L : XL} {t : XT} {M : XM}  {j : Fin 4} {i : Nat} (d : decode cc pc = .ok (.lload_n j, 1)) (hi : (j : Nat) = i) (hg : (i, 1) ∈ Γ) (k : GG θ Γ (pc + 1) L ((1, L i) :: t) M) : GG θ Γ pc L t M := by
  obtain ⟨p, l, e, R, s, m, args, below, meth, c, Qf, ω, M0, nL, nc, ns, fin⟩ := θ
  obtain ⟨hx, hb, hml, hown, hts, hK, hE, hr1, hr2, hr3, hr4, hret, hnn⟩ := h
  intro hG hS hM hM0 H locs ls hP hSv hl
  refine lv_lload_n hx hb d hi (xlv_at hl hg) ?_
  exact k hG (xwS_cons (hG _ hg) hS) hM hM0 H locs ls hP hSv hl
theorem GG.lload {θ : XΘ} {own : String} {cc : ByteArray} {nn : Nat} {rm : Nat × Nat} {ret : Option FieldType} (h : Fx θ own cc nn rm ret) {Γ : XG} {pc : Nat} {L : XL} {t : XT} {M : XM}  {i : Nat} (d : decode cc pc = .ok (.lload i, 2)) (hg : (i, 1) ∈ Γ) (k : GG θ Γ (pc + 2) L ((1, L i) :: t) M) : GG θ Γ pc L t M := by
  obtain ⟨p, l, e, R, s, m, args, below, meth, c, Qf, ω, M0, nL, nc, ns, fin⟩ := θ
  obtain ⟨hx, hb, hml, hown, hts, hK, hE, hr1, hr2, hr3, hr4, hret, hnn⟩ := h
  intro hG hS hM hM0 H locs ls hP hSv hl
  refine lv_lload hx hb d (xlv_at hl hg) ?_
  exact k hG (xwS_cons (hG _ hg) hS) hM hM0 H locs ls hP hSv hl
theorem GG.aload_n {θ : XΘ} {own : String} {cc : ByteArray} {nn : Nat} {rm : Nat × Nat} {ret : Option FieldType} (h : Fx θ own cc nn rm ret) {Γ : XG} {pc : Nat} {L : XL} {t : XT} {M : XM} {κ : Nat} (hκ : 2 ≤ κ) {j : Fin 4} {i : Nat} (d : decode cc pc = .ok (.aload_n j, 1)) (hi : (j : Nat) = i) (hg : (i, κ) ∈ Γ) (k : GG θ Γ (pc + 1) L ((κ, L i) :: t) M) : GG θ Γ pc L t M := by
  obtain ⟨p, l, e, R, s, m, args, below, meth, c, Qf, ω, M0, nL, nc, ns, fin⟩ := θ
  obtain ⟨hx, hb, hml, hown, hts, hK, hE, hr1, hr2, hr3, hr4, hret, hnn⟩ := h
  intro hG hS hM hM0 H locs ls hP hSv hl
  obtain ⟨x, hxv⟩ : ∃ x : Nat, x_val ω κ (L i) = .ref x := by
    match κ, hκ with
    | 2, _ => exact ⟨_, rfl⟩
    | 3, _ => exact ⟨_, rfl⟩
    | j + 4, _ => exact ⟨_, rfl⟩
  have hv := xlv_at hl hg
  rw [hxv] at hv
  refine lv_aload_n hx hb d hi hv ?_
  have hk := k hG (xwS_cons (hG _ hg) hS) hM hM0 H locs ls hP hSv hl
  rw [show xsv ω ((κ, L i) :: t) = x_val ω κ (L i) :: xsv ω t from rfl, hxv] at hk
  exact hk
theorem GG.aload {θ : XΘ} {own : String} {cc : ByteArray} {nn : Nat} {rm : Nat × Nat} {ret : Option FieldType} (h : Fx θ own cc nn rm ret) {Γ : XG} {pc : Nat} {L : XL} {t : XT} {M : XM} {κ : Nat} (hκ : 2 ≤ κ) {i : Nat} (d : decode cc pc = .ok (.aload i, 2)) (hg : (i, κ) ∈ Γ) (k : GG θ Γ (pc + 2) L ((κ, L i) :: t) M) : GG θ Γ pc L t M := by
  obtain ⟨p, l, e, R, s, m, args, below, meth, c, Qf, ω, M0, nL, nc, ns, fin⟩ := θ
  obtain ⟨hx, hb, hml, hown, hts, hK, hE, hr1, hr2, hr3, hr4, hret, hnn⟩ := h
  intro hG hS hM hM0 H locs ls hP hSv hl
  obtain ⟨x, hxv⟩ : ∃ x : Nat, x_val ω κ (L i) = .ref x := by
    match κ, hκ with
    | 2, _ => exact ⟨_, rfl⟩
    | 3, _ => exact ⟨_, rfl⟩
    | j + 4, _ => exact ⟨_, rfl⟩
  have hv := xlv_at hl hg
  rw [hxv] at hv
  refine lv_aload hx hb d hv ?_
  have hk := k hG (xwS_cons (hG _ hg) hS) hM hM0 H locs ls hP hSv hl
  rw [show xsv ω ((κ, L i) :: t) = x_val ω κ (L i) :: xsv ω t from rfl, hxv] at hk
  exact hk
theorem GG.sref {θ : XΘ} {Γ : XG} {pc : Nat} {L : XL} {t : XT} {M : XM} {j : Nat} {z z2 : Int} (k : GG θ Γ pc L ((j + 4, z) :: t) M) : GG θ Γ pc L ((j + 4, z2) :: t) M := by
  obtain ⟨p, l, e, R, s, m, args, below, meth, c, Qf, ω, M0, nL, nc, ns, fin⟩ := θ
  intro hG hS hM hM0 H locs ls hP hSv hl
  exact k hG (xwS_cons trivial (xwS_tl hS)) hM hM0 H locs ls hP hSv hl
/-- the kinds of the locals behind a store -/
def xst1 (i κ : Nat) (Γ : XG) : XG := (i, κ) :: Γ.filter (fun q => !(q.1 == i) && !(q.1 + 1 == i && x_cat q.2 == 2))
def xst2 (i κ : Nat) (Γ : XG) : XG := (i, κ) :: Γ.filter (fun q => !(q.1 == i) && (!(q.1 == i + 1) && !(q.1 + 1 == i && x_cat q.2 == 2)))
theorem xlv_filter (ω : XW) (Γ : XG) (L : XL) (i : Nat) (v : Int) (f : Nat → Nat → Bool) (hf : ∀ a c, f a c = true → a ≠ i) : (xlv ω Γ L).filter (fun q => f q.1 q.2.category) = xlv ω (Γ.filter (fun q => f q.1 (x_cat q.2))) (sl L i v) := by
  unfold xlv
  rw [List.filter_map]
  have e : ((fun q : Nat × Value => f q.1 q.2.category) ∘ fun q : Nat × Nat => (q.1, x_val ω q.2 (L q.1))) = fun q => f q.1 (x_cat q.2) := by
    funext q
    show f q.1 (x_val ω q.2 (L q.1)).category = _
    rw [x_val_cat]
  rw [e]
  refine List.map_congr_left fun q hq => ?_
  have h1 := hf _ _ (List.mem_filter.mp hq).2
  unfold sl
  rw [if_neg h1]
theorem xst1_lv (ω : XW) (Γ : XG) (L : XL) (i κ : Nat) (v : Int) : (i, x_val ω κ v) :: (xlv ω Γ L).filter (fun q => !(q.1 == i) && !(q.1 + 1 == i && q.2.category == 2)) = xlv ω (xst1 i κ Γ) (sl L i v) := by
  rw [xlv_filter ω Γ L i v (fun a c => !(a == i) && !(a + 1 == i && c == 2)) (fun a c h => by simp at h; exact h.1)]
  unfold xst1 xlv
  rw [List.map_cons]
  congr 1
  simp [sl]
theorem xst2_lv (ω : XW) (Γ : XG) (L : XL) (i κ : Nat) (v : Int) : (i, x_val ω κ v) :: (xlv ω Γ L).filter (fun q => !(q.1 == i) && (!(q.1 == i + 1) && !(q.1 + 1 == i && q.2.category == 2))) = xlv ω (xst2 i κ Γ) (sl L i v) := by
  rw [xlv_filter ω Γ L i v (fun a c => !(a == i) && (!(a == i + 1) && !(a + 1 == i && c == 2))) (fun a c h => by simp at h; exact h.1)]
  unfold xst2 xlv
  rw [List.map_cons]
  congr 1
  simp [sl]
theorem xst1_wf {Γ : XG} {L : XL} {i κ : Nat} {v : Int} (h : xwG Γ L) (hv : x_wf κ v) : xwG (xst1 i κ Γ) (sl L i v) := fun q hq => by
  rcases List.mem_cons.mp hq with rfl | hq
  · simpa [sl] using hv
  · have h1 := List.mem_filter.mp hq
    have h2 : q.1 ≠ i := by have := h1.2; simp at this; exact this.1
    have h3 := h q h1.1
    unfold sl
    rwa [if_neg h2]
theorem xst2_wf {Γ : XG} {L : XL} {i κ : Nat} {v : Int} (h : xwG Γ L) (hv : x_wf κ v) : xwG (xst2 i κ Γ) (sl L i v) := fun q hq => by
  rcases List.mem_cons.mp hq with rfl | hq
  · simpa [sl] using hv
  · have h1 := List.mem_filter.mp hq
    have h2 : q.1 ≠ i := by have := h1.2; simp at this; exact this.1
    have h3 := h q h1.1
    unfold sl
    rwa [if_neg h2]
theorem GG.istore_n {θ : XΘ} {own : String} {cc : ByteArray} {nn : Nat} {rm : Nat × Nat} {ret : Option FieldType} (h : Fx θ own cc nn rm ret) {Γ : XG} {pc : Nat} {L : XL} {t : XT} {M : XM} {z : Int} {j : Fin 4} {i : Nat} (d : decode cc pc = .ok (.istore_n j, 1)) (hi : (j : Nat) = i) (hn : i < nn) (k : GG θ (xst1 i 0 Γ) (pc + 1) (sl L i z) t M) : GG θ Γ pc L ((0, z) :: t) M := by
  obtain ⟨p, l, e, R, s, m, args, below, meth, c, Qf, ω, M0, nL, nc, ns, fin⟩ := θ
  obtain ⟨hx, hb, hml, hown, hts, hK, hE, hr1, hr2, hr3, hr4, hret, hnn⟩ := h
  intro hG hS hM hM0 H locs ls hP hSv hl
  refine lv_istore_n hx hb d hi hl (by rw [hnn]; exact hn) (xst1_lv ω Γ L i 0 z) (fun ls2 hl2 => ?_)
  exact k (xst1_wf hG (xwS_hd hS)) (xwS_tl hS) hM hM0 H locs ls2 hP hSv hl2
theorem GG.istore {θ : XΘ} {own : String} {cc : ByteArray} {nn : Nat} {rm : Nat × Nat} {ret : Option FieldType} (h : Fx θ own cc nn rm ret) {Γ : XG} {pc : Nat} {L : XL} {t : XT} {M : XM} {z : Int} {i : Nat} (d : decode cc pc = .ok (.istore i, 2)) (hn : i < nn) (k : GG θ (xst1 i 0 Γ) (pc + 2) (sl L i z) t M) : GG θ Γ pc L ((0, z) :: t) M := by
  obtain ⟨p, l, e, R, s, m, args, below, meth, c, Qf, ω, M0, nL, nc, ns, fin⟩ := θ
  obtain ⟨hx, hb, hml, hown, hts, hK, hE, hr1, hr2, hr3, hr4, hret, hnn⟩ := h
  intro hG hS hM hM0 H locs ls hP hSv hl
  refine lv_istore hx hb d hl (by rw [hnn]; exact hn) (xst1_lv ω Γ L i 0 z) (fun ls2 hl2 => ?_)
  exact k (xst1_wf hG (xwS_hd hS)) (xwS_tl hS) hM hM0 H locs ls2 hP hSv hl2
theorem GG.lstore_n {θ : XΘ} {own : String} {cc : ByteArray} {nn : Nat} {rm : Nat × Nat} {ret : Option FieldType} (h : Fx θ own cc nn rm ret) {Γ : XG} {pc : Nat} {L : XL} {t : XT} {M : XM} {z : Int} {j : Fin 4} {i : Nat} (d : decode cc pc = .ok (.lstore_n j, 1)) (hi : (j : Nat) = i) (hn : i + 1 < nn) (k : GG θ (xst2 i 1 Γ) (pc + 1) (sl L i z) t M) : GG θ Γ pc L ((1, z) :: t) M := by
  obtain ⟨p, l, e, R, s, m, args, below, meth, c, Qf, ω, M0, nL, nc, ns, fin⟩ := θ
  obtain ⟨hx, hb, hml, hown, hts, hK, hE, hr1, hr2, hr3, hr4, hret, hnn⟩ := h
  intro hG hS hM hM0 H locs ls hP hSv hl
  refine lv_lstore_n hx hb d hi hl (by rw [hnn]; exact hn) (xst2_lv ω Γ L i 1 z) (fun ls2 hl2 => ?_)
  exact k (xst2_wf hG (xwS_hd hS)) (xwS_tl hS) hM hM0 H locs ls2 hP hSv hl2
theorem GG.lstore {θ : XΘ} {own : String} {cc : ByteArray} {nn : Nat} {rm : Nat × Nat} {ret : Option FieldType} (h : Fx θ own cc nn rm ret) {Γ : XG} {pc : Nat} {L : XL} {t : XT} {M : XM} {z : Int} {i : Nat} (d : decode cc pc = .ok (.lstore i, 2)) (hn : i + 1 < nn) (k : GG θ (xst2 i 1 Γ) (pc + 2) (sl L i z) t M) : GG θ Γ pc L ((1, z) :: t) M := by
  obtain ⟨p, l, e, R, s, m, args, below, meth, c, Qf, ω, M0, nL, nc, ns, fin⟩ := θ
  obtain ⟨hx, hb, hml, hown, hts, hK, hE, hr1, hr2, hr3, hr4, hret, hnn⟩ := h
  intro hG hS hM hM0 H locs ls hP hSv hl
  refine lv_lstore hx hb d hl (by rw [hnn]; exact hn) (xst2_lv ω Γ L i 1 z) (fun ls2 hl2 => ?_)
  exact k (xst2_wf hG (xwS_hd hS)) (xwS_tl hS) hM hM0 H locs ls2 hP hSv hl2
theorem GG.astore_n {θ : XΘ} {own : String} {cc : ByteArray} {nn : Nat} {rm : Nat × Nat} {ret : Option FieldType} (h : Fx θ own cc nn rm ret) {Γ : XG} {pc : Nat} {L : XL} {t : XT} {M : XM} {z : Int} {κ : Nat} (hκ : 2 ≤ κ) {j : Fin 4} {i : Nat} (d : decode cc pc = .ok (.astore_n j, 1)) (hi : (j : Nat) = i) (hn : i < nn) (k : GG θ (xst1 i κ Γ) (pc + 1) (sl L i z) t M) : GG θ Γ pc L ((κ, z) :: t) M := by
  obtain ⟨p, l, e, R, s, m, args, below, meth, c, Qf, ω, M0, nL, nc, ns, fin⟩ := θ
  obtain ⟨hx, hb, hml, hown, hts, hK, hE, hr1, hr2, hr3, hr4, hret, hnn⟩ := h
  intro hG hS hM hM0 H locs ls hP hSv hl
  obtain ⟨x, hxv⟩ : ∃ x : Nat, x_val ω κ z = .ref x := by
    match κ, hκ with
    | 2, _ => exact ⟨_, rfl⟩
    | 3, _ => exact ⟨_, rfl⟩
    | j + 4, _ => exact ⟨_, rfl⟩
  rw [show xsv ω ((κ, z) :: t) = x_val ω κ z :: xsv ω t from rfl, hxv]
  refine lv_astore_n (lv' := xlv ω (xst1 i κ Γ) (sl L i z)) hx hb d hi hl (by rw [hnn]; exact hn) (by rw [← hxv]; exact xst1_lv ω Γ L i κ z) (fun ls2 hl2 => ?_)
  exact k (xst1_wf hG (xwS_hd hS)) (xwS_tl hS) hM hM0 H locs ls2 hP hSv hl2
theorem GG.astore {θ : XΘ} {own : String} {cc : ByteArray} {nn : Nat} {rm : Nat × Nat} {ret : Option FieldType} (h : Fx θ own cc nn rm ret) {Γ : XG} {pc : Nat} {L : XL} {t : XT} {M : XM} {z : Int} {κ : Nat} (hκ : 2 ≤ κ) {i : Nat} (d : decode cc pc = .ok (.astore i, 2)) (hn : i < nn) (k : GG θ (xst1 i κ Γ) (pc + 2) (sl L i z) t M) : GG θ Γ pc L ((κ, z) :: t) M := by
  obtain ⟨p, l, e, R, s, m, args, below, meth, c, Qf, ω, M0, nL, nc, ns, fin⟩ := θ
  obtain ⟨hx, hb, hml, hown, hts, hK, hE, hr1, hr2, hr3, hr4, hret, hnn⟩ := h
  intro hG hS hM hM0 H locs ls hP hSv hl
  obtain ⟨x, hxv⟩ : ∃ x : Nat, x_val ω κ z = .ref x := by
    match κ, hκ with
    | 2, _ => exact ⟨_, rfl⟩
    | 3, _ => exact ⟨_, rfl⟩
    | j + 4, _ => exact ⟨_, rfl⟩
  rw [show xsv ω ((κ, z) :: t) = x_val ω κ z :: xsv ω t from rfl, hxv]
  refine lv_astore (lv' := xlv ω (xst1 i κ Γ) (sl L i z)) hx hb d hl (by rw [hnn]; exact hn) (by rw [← hxv]; exact xst1_lv ω Γ L i κ z) (fun ls2 hl2 => ?_)
  exact k (xst1_wf hG (xwS_hd hS)) (xwS_tl hS) hM hM0 H locs ls2 hP hSv hl2
theorem GG.iinc {θ : XΘ} {own : String} {cc : ByteArray} {nn : Nat} {rm : Nat × Nat} {ret : Option FieldType} (h : Fx θ own cc nn rm ret) {Γ : XG} {pc : Nat} {L : XL} {t : XT} {M : XM} {i : Nat} {n : Int} (d : decode cc pc = .ok (.iinc i n, 3)) (hg : (i, 0) ∈ Γ) (k : GG θ (xst1 i 0 Γ) (pc + 3) (sl L i (iAdd (L i) n)) t M) : GG θ Γ pc L t M := by
  obtain ⟨p, l, e, R, s, m, args, below, meth, c, Qf, ω, M0, nL, nc, ns, fin⟩ := θ
  obtain ⟨hx, hb, hml, hown, hts, hK, hE, hr1, hr2, hr3, hr4, hret, hnn⟩ := h
  intro hG hS hM hM0 H locs ls hP hSv hl
  have h1 := xlv_at hl hg
  have hlt : i < nL := by rw [← hl.1]; exact (Array.getElem?_eq_some_iff.mp h1).1
  obtain ⟨kk, hkk⟩ := List.getElem?_of_mem (List.mem_map.mpr ⟨(i, 0), hg, rfl⟩ : (i, x_val ω 0 (L i)) ∈ xlv ω Γ L)
  refine lv_iinc (v := Int32.ofInt (iAdd (L i) n)) hx hb d hl hkk (by rw [oAdd]) hlt (xst1_lv ω Γ L i 0 _) (fun ls2 hl2 => ?_)
  exact k (xst1_wf hG (x32_r _)) hS hM hM0 H locs ls2 hP hSv hl2
theorem GG.weak {θ : XΘ} {Γ Γ2 : XG} {pc : Nat} {L : XL} {t : XT} {M : XM} (hs : ∀ q ∈ Γ2, q ∈ Γ) (k : GG θ Γ2 pc L t M) : GG θ Γ pc L t M := by
  obtain ⟨p, l, e, R, s, m, args, below, meth, c, Qf, ω, M0, nL, nc, ns, fin⟩ := θ
  intro hG hS hM hM0 H locs ls hP hSv hl
  refine k (fun q hq => hG q (hs q hq)) hS hM hM0 H locs ls hP hSv ⟨hl.1, hl.2.1, fun q hq => ?_⟩
  obtain ⟨r, hr, rfl⟩ := List.mem_map.mp hq
  exact hl.2.2 _ (List.mem_map.mpr ⟨r, hs r hr, rfl⟩)
theorem GG.dup {θ : XΘ} {own : String} {cc : ByteArray} {nn : Nat} {rm : Nat × Nat} {ret : Option FieldType} (h : Fx θ own cc nn rm ret) {Γ : XG} {pc : Nat} {L : XL} {t : XT} {M : XM} {κ : Nat} {z : Int} (hκ : κ ≠ 1) (d : decode cc pc = .ok (.dup, 1)) (k : GG θ Γ (pc + 1) L ((κ, z) :: (κ, z) :: t) M) : GG θ Γ pc L ((κ, z) :: t) M := by
  obtain ⟨p, l, e, R, s, m, args, below, meth, c, Qf, ω, M0, nL, nc, ns, fin⟩ := θ
  obtain ⟨hx, hb, hml, hown, hts, hK, hE, hr1, hr2, hr3, hr4, hret, hnn⟩ := h
  intro hG hS hM hM0 H locs ls hP hSv hl
  refine lv_dup (va := x_val ω κ z) hx hb d (by rw [x_val_cat]; unfold x_cat; rw [if_neg hκ]) ?_
  exact k hG (xwS_cons (xwS_hd hS) hS) hM hM0 H locs ls hP hSv hl
theorem GG.dup_x1 {θ : XΘ} {own : String} {cc : ByteArray} {nn : Nat} {rm : Nat × Nat} {ret : Option FieldType} (h : Fx θ own cc nn rm ret) {Γ : XG} {pc : Nat} {L : XL} {t : XT} {M : XM} {κ κ2 : Nat} {z z2 : Int} (hκ : κ ≠ 1) (hκ2 : κ2 ≠ 1) (d : decode cc pc = .ok (.dup_x1, 1)) (k : GG θ Γ (pc + 1) L ((κ, z) :: (κ2, z2) :: (κ, z) :: t) M) : GG θ Γ pc L ((κ, z) :: (κ2, z2) :: t) M := by
  obtain ⟨p, l, e, R, s, m, args, below, meth, c, Qf, ω, M0, nL, nc, ns, fin⟩ := θ
  obtain ⟨hx, hb, hml, hown, hts, hK, hE, hr1, hr2, hr3, hr4, hret, hnn⟩ := h
  intro hG hS hM hM0 H locs ls hP hSv hl
  refine lv_dup_x1 (va := x_val ω κ z) (vb := x_val ω κ2 z2) hx hb d (by rw [x_val_cat]; unfold x_cat; rw [if_neg hκ]) (by rw [x_val_cat]; unfold x_cat; rw [if_neg hκ2]) ?_
  exact k hG (xwS_cons (xwS_hd hS) (xwS_cons (xwS_hd (xwS_tl hS)) (xwS_cons (xwS_hd hS) (xwS_tl (xwS_tl hS))))) hM hM0 H locs ls hP hSv hl
theorem GG.dup2 {θ : XΘ} {own : String} {cc : ByteArray} {nn : Nat} {rm : Nat × Nat} {ret : Option FieldType} (h : Fx θ own cc nn rm ret) {Γ : XG} {pc : Nat} {L : XL} {t : XT} {M : XM} {κ κ2 : Nat} {z z2 : Int} (hκ : κ ≠ 1) (hκ2 : κ2 ≠ 1) (d : decode cc pc = .ok (.dup2, 1)) (k : GG θ Γ (pc + 1) L ((κ, z) :: (κ2, z2) :: (κ, z) :: (κ2, z2) :: t) M) : GG θ Γ pc L ((κ, z) :: (κ2, z2) :: t) M := by
  obtain ⟨p, l, e, R, s, m, args, below, meth, c, Qf, ω, M0, nL, nc, ns, fin⟩ := θ
  obtain ⟨hx, hb, hml, hown, hts, hK, hE, hr1, hr2, hr3, hr4, hret, hnn⟩ := h
  intro hG hS hM hM0 H locs ls hP hSv hl
  refine lv_dup2_11 (va := x_val ω κ z) (vb := x_val ω κ2 z2) hx hb d (by rw [x_val_cat]; unfold x_cat; rw [if_neg hκ]) (by rw [x_val_cat]; unfold x_cat; rw [if_neg hκ2]) ?_
  exact k hG (xwS_cons (xwS_hd hS) (xwS_cons (xwS_hd (xwS_tl hS)) hS)) hM hM0 H locs ls hP hSv hl
theorem GG.pop {θ : XΘ} {own : String} {cc : ByteArray} {nn : Nat} {rm : Nat × Nat} {ret : Option FieldType} (h : Fx θ own cc nn rm ret) {Γ : XG} {pc : Nat} {L : XL} {t : XT} {M : XM} {κ : Nat} {z : Int} (hκ : κ ≠ 1) (d : decode cc pc = .ok (.pop, 1)) (k : GG θ Γ (pc + 1) L (t) M) : GG θ Γ pc L ((κ, z) :: t) M := by
  obtain ⟨p, l, e, R, s, m, args, below, meth, c, Qf, ω, M0, nL, nc, ns, fin⟩ := θ
  obtain ⟨hx, hb, hml, hown, hts, hK, hE, hr1, hr2, hr3, hr4, hret, hnn⟩ := h
  intro hG hS hM hM0 H locs ls hP hSv hl
  refine lv_pop (va := x_val ω κ z) hx hb d (by rw [x_val_cat]; unfold x_cat; rw [if_neg hκ]) ?_
  exact k hG (xwS_tl hS) hM hM0 H locs ls hP hSv hl
theorem GG.goto {θ : XΘ} {own : String} {cc : ByteArray} {nn : Nat} {rm : Nat × Nat} {ret : Option FieldType} (h : Fx θ own cc nn rm ret) {Γ : XG} {pc : Nat} {L : XL} {t : XT} {M : XM} {off : Int} {tgt : Nat} (d : decode cc pc = .ok (.goto off, 3)) (ht : (pc : Int) + off = (tgt : Int)) (k : GG θ Γ tgt L t M) : GG θ Γ pc L t M := by
  obtain ⟨p, l, e, R, s, m, args, below, meth, c, Qf, ω, M0, nL, nc, ns, fin⟩ := θ
  obtain ⟨hx, hb, hml, hown, hts, hK, hE, hr1, hr2, hr3, hr4, hret, hnn⟩ := h
  intro hG hS hM hM0 H locs ls hP hSv hl
  refine lv_goto hx hb d ht ?_
  exact k hG hS hM hM0 H locs ls hP hSv hl
theorem GG.icmp_eq {θ : XΘ} {own : String} {cc : ByteArray} {nn : Nat} {rm : Nat × Nat} {ret : Option FieldType} (h : Fx θ own cc nn rm ret) {Γ : XG} {pc : Nat} {L : XL} {t : XT} {M : XM} {x y : Int} {off : Int} {tgt : Nat} (d : decode cc pc = .ok (.if_icmp .eq off, 3)) (ht : (pc : Int) + off = (tgt : Int)) (kt : x = y → GG θ Γ tgt L t M) (kf : ¬ (x = y) → GG θ Γ (pc + 3) L t M) : GG θ Γ pc L ((0, y) :: (0, x) :: t) M := by
  obtain ⟨p, l, e, R, s, m, args, below, meth, c, Qf, ω, M0, nL, nc, ns, fin⟩ := θ
  obtain ⟨hx, hb, hml, hown, hts, hK, hE, hr1, hr2, hr3, hr4, hret, hnn⟩ := h
  intro hG hS hM hM0 H locs ls hP hSv hl
  have hi := (xeq32 (xwS_hd (xwS_tl hS)) (xwS_hd hS))
  refine lv_icmp_eq hx hb d ht (fun q => ?_) (fun q => ?_)
  · exact kt (hi.mp q) hG (xwS_tl (xwS_tl hS)) hM hM0 H locs ls hP hSv hl
  · exact kf (fun r => q (hi.mpr r)) hG (xwS_tl (xwS_tl hS)) hM hM0 H locs ls hP hSv hl
theorem GG.if_eq {θ : XΘ} {own : String} {cc : ByteArray} {nn : Nat} {rm : Nat × Nat} {ret : Option FieldType} (h : Fx θ own cc nn rm ret) {Γ : XG} {pc : Nat} {L : XL} {t : XT} {M : XM} {x : Int} {off : Int} {tgt : Nat} (d : decode cc pc = .ok (.ifCond .eq off, 3)) (ht : (pc : Int) + off = (tgt : Int)) (kt : x = 0 → GG θ Γ tgt L t M) (kf : ¬ (x = 0) → GG θ Γ (pc + 3) L t M) : GG θ Γ pc L ((0, x) :: t) M := by
  obtain ⟨p, l, e, R, s, m, args, below, meth, c, Qf, ω, M0, nL, nc, ns, fin⟩ := θ
  obtain ⟨hx, hb, hml, hown, hts, hK, hE, hr1, hr2, hr3, hr4, hret, hnn⟩ := h
  intro hG hS hM hM0 H locs ls hP hSv hl
  have hi := (xeq32 (xwS_hd hS) (xz32))
  refine lv_if_eq hx hb d ht (fun q => ?_) (fun q => ?_)
  · exact kt (hi.mp q) hG (xwS_tl hS) hM hM0 H locs ls hP hSv hl
  · exact kf (fun r => q (hi.mpr r)) hG (xwS_tl hS) hM hM0 H locs ls hP hSv hl
theorem GG.icmp_ne {θ : XΘ} {own : String} {cc : ByteArray} {nn : Nat} {rm : Nat × Nat} {ret : Option FieldType} (h : Fx θ own cc nn rm ret) {Γ : XG} {pc : Nat} {L : XL} {t : XT} {M : XM} {x y : Int} {off : Int} {tgt : Nat} (d : decode cc pc = .ok (.if_icmp .ne off, 3)) (ht : (pc : Int) + off = (tgt : Int)) (kt : x ≠ y → GG θ Γ tgt L t M) (kf : ¬ (x ≠ y) → GG θ Γ (pc + 3) L t M) : GG θ Γ pc L ((0, y) :: (0, x) :: t) M := by
  obtain ⟨p, l, e, R, s, m, args, below, meth, c, Qf, ω, M0, nL, nc, ns, fin⟩ := θ
  obtain ⟨hx, hb, hml, hown, hts, hK, hE, hr1, hr2, hr3, hr4, hret, hnn⟩ := h
  intro hG hS hM hM0 H locs ls hP hSv hl
  have hi := (not_congr (xeq32 (xwS_hd (xwS_tl hS)) (xwS_hd hS)))
  refine lv_icmp_ne hx hb d ht (fun q => ?_) (fun q => ?_)
  · exact kt (hi.mp q) hG (xwS_tl (xwS_tl hS)) hM hM0 H locs ls hP hSv hl
  · exact kf (fun r => hi.mpr r q) hG (xwS_tl (xwS_tl hS)) hM hM0 H locs ls hP hSv hl
theorem GG.if_ne {θ : XΘ} {own : String} {cc : ByteArray} {nn : Nat} {rm : Nat × Nat} {ret : Option FieldType} (h : Fx θ own cc nn rm ret) {Γ : XG} {pc : Nat} {L : XL} {t : XT} {M : XM} {x : Int} {off : Int} {tgt : Nat} (d : decode cc pc = .ok (.ifCond .ne off, 3)) (ht : (pc : Int) + off = (tgt : Int)) (kt : x ≠ 0 → GG θ Γ tgt L t M) (kf : ¬ (x ≠ 0) → GG θ Γ (pc + 3) L t M) : GG θ Γ pc L ((0, x) :: t) M := by
  obtain ⟨p, l, e, R, s, m, args, below, meth, c, Qf, ω, M0, nL, nc, ns, fin⟩ := θ
  obtain ⟨hx, hb, hml, hown, hts, hK, hE, hr1, hr2, hr3, hr4, hret, hnn⟩ := h
  intro hG hS hM hM0 H locs ls hP hSv hl
  have hi := (not_congr (xeq32 (xwS_hd hS) (xz32)))
  refine lv_if_ne hx hb d ht (fun q => ?_) (fun q => ?_)
  · exact kt (hi.mp q) hG (xwS_tl hS) hM hM0 H locs ls hP hSv hl
  · exact kf (fun r => hi.mpr r q) hG (xwS_tl hS) hM hM0 H locs ls hP hSv hl
theorem GG.icmp_lt {θ : XΘ} {own : String} {cc : ByteArray} {nn : Nat} {rm : Nat × Nat} {ret : Option FieldType} (h : Fx θ own cc nn rm ret) {Γ : XG} {pc : Nat} {L : XL} {t : XT} {M : XM} {x y : Int} {off : Int} {tgt : Nat} (d : decode cc pc = .ok (.if_icmp .lt off, 3)) (ht : (pc : Int) + off = (tgt : Int)) (kt : x < y → GG θ Γ tgt L t M) (kf : ¬ (x < y) → GG θ Γ (pc + 3) L t M) : GG θ Γ pc L ((0, y) :: (0, x) :: t) M := by
  obtain ⟨p, l, e, R, s, m, args, below, meth, c, Qf, ω, M0, nL, nc, ns, fin⟩ := θ
  obtain ⟨hx, hb, hml, hown, hts, hK, hE, hr1, hr2, hr3, hr4, hret, hnn⟩ := h
  intro hG hS hM hM0 H locs ls hP hSv hl
  have hi := (xlt32 (xwS_hd (xwS_tl hS)) (xwS_hd hS))
  refine lv_icmp_lt hx hb d ht (fun q => ?_) (fun q => ?_)
  · exact kt (hi.mp q) hG (xwS_tl (xwS_tl hS)) hM hM0 H locs ls hP hSv hl
  · exact kf (fun r => q (hi.mpr r)) hG (xwS_tl (xwS_tl hS)) hM hM0 H locs ls hP hSv hl
theorem GG.if_lt {θ : XΘ} {own : String} {cc : ByteArray} {nn : Nat} {rm : Nat × Nat} {ret : Option FieldType} (h : Fx θ own cc nn rm ret) {Γ : XG} {pc : Nat} {L : XL} {t : XT} {M : XM} {x : Int} {off : Int} {tgt : Nat} (d : decode cc pc = .ok (.ifCond .lt off, 3)) (ht : (pc : Int) + off = (tgt : Int)) (kt : x < 0 → GG θ Γ tgt L t M) (kf : ¬ (x < 0) → GG θ Γ (pc + 3) L t M) : GG θ Γ pc L ((0, x) :: t) M := by
  obtain ⟨p, l, e, R, s, m, args, below, meth, c, Qf, ω, M0, nL, nc, ns, fin⟩ := θ
  obtain ⟨hx, hb, hml, hown, hts, hK, hE, hr1, hr2, hr3, hr4, hret, hnn⟩ := h
  intro hG hS hM hM0 H locs ls hP hSv hl
  have hi := (xlt32 (xwS_hd hS) (xz32))
  refine lv_if_lt hx hb d ht (fun q => ?_) (fun q => ?_)
  · exact kt (hi.mp q) hG (xwS_tl hS) hM hM0 H locs ls hP hSv hl
  · exact kf (fun r => q (hi.mpr r)) hG (xwS_tl hS) hM hM0 H locs ls hP hSv hl
theorem GG.icmp_ge {θ : XΘ} {own : String} {cc : ByteArray} {nn : Nat} {rm : Nat × Nat} {ret : Option FieldType} (h : Fx θ own cc nn rm ret) {Γ : XG} {pc : Nat} {L : XL} {t : XT} {M : XM} {x y : Int} {off : Int} {tgt : Nat} (d : decode cc pc = .ok (.if_icmp .ge off, 3)) (ht : (pc : Int) + off = (tgt : Int)) (kt : y ≤ x → GG θ Γ tgt L t M) (kf : ¬ (y ≤ x) → GG θ Γ (pc + 3) L t M) : GG θ Γ pc L ((0, y) :: (0, x) :: t) M := by
  obtain ⟨p, l, e, R, s, m, args, below, meth, c, Qf, ω, M0, nL, nc, ns, fin⟩ := θ
  obtain ⟨hx, hb, hml, hown, hts, hK, hE, hr1, hr2, hr3, hr4, hret, hnn⟩ := h
  intro hG hS hM hM0 H locs ls hP hSv hl
  have hi := (xle32 (xwS_hd hS) (xwS_hd (xwS_tl hS)))
  refine lv_icmp_ge hx hb d ht (fun q => ?_) (fun q => ?_)
  · exact kt (hi.mp q) hG (xwS_tl (xwS_tl hS)) hM hM0 H locs ls hP hSv hl
  · exact kf (fun r => q (hi.mpr r)) hG (xwS_tl (xwS_tl hS)) hM hM0 H locs ls hP hSv hl
theorem GG.if_ge {θ : XΘ} {own : String} {cc : ByteArray} {nn : Nat} {rm : Nat × Nat} {ret : Option FieldType} (h : Fx θ own cc nn rm ret) {Γ : XG} {pc : Nat} {L : XL} {t : XT} {M : XM} {x : Int} {off : Int} {tgt : Nat} (d : decode cc pc = .ok (.ifCond .ge off, 3)) (ht : (pc : Int) + off = (tgt : Int)) (kt : 0 ≤ x → GG θ Γ tgt L t M) (kf : ¬ (0 ≤ x) → GG θ Γ (pc + 3) L t M) : GG θ Γ pc L ((0, x) :: t) M := by
  obtain ⟨p, l, e, R, s, m, args, below, meth, c, Qf, ω, M0, nL, nc, ns, fin⟩ := θ
  obtain ⟨hx, hb, hml, hown, hts, hK, hE, hr1, hr2, hr3, hr4, hret, hnn⟩ := h
  intro hG hS hM hM0 H locs ls hP hSv hl
  have hi := (xle32 (xz32) (xwS_hd hS))
  refine lv_if_ge hx hb d ht (fun q => ?_) (fun q => ?_)
  · exact kt (hi.mp q) hG (xwS_tl hS) hM hM0 H locs ls hP hSv hl
  · exact kf (fun r => q (hi.mpr r)) hG (xwS_tl hS) hM hM0 H locs ls hP hSv hl
theorem GG.icmp_gt {θ : XΘ} {own : String} {cc : ByteArray} {nn : Nat} {rm : Nat × Nat} {ret : Option FieldType} (h : Fx θ own cc nn rm ret) {Γ : XG} {pc : Nat} {L : XL} {t : XT} {M : XM} {x y : Int} {off : Int} {tgt : Nat} (d : decode cc pc = .ok (.if_icmp .gt off, 3)) (ht : (pc : Int) + off = (tgt : Int)) (kt : y < x → GG θ Γ tgt L t M) (kf : ¬ (y < x) → GG θ Γ (pc + 3) L t M) : GG θ Γ pc L ((0, y) :: (0, x) :: t) M := by
  obtain ⟨p, l, e, R, s, m, args, below, meth, c, Qf, ω, M0, nL, nc, ns, fin⟩ := θ
  obtain ⟨hx, hb, hml, hown, hts, hK, hE, hr1, hr2, hr3, hr4, hret, hnn⟩ := h
  intro hG hS hM hM0 H locs ls hP hSv hl
  have hi := (xlt32 (xwS_hd hS) (xwS_hd (xwS_tl hS)))
  refine lv_icmp_gt hx hb d ht (fun q => ?_) (fun q => ?_)
  · exact kt (hi.mp q) hG (xwS_tl (xwS_tl hS)) hM hM0 H locs ls hP hSv hl
  · exact kf (fun r => q (hi.mpr r)) hG (xwS_tl (xwS_tl hS)) hM hM0 H locs ls hP hSv hl
theorem GG.if_gt {θ : XΘ} {own : String} {cc : ByteArray} {nn : Nat} {rm : Nat × Nat} {ret : Option FieldType} (h : Fx θ own cc nn rm ret) {Γ : XG} {pc : Nat} {L : XL} {t : XT} {M : XM} {x : Int} {off : Int} {tgt : Nat} (d : decode cc pc = .ok (.ifCond .gt off, 3)) (ht : (pc : Int) + off = (tgt : Int)) (kt : 0 < x → GG θ Γ tgt L t M) (kf : ¬ (0 < x) → GG θ Γ (pc + 3) L t M) : GG θ Γ pc L ((0, x) :: t) M := by
  obtain ⟨p, l, e, R, s, m, args, below, meth, c, Qf, ω, M0, nL, nc, ns, fin⟩ := θ
  obtain ⟨hx, hb, hml, hown, hts, hK, hE, hr1, hr2, hr3, hr4, hret, hnn⟩ := h
  intro hG hS hM hM0 H locs ls hP hSv hl
  have hi := (xlt32 (xz32) (xwS_hd hS))
  refine lv_if_gt hx hb d ht (fun q => ?_) (fun q => ?_)
  · exact kt (hi.mp q) hG (xwS_tl hS) hM hM0 H locs ls hP hSv hl
  · exact kf (fun r => q (hi.mpr r)) hG (xwS_tl hS) hM hM0 H locs ls hP hSv hl
theorem GG.icmp_le {θ : XΘ} {own : String} {cc : ByteArray} {nn : Nat} {rm : Nat × Nat} {ret : Option FieldType} (h : Fx θ own cc nn rm ret) {Γ : XG} {pc : Nat} {L : XL} {t : XT} {M : XM} {x y : Int} {off : Int} {tgt : Nat} (d : decode cc pc = .ok (.if_icmp .le off, 3)) (ht : (pc : Int) + off = (tgt : Int)) (kt : x ≤ y → GG θ Γ tgt L t M) (kf : ¬ (x ≤ y) → GG θ Γ (pc + 3) L t M) : GG θ Γ pc L ((0, y) :: (0, x) :: t) M := by
  obtain ⟨p, l, e, R, s, m, args, below, meth, c, Qf, ω, M0, nL, nc, ns, fin⟩ := θ
  obtain ⟨hx, hb, hml, hown, hts, hK, hE, hr1, hr2, hr3, hr4, hret, hnn⟩ := h
  intro hG hS hM hM0 H locs ls hP hSv hl
  have hi := (xle32 (xwS_hd (xwS_tl hS)) (xwS_hd hS))
  refine lv_icmp_le hx hb d ht (fun q => ?_) (fun q => ?_)
  · exact kt (hi.mp q) hG (xwS_tl (xwS_tl hS)) hM hM0 H locs ls hP hSv hl
  · exact kf (fun r => q (hi.mpr r)) hG (xwS_tl (xwS_tl hS)) hM hM0 H locs ls hP hSv hl
theorem GG.if_le {θ : XΘ} {own : String} {cc : ByteArray} {nn : Nat} {rm : Nat × Nat} {ret : Option FieldType} (h : Fx θ own cc nn rm ret) {Γ : XG} {pc : Nat} {L : XL} {t : XT} {M : XM} {x : Int} {off : Int} {tgt : Nat} (d : decode cc pc = .ok (.ifCond .le off, 3)) (ht : (pc : Int) + off = (tgt : Int)) (kt : x ≤ 0 → GG θ Γ tgt L t M) (kf : ¬ (x ≤ 0) → GG θ Γ (pc + 3) L t M) : GG θ Γ pc L ((0, x) :: t) M := by
  obtain ⟨p, l, e, R, s, m, args, below, meth, c, Qf, ω, M0, nL, nc, ns, fin⟩ := θ
  obtain ⟨hx, hb, hml, hown, hts, hK, hE, hr1, hr2, hr3, hr4, hret, hnn⟩ := h
  intro hG hS hM hM0 H locs ls hP hSv hl
  have hi := (xle32 (xwS_hd hS) (xz32))
  refine lv_if_le hx hb d ht (fun q => ?_) (fun q => ?_)
  · exact kt (hi.mp q) hG (xwS_tl hS) hM hM0 H locs ls hP hSv hl
  · exact kf (fun r => q (hi.mpr r)) hG (xwS_tl hS) hM hM0 H locs ls hP hSv hl
def lCmp (x y : Int) : Int := if x < y then -1 else if x = y then 0 else 1
theorem oLcmp {x y : Int} (hx : r64 x) (hy : r64 y) : Int32.ofInt (lCmp x y) = lg_cmp (Int64.ofInt x) (Int64.ofInt y) := by
  have h1 := xlt64 hx hy
  have h2 := xlt64 hy hx
  have h3 := xeq64 hx hy
  unfold lCmp lg_cmp
  by_cases a : x < y
  · have a1 := h1.mpr a
    have a3 : ¬ Int64.ofInt y < Int64.ofInt x := fun q => by have := h2.mp q; omega
    have a4 : ¬ Int64.ofInt x = Int64.ofInt y := fun q => by have := h3.mp q; omega
    simp [a, a3, a4]
  · have a2 : ¬ Int64.ofInt x < Int64.ofInt y := fun q => a (h1.mp q)
    by_cases b : x = y
    · subst b; simp
    · have b2 : ¬ Int64.ofInt x = Int64.ofInt y := fun q => b (h3.mp q)
      have b3 : Int64.ofInt y < Int64.ofInt x := h2.mpr (by omega)
      simp [a, b, b3]
theorem lCmp_r (x y : Int) : r32 (lCmp x y) := by
  unfold lCmp r32
  split
  · omega
  · split <;> omega
theorem GG.lcmp {θ : XΘ} {own : String} {cc : ByteArray} {nn : Nat} {rm : Nat × Nat} {ret : Option FieldType} (h : Fx θ own cc nn rm ret) {Γ : XG} {pc : Nat} {L : XL} {t : XT} {M : XM} {x y : Int} (d : decode cc pc = .ok (.lcmp, 1)) (k : GG θ Γ (pc + 1) L ((0, lCmp x y) :: t) M) : GG θ Γ pc L ((1, y) :: (1, x) :: t) M := by
  obtain ⟨p, l, e, R, s, m, args, below, meth, c, Qf, ω, M0, nL, nc, ns, fin⟩ := θ
  obtain ⟨hx, hb, hml, hown, hts, hK, hE, hr1, hr2, hr3, hr4, hret, hnn⟩ := h
  intro hG hS hM hM0 H locs ls hP hSv hl
  refine W.lcmp hx hb d ?_
  rw [← oLcmp (xwS_hd (xwS_tl hS)) (xwS_hd hS)]
  exact k hG (xwS_cons (lCmp_r _ _) (xwS_tl (xwS_tl hS))) hM hM0 H locs ls hP hSv hl
theorem lCmp_eq {x y : Int} : lCmp x y = 0 ↔ x = y := by unfold lCmp; split <;> (try split) <;> omega
theorem lCmp_lt {x y : Int} : lCmp x y < 0 ↔ x < y := by unfold lCmp; split <;> (try split) <;> omega
theorem lCmp_gt {x y : Int} : 0 < lCmp x y ↔ y < x := by unfold lCmp; split <;> (try split) <;> omega
theorem lCmp_le {x y : Int} : lCmp x y ≤ 0 ↔ x ≤ y := by unfold lCmp; split <;> (try split) <;> omega
theorem lCmp_ge {x y : Int} : 0 ≤ lCmp x y ↔ y ≤ x := by unfold lCmp; split <;> (try split) <;> omega
end
section
/-! ===== fields, arrays, statics ===== -/
theorem xidx {j : Int} {n : Nat} (h0 : 0 ≤ j) (h1 : j < n) (hn : n < 2147483648) : vp_in (Int32.ofInt j) n ∧ (Int32.ofInt j).toNatClampNeg = j.toNat ∧ ((j.toNat : Nat) : Int) = j := by
  have hr : r32 j := by unfold r32; omega
  have e : (Int32.ofInt j).toNatClampNeg = j.toNat := by
    show (Int32.ofInt j).toInt.toNat = _
    rw [xt32i hr]
  refine ⟨vp_in_iff.mpr ?_, e, by omega⟩
  rw [xt32i hr]
  exact ⟨h0, h1⟩
theorem GG.getf {θ : XΘ} {own : String} {cc : ByteArray} {nn : Nat} {rm : Nat × Nat} {ret : Option FieldType} (h : Fx θ own cc nn rm ret) {Γ : XG} {pc : Nat} {L : XL} {t : XT} {M : XM} {κ k j ix ci N : Nat} {C ref : String} {T : u_T} {fs : XW → (Int → Int) → List Value} (zf : (Int → Int) → Int) (hk : k < xN) (hc : vwCl[ci]? = some (C, T, N)) (hcell : ∀ ω f, xcell ω k f = .inr (ci, fs ω f)) (hv : ∀ ω f, (fs ω f)[j]? = some (x_val ω κ (zf f))) (hwf : ∀ M, xwM M → x_wf κ (zf (M k))) (hj : j < N) (hlink : Cond.fieldLink own ix ref (T j).2.1 (T j).2.2.1 ∈ xT) (hsame : (T j).1 = ref) (hin : ∀ w ∈ u_ws C T N, w ∈ xT) (d : decode cc pc = .ok (.getfield ix, 3)) {z : Int} (kk : GG θ Γ (pc + 3) L ((κ, zf (M k)) :: t) M) : GG θ Γ pc L ((k + 4, z) :: t) M := by
  obtain ⟨p, l, e, R, s, m, args, below, meth, c, Qf, ω, M0, nL, nc, ns, fin⟩ := θ
  obtain ⟨hx, hb, hml, hown, hts, hK, hE, hr1, hr2, hr3, hr4, hret, hnn⟩ := h
  intro hG hS hM hM0 H locs ls hP hSv hl
  refine va_get (Ts := xT) (D := ω.1) hx hb hts hin hown hK.1 hP k (by rw [xworld_get ω M hk, hcell]) hc j hj (hts _ hlink) (fun x hx2 => by rw [hsame] at hx2; exact hx2) (hv ω (M k)) d ?_
  exact kk hG (xwS_cons (hwf M hM) (xwS_tl hS)) hM hM0 H locs ls hP hSv hl
theorem GG.putf {θ : XΘ} {own : String} {cc : ByteArray} {nn : Nat} {rm : Nat × Nat} {ret : Option FieldType} (h : Fx θ own cc nn rm ret) {Γ : XG} {pc : Nat} {L : XL} {t : XT} {M : XM} {k j ix ci N : Nat} {C ref : String} {T : u_T} {fs : XW → (Int → Int) → List Value} (hk : k < xN) (hlg : xlong k = false) (hc : vwCl[ci]? = some (C, T, N)) (hcell : ∀ ω f, xcell ω k f = .inr (ci, fs ω f)) (hset : ∀ ω f v, (fs ω f).set j (.int (Int32.ofInt v)) = fs ω (fun b => if b = (j : Int) then v else f b)) (hlen : ∀ ω f, j < (fs ω f).length) (hj : j < N) (hlink : Cond.fieldLink own ix ref (T j).2.1 (T j).2.2.1 ∈ xT) (hsame : (T j).1 = ref) (hfin : (T j).2.2.2 = false) (ty0 : Nat → FieldType) (hty : ∀ k, k < N → parseFieldDescriptor (T k).2.2.1 = some (ty0 k)) (hint : ty0 j = .int) (hnm : ∀ a, a < N → ∀ b, b < N → a ≠ b → (T a).2.1 ≠ (T b).2.1) (hin : ∀ w ∈ u_ws C T N, w ∈ xT) (d : decode cc pc = .ok (.putfield ix, 3)) {z v : Int} (kk : GG θ Γ (pc + 3) L t (st M k j v)) : GG θ Γ pc L ((0, v) :: (k + 4, z) :: t) M := by
  obtain ⟨p, l, e, R, s, m, args, below, meth, c, Qf, ω, M0, nL, nc, ns, fin⟩ := θ
  obtain ⟨hx, hb, hml, hown, hts, hK, hE, hr1, hr2, hr3, hr4, hret, hnn⟩ := h
  intro hG hS hM hM0 H locs ls hP hSv hl
  have hd : parseFieldDescriptor (T j).2.2.1 = some .int := by rw [hty j hj, hint]
  refine va_put (Ts := xT) (D := ω.1) (ty := .int) (v := .int (Int32.ofInt v)) hx hb hts hin ty0 hty hnm hown hK.1 hP (xworld_D hK.2.2 M) hSv k (by rw [xworld_get ω M hk, hcell]) hc j hj (hts _ hlink) (fun x hx2 => by rw [hsame] at hx2; exact hx2) hfin hd rfl rfl (hlen ω (M k)) d (fun H1 locs1 hP1 hD1 hS1 => ?_)
  have hv : r32 v := xwS_hd hS
  rw [xworld_set ω M (st M k j v) hk (by rw [hset, st_self, hcell]) (fun a ha => st_ne M j v ha)] at hP1
  exact kk hG (xwS_tl (xwS_tl hS)) (xwM_st hM (by rw [hlg]; exact hv)) (xSame_st hM0 hk j v) H1 locs1 ls hP1 hS1 hl
theorem xw_aI {ω : XW} {M : XM} {k n : Nat} (hk : k < xN) (hcell : ∀ ω f, xcell ω k f = xaI ω n f) : (xworld ω M)[k]? = some (ω.2.1 k, .inl (ω.2.2.1, n, .inl (fun i => Int32.ofInt (M k (i : Int))))) := by
  rw [xworld_get ω M hk, hcell]
  rfl
theorem xw_aJ {ω : XW} {M : XM} {k n : Nat} (hk : k < xN) (hcell : ∀ ω f, xcell ω k f = xaJ ω n f) : (xworld ω M)[k]? = some (ω.2.1 k, .inl (ω.2.2.2.1, n, .inr (.inl (fun i => Int64.ofInt (M k (i : Int)))))) := by
  rw [xworld_get ω M hk, hcell]
  rfl
theorem GG.iald {θ : XΘ} {own : String} {cc : ByteArray} {nn : Nat} {rm : Nat × Nat} {ret : Option FieldType} (h : Fx θ own cc nn rm ret) {Γ : XG} {pc : Nat} {L : XL} {t : XT} {M : XM} {k n : Nat} (hk : k < xN) (hcell : ∀ ω f, xcell ω k f = xaI ω n f) (hlg : xlong k = false) (hn : n < 2147483648) (d : decode cc pc = .ok (.iaload, 1)) {j z : Int} (h0 : 0 ≤ j) (h1 : j < n) (kk : GG θ Γ (pc + 1) L ((0, M k j) :: t) M) : GG θ Γ pc L ((0, j) :: (k + 4, z) :: t) M := by
  obtain ⟨p, l, e, R, s, m, args, below, meth, c, Qf, ω, M0, nL, nc, ns, fin⟩ := θ
  obtain ⟨hx, hb, hml, hown, hts, hK, hE, hr1, hr2, hr3, hr4, hret, hnn⟩ := h
  intro hG hS hM hM0 H locs ls hP hSv hl
  obtain ⟨g1, g2, g3⟩ := xidx h0 h1 hn
  refine va_iald (D := ω.1) hx hb hK.1 hP k 0 (xw_aI hk hcell) rfl g1 d ?_
  rw [g2, g3]
  exact kk hG (xwS_cons (xwM32 hM hlg j) (xwS_tl (xwS_tl hS))) hM hM0 H locs ls hP hSv hl
theorem GG.lald {θ : XΘ} {own : String} {cc : ByteArray} {nn : Nat} {rm : Nat × Nat} {ret : Option FieldType} (h : Fx θ own cc nn rm ret) {Γ : XG} {pc : Nat} {L : XL} {t : XT} {M : XM} {k n : Nat} (hk : k < xN) (hcell : ∀ ω f, xcell ω k f = xaJ ω n f) (hlg : xlong k = true) (hn : n < 2147483648) (d : decode cc pc = .ok (.laload, 1)) {j z : Int} {κ : Nat} (hκ : ∀ ω, x_val ω κ z = .ref (ω.2.1 k)) (h0 : 0 ≤ j) (h1 : j < n) (kk : GG θ Γ (pc + 1) L ((1, M k j) :: t) M) : GG θ Γ pc L ((0, j) :: (κ, z) :: t) M := by
  obtain ⟨p, l, e, R, s, m, args, below, meth, c, Qf, ω, M0, nL, nc, ns, fin⟩ := θ
  obtain ⟨hx, hb, hml, hown, hts, hK, hE, hr1, hr2, hr3, hr4, hret, hnn⟩ := h
  intro hG hS hM hM0 H locs ls hP hSv hl
  obtain ⟨g1, g2, g3⟩ := xidx h0 h1 hn
  rw [show xsv ω ((0, j) :: (κ, z) :: t) = .int (Int32.ofInt j) :: x_val ω κ z :: xsv ω t from rfl, hκ ω]
  refine va_lald (D := ω.1) hx hb hK.1 hP k 1 (xw_aJ hk hcell) rfl g1 d ?_
  rw [g2, g3]
  exact kk hG (xwS_cons (xwM64 hM hlg j) (xwS_tl (xwS_tl hS))) hM hM0 H locs ls hP hSv hl
theorem xupdI (f : Int → Int) {j : Int} (h0 : 0 ≤ j) (v : Int) : upd (fun i : Nat => Int32.ofInt (f (i : Int))) j.toNat (Int32.ofInt v) = fun i : Nat => Int32.ofInt (if (i : Int) = j then v else f (i : Int)) := by
  funext i
  unfold upd
  by_cases e : i = j.toNat
  · have e2 : (i : Int) = j := by omega
    rw [if_pos e, if_pos e2]
  · have e2 : ¬ (i : Int) = j := by omega
    rw [if_neg e, if_neg e2]
theorem xupdJ (f : Int → Int) {j : Int} (h0 : 0 ≤ j) (v : Int) : vp_updL (fun i : Nat => Int64.ofInt (f (i : Int))) j.toNat (Int64.ofInt v) = fun i : Nat => Int64.ofInt (if (i : Int) = j then v else f (i : Int)) := by
  funext i
  unfold vp_updL
  by_cases e : i = j.toNat
  · have e2 : (i : Int) = j := by omega
    rw [if_pos e, if_pos e2]
  · have e2 : ¬ (i : Int) = j := by omega
    rw [if_neg e, if_neg e2]
theorem GG.iast {θ : XΘ} {own : String} {cc : ByteArray} {nn : Nat} {rm : Nat × Nat} {ret : Option FieldType} (h : Fx θ own cc nn rm ret) {Γ : XG} {pc : Nat} {L : XL} {t : XT} {M : XM} {k n : Nat} (hk : k < xN) (hcell : ∀ ω f, xcell ω k f = xaI ω n f) (hlg : xlong k = false) (hn : n < 2147483648) (d : decode cc pc = .ok (.iastore, 1)) {j z v : Int} (h0 : 0 ≤ j) (h1 : j < n) (kk : GG θ Γ (pc + 1) L t (st M k j v)) : GG θ Γ pc L ((0, v) :: (0, j) :: (k + 4, z) :: t) M := by
  obtain ⟨p, l, e, R, s, m, args, below, meth, c, Qf, ω, M0, nL, nc, ns, fin⟩ := θ
  obtain ⟨hx, hb, hml, hown, hts, hK, hE, hr1, hr2, hr3, hr4, hret, hnn⟩ := h
  intro hG hS hM hM0 H locs ls hP hSv hl
  obtain ⟨g1, g2, g3⟩ := xidx h0 h1 hn
  refine va_iast (D := ω.1) hx hb hK.1 hP (xworld_D hK.2.2 M) hSv k 0 (xw_aI hk hcell) rfl g1 d (fun H1 locs1 hP1 hD1 hS1 => ?_)
  have hv : r32 v := xwS_hd hS
  rw [g2, xupdI _ h0, xworld_set ω M (st M k j v) hk (by rw [st_self, hcell]; rfl) (fun a ha => st_ne M j v ha)] at hP1
  exact kk hG (xwS_tl (xwS_tl (xwS_tl hS))) (xwM_st hM (by rw [hlg]; exact hv)) (xSame_st hM0 hk j v) H1 locs1 ls hP1 hS1 hl
theorem GG.last {θ : XΘ} {own : String} {cc : ByteArray} {nn : Nat} {rm : Nat × Nat} {ret : Option FieldType} (h : Fx θ own cc nn rm ret) {Γ : XG} {pc : Nat} {L : XL} {t : XT} {M : XM} {k n : Nat} (hk : k < xN) (hcell : ∀ ω f, xcell ω k f = xaJ ω n f) (hlg : xlong k = true) (hn : n < 2147483648) (d : decode cc pc = .ok (.lastore, 1)) {j z v : Int} {κ : Nat} (hκ : ∀ ω, x_val ω κ z = .ref (ω.2.1 k)) (h0 : 0 ≤ j) (h1 : j < n) (kk : GG θ Γ (pc + 1) L t (st M k j v)) : GG θ Γ pc L ((1, v) :: (0, j) :: (κ, z) :: t) M := by
  obtain ⟨p, l, e, R, s, m, args, below, meth, c, Qf, ω, M0, nL, nc, ns, fin⟩ := θ
  obtain ⟨hx, hb, hml, hown, hts, hK, hE, hr1, hr2, hr3, hr4, hret, hnn⟩ := h
  intro hG hS hM hM0 H locs ls hP hSv hl
  obtain ⟨g1, g2, g3⟩ := xidx h0 h1 hn
  rw [show xsv ω ((1, v) :: (0, j) :: (κ, z) :: t) = .long (Int64.ofInt v) :: .int (Int32.ofInt j) :: x_val ω κ z :: xsv ω t from rfl, hκ ω]
  refine va_last (D := ω.1) hx hb hK.1 hP (xworld_D hK.2.2 M) hSv k 1 (xw_aJ hk hcell) rfl g1 d (fun H1 locs1 hP1 hD1 hS1 => ?_)
  have hv : r64 v := xwS_hd hS
  rw [g2, xupdJ _ h0, xworld_set ω M (st M k j v) hk (by rw [st_self, hcell]; rfl) (fun a ha => st_ne M j v ha)] at hP1
  exact kk hG (xwS_tl (xwS_tl (xwS_tl hS))) (xwM_st hM (by rw [hlg, if_pos rfl]; exact hv)) (xSame_st hM0 hk j v) H1 locs1 ls hP1 hS1 hl
/-- a row out of a long[][]: s-th of the n rows that stand from the cell c0 on -/
theorem GG.aald {θ : XΘ} {own : String} {cc : ByteArray} {nn : Nat} {rm : Nat × Nat} {ret : Option FieldType} (h : Fx θ own cc nn rm ret) {Γ : XG} {pc : Nat} {L : XL} {t : XT} {M : XM} {k n c0 κ : Nat} (hk : k < xN) (hcell : ∀ ω f, xcell ω k f = xaQ ω n c0) (hn : n < 2147483648) (hκ : ∀ ω (z : Int), x_val ω κ z = .ref (ω.2.1 z.toNat)) (hwf : ∀ j : Int, 0 ≤ j → j < n → x_wf κ ((c0 : Int) + j)) (d : decode cc pc = .ok (.aaload, 1)) {j z : Int} (h0 : 0 ≤ j) (h1 : j < n) (kk : GG θ Γ (pc + 1) L ((κ, (c0 : Int) + j) :: t) M) : GG θ Γ pc L ((0, j) :: (k + 4, z) :: t) M := by
  obtain ⟨p, l, e, R, s, m, args, below, meth, c, Qf, ω, M0, nL, nc, ns, fin⟩ := θ
  obtain ⟨hx, hb, hml, hown, hts, hK, hE, hr1, hr2, hr3, hr4, hret, hnn⟩ := h
  intro hG hS hM hM0 H locs ls hP hSv hl
  obtain ⟨g1, g2, g3⟩ := xidx h0 h1 hn
  have hlt : (Int32.ofInt j).toNatClampNeg < n := by rw [g2]; omega
  have ha : (xworld ω M)[k]? = some (ω.2.1 k, .inl (ω.2.2.2.2, n, .inr (.inr (.inr (.inr (fun i => if i < n then some (ω.2.1 (c0 + i)) else none)))))) := by
    rw [xworld_get ω M hk, hcell]
    rfl
  have hkk := kk hG (xwS_cons (hwf j h0 h1) (xwS_tl (xwS_tl hS))) hM hM0 H locs ls hP hSv hl
  refine W.aald (v := .ref (ω.2.1 (c0 + j.toNat))) (ty := .array .long) hx hb (hP k _ ha) ((hK.1.2 2 _ rfl).1 n (fun i => va_rf (if i < n then some (ω.2.1 (c0 + i)) else none))) rfl (fun q => by cases q) (by show ¬ (_ < 0 ∨ (arrV _ _ _).slots.size ≤ _); rw [arrV_size]; exact g1) (by show (arrV _ _ _).slots[_]? = _; rw [arrV_read _ _ hlt, g2]; dsimp only; rw [if_pos (show j.toNat < n by omega)]; rfl) rfl rfl d ?_
  rw [show xsv ω ((κ, (c0 : Int) + j) :: t) = x_val ω κ ((c0 : Int) + j) :: xsv ω t from rfl, hκ, show ((c0 : Int) + j).toNat = c0 + j.toNat by omega] at hkk
  exact hkk
theorem GG.gets1 {θ : XΘ} {own : String} {cc : ByteArray} {nn : Nat} {rm : Nat × Nat} {ret : Option FieldType} (h : Fx θ own cc nn rm ret) {Γ : XG} {pc : Nat} {L : XL} {t : XT} {M : XM} {n : String} {k ix : Nat} (hsel : ∀ ω M U H, xE ω M U H → xE1 ω M n k U H) (hlink : Cond.fieldLink own ix "MostSold22" n "[I" ∈ xT) (d : decode cc pc = .ok (.getstatic ix, 3)) (kk : GG θ Γ (pc + 3) L ((k + 4, 0) :: t) M) : GG θ Γ pc L t M := by
  obtain ⟨p, l, e, R, s, m, args, below, meth, c, Qf, ω, M0, nL, nc, ns, fin⟩ := θ
  obtain ⟨hx, hb, hml, hown, hts, hK, hE, hr1, hr2, hr3, hr4, hret, hnn⟩ := h
  intro hG hS hM hM0 H locs ls hP hSv hl
  refine va_gets hx hb (hsel _ _ _ _ hE).1 hSv hown (hts _ hlink) (fun _ q => q) d ?_
  exact kk hG (xwS_cons trivial hS) hM hM0 H locs ls hP hSv hl
theorem GG.ialdE {θ : XΘ} {own : String} {cc : ByteArray} {nn : Nat} {rm : Nat × Nat} {ret : Option FieldType} (h : Fx θ own cc nn rm ret) {Γ : XG} {pc : Nat} {L : XL} {t : XT} {M : XM} {n : String} {k : Nat} (hsel : ∀ ω M U H, xE ω M U H → xE1 ω M n k U H) (hk : xN ≤ k) (hlg : xlong k = false) (d : decode cc pc = .ok (.iaload, 1)) {j z : Int} (h0 : 0 ≤ j) (h1 : j < 15) (kk : GG θ Γ (pc + 1) L ((0, M k j) :: t) M) : GG θ Γ pc L ((0, j) :: (k + 4, z) :: t) M := by
  obtain ⟨p, l, e, R, s, m, args, below, meth, c, Qf, ω, M0, nL, nc, ns, fin⟩ := θ
  obtain ⟨hx, hb, hml, hown, hts, hK, hE, hr1, hr2, hr3, hr4, hret, hnn⟩ := h
  intro hG hS hM hM0 H locs ls hP hSv hl
  obtain ⟨g1, g2, g3⟩ := xidx (n := 15) h0 (by omega) (by decide)
  refine va_ti hx hb (hsel _ _ _ _ hE).2 hSv g1 (v := .int (Int32.ofInt (M k j))) (by rw [g2, g3, hM0 k hk]) d ?_
  exact kk hG (xwS_cons (xwM32 hM hlg j) (xwS_tl (xwS_tl hS))) hM hM0 H locs ls hP hSv hl
/-! ===== Math, arraycopy ===== -/
theorem xmin32 {x y : Int} (hx : r32 x) (hy : r32 y) : (if Int32.ofInt y < Int32.ofInt x then Int32.ofInt y else Int32.ofInt x) = Int32.ofInt (if y < x then y else x) := by
  have := xlt32 hy hx
  by_cases c : y < x
  · rw [if_pos c, if_pos (this.mpr c)]
  · rw [if_neg c, if_neg (fun q => c (this.mp q))]
theorem xmin64 {x y : Int} (hx : r64 x) (hy : r64 y) : (if Int64.ofInt y < Int64.ofInt x then Int64.ofInt y else Int64.ofInt x) = Int64.ofInt (if y < x then y else x) := by
  have := xlt64 hy hx
  by_cases c : y < x
  · rw [if_pos c, if_pos (this.mpr c)]
  · rw [if_neg c, if_neg (fun q => c (this.mp q))]
theorem xmax64 {x y : Int} (hx : r64 x) (hy : r64 y) : (if Int64.ofInt y < Int64.ofInt x then Int64.ofInt x else Int64.ofInt y) = Int64.ofInt (if y < x then x else y) := by
  have := xlt64 hy hx
  by_cases c : y < x
  · rw [if_pos c, if_pos (this.mpr c)]
  · rw [if_neg c, if_neg (fun q => c (this.mp q))]
theorem GG.mmini {θ : XΘ} {own : String} {cc : ByteArray} {nn : Nat} {rm : Nat × Nat} {ret : Option FieldType} (h : Fx θ own cc nn rm ret) {Γ : XG} {pc : Nat} {L : XL} {t : XT} {M : XM} {ix : Nat} (h1 : Cond.methodLink own ix Lib.Math.min.name ∈ xT) (h2 : Cond.static Lib.Math.min.name ∈ xT) (h3 : Cond.initialized "java/lang/Math" ∈ xT) (h4 : Cond.code Lib.Math.min.name Lib.Math.min.code 2 (some .int) ∈ xT) (hf : 1 ≤ rm.1) (hl : xsum t + 13 ≤ rm.2) (d : decode cc pc = .ok (.invokestatic ix, 3)) {x y : Int} (kk : GG θ Γ (pc + 3) L ((0, if y < x then y else x) :: t) M) : GG θ Γ pc L ((0, y) :: (0, x) :: t) M := by
  obtain ⟨p, l, e, R, s, m, args, below, meth, c, Qf, ω, M0, nL, nc, ns, fin⟩ := θ
  obtain ⟨hx, hb, hml, hown, hts, hK, hE, hr1, hr2, hr3, hr4, hret, hnn⟩ := h
  intro hG hS hM hM0 H locs ls hP hSv hl2
  have hs := xsum_eq ω t
  refine va_mmin hx hb (hml.trans hl2.1.symm) hown (hts _ h1) (hts _ h2) (hts _ h3) (hts _ h4) (by omega) (by rw [show List.map (fun q => x_val ω q.1 q.2) t = xsv ω t from rfl, hs]; omega) hr3 hr4 d ?_
  rw [xmin32 (xwS_hd (xwS_tl hS)) (xwS_hd hS)]
  refine kk hG (xwS_cons ?_ (xwS_tl (xwS_tl hS))) hM hM0 H locs ls hP hSv hl2
  show r32 _
  split
  · exact xwS_hd hS
  · exact xwS_hd (xwS_tl hS)
theorem GG.mminl {θ : XΘ} {own : String} {cc : ByteArray} {nn : Nat} {rm : Nat × Nat} {ret : Option FieldType} (h : Fx θ own cc nn rm ret) {Γ : XG} {pc : Nat} {L : XL} {t : XT} {M : XM} {ix : Nat} (h1 : Cond.methodLink own ix Lib.MathLoose.min_long.x ∈ xT) (h2 : Cond.static Lib.MathLoose.min_long.x ∈ xT) (h3 : Cond.initialized "java/lang/Math" ∈ xT) (h4 : Cond.code Lib.MathLoose.min_long.x Lib.MathLoose.min_long.code 4 (some .long) ∈ xT) (hf : 1 ≤ rm.1) (hl : xsum t + 15 ≤ rm.2) (d : decode cc pc = .ok (.invokestatic ix, 3)) {x y : Int} (kk : GG θ Γ (pc + 3) L ((1, if y < x then y else x) :: t) M) : GG θ Γ pc L ((1, y) :: (1, x) :: t) M := by
  obtain ⟨p, l, e, R, s, m, args, below, meth, c, Qf, ω, M0, nL, nc, ns, fin⟩ := θ
  obtain ⟨hx, hb, hml, hown, hts, hK, hE, hr1, hr2, hr3, hr4, hret, hnn⟩ := h
  intro hG hS hM hM0 H locs ls hP hSv hl2
  have hs := xsum_eq ω t
  refine va_mmin_long hx hb (hml.trans hl2.1.symm) hown (hts _ h1) (hts _ h2) (hts _ h3) (hts _ h4) (by omega) (by rw [show List.map (fun q => x_val ω q.1 q.2) t = xsv ω t from rfl, hs]; omega) hr3 hr4 d ?_
  rw [xmin64 (xwS_hd (xwS_tl hS)) (xwS_hd hS)]
  refine kk hG (xwS_cons ?_ (xwS_tl (xwS_tl hS))) hM hM0 H locs ls hP hSv hl2
  show r64 _
  split
  · exact xwS_hd hS
  · exact xwS_hd (xwS_tl hS)
theorem GG.mmaxl {θ : XΘ} {own : String} {cc : ByteArray} {nn : Nat} {rm : Nat × Nat} {ret : Option FieldType} (h : Fx θ own cc nn rm ret) {Γ : XG} {pc : Nat} {L : XL} {t : XT} {M : XM} {ix : Nat} (h1 : Cond.methodLink own ix Lib.MathLoose.max_long.x ∈ xT) (h2 : Cond.static Lib.MathLoose.max_long.x ∈ xT) (h3 : Cond.initialized "java/lang/Math" ∈ xT) (h4 : Cond.code Lib.MathLoose.max_long.x Lib.MathLoose.max_long.code 4 (some .long) ∈ xT) (hf : 1 ≤ rm.1) (hl : xsum t + 15 ≤ rm.2) (d : decode cc pc = .ok (.invokestatic ix, 3)) {x y : Int} (kk : GG θ Γ (pc + 3) L ((1, if y < x then x else y) :: t) M) : GG θ Γ pc L ((1, y) :: (1, x) :: t) M := by
  obtain ⟨p, l, e, R, s, m, args, below, meth, c, Qf, ω, M0, nL, nc, ns, fin⟩ := θ
  obtain ⟨hx, hb, hml, hown, hts, hK, hE, hr1, hr2, hr3, hr4, hret, hnn⟩ := h
  intro hG hS hM hM0 H locs ls hP hSv hl2
  have hs := xsum_eq ω t
  refine va_mmax_long hx hb (hml.trans hl2.1.symm) hown (hts _ h1) (hts _ h2) (hts _ h3) (hts _ h4) (by omega) (by rw [show List.map (fun q => x_val ω q.1 q.2) t = xsv ω t from rfl, hs]; omega) hr3 hr4 d ?_
  rw [xmax64 (xwS_hd (xwS_tl hS)) (xwS_hd hS)]
  refine kk hG (xwS_cons ?_ (xwS_tl (xwS_tl hS))) hM hM0 H locs ls hP hSv hl2
  show r64 _
  split
  · exact xwS_hd (xwS_tl hS)
  · exact xwS_hd hS
/-- the cells behind a copy of n items from place i of the cell a to place j of the cell b -/
def cpy (M : XM) (a : Nat) (i : Int) (b : Nat) (j n : Int) : XM := fun k => if k = b then (fun x => if j ≤ x ∧ x < j + n then M a (i + (x - j)) else M b x) else M k
theorem GG.copyl {θ : XΘ} {own : String} {cc : ByteArray} {nn : Nat} {rm : Nat × Nat} {ret : Option FieldType} (h : Fx θ own cc nn rm ret) {Γ : XG} {pc : Nat} {L : XL} {t : XT} {M : XM} {ix : Nat} (h1 : Cond.methodLink own ix arraycopyName ∈ xT) (h2 : Cond.native arraycopyName ∈ xT) (h3 : Cond.static arraycopyName ∈ xT) (h4 : Cond.initialized "java/lang/System" ∈ xT) (hf : 1 ≤ rm.1) (hl : xsum t + (nativeFrameWords "java/lang/System" "arraycopy" 5 + 11) ≤ rm.2) (d : decode cc pc = .ok (.invokestatic ix, 3)) {a i b j n : Int} (ha : 75 ≤ a ∧ a < 79) (hb2 : 75 ≤ b ∧ b < 79) (hi : 0 ≤ i) (hj : 0 ≤ j) (hn : 0 ≤ n) (hin : i + n ≤ 120) (hjn : j + n ≤ 120) (kk : GG θ Γ (pc + 3) L t (cpy M a.toNat i b.toNat j n)) : GG θ Γ pc L ((0, n) :: (0, j) :: (2, b) :: (0, i) :: (2, a) :: t) M := by
  obtain ⟨p, l, e, R, s, m, args, below, meth, c, Qf, ω, M0, nL, nc, ns, fin⟩ := θ
  obtain ⟨hx, hb, hml, hown, hts, hK, hE, hr1, hr2, hr3, hr4, hret, hnn⟩ := h
  intro hG hS hM hM0 H locs ls hP hSv hl2
  have hs := xsum_eq ω t
  have q : ∀ x : Int, 0 ≤ x → x ≤ 120 → ¬ Int32.ofInt x < 0 ∧ (Int32.ofInt x).toNatClampNeg = x.toNat := fun x g0 g1 => by
    have hr : r32 x := by unfold r32; omega
    refine ⟨fun z => ?_, by show (Int32.ofInt x).toInt.toNat = _; rw [xt32i hr]⟩
    have := (xlt32 hr xz32).mp z
    omega
  obtain ⟨i1, i2⟩ := q i hi (by omega)
  obtain ⟨j1, j2⟩ := q j hj (by omega)
  obtain ⟨n1, n2⟩ := q n hn (by omega)
  have ra := xrowS ω a.toNat (by omega) (by omega)
  have rb := xrowS ω b.toNat (by omega) (by omega)
  have hka : a.toNat < xN := by show _ < 120; omega
  have hkb : b.toNat < xN := by show _ < 120; omega
  have hwa : (xworld ω M)[a.toNat]? = some (ω.2.1 a.toNat, .inl (ω.2.2.2.1, 120, .inr (.inl (fun i => Int64.ofInt (M a.toNat (i : Int)))))) := by
    rw [xworld_get ω M hka, (ra _).1]
    rfl
  have hwb : (xworld ω M)[b.toNat]? = some (ω.2.1 b.toNat, .inl (ω.2.2.2.1, 120, .inr (.inl (fun i => Int64.ofInt (M b.toNat (i : Int)))))) := by
    rw [xworld_get ω M hkb, (rb _).1]
    rfl
  refine va_copyl (D := ω.1) hx hb (hml.trans hl2.1.symm) hown (hts _ h1) (hts _ h2) (hts _ h3) (hts _ h4) hK.1 hP (xworld_D hK.2.2 M) hSv a.toNat b.toNat 1 1 hwa hwb rfl rfl rfl i1 j1 n1 (by rw [i2, n2]; omega) (by rw [j2, n2]; omega) (fun _ _ => rfl) (by omega) (by rw [show List.map (fun q => x_val ω q.1 q.2) t = xsv ω t from rfl, hs]; omega) d (fun H1 locs1 hP1 hD1 hS1 => ?_)
  have e : (fun x : Nat => Int64.ofInt (cpy M a.toNat i b.toNat j n b.toNat (x : Int))) = va_cpy (fun i => Int64.ofInt (M a.toNat (i : Int))) (fun i => Int64.ofInt (M b.toNat (i : Int))) i.toNat j.toNat n.toNat := by
    funext x
    unfold cpy va_cpy
    rw [if_pos rfl]
    by_cases c1 : j.toNat ≤ x ∧ x < j.toNat + n.toNat
    · have c2 : j ≤ (x : Int) ∧ (x : Int) < j + n := by omega
      rw [if_pos c1, if_pos c2]
      congr 2
      omega
    · have c2 : ¬ (j ≤ (x : Int) ∧ (x : Int) < j + n) := by omega
      rw [if_neg c1, if_neg c2]
  rw [i2, j2, n2, ← e, xworld_set ω M (cpy M a.toNat i b.toNat j n) hkb (by rw [(rb _).1]; rfl) (fun x hx9 => by unfold cpy; rw [if_neg hx9])] at hP1
  refine kk hG (xwS_tl (xwS_tl (xwS_tl (xwS_tl (xwS_tl hS))))) ?_ ?_ H1 locs1 ls hP1 hS1 hl2
  · intro k x
    unfold cpy
    by_cases hkb2 : k = b.toNat
    · subst hkb2
      rw [if_pos rfl, if_pos (rb (fun _ => 0)).2]
      split
      · exact xwM64 hM (ra (fun _ => 0)).2 _
      · exact xwM64 hM (rb (fun _ => 0)).2 _
    · rw [if_neg hkb2]
      exact hM k x
  · intro k hk
    unfold cpy
    rw [if_neg (by omega)]
    exact hM0 k hk
end
section
/-! ===== a method's contract, and calls ===== -/
def XB (ω : XW) (M : XM) (a : XT) (U : State) : Prop := xwS a ∧ xwM M ∧ xK ω U ∧ xE ω M U U.heap ∧ va_P ω.1 vwCl (xworld ω M) U.heap
def xrv (ret : Option FieldType) (v : Int) : Option Value := match ret with
  | some .long => some (.long (Int64.ofInt v))
  | none => none
  | _ => some (.int (Int32.ofInt v))
def xrr (ret : Option FieldType) (v : Int) : Prop := match ret with
  | some .long => r64 v
  | none => v = 0
  | _ => r32 v
def xpush (ret : Option FieldType) (v : Int) (t : XT) : XT := match ret with
  | some .long => (1, v) :: t
  | none => t
  | _ => (0, v) :: t
theorem xpush_sv (ω : XW) (ret : Option FieldType) (v : Int) (t : XT) : xsv ω (xpush ret v t) = (xrv ret v).toList ++ xsv ω t := by
  unfold xpush xrv
  split <;> rfl
theorem xpush_wf {ret : Option FieldType} {v : Int} {t : XT} (h : xrr ret v) (ht : xwS t) : xwS (xpush ret v t) := by
  unfold xrr at h
  unfold xpush
  split at h <;> first | exact xwS_cons h ht | exact ht
def XQ (ω : XW) (ret : Option FieldType) (M0 : XM) (Q : Int → XM → Prop) : Array Value → State → Outcome → State → Prop := fun _ s oc t => (∃ (v : Int) (M' : XM), oc = .returned (xrv ret v) ∧ xrr ret v ∧ Q v M' ∧ xwM M' ∧ xSame M0 M' ∧ xK ω t ∧ va_P ω.1 vwCl (xworld ω M') t.heap) ∧ va_F (xA ω) s t
def XC (l : Launch) (ω : XW) (y : MethodName) (b : ByteArray) (n : Nat) (ret : Option FieldType) (rm : Nat × Nat) (a : XT) (M : XM) (Q : Int → XM → Prop) : Prop :=
  Met l y (Cond.code y b n ret :: xT) ({ frames := rm.1, cells := 0, slots := 0, locals := rm.2 } : Room) (va_Pc (xsv ω a) (XB ω M a)) (XQ ω ret M Q) 0 0 (xA ω)
theorem XB_blind (ω : XW) (M : XM) (a : XT) : FrameBlind (va_Pc (xsv ω a) (XB ω M a)) := fun v U g mk q => ⟨q.1, q.2.1, q.2.2.1, ⟨va_K.moved (u := U) (U := U.calling g mk v) (Vm.Alike.refl U.vm) q.2.2.2.1.1, xNs_same (u := U) (U := U.calling g mk v) rfl q.2.2.2.1.2.1, q.2.2.2.1.2.2⟩, xE_moved (u := U) (U := U.calling g mk v) (Vm.Alike.refl U.vm) q.2.2.2.2.1, q.2.2.2.2.2⟩
theorem xws_pay {args : Array Value} {s : State} {y : MethodName} {b : ByteArray} {n : Nat} {ret : Option FieldType} (hts : ∀ w ∈ xT, w.before args s = true) (hc : Cond.code y b n ret ∈ xT) : ∀ w ∈ (Cond.code y b n ret :: xT), ∀ (a' : Array Value) (U : State), s.WarmedH U.vm → w.before a' U = true := fun w hw a' U hW => by
  have hw2 : w ∈ xT := by
    rcases List.mem_cons.mp hw with rfl | h
    · exact hc
    · exact h
  exact word_at hW (xT_good w hw2).2 (hts w hw2)
theorem xsv_app (ω : XW) (a b : XT) : xsv ω (a ++ b) = xsv ω a ++ xsv ω b := List.map_append
theorem xsv_rev (ω : XW) (a : XT) : xsv ω a.reverse = (xsv ω a).reverse := List.map_reverse
/-- what comes back from a call, at the caller -/
theorem xback {p : Program} {l : Launch} {e : Env} {R : Room} {s : State} {m : MethodId} {args : Array Value} {below : List Frame} {meth : Method} {c : Code} {Qf : State → Prop} {ω : XW} {M0 M : XM} {nL nc ns pc : Nat} {fin : Int → XM → Prop} {ret : Option FieldType} {Q : Int → XM → Prop} {Γ : XG} {L : XL} {t : XT} {H : Heap} {locs : List Loc} {ls : Array Slot} {a : Array Value}
    (kk : ∀ (v : Int) (M' : XM), xrr ret v → Q v M' → GG (p, l, e, R, s, m, args, below, meth, c, Qf, ω, M0, nL, nc, ns, fin) Γ (pc + 3) L (xpush ret v t) M')
    (hG : xwG Γ L) (hS : xwS t) (hM0 : xSame M0 M) (hSv : va_S (xA ω) s.heap H locs) (hl : lv_has ls nL (xlv ω Γ L)) {st0 : List Value}
    (hr : va_Run p l e R s m args below meth c H locs nc ns 0 0 (F0 m pc ls st0) (xsv ω t) (XQ ω ret M Q a) (xA ω)) : W p l e R s m args below meth c H locs nc ns Qf (F0 m pc ls st0) := by
  intro T hT X
  obtain ⟨v, st₀, t2, T', L2, h0, X', hL, e1, e2, ⟨⟨r, M', hv, hrr, hq, hwM, hsm, hK, hP⟩, hz, hk⟩, step⟩ := hr T hT X
  cases hv
  rw [h0] at hz hk
  have hsame : xSame M0 M' := fun k hk2 => (hsm k hk2).trans (hM0 k hk2)
  obtain ⟨t3, a1, b1⟩ := kk r M' hrr hq hG (xpush_wf hrr hS) hwM hsame T'.heap (locs ++ L2) ls (by rw [e1]; exact hP)
    ⟨Nat.le_trans hSv.1 (by rw [e1]; exact hz), fun q h1 h2 => by rw [e1, hk q (Nat.lt_of_lt_of_le h1 hSv.1) h2]; exact hSv.2.1 q h1 h2, fun q hq2 => by
      rcases List.mem_append.mp hq2 with h | h
      · exact hSv.2.2 q h
      · exact hL q h⟩ hl T' rfl X'
  rw [xpush_sv] at a1
  exact ⟨t3, step t3 a1, b1⟩
theorem xB_at {p : Program} {l : Launch} {e : Env} {R : Room} {s : State} {M0 M : XM} {ω : XW} {H : Heap} {locs : List Loc} {a : XT} (ha : xwS a) (hM : xwM M) (hM0 : xSame M0 M) (hK : xK ω s) (hE : xE ω M0 s s.heap) (hP : va_P ω.1 vwCl (xworld ω M) H) (hSv : va_S (xA ω) s.heap H locs) {U : State} (hU : U.heap = H) (hW : s.WarmedH U.vm) : va_Pc (xsv ω a) (XB ω M a) (xsv ω a).toArray U :=
  ⟨rfl, ha, hM, xK_warm hW hK, by rw [hU]; exact xE_mem (xE_kept (xE_moved hW.alike hE) (fun q h1 h2 => hSv.2.1 q h1 h2)) hM0, by rw [hU]; exact hP⟩
theorem GG.cv {θ : XΘ} {own : String} {cc : ByteArray} {nn : Nat} {rm : Nat × Nat} {rc : Option FieldType} (h : Fx θ own cc nn rm rc) {Γ : XG} {pc : Nat} {L : XL} {t : XT} {M : XM} {y : MethodName} {b : ByteArray} {n k ci ix : Nat} {ret : Option FieldType} {rmy : Nat × Nat} {Q : Int → XM → Prop} {C : vw_C} {fs : XW → (Int → Int) → List Value} (as : XT) (hk : k < xN) (hC : vwCl[ci]? = some C) (hCy : C.1 = y.cls) (hcell : ∀ ω f, xcell ω k f = .inr (ci, fs ω f)) (hw1 : Cond.methodLink own ix y ∈ xT) (hw2 : Cond.instanceMethod y ∈ xT) (hw3 : Cond.selects y.cls y y ∈ xT) (hw4 : Cond.code y b n ret ∈ xT) (hw5 : Cond.initialized y.cls ∈ xT) (hy : y.cls ≠ "java/lang/invoke/MethodHandle" ∧ y.cls ≠ "java/lang/invoke/VarHandle") (hlen : (parseMethodDescriptor y.desc).map (fun d => d.parameters.length) = some as.length) (hfr : rmy.1 + 1 ≤ rm.1) (hlo : xsum t + (n + 11) + rmy.2 ≤ rm.2)
    (hM : ∀ l ω, XC l ω y b n ret rmy ((k + 4, 0) :: as) M Q) (d : decode cc pc = .ok (.invokevirtual ix, 3)) (kk : ∀ (v : Int) (M' : XM), xrr ret v → Q v M' → GG θ Γ (pc + 3) L (xpush ret v t) M') {z : Int} : GG θ Γ pc L (as.reverse ++ (k + 4, z) :: t) M := by
  obtain ⟨p, l, e, R, s, m, args, below, meth, c, Qf, ω, M0, nL, nc, ns, fin⟩ := θ
  obtain ⟨hx, hb, hml, hown, hts, hK, hE, hr1, hr2, hr3, hr4, hret, hnn⟩ := h
  intro hG hS hM1 hM0 H locs ls hP hSv hl
  have hSt : xwS t := fun q hq => hS q (List.mem_append_right _ (List.mem_cons_of_mem _ hq))
  have hSa : xwS ((k + 4, 0) :: as) := xwS_cons trivial (fun q hq => hS q (List.mem_append_left _ (List.mem_reverse.mpr hq)))
  have hKb : Back l R p e below s args y 3 (xsum t) (PreOf R 0 0 (va_Pc (xsv ω ((k + 4, 0) :: as)) (XB ω M ((k + 4, 0) :: as)))) (PostOf (XQ ω ret M Q) 0 0 (xA ω)) :=
    back_of (bytes := b) (maxL := n) (ret := ret) (hM l ω) (XB_blind ω M _) rfl rfl (Nat.le_trans hfr hr1) (Nat.le_trans hlo hr2) (xws_pay hts hw4) List.mem_cons_self (fun a' U hW => word_at hW (xT_good _ hw5).2 (hts _ hw5))
  have hcw : (xworld ω M)[k]? = some (ω.2.1 k, .inr (ci, fs ω (M k))) := by rw [xworld_get ω M hk, hcell]
  obtain ⟨cellB, q1, q2, q3⟩ := va_recv hK.1 hP hC hcw
  rw [hCy] at q3
  refine xback (Γ := Γ) (L := L) kk hG hSt hM0 hSv hl (a := (xsv ω ((k + 4, 0) :: as)).toArray) ?_
  intro T hT X
  obtain ⟨v, vm₁, ⟨U', l2, c2, s2⟩, hW₁, X', ⟨g', mk, t2, L2, e1, e2, hq, h1, hL, h2, h3⟩, step⟩ := callV X hx (C := y.cls) (bytes := b) (maxL := n) (ret := ret) hown (hts _ hw1) (hts _ hw2) (hts _ hw3) (hts _ hw4) hy hKb (by rw [hT]; exact q1) q2 q3 (g := F0 m pc ls (xsv ω (as.reverse ++ (k + 4, z) :: t))) rfl (hl.1.trans hml.symm) (argsL := xsv ω as) (rest := xsv ω t)
    (fun sig h9 => by rw [h9] at hlen; have h8 : sig.parameters.length = as.length := Option.some.inj hlen; rw [h8]; exact List.length_map _) (by show xsv ω _ = _; rw [xsv_app, xsv_rev]; rfl) (by show 2 * 0 + _ ≤ _; rw [xsum_eq]; omega) (by rw [hb]; exact d)
    (fun vm₁ hW₁ => ⟨hr3, hr4, xB_at (l := l) (p := p) (e := e) (R := R) hSa hM1 hM0 hK hE hP hSv hT hW₁⟩)
  dsimp only [Pt.U, Pt.locs, Pt.cells, Pt.slots] at X' e1 e2 h1 h2 h3 step
  subst h1; subst h2; subst h3
  exact ⟨v, (T.setVm vm₁).calling g' mk (Value.ref (ω.2.1 k) :: xsv ω as).toArray, t2, U', L2, hT, X', hL, e1, e2, hq, step⟩
theorem GG.cs {θ : XΘ} {own : String} {cc : ByteArray} {nn : Nat} {rm : Nat × Nat} {rc : Option FieldType} (h : Fx θ own cc nn rm rc) {Γ : XG} {pc : Nat} {L : XL} {t : XT} {M : XM} {y : MethodName} {b : ByteArray} {n ix : Nat} {ret : Option FieldType} {rmy : Nat × Nat} {Q : Int → XM → Prop} (as : XT) (hw1 : Cond.methodLink own ix y ∈ xT) (hw2 : Cond.static y ∈ xT) (hw4 : Cond.code y b n ret ∈ xT) (hw5 : Cond.initialized y.cls ∈ xT) (hy : y.cls ≠ "java/lang/invoke/MethodHandle" ∧ y.cls ≠ "java/lang/invoke/VarHandle") (hlen : (parseMethodDescriptor y.desc).map (fun d => d.parameters.length) = some as.length) (hfr : rmy.1 + 1 ≤ rm.1) (hlo : xsum t + (n + 11) + rmy.2 ≤ rm.2)
    (hM : ∀ l ω, XC l ω y b n ret rmy as M Q) (d : decode cc pc = .ok (.invokestatic ix, 3)) (kk : ∀ (v : Int) (M' : XM), xrr ret v → Q v M' → GG θ Γ (pc + 3) L (xpush ret v t) M') : GG θ Γ pc L (as.reverse ++ t) M := by
  obtain ⟨p, l, e, R, s, m, args, below, meth, c, Qf, ω, M0, nL, nc, ns, fin⟩ := θ
  obtain ⟨hx, hb, hml, hown, hts, hK, hE, hr1, hr2, hr3, hr4, hret, hnn⟩ := h
  intro hG hS hM1 hM0 H locs ls hP hSv hl
  have hSt : xwS t := fun q hq => hS q (List.mem_append_right _ hq)
  have hSa : xwS as := fun q hq => hS q (List.mem_append_left _ (List.mem_reverse.mpr hq))
  have hKb : Back l R p e below s args y 3 (xsum t) (PreOf R 0 0 (va_Pc (xsv ω as) (XB ω M as))) (PostOf (XQ ω ret M Q) 0 0 (xA ω)) :=
    back_of (bytes := b) (maxL := n) (ret := ret) (hM l ω) (XB_blind ω M _) rfl rfl (Nat.le_trans hfr hr1) (Nat.le_trans hlo hr2) (xws_pay hts hw4) List.mem_cons_self (fun a' U hW => word_at hW (xT_good _ hw5).2 (hts _ hw5))
  refine xback (Γ := Γ) (L := L) kk hG hSt hM0 hSv hl (a := (xsv ω as).toArray) ?_
  intro T hT X
  obtain ⟨v, vm₁, ⟨U', l2, c2, s2⟩, hW₁, X', ⟨g', mk, t2, L2, e1, e2, hq, h1, hL, h2, h3⟩, step⟩ := callS X hx (bytes := b) (maxL := n) (ret := ret) hown (hts _ hw1) (hts _ hw2) (hts _ hw5) (hts _ hw4) hy hKb (g := F0 m pc ls (xsv ω (as.reverse ++ t))) rfl (hl.1.trans hml.symm) (argsL := xsv ω as) (rest := xsv ω t)
    (fun sig h9 => by rw [h9] at hlen; have h8 : sig.parameters.length = as.length := Option.some.inj hlen; rw [h8]; exact List.length_map _) (by show xsv ω _ = _; rw [xsv_app, xsv_rev]) (by show 2 * 0 + _ ≤ _; rw [xsum_eq]; omega) (by rw [hb]; exact d)
    (fun vm₁ hW₁ => ⟨hr3, hr4, xB_at (l := l) (p := p) (e := e) (R := R) hSa hM1 hM0 hK hE hP hSv hT hW₁⟩)
  dsimp only [Pt.U, Pt.locs, Pt.cells, Pt.slots] at X' e1 e2 h1 h2 h3 step
  subst h1; subst h2; subst h3
  exact ⟨v, (T.setVm vm₁).calling g' mk (xsv ω as).toArray, t2, U', L2, hT, X', hL, e1, e2, hq, step⟩
theorem GG.cn {θ : XΘ} {own : String} {cc : ByteArray} {nn : Nat} {rm : Nat × Nat} {rc : Option FieldType} (h : Fx θ own cc nn rm rc) {Γ : XG} {pc : Nat} {L : XL} {t : XT} {M : XM} {y : MethodName} {b : ByteArray} {n ix : Nat} {host : String} {ret : Option FieldType} {rmy : Nat × Nat} {Q : Int → XM → Prop} (as : XT) (hw1 : Cond.methodLinkNest own ix y host ∈ xNest) (hw2 : Cond.static y ∈ xT) (hw4 : Cond.code y b n ret ∈ xT) (hw5 : Cond.initialized y.cls ∈ xT) (hy : y.cls ≠ "java/lang/invoke/MethodHandle" ∧ y.cls ≠ "java/lang/invoke/VarHandle") (hlen : (parseMethodDescriptor y.desc).map (fun d => d.parameters.length) = some as.length) (hfr : rmy.1 + 1 ≤ rm.1) (hlo : xsum t + (n + 11) + rmy.2 ≤ rm.2)
    (hM : ∀ l ω, XC l ω y b n ret rmy as M Q) (d : decode cc pc = .ok (.invokestatic ix, 3)) (kk : ∀ (v : Int) (M' : XM), xrr ret v → Q v M' → GG θ Γ (pc + 3) L (xpush ret v t) M') : GG θ Γ pc L (as.reverse ++ t) M := by
  obtain ⟨p, l, e, R, s, m, args, below, meth, c, Qf, ω, M0, nL, nc, ns, fin⟩ := θ
  obtain ⟨hx, hb, hml, hown, hts, hK, hE, hr1, hr2, hr3, hr4, hret, hnn⟩ := h
  intro hG hS hM1 hM0 H locs ls hP hSv hl
  have hSt : xwS t := fun q hq => hS q (List.mem_append_right _ hq)
  have hSa : xwS as := fun q hq => hS q (List.mem_append_left _ (List.mem_reverse.mpr hq))
  have hKb : Back l R p e below s args y 3 (xsum t) (PreOf R 0 0 (va_Pc (xsv ω as) (XB ω M as))) (PostOf (XQ ω ret M Q) 0 0 (xA ω)) :=
    back_of (bytes := b) (maxL := n) (ret := ret) (hM l ω) (XB_blind ω M _) rfl rfl (Nat.le_trans hfr hr1) (Nat.le_trans hlo hr2) (xws_pay hts hw4) List.mem_cons_self (fun a' U hW => word_at hW (xT_good _ hw5).2 (hts _ hw5))
  refine xback (Γ := Γ) (L := L) kk hG hSt hM0 hSv hl (a := (xsv ω as).toArray) ?_
  intro T hT X
  obtain ⟨v, vm₁, ⟨U', l2, c2, s2⟩, hW₁, X', ⟨g', mk, t2, L2, e1, e2, hq, h1, hL, h2, h3⟩, step⟩ := va_callSN X hx (bytes := b) (maxL := n) (ret := ret) hown (va_Nw.use rfl (hK.2.1 _ hw1)) (hts _ hw2) (hts _ hw5) (hts _ hw4) hy hKb (g := F0 m pc ls (xsv ω (as.reverse ++ t))) rfl (hl.1.trans hml.symm) (argsL := xsv ω as) (rest := xsv ω t)
    (fun sig h9 => by rw [h9] at hlen; have h8 : sig.parameters.length = as.length := Option.some.inj hlen; rw [h8]; exact List.length_map _) (by show xsv ω _ = _; rw [xsv_app, xsv_rev]) (by show 2 * 0 + _ ≤ _; rw [xsum_eq]; omega) (by rw [hb]; exact d)
    (fun vm₁ hW₁ => ⟨hr3, hr4, xB_at (l := l) (p := p) (e := e) (R := R) hSa hM1 hM0 hK hE hP hSv hT hW₁⟩)
  dsimp only [Pt.U, Pt.locs, Pt.cells, Pt.slots] at X' e1 e2 h1 h2 h3 step
  subst h1; subst h2; subst h3
  exact ⟨v, (T.setVm vm₁).calling g' mk (xsv ω as).toArray, t2, U', L2, hT, X', hL, e1, e2, hq, step⟩
/-- a method's contract out of the walk of its body -/
theorem XC.mk {l : Launch} {ω : XW} {y : MethodName} {b : ByteArray} {n : Nat} {ret : Option FieldType} {rm : Nat × Nat} {a : XT} {M : XM} {Q : Int → XM → Prop} {own : String} (hy : plainName y.cls = true) (hown : y.cls = own) (hret : ret = none ∨ ret = some .int ∨ ret = some .long ∨ ret = some .boolean) (Γ0 : XG) (L0 : XL) (hL : ∀ ω, lv_args 0 (xsv ω a) = xlv ω Γ0 L0) (hn : ∀ ω, (lg_sl (xsv ω a)).length ≤ n) (hΓ : xwS a → xwG Γ0 L0)
    (body : ∀ θ : XΘ, Fx θ own b n rm ret → (∀ v M', Q v M' → XR θ v M') → GG θ Γ0 0 L0 [] M) : XC l ω y b n ret rm a M Q := by
  unfold XC
  refine Met.ofW (cc := b) (maxL := n) (ret := ret) hy rfl ?_
  intro p e s m args below meth c s₁ B hml hv
  obtain ⟨rfl, ha, hM, hK, hE, hP⟩ := hv
  have hx := B.exec
  have hb := B.bytes
  have hr := B.returns
  have hts := atoms_spec (ws := Cond.code y b n ret :: xT) B.pre
  have hown2 : s.vm.findClass own = some m.cls := by rw [← hown]; exact findClass_of_methodNamed B.named
  have hlocks := B.notSynchronized
  have hl := lv_entry (xsv ω a) (n := n) (hn ω)
  rw [lg_entry_eq]
  generalize (lg_sl (xsv ω a) ++ List.replicate (n - (lg_sl (xsv ω a)).length) Slot.unset).toArray = ls at hl ⊢
  rw [hL ω] at hl
  have hDone : ∀ (H : Heap) (locs : List Loc) (v : Int) (M' : XM), xrr ret v → Q v M' → xwM M' → xSame M M' → va_P ω.1 vwCl (xworld ω M') H → va_S (xA ω) s.heap H locs → ∀ t : State, t.heap = H → s.WarmedH t.vm → XQ ω ret M Q (xsv ω a).toArray s (.returned (xrv ret v)) t := fun H locs v M' h1 h2 h3 h4 h5 h6 t ht hW =>
    ⟨⟨v, M', rfl, h1, h2, h3, h4, xK_warm hW hK, by rw [ht]; exact h5⟩, h6.F ht⟩
  have hR : XRet (p, l, e, (headSpec (Cond.code y b n ret :: xT) ({ frames := rm.1, cells := 0, slots := 0, locals := rm.2 } : Room)).room, s, m, (xsv ω a).toArray, below, meth, c, MQ below (XQ ω ret M Q) (xsv ω a).toArray s 0 0 (xA ω), ω, M, n, 0, 0, Q) b ret := by
    rcases hret with rfl | rfl | rfl | rfl
    · intro Γ pc L M' hd hq hG hS hM1 hM0 H locs ls2 hP2 hSv hl2
      exact W.vret hx hb hr (hDone H locs 0 M' rfl hq hM1 hM0 hP2 hSv) hSv.2.2 hd
    · intro Γ pc L v M' hd hq hG hS hM1 hM0 H locs ls2 hP2 hSv hl2
      exact W.iret (v := Int32.ofInt v) hx hb hr (hDone H locs v M' (xwS_hd hS) hq hM1 hM0 hP2 hSv) hSv.2.2 hd
    · intro Γ pc L v M' hd hq hG hS hM1 hM0 H locs ls2 hP2 hSv hl2
      exact W.lret (v := Int64.ofInt v) hx hb hr (hDone H locs v M' (xwS_hd hS) hq hM1 hM0 hP2 hSv) hSv.2.2 hd
    · intro Γ pc L v M' hd hv hq hG hS hM1 hM0 H locs ls2 hP2 hSv hl2
      refine W.zret (v := Int32.ofInt v) (ty := .boolean) hx hb hr ?_ (hDone H locs v M' (xwS_hd hS) hq hM1 hM0 hP2 hSv) hSv.2.2 hd
      rcases hv with rfl | rfl <;> rfl
  exact body (p, l, e, _, s, m, (xsv ω a).toArray, below, meth, c, MQ below (XQ ω ret M Q) (xsv ω a).toArray s 0 0 (xA ω), ω, M, n, 0, 0, Q) ⟨hx, hb, hml, hown2, fun w hw => hts w (List.mem_cons_of_mem _ hw), hK, hE, Nat.le_refl _, Nat.le_refl _, Nat.le_refl _, Nat.le_refl _, hR, rfl⟩ (fun _ _ h => h) (hΓ ha) (fun q hq => by cases hq) hM (fun _ _ => rfl) s.heap [] ls hP va_S.rf hl
end
section
/-! ===== expressions, conditions, statements, as what they ask for what comes behind them ===== -/
abbrev XE : Type := XL → XM → (Int → XM → Prop) → Prop
abbrev XCd : Type := XL → XM → (XM → Prop) → (XM → Prop) → Prop
abbrev XS : Type := (XL → XM → Prop) → (Int → XM → Prop) → XL → XM → Prop
def eK (z : Int) : XE := fun _ M Q => Q z M
def eL (i : Nat) : XE := fun L M Q => Q (L i) M
def eR : XE := fun _ M Q => Q 0 M
def eF (k : Nat) (j : Int) : XE := fun _ M Q => Q (M k j) M
def eA (k : Nat) (n : Int) (i : XE) : XE := fun L M Q => i L M (fun j M => 0 ≤ j ∧ j < n ∧ Q (M k j) M)
def eQ (c0 : Nat) (n : Int) (i : XE) : XE := fun L M Q => i L M (fun j M => 0 ≤ j ∧ j < n ∧ Q ((c0 : Int) + j) M)
def eD (n : Int) (r i : XE) : XE := fun L M Q => r L M (fun a M => i L M (fun j M => 0 ≤ j ∧ j < n ∧ Q (M a.toNat j) M))
def eU (f : Int → Int) (a : XE) : XE := fun L M Q => a L M (fun x M => Q (f x) M)
def eB (f : Int → Int → Int) (a b : XE) : XE := fun L M Q => a L M (fun x M => b L M (fun y M => Q (f x y) M))
def eV (f : Int → Int → Int) (a b : XE) : XE := fun L M Q => a L M (fun x M => b L M (fun y M => y ≠ 0 ∧ Q (f x y) M))
def eIf (c : XCd) (a b : XE) : XE := fun L M Q => c L M (fun M => a L M Q) (fun M => b L M Q)
def ePF (k : Nat) (j : Int) : XE := fun _ M Q => Q (M k j) (st M k j (iAdd (M k j) 1))
def mMin (x y : Int) : Int := if y < x then y else x
def mMax (x y : Int) : Int := if y < x then x else y
def cB (r : Int → Int → Prop) (a b : XE) : XCd := fun L M T F => a L M (fun x M => b L M (fun y M => (r x y → T M) ∧ (¬ r x y → F M)))
def cZ (r : Int → Prop) (a : XE) : XCd := fun L M T F => a L M (fun x M => (r x → T M) ∧ (¬ r x → F M))
def cAnd (a b : XCd) : XCd := fun L M T F => a L M (fun M => b L M T F) F
def cOr (a b : XCd) : XCd := fun L M T F => a L M T (fun M => b L M T F)
def cNot (a : XCd) : XCd := fun L M T F => a L M F T
def sSkip : XS := fun Qn _ L M => Qn L M
def sSeq (a b : XS) : XS := fun Qn Qr L M => a (fun L M => b Qn Qr L M) Qr L M
def sSet (i : Nat) (e : XE) : XS := fun Qn _ L M => e L M (fun v M => Qn (sl L i v) M)
def sInc (i : Nat) (n : Int) : XS := fun Qn _ L M => Qn (sl L i (iAdd (L i) n)) M
def sPF (k : Nat) (j : Int) (e : XE) : XS := fun Qn _ L M => e L M (fun v M => Qn L (st M k j v))
def sPA (k : Nat) (n : Int) (i e : XE) : XS := fun Qn _ L M => i L M (fun j M => e L M (fun v M => 0 ≤ j ∧ j < n ∧ Qn L (st M k j v)))
def sPD (n : Int) (r i e : XE) : XS := fun Qn _ L M => r L M (fun a M => i L M (fun j M => e L M (fun v M => 0 ≤ j ∧ j < n ∧ Qn L (st M a.toNat j v))))
def sOF (k : Nat) (j : Int) (f : Int → Int → Int) (e : XE) : XS := fun Qn _ L M => e L M (fun v M2 => Qn L (st M2 k j (f (M k j) v)))
def sOA (k : Nat) (n : Int) (i : XE) (f : Int → Int → Int) (e : XE) : XS := fun Qn _ L M => i L M (fun j M => 0 ≤ j ∧ j < n ∧ e L M (fun v M2 => Qn L (st M2 k j (f (M k j) v))))
def sX (e : XE) : XS := fun Qn _ L M => e L M (fun _ M => Qn L M)
def sIf (c : XCd) (a b : XS) : XS := fun Qn Qr L M => c L M (fun M => a Qn Qr L M) (fun M => b Qn Qr L M)
def sWhile (c : XCd) (b : XS) : XS := fun Qn Qr L M => ∃ (I : XL → XM → Prop) (μ : XL → XM → Nat), I L M ∧ ∀ L M, I L M → c L M (fun M' => b (fun L2 M2 => I L2 M2 ∧ μ L2 M2 < μ L M) Qr L M') (fun M' => Qn L M')
def sRet (e : XE) : XS := fun _ Qr L M => e L M (fun v M => Qr v M)
def sRetB (e : XE) : XS := fun _ Qr L M => e L M (fun v M => (v = 0 ∨ v = 1) ∧ Qr v M)
def sRetV : XS := fun _ Qr _ M => Qr 0 M
def sSel (cs : List (Int × XS)) (sd : XS) (v : Int) : XS := match cs with
  | [] => sd
  | (c, s) :: r => fun Qn Qr L M => (v = c → s Qn Qr L M) ∧ (¬ v = c → sSel r sd v Qn Qr L M)
def sSw (e : XE) (cs : List (Int × XS)) (sd : XS) : XS := fun Qn Qr L M => e L M (fun v M => sSel cs sd v Qn Qr L M)
def sCpy (a i b j n : XE) : XS := fun Qn _ L M => a L M (fun a M => i L M (fun i M => b L M (fun b M => j L M (fun j M => n L M (fun n M => 0 ≤ i ∧ 0 ≤ j ∧ 0 ≤ n ∧ i + n ≤ 120 ∧ j + n ≤ 120 ∧ Qn L (cpy M a.toNat i b.toNat j n))))))
/-! ===== the code at a place does it ===== -/
def Gr (θ : XΘ) (δ : Nat) (Γ : XG) (pc pc2 : Nat) (ret : Option FieldType) (e : XE) : Prop := ∀ (L : XL) (M : XM) (Q : Int → XM → Prop) (t : XT), xsum t ≤ δ → e L M Q → (∀ v M', Q v M' → GG θ Γ pc2 L (xpush ret v t) M') → GG θ Γ pc L t M
def Ge (θ : XΘ) (δ : Nat) (Γ : XG) (pc pc2 κ : Nat) (e : XE) : Prop := ∀ (L : XL) (M : XM) (Q : Int → XM → Prop) (t : XT), xsum t ≤ δ → e L M Q → (∀ v M', Q v M' → GG θ Γ pc2 L ((κ, v) :: t) M') → GG θ Γ pc L t M
def Gv (θ : XΘ) (δ : Nat) (Γ : XG) (pc pc2 : Nat) (e : XE) : Prop := ∀ (L : XL) (M : XM) (Q : Int → XM → Prop) (t : XT), xsum t ≤ δ → e L M Q → (∀ v M', Q v M' → GG θ Γ pc2 L t M') → GG θ Γ pc L t M
def Gp (θ : XΘ) (Γ : XG) (pc pc2 k : Nat) : Prop := ∀ (L : XL) (M : XM) (t : XT), GG θ Γ pc2 L ((k + 4, 0) :: t) M → GG θ Γ pc L t M
def Gc (θ : XΘ) (δ : Nat) (Γ : XG) (pc pT pF : Nat) (c : XCd) : Prop := ∀ (L : XL) (M : XM) (T F : XM → Prop) (t : XT), xsum t ≤ δ → c L M T F → (∀ M', T M' → GG θ Γ pT L t M') → (∀ M', F M' → GG θ Γ pF L t M') → GG θ Γ pc L t M
def Gs (θ : XΘ) (Γ : XG) (pc : Nat) (Γ2 : XG) (pc2 : Nat) (a : XS) : Prop := ∀ (Qn : XL → XM → Prop) (Qr : Int → XM → Prop) (L : XL) (M : XM), a Qn Qr L M → (∀ L M, Qn L M → GG θ Γ2 pc2 L [] M) → (∀ v M, Qr v M → XR θ v M) → GG θ Γ pc L [] M
def xmem (i κ : Nat) (Γ : XG) : Bool := Γ.any (fun q => q.1 == i && q.2 == κ)
theorem xmem_of {i κ : Nat} {Γ : XG} (h : xmem i κ Γ = true) : (i, κ) ∈ Γ := by
  obtain ⟨q, hq, h2⟩ := List.any_eq_true.mp h
  simp only [Bool.and_eq_true, beq_iff_eq] at h2
  obtain ⟨a, b⟩ := q
  obtain ⟨rfl, rfl⟩ := h2
  exact hq
def xsub (Γ2 Γ : XG) : Bool := Γ2.all (fun q => xmem q.1 q.2 Γ)
theorem xsub_of {Γ2 Γ : XG} (h : xsub Γ2 Γ = true) : ∀ q ∈ Γ2, q ∈ Γ := fun q hq => xmem_of (List.all_eq_true.mp h q hq)
def x32b (z : Int) : Bool := decide (-2147483648 ≤ z) && decide (z < 2147483648)
def x64b (z : Int) : Bool := decide (-9223372036854775808 ≤ z) && decide (z < 9223372036854775808)
theorem x32b_of {z : Int} (h : x32b z = true) : r32 z := by unfold x32b at h; simp at h; exact h
theorem x64b_of {z : Int} (h : x64b z = true) : r64 z := by unfold x64b at h; simp at h; exact h
def xIarr (k n : Nat) : Prop := k < xN ∧ (∀ ω f, xcell ω k f = xaI ω n f) ∧ xlong k = false ∧ n < 2147483648
def xJarr (k n : Nat) : Prop := k < xN ∧ (∀ ω f, xcell ω k f = xaJ ω n f) ∧ xlong k = true ∧ n < 2147483648
def xQarr (k n c0 κ : Nat) : Prop := k < xN ∧ (∀ ω f, xcell ω k f = xaQ ω n c0) ∧ n < 2147483648 ∧ (∀ ω (z : Int), x_val ω κ z = .ref (ω.2.1 z.toNat)) ∧ (∀ j : Int, 0 ≤ j → j < n → x_wf κ ((c0 : Int) + j))
def xRow (κ n : Nat) : Prop := ∀ a : Int, x_wf κ a → (∀ ω, x_val ω κ a = .ref (ω.2.1 a.toNat)) ∧ a.toNat < xN ∧ (∀ ω f, xcell ω a.toNat f = xaJ ω n f) ∧ xlong a.toNat = true ∧ n < 2147483648
theorem xRowS : xRow 2 120 := fun a ha => by
  have h1 : 75 ≤ a ∧ a < 79 := ha
  have r := fun ω => xrowS ω a.toNat (by omega) (by omega)
  exact ⟨fun _ => rfl, by show _ < 120; omega, fun ω f => (r ω f).1, (r ((fun _ => 0, fun _ _ => 0), fun _ => 0, 0, 0, 0) (fun _ => 0)).2, by decide⟩
theorem xRowW : xRow 3 25 := fun a ha => by
  have h1 : 42 ≤ a ∧ a < 67 := ha
  have r := fun ω => xrowW ω a.toNat (by omega) (by omega)
  exact ⟨fun _ => rfl, by show _ < 120; omega, fun ω f => (r ω f).1, (r ((fun _ => 0, fun _ _ => 0), fun _ => 0, 0, 0, 0) (fun _ => 0)).2, by decide⟩
theorem GG.wfS {θ : XΘ} {Γ : XG} {pc : Nat} {L : XL} {t : XT} {M : XM} (k : xwS t → GG θ Γ pc L t M) : GG θ Γ pc L t M := by
  obtain ⟨p, l, e, R, s, m, args, below, meth, c, Qf, ω, M0, nL, nc, ns, fin⟩ := θ
  intro hG hS
  exact k hS hG hS
theorem xsum_c (κ : Nat) (v : Int) (t : XT) : xsum ((κ, v) :: t) = x_cat κ + xsum t := by simp [xsum]
theorem Ge.go {θ : XΘ} {own : String} {cc : ByteArray} {nn : Nat} {rm : Nat × Nat} {rc : Option FieldType} (h : Fx θ own cc nn rm rc) {δ : Nat} {Γ : XG} {pc pa pb κ : Nat} {e : XE} {off : Int} (a : Ge θ δ Γ pc pa κ e) (d : decode cc pa = .ok (.goto off, 3)) (ht : (pa : Int) + off = (pb : Int)) : Ge θ δ Γ pc pb κ e := fun L M Q t ht2 he k => a L M Q t ht2 he (fun v M' q => GG.goto h d ht (k v M' q))
theorem Gc.tgo {θ : XΘ} {own : String} {cc : ByteArray} {nn : Nat} {rm : Nat × Nat} {rc : Option FieldType} (h : Fx θ own cc nn rm rc) {δ : Nat} {Γ : XG} {pc pT pF pb : Nat} {c : XCd} {off : Int} (a : Gc θ δ Γ pc pT pF c) (d : decode cc pT = .ok (.goto off, 3)) (ht : (pT : Int) + off = (pb : Int)) : Gc θ δ Γ pc pb pF c := fun L M T F t ht2 he kT kF => a L M T F t ht2 he (fun M' q => GG.goto h d ht (kT M' q)) kF
theorem Gc.fgo {θ : XΘ} {own : String} {cc : ByteArray} {nn : Nat} {rm : Nat × Nat} {rc : Option FieldType} (h : Fx θ own cc nn rm rc) {δ : Nat} {Γ : XG} {pc pT pF pb : Nat} {c : XCd} {off : Int} (a : Gc θ δ Γ pc pT pF c) (d : decode cc pF = .ok (.goto off, 3)) (ht : (pF : Int) + off = (pb : Int)) : Gc θ δ Γ pc pT pb c := fun L M T F t ht2 he kT kF => a L M T F t ht2 he kT (fun M' q => GG.goto h d ht (kF M' q))
theorem Gs.go {θ : XΘ} {own : String} {cc : ByteArray} {nn : Nat} {rm : Nat × Nat} {rc : Option FieldType} (h : Fx θ own cc nn rm rc) {Γ : XG} {pc pa pb : Nat} {Γ2 : XG} {a : XS} {off : Int} (g : Gs θ Γ pc Γ2 pa a) (d : decode cc pa = .ok (.goto off, 3)) (ht : (pa : Int) + off = (pb : Int)) : Gs θ Γ pc Γ2 pb a := fun Qn Qr L M ha kn kr => g Qn Qr L M ha (fun L M q => GG.goto h d ht (kn L M q)) kr
theorem Ge.iconst {θ : XΘ} {own : String} {cc : ByteArray} {nn : Nat} {rm : Nat × Nat} {rc : Option FieldType} (h : Fx θ own cc nn rm rc) {δ : Nat} {Γ : XG} {pc : Nat} {z : Int} (d : decode cc pc = .ok (.iconst z, 1)) (hr : x32b z = true) : Ge θ δ Γ pc (pc + 1) 0 (eK z) := fun L M Q t _ he k => GG.iconst h d rfl (x32b_of hr) (k _ _ he)
theorem Ge.bipush {θ : XΘ} {own : String} {cc : ByteArray} {nn : Nat} {rm : Nat × Nat} {rc : Option FieldType} (h : Fx θ own cc nn rm rc) {δ : Nat} {Γ : XG} {pc : Nat} {z : Int} (d : decode cc pc = .ok (.bipush z, 2)) (hz : (Int8.ofInt z).toInt32 = Int32.ofInt z) (hr : x32b z = true) : Ge θ δ Γ pc (pc + 2) 0 (eK z) := fun L M Q t _ he k => GG.bipush h d hz (x32b_of hr) (k _ _ he)
theorem Ge.sipush {θ : XΘ} {own : String} {cc : ByteArray} {nn : Nat} {rm : Nat × Nat} {rc : Option FieldType} (h : Fx θ own cc nn rm rc) {δ : Nat} {Γ : XG} {pc : Nat} {z : Int} (d : decode cc pc = .ok (.sipush z, 3)) (hz : (Int16.ofInt z).toInt32 = Int32.ofInt z) (hr : x32b z = true) : Ge θ δ Γ pc (pc + 3) 0 (eK z) := fun L M Q t _ he k => GG.sipush h d hz (x32b_of hr) (k _ _ he)
theorem Ge.lconst {θ : XΘ} {own : String} {cc : ByteArray} {nn : Nat} {rm : Nat × Nat} {rc : Option FieldType} (h : Fx θ own cc nn rm rc) {δ : Nat} {Γ : XG} {pc : Nat} {n : Fin 2} {z : Int} (d : decode cc pc = .ok (.lconst n, 1)) (hz : Int64.ofNat (n : Nat) = Int64.ofInt z) (hr : x64b z = true) : Ge θ δ Γ pc (pc + 1) 1 (eK z) := fun L M Q t _ he k => GG.lconst h d hz (x64b_of hr) (k _ _ he)
theorem Ge.ldc2 {θ : XΘ} {own : String} {cc : ByteArray} {nn : Nat} {rm : Nat × Nat} {rc : Option FieldType} (h : Fx θ own cc nn rm rc) {δ : Nat} {Γ : XG} {pc n : Nat} {v : Int64} {z : Int} (d : decode cc pc = .ok (.ldc2_w n, 3)) (hw : Cond.constantLong own n v ∈ xT) (hz : v = Int64.ofInt z) (hr : x64b z = true) : Ge θ δ Γ pc (pc + 3) 1 (eK z) := fun L M Q t _ he k => GG.ldc2 h d hw hz (x64b_of hr) (k _ _ he)
theorem Ge.ldcw {θ : XΘ} {own : String} {cc : ByteArray} {nn : Nat} {rm : Nat × Nat} {rc : Option FieldType} (h : Fx θ own cc nn rm rc) {δ : Nat} {Γ : XG} {pc n : Nat} {v : Int32} {z : Int} (d : decode cc pc = .ok (.ldc_w n, 3)) (hw : Cond.constant own n v ∈ xT) (hz : v = Int32.ofInt z) (hr : x32b z = true) : Ge θ δ Γ pc (pc + 3) 0 (eK z) := fun L M Q t _ he k => GG.ldcw h d hw hz (x32b_of hr) (k _ _ he)
theorem Ge.iload_n {θ : XΘ} {own : String} {cc : ByteArray} {nn : Nat} {rm : Nat × Nat} {rc : Option FieldType} (h : Fx θ own cc nn rm rc) {δ : Nat} {Γ : XG} {pc i : Nat} {j : Fin 4} (d : decode cc pc = .ok (.iload_n j, 1)) (hi : (j : Nat) = i) (hg : xmem i 0 Γ = true) : Ge θ δ Γ pc (pc + 1) 0 (eL i) := fun L M Q t _ he k => GG.iload_n h d hi (xmem_of hg) (k _ _ he)
theorem Ge.iload {θ : XΘ} {own : String} {cc : ByteArray} {nn : Nat} {rm : Nat × Nat} {rc : Option FieldType} (h : Fx θ own cc nn rm rc) {δ : Nat} {Γ : XG} {pc i : Nat} (d : decode cc pc = .ok (.iload i, 2)) (hg : xmem i 0 Γ = true) : Ge θ δ Γ pc (pc + 2) 0 (eL i) := fun L M Q t _ he k => GG.iload h d (xmem_of hg) (k _ _ he)
theorem Ge.lload_n {θ : XΘ} {own : String} {cc : ByteArray} {nn : Nat} {rm : Nat × Nat} {rc : Option FieldType} (h : Fx θ own cc nn rm rc) {δ : Nat} {Γ : XG} {pc i : Nat} {j : Fin 4} (d : decode cc pc = .ok (.lload_n j, 1)) (hi : (j : Nat) = i) (hg : xmem i 1 Γ = true) : Ge θ δ Γ pc (pc + 1) 1 (eL i) := fun L M Q t _ he k => GG.lload_n h d hi (xmem_of hg) (k _ _ he)
theorem Ge.lload {θ : XΘ} {own : String} {cc : ByteArray} {nn : Nat} {rm : Nat × Nat} {rc : Option FieldType} (h : Fx θ own cc nn rm rc) {δ : Nat} {Γ : XG} {pc i : Nat} (d : decode cc pc = .ok (.lload i, 2)) (hg : xmem i 1 Γ = true) : Ge θ δ Γ pc (pc + 2) 1 (eL i) := fun L M Q t _ he k => GG.lload h d (xmem_of hg) (k _ _ he)
theorem Ge.aload_n {θ : XΘ} {own : String} {cc : ByteArray} {nn : Nat} {rm : Nat × Nat} {rc : Option FieldType} (h : Fx θ own cc nn rm rc) {δ : Nat} {Γ : XG} {pc i κ : Nat} {j : Fin 4} (hκ : 2 ≤ κ) (d : decode cc pc = .ok (.aload_n j, 1)) (hi : (j : Nat) = i) (hg : xmem i κ Γ = true) : Ge θ δ Γ pc (pc + 1) κ (eL i) := fun L M Q t _ he k => GG.aload_n h hκ d hi (xmem_of hg) (k _ _ he)
theorem Ge.aload {θ : XΘ} {own : String} {cc : ByteArray} {nn : Nat} {rm : Nat × Nat} {rc : Option FieldType} (h : Fx θ own cc nn rm rc) {δ : Nat} {Γ : XG} {pc i κ : Nat} (hκ : 2 ≤ κ) (d : decode cc pc = .ok (.aload i, 2)) (hg : xmem i κ Γ = true) : Ge θ δ Γ pc (pc + 2) κ (eL i) := fun L M Q t _ he k => GG.aload h hκ d (xmem_of hg) (k _ _ he)
theorem Gp.aload_n {θ : XΘ} {own : String} {cc : ByteArray} {nn : Nat} {rm : Nat × Nat} {rc : Option FieldType} (h : Fx θ own cc nn rm rc) {Γ : XG} {pc i x : Nat} {j : Fin 4} (d : decode cc pc = .ok (.aload_n j, 1)) (hi : (j : Nat) = i) (hg : xmem i (x + 4) Γ = true) : Gp θ Γ pc (pc + 1) x := fun L M t k => GG.aload_n h (by omega) d hi (xmem_of hg) (GG.sref k)
theorem Ge.r {θ : XΘ} {δ : Nat} {Γ : XG} {pc pc2 x : Nat} (p : Gp θ Γ pc pc2 x) : Ge θ δ Γ pc pc2 (x + 4) eR := fun L M Q t _ he k => p L M t (k _ _ he)
theorem Gp.f {θ : XΘ} {Γ : XG} {pc pc1 pc2 x y : Nat} (p : Gp θ Γ pc pc1 x) (f : ∀ {L : XL} {t : XT} {M : XM} {z : Int}, GG θ Γ pc2 L ((y + 4, 0) :: t) M → GG θ Γ pc1 L ((x + 4, z) :: t) M) : Gp θ Γ pc pc2 y := fun L M t k => p L M t (f k)
theorem Ge.f {θ : XΘ} {δ : Nat} {Γ : XG} {pc pc1 pc2 x : Nat} {j : Int} (p : Gp θ Γ pc pc1 x) (f : ∀ {L : XL} {t : XT} {M : XM} {z : Int}, GG θ Γ pc2 L ((0, M x j) :: t) M → GG θ Γ pc1 L ((x + 4, z) :: t) M) : Ge θ δ Γ pc pc2 0 (eF x j) := fun L M Q t _ he k => p L M t (f (k _ _ he))
theorem Ge.A {θ : XΘ} {own : String} {cc : ByteArray} {nn : Nat} {rm : Nat × Nat} {rc : Option FieldType} (h : Fx θ own cc nn rm rc) {δ : Nat} {Γ : XG} {pc pc1 pc2 x n : Nat} {N : Int} {i : XE} (c : xIarr x n) (hN : (n : Int) = N) (p : Gp θ Γ pc pc1 x) (g : Ge θ (δ + 1) Γ pc1 pc2 0 i) (d : decode cc pc2 = .ok (.iaload, 1)) : Ge θ δ Γ pc (pc2 + 1) 0 (eA x N i) := fun L M Q t ht he k => p L M t (g L M _ _ (by rw [xsum_c]; simp [x_cat]; omega) he (fun j M' q => GG.iald h c.1 c.2.1 c.2.2.1 c.2.2.2 d q.1 (by rw [hN]; exact q.2.1) (k _ _ q.2.2)))
theorem Ge.AJ {θ : XΘ} {own : String} {cc : ByteArray} {nn : Nat} {rm : Nat × Nat} {rc : Option FieldType} (h : Fx θ own cc nn rm rc) {δ : Nat} {Γ : XG} {pc pc1 pc2 x n : Nat} {N : Int} {i : XE} (c : xJarr x n) (hN : (n : Int) = N) (p : Gp θ Γ pc pc1 x) (g : Ge θ (δ + 1) Γ pc1 pc2 0 i) (d : decode cc pc2 = .ok (.laload, 1)) : Ge θ δ Γ pc (pc2 + 1) 1 (eA x N i) := fun L M Q t ht he k => p L M t (g L M _ _ (by rw [xsum_c]; simp [x_cat]; omega) he (fun j M' q => GG.lald h c.1 c.2.1 c.2.2.1 c.2.2.2 d (fun _ => rfl) q.1 (by rw [hN]; exact q.2.1) (k _ _ q.2.2)))
theorem Ge.AE {θ : XΘ} {own : String} {cc : ByteArray} {nn : Nat} {rm : Nat × Nat} {rc : Option FieldType} (h : Fx θ own cc nn rm rc) {δ : Nat} {Γ : XG} {pc pc1 pc2 x : Nat} {n : String} {i : XE} (hsel : ∀ ω M U H, xE ω M U H → xE1 ω M n x U H) (hk : xN ≤ x) (hlg : xlong x = false) (p : Gp θ Γ pc pc1 x) (g : Ge θ (δ + 1) Γ pc1 pc2 0 i) (d : decode cc pc2 = .ok (.iaload, 1)) : Ge θ δ Γ pc (pc2 + 1) 0 (eA x 15 i) := fun L M Q t ht he k => p L M t (g L M _ _ (by rw [xsum_c]; simp [x_cat]; omega) he (fun j M' q => GG.ialdE h hsel hk hlg d q.1 q.2.1 (k _ _ q.2.2)))
theorem Gp.s {θ : XΘ} {own : String} {cc : ByteArray} {nn : Nat} {rm : Nat × Nat} {rc : Option FieldType} (h : Fx θ own cc nn rm rc) {Γ : XG} {pc x ix : Nat} {n : String} (hsel : ∀ ω M U H, xE ω M U H → xE1 ω M n x U H) (hlink : Cond.fieldLink own ix "MostSold22" n "[I" ∈ xT) (d : decode cc pc = .ok (.getstatic ix, 3)) : Gp θ Γ pc (pc + 3) x := fun L M t k => GG.gets1 h hsel hlink d k
theorem Ge.Q {θ : XΘ} {own : String} {cc : ByteArray} {nn : Nat} {rm : Nat × Nat} {rc : Option FieldType} (h : Fx θ own cc nn rm rc) {δ : Nat} {Γ : XG} {pc pc1 pc2 x n c0 κ : Nat} {N : Int} {i : XE} (c : xQarr x n c0 κ) (hN : (n : Int) = N) (p : Gp θ Γ pc pc1 x) (g : Ge θ (δ + 1) Γ pc1 pc2 0 i) (d : decode cc pc2 = .ok (.aaload, 1)) : Ge θ δ Γ pc (pc2 + 1) κ (eQ c0 N i) := fun L M Q t ht he k => p L M t (g L M _ _ (by rw [xsum_c]; simp [x_cat]; omega) he (fun j M' q => GG.aald h c.1 c.2.1 c.2.2.1 c.2.2.2.1 c.2.2.2.2 d q.1 (by rw [hN]; exact q.2.1) (k _ _ q.2.2)))
theorem Ge.D {θ : XΘ} {own : String} {cc : ByteArray} {nn : Nat} {rm : Nat × Nat} {rc : Option FieldType} (h : Fx θ own cc nn rm rc) {δ : Nat} {Γ : XG} {pc pc1 pc2 n κ : Nat} {N : Int} {r i : XE} (c : xRow κ n) (hc : x_cat κ = 1) (hN : (n : Int) = N) (p : Ge θ δ Γ pc pc1 κ r) (g : Ge θ (δ + 1) Γ pc1 pc2 0 i) (d : decode cc pc2 = .ok (.laload, 1)) : Ge θ δ Γ pc (pc2 + 1) 1 (eD N r i) := fun L M Q t ht he k => p L M _ t ht he (fun a M1 q1 => GG.wfS (fun hS => g L M1 _ _ (by rw [xsum_c, hc]; omega) q1 (fun j M' q => by
  have cc1 := c a (xwS_hd hS)
  exact GG.lald h cc1.2.1 cc1.2.2.1 cc1.2.2.2.1 cc1.2.2.2.2 d cc1.1 q.1 (by rw [hN]; exact q.2.1) (k _ _ q.2.2))))
theorem Ge.ineg {θ : XΘ} {own : String} {cc : ByteArray} {nn : Nat} {rm : Nat × Nat} {rc : Option FieldType} (h : Fx θ own cc nn rm rc) {δ : Nat} {Γ : XG} {pc pc1 : Nat} {a : XE} (g : Ge θ δ Γ pc pc1 0 a) (d : decode cc pc1 = .ok (.ineg, 1)) : Ge θ δ Γ pc (pc1 + 1) 0 (eU iNeg a) := fun L M Q t ht he k => g L M _ t ht he (fun x M' q => GG.ineg h d (k _ _ q))
theorem Ge.lneg {θ : XΘ} {own : String} {cc : ByteArray} {nn : Nat} {rm : Nat × Nat} {rc : Option FieldType} (h : Fx θ own cc nn rm rc) {δ : Nat} {Γ : XG} {pc pc1 : Nat} {a : XE} (g : Ge θ δ Γ pc pc1 1 a) (d : decode cc pc1 = .ok (.lneg, 1)) : Ge θ δ Γ pc (pc1 + 1) 1 (eU lNeg a) := fun L M Q t ht he k => g L M _ t ht he (fun x M' q => GG.lneg h d (k _ _ q))
theorem Ge.i2l {θ : XΘ} {own : String} {cc : ByteArray} {nn : Nat} {rm : Nat × Nat} {rc : Option FieldType} (h : Fx θ own cc nn rm rc) {δ : Nat} {Γ : XG} {pc pc1 : Nat} {a : XE} (g : Ge θ δ Γ pc pc1 0 a) (d : decode cc pc1 = .ok (.i2l, 1)) : Ge θ δ Γ pc (pc1 + 1) 1 (eU i2l a) := fun L M Q t ht he k => g L M _ t ht he (fun x M' q => GG.i2l h d (k _ _ q))
theorem Ge.l2i {θ : XΘ} {own : String} {cc : ByteArray} {nn : Nat} {rm : Nat × Nat} {rc : Option FieldType} (h : Fx θ own cc nn rm rc) {δ : Nat} {Γ : XG} {pc pc1 : Nat} {a : XE} (g : Ge θ δ Γ pc pc1 1 a) (d : decode cc pc1 = .ok (.l2i, 1)) : Ge θ δ Γ pc (pc1 + 1) 0 (eU l2i a) := fun L M Q t ht he k => g L M _ t ht he (fun x M' q => GG.l2i h d (k _ _ q))
theorem Ge.i2b {θ : XΘ} {own : String} {cc : ByteArray} {nn : Nat} {rm : Nat × Nat} {rc : Option FieldType} (h : Fx θ own cc nn rm rc) {δ : Nat} {Γ : XG} {pc pc1 : Nat} {a : XE} (g : Ge θ δ Γ pc pc1 0 a) (d : decode cc pc1 = .ok (.i2b, 1)) : Ge θ δ Γ pc (pc1 + 1) 0 (eU i2b a) := fun L M Q t ht he k => g L M _ t ht he (fun x M' q => GG.i2b h d (k _ _ q))
theorem Ge.i2s {θ : XΘ} {own : String} {cc : ByteArray} {nn : Nat} {rm : Nat × Nat} {rc : Option FieldType} (h : Fx θ own cc nn rm rc) {δ : Nat} {Γ : XG} {pc pc1 : Nat} {a : XE} (g : Ge θ δ Γ pc pc1 0 a) (d : decode cc pc1 = .ok (.i2s, 1)) : Ge θ δ Γ pc (pc1 + 1) 0 (eU i2s a) := fun L M Q t ht he k => g L M _ t ht he (fun x M' q => GG.i2s h d (k _ _ q))
theorem Ge.iadd {θ : XΘ} {own : String} {cc : ByteArray} {nn : Nat} {rm : Nat × Nat} {rc : Option FieldType} (h : Fx θ own cc nn rm rc) {δ : Nat} {Γ : XG} {pc pc1 pc2 : Nat} {a b : XE} (ga : Ge θ δ Γ pc pc1 0 a) (gb : Ge θ (δ + 1) Γ pc1 pc2 0 b) (d : decode cc pc2 = .ok (.iadd, 1)) : Ge θ δ Γ pc (pc2 + 1) 0 (eB iAdd a b) := fun L M Q t ht he k => ga L M _ t ht he (fun x M1 q1 => gb L M1 _ _ (by rw [xsum_c]; simp [x_cat]; omega) q1 (fun y M2 q2 => GG.iadd h d (k _ _ q2)))
theorem Ge.isub {θ : XΘ} {own : String} {cc : ByteArray} {nn : Nat} {rm : Nat × Nat} {rc : Option FieldType} (h : Fx θ own cc nn rm rc) {δ : Nat} {Γ : XG} {pc pc1 pc2 : Nat} {a b : XE} (ga : Ge θ δ Γ pc pc1 0 a) (gb : Ge θ (δ + 1) Γ pc1 pc2 0 b) (d : decode cc pc2 = .ok (.isub, 1)) : Ge θ δ Γ pc (pc2 + 1) 0 (eB iSub a b) := fun L M Q t ht he k => ga L M _ t ht he (fun x M1 q1 => gb L M1 _ _ (by rw [xsum_c]; simp [x_cat]; omega) q1 (fun y M2 q2 => GG.isub h d (k _ _ q2)))
theorem Ge.imul {θ : XΘ} {own : String} {cc : ByteArray} {nn : Nat} {rm : Nat × Nat} {rc : Option FieldType} (h : Fx θ own cc nn rm rc) {δ : Nat} {Γ : XG} {pc pc1 pc2 : Nat} {a b : XE} (ga : Ge θ δ Γ pc pc1 0 a) (gb : Ge θ (δ + 1) Γ pc1 pc2 0 b) (d : decode cc pc2 = .ok (.imul, 1)) : Ge θ δ Γ pc (pc2 + 1) 0 (eB iMul a b) := fun L M Q t ht he k => ga L M _ t ht he (fun x M1 q1 => gb L M1 _ _ (by rw [xsum_c]; simp [x_cat]; omega) q1 (fun y M2 q2 => GG.imul h d (k _ _ q2)))
theorem Ge.iand {θ : XΘ} {own : String} {cc : ByteArray} {nn : Nat} {rm : Nat × Nat} {rc : Option FieldType} (h : Fx θ own cc nn rm rc) {δ : Nat} {Γ : XG} {pc pc1 pc2 : Nat} {a b : XE} (ga : Ge θ δ Γ pc pc1 0 a) (gb : Ge θ (δ + 1) Γ pc1 pc2 0 b) (d : decode cc pc2 = .ok (.iand, 1)) : Ge θ δ Γ pc (pc2 + 1) 0 (eB iAnd a b) := fun L M Q t ht he k => ga L M _ t ht he (fun x M1 q1 => gb L M1 _ _ (by rw [xsum_c]; simp [x_cat]; omega) q1 (fun y M2 q2 => GG.iand h d (k _ _ q2)))
theorem Ge.ior {θ : XΘ} {own : String} {cc : ByteArray} {nn : Nat} {rm : Nat × Nat} {rc : Option FieldType} (h : Fx θ own cc nn rm rc) {δ : Nat} {Γ : XG} {pc pc1 pc2 : Nat} {a b : XE} (ga : Ge θ δ Γ pc pc1 0 a) (gb : Ge θ (δ + 1) Γ pc1 pc2 0 b) (d : decode cc pc2 = .ok (.ior, 1)) : Ge θ δ Γ pc (pc2 + 1) 0 (eB iOr a b) := fun L M Q t ht he k => ga L M _ t ht he (fun x M1 q1 => gb L M1 _ _ (by rw [xsum_c]; simp [x_cat]; omega) q1 (fun y M2 q2 => GG.ior h d (k _ _ q2)))
theorem Ge.ixor {θ : XΘ} {own : String} {cc : ByteArray} {nn : Nat} {rm : Nat × Nat} {rc : Option FieldType} (h : Fx θ own cc nn rm rc) {δ : Nat} {Γ : XG} {pc pc1 pc2 : Nat} {a b : XE} (ga : Ge θ δ Γ pc pc1 0 a) (gb : Ge θ (δ + 1) Γ pc1 pc2 0 b) (d : decode cc pc2 = .ok (.ixor, 1)) : Ge θ δ Γ pc (pc2 + 1) 0 (eB iXor a b) := fun L M Q t ht he k => ga L M _ t ht he (fun x M1 q1 => gb L M1 _ _ (by rw [xsum_c]; simp [x_cat]; omega) q1 (fun y M2 q2 => GG.ixor h d (k _ _ q2)))
theorem Ge.ishl {θ : XΘ} {own : String} {cc : ByteArray} {nn : Nat} {rm : Nat × Nat} {rc : Option FieldType} (h : Fx θ own cc nn rm rc) {δ : Nat} {Γ : XG} {pc pc1 pc2 : Nat} {a b : XE} (ga : Ge θ δ Γ pc pc1 0 a) (gb : Ge θ (δ + 1) Γ pc1 pc2 0 b) (d : decode cc pc2 = .ok (.ishl, 1)) : Ge θ δ Γ pc (pc2 + 1) 0 (eB iShl a b) := fun L M Q t ht he k => ga L M _ t ht he (fun x M1 q1 => gb L M1 _ _ (by rw [xsum_c]; simp [x_cat]; omega) q1 (fun y M2 q2 => GG.ishl h d (k _ _ q2)))
theorem Ge.ishr {θ : XΘ} {own : String} {cc : ByteArray} {nn : Nat} {rm : Nat × Nat} {rc : Option FieldType} (h : Fx θ own cc nn rm rc) {δ : Nat} {Γ : XG} {pc pc1 pc2 : Nat} {a b : XE} (ga : Ge θ δ Γ pc pc1 0 a) (gb : Ge θ (δ + 1) Γ pc1 pc2 0 b) (d : decode cc pc2 = .ok (.ishr, 1)) : Ge θ δ Γ pc (pc2 + 1) 0 (eB iShr a b) := fun L M Q t ht he k => ga L M _ t ht he (fun x M1 q1 => gb L M1 _ _ (by rw [xsum_c]; simp [x_cat]; omega) q1 (fun y M2 q2 => GG.ishr h d (k _ _ q2)))
theorem Ge.iushr {θ : XΘ} {own : String} {cc : ByteArray} {nn : Nat} {rm : Nat × Nat} {rc : Option FieldType} (h : Fx θ own cc nn rm rc) {δ : Nat} {Γ : XG} {pc pc1 pc2 : Nat} {a b : XE} (ga : Ge θ δ Γ pc pc1 0 a) (gb : Ge θ (δ + 1) Γ pc1 pc2 0 b) (d : decode cc pc2 = .ok (.iushr, 1)) : Ge θ δ Γ pc (pc2 + 1) 0 (eB iUshr a b) := fun L M Q t ht he k => ga L M _ t ht he (fun x M1 q1 => gb L M1 _ _ (by rw [xsum_c]; simp [x_cat]; omega) q1 (fun y M2 q2 => GG.iushr h d (k _ _ q2)))
theorem Ge.ladd {θ : XΘ} {own : String} {cc : ByteArray} {nn : Nat} {rm : Nat × Nat} {rc : Option FieldType} (h : Fx θ own cc nn rm rc) {δ : Nat} {Γ : XG} {pc pc1 pc2 : Nat} {a b : XE} (ga : Ge θ δ Γ pc pc1 1 a) (gb : Ge θ (δ + 2) Γ pc1 pc2 1 b) (d : decode cc pc2 = .ok (.ladd, 1)) : Ge θ δ Γ pc (pc2 + 1) 1 (eB lAdd a b) := fun L M Q t ht he k => ga L M _ t ht he (fun x M1 q1 => gb L M1 _ _ (by rw [xsum_c]; simp [x_cat]; omega) q1 (fun y M2 q2 => GG.ladd h d (k _ _ q2)))
theorem Ge.lsub {θ : XΘ} {own : String} {cc : ByteArray} {nn : Nat} {rm : Nat × Nat} {rc : Option FieldType} (h : Fx θ own cc nn rm rc) {δ : Nat} {Γ : XG} {pc pc1 pc2 : Nat} {a b : XE} (ga : Ge θ δ Γ pc pc1 1 a) (gb : Ge θ (δ + 2) Γ pc1 pc2 1 b) (d : decode cc pc2 = .ok (.lsub, 1)) : Ge θ δ Γ pc (pc2 + 1) 1 (eB lSub a b) := fun L M Q t ht he k => ga L M _ t ht he (fun x M1 q1 => gb L M1 _ _ (by rw [xsum_c]; simp [x_cat]; omega) q1 (fun y M2 q2 => GG.lsub h d (k _ _ q2)))
theorem Ge.lmul {θ : XΘ} {own : String} {cc : ByteArray} {nn : Nat} {rm : Nat × Nat} {rc : Option FieldType} (h : Fx θ own cc nn rm rc) {δ : Nat} {Γ : XG} {pc pc1 pc2 : Nat} {a b : XE} (ga : Ge θ δ Γ pc pc1 1 a) (gb : Ge θ (δ + 2) Γ pc1 pc2 1 b) (d : decode cc pc2 = .ok (.lmul, 1)) : Ge θ δ Γ pc (pc2 + 1) 1 (eB lMul a b) := fun L M Q t ht he k => ga L M _ t ht he (fun x M1 q1 => gb L M1 _ _ (by rw [xsum_c]; simp [x_cat]; omega) q1 (fun y M2 q2 => GG.lmul h d (k _ _ q2)))
theorem Ge.land {θ : XΘ} {own : String} {cc : ByteArray} {nn : Nat} {rm : Nat × Nat} {rc : Option FieldType} (h : Fx θ own cc nn rm rc) {δ : Nat} {Γ : XG} {pc pc1 pc2 : Nat} {a b : XE} (ga : Ge θ δ Γ pc pc1 1 a) (gb : Ge θ (δ + 2) Γ pc1 pc2 1 b) (d : decode cc pc2 = .ok (.land, 1)) : Ge θ δ Γ pc (pc2 + 1) 1 (eB lAnd a b) := fun L M Q t ht he k => ga L M _ t ht he (fun x M1 q1 => gb L M1 _ _ (by rw [xsum_c]; simp [x_cat]; omega) q1 (fun y M2 q2 => GG.land h d (k _ _ q2)))
theorem Ge.lor {θ : XΘ} {own : String} {cc : ByteArray} {nn : Nat} {rm : Nat × Nat} {rc : Option FieldType} (h : Fx θ own cc nn rm rc) {δ : Nat} {Γ : XG} {pc pc1 pc2 : Nat} {a b : XE} (ga : Ge θ δ Γ pc pc1 1 a) (gb : Ge θ (δ + 2) Γ pc1 pc2 1 b) (d : decode cc pc2 = .ok (.lor, 1)) : Ge θ δ Γ pc (pc2 + 1) 1 (eB lOr a b) := fun L M Q t ht he k => ga L M _ t ht he (fun x M1 q1 => gb L M1 _ _ (by rw [xsum_c]; simp [x_cat]; omega) q1 (fun y M2 q2 => GG.lor h d (k _ _ q2)))
theorem Ge.lshl {θ : XΘ} {own : String} {cc : ByteArray} {nn : Nat} {rm : Nat × Nat} {rc : Option FieldType} (h : Fx θ own cc nn rm rc) {δ : Nat} {Γ : XG} {pc pc1 pc2 : Nat} {a b : XE} (ga : Ge θ δ Γ pc pc1 1 a) (gb : Ge θ (δ + 2) Γ pc1 pc2 0 b) (d : decode cc pc2 = .ok (.lshl, 1)) : Ge θ δ Γ pc (pc2 + 1) 1 (eB lShl a b) := fun L M Q t ht he k => ga L M _ t ht he (fun x M1 q1 => gb L M1 _ _ (by rw [xsum_c]; simp [x_cat]; omega) q1 (fun y M2 q2 => GG.lshl h d (k _ _ q2)))
theorem Ge.idiv {θ : XΘ} {own : String} {cc : ByteArray} {nn : Nat} {rm : Nat × Nat} {rc : Option FieldType} (h : Fx θ own cc nn rm rc) {δ : Nat} {Γ : XG} {pc pc1 pc2 : Nat} {a b : XE} (ga : Ge θ δ Γ pc pc1 0 a) (gb : Ge θ (δ + 1) Γ pc1 pc2 0 b) (d : decode cc pc2 = .ok (.idiv, 1)) : Ge θ δ Γ pc (pc2 + 1) 0 (eV iDiv a b) := fun L M Q t ht he k => ga L M _ t ht he (fun x M1 q1 => gb L M1 _ _ (by rw [xsum_c]; simp [x_cat]; omega) q1 (fun y M2 q2 => GG.idiv h q2.1 d (k _ _ q2.2)))
theorem Ge.irem {θ : XΘ} {own : String} {cc : ByteArray} {nn : Nat} {rm : Nat × Nat} {rc : Option FieldType} (h : Fx θ own cc nn rm rc) {δ : Nat} {Γ : XG} {pc pc1 pc2 : Nat} {a b : XE} (ga : Ge θ δ Γ pc pc1 0 a) (gb : Ge θ (δ + 1) Γ pc1 pc2 0 b) (d : decode cc pc2 = .ok (.irem, 1)) : Ge θ δ Γ pc (pc2 + 1) 0 (eV iRem a b) := fun L M Q t ht he k => ga L M _ t ht he (fun x M1 q1 => gb L M1 _ _ (by rw [xsum_c]; simp [x_cat]; omega) q1 (fun y M2 q2 => GG.irem h q2.1 d (k _ _ q2.2)))
theorem Ge.ldiv {θ : XΘ} {own : String} {cc : ByteArray} {nn : Nat} {rm : Nat × Nat} {rc : Option FieldType} (h : Fx θ own cc nn rm rc) {δ : Nat} {Γ : XG} {pc pc1 pc2 : Nat} {a b : XE} (ga : Ge θ δ Γ pc pc1 1 a) (gb : Ge θ (δ + 2) Γ pc1 pc2 1 b) (d : decode cc pc2 = .ok (.ldiv, 1)) : Ge θ δ Γ pc (pc2 + 1) 1 (eV lDiv a b) := fun L M Q t ht he k => ga L M _ t ht he (fun x M1 q1 => gb L M1 _ _ (by rw [xsum_c]; simp [x_cat]; omega) q1 (fun y M2 q2 => GG.ldiv h q2.1 d (k _ _ q2.2)))
theorem Ge.mmini {θ : XΘ} {own : String} {cc : ByteArray} {nn : Nat} {rm : Nat × Nat} {rc : Option FieldType} (h : Fx θ own cc nn rm rc) {δ : Nat} {Γ : XG} {pc pc1 pc2 ix : Nat} {a b : XE} (ga : Ge θ δ Γ pc pc1 0 a) (gb : Ge θ (δ + 1) Γ pc1 pc2 0 b) (h1 : Cond.methodLink own ix Lib.Math.min.name ∈ xT) (h2 : Cond.static Lib.Math.min.name ∈ xT) (h3 : Cond.initialized "java/lang/Math" ∈ xT) (h4 : Cond.code Lib.Math.min.name Lib.Math.min.code 2 (some .int) ∈ xT) (hf : 1 ≤ rm.1) (hl : δ + 13 ≤ rm.2) (d : decode cc pc2 = .ok (.invokestatic ix, 3)) : Ge θ δ Γ pc (pc2 + 3) 0 (eB mMin a b) := fun L M Q t ht he k => ga L M _ t ht he (fun x M1 q1 => gb L M1 _ _ (by rw [xsum_c]; simp [x_cat]; omega) q1 (fun y M2 q2 => GG.mmini h h1 h2 h3 h4 hf (by omega) d (k _ _ q2)))
theorem Ge.mminl {θ : XΘ} {own : String} {cc : ByteArray} {nn : Nat} {rm : Nat × Nat} {rc : Option FieldType} (h : Fx θ own cc nn rm rc) {δ : Nat} {Γ : XG} {pc pc1 pc2 ix : Nat} {a b : XE} (ga : Ge θ δ Γ pc pc1 1 a) (gb : Ge θ (δ + 2) Γ pc1 pc2 1 b) (h1 : Cond.methodLink own ix Lib.MathLoose.min_long.x ∈ xT) (h2 : Cond.static Lib.MathLoose.min_long.x ∈ xT) (h3 : Cond.initialized "java/lang/Math" ∈ xT) (h4 : Cond.code Lib.MathLoose.min_long.x Lib.MathLoose.min_long.code 4 (some .long) ∈ xT) (hf : 1 ≤ rm.1) (hl : δ + 15 ≤ rm.2) (d : decode cc pc2 = .ok (.invokestatic ix, 3)) : Ge θ δ Γ pc (pc2 + 3) 1 (eB mMin a b) := fun L M Q t ht he k => ga L M _ t ht he (fun x M1 q1 => gb L M1 _ _ (by rw [xsum_c]; simp [x_cat]; omega) q1 (fun y M2 q2 => GG.mminl h h1 h2 h3 h4 hf (by omega) d (k _ _ q2)))
theorem Ge.mmaxl {θ : XΘ} {own : String} {cc : ByteArray} {nn : Nat} {rm : Nat × Nat} {rc : Option FieldType} (h : Fx θ own cc nn rm rc) {δ : Nat} {Γ : XG} {pc pc1 pc2 ix : Nat} {a b : XE} (ga : Ge θ δ Γ pc pc1 1 a) (gb : Ge θ (δ + 2) Γ pc1 pc2 1 b) (h1 : Cond.methodLink own ix Lib.MathLoose.max_long.x ∈ xT) (h2 : Cond.static Lib.MathLoose.max_long.x ∈ xT) (h3 : Cond.initialized "java/lang/Math" ∈ xT) (h4 : Cond.code Lib.MathLoose.max_long.x Lib.MathLoose.max_long.code 4 (some .long) ∈ xT) (hf : 1 ≤ rm.1) (hl : δ + 15 ≤ rm.2) (d : decode cc pc2 = .ok (.invokestatic ix, 3)) : Ge θ δ Γ pc (pc2 + 3) 1 (eB mMax a b) := fun L M Q t ht he k => ga L M _ t ht he (fun x M1 q1 => gb L M1 _ _ (by rw [xsum_c]; simp [x_cat]; omega) q1 (fun y M2 q2 => GG.mmaxl h h1 h2 h3 h4 hf (by omega) d (k _ _ q2)))
theorem Gc.icmp_eq_t {θ : XΘ} {own : String} {cc : ByteArray} {nn : Nat} {rm : Nat × Nat} {rc : Option FieldType} (h : Fx θ own cc nn rm rc) {δ : Nat} {Γ : XG} {pc pc1 pc2 tgt : Nat} {a b : XE} {off : Int} (ga : Ge θ δ Γ pc pc1 0 a) (gb : Ge θ (δ + 1) Γ pc1 pc2 0 b) (d : decode cc pc2 = .ok (.if_icmp .eq off, 3)) (ht : (pc2 : Int) + off = (tgt : Int)) : Gc θ δ Γ pc tgt (pc2 + 3) (cB (fun x y => x = y) a b) := fun L M T F t hs he kT kF => ga L M _ t hs he (fun x M1 q1 => gb L M1 _ _ (by rw [xsum_c]; simp [x_cat]; omega) q1 (fun y M2 q2 => GG.icmp_eq h d ht (fun r => kT _ (q2.1 r)) (fun r => kF _ (q2.2 r))))
theorem Gc.if_eq_t {θ : XΘ} {own : String} {cc : ByteArray} {nn : Nat} {rm : Nat × Nat} {rc : Option FieldType} (h : Fx θ own cc nn rm rc) {δ : Nat} {Γ : XG} {pc pc1 tgt : Nat} {a : XE} {off : Int} (ga : Ge θ δ Γ pc pc1 0 a) (d : decode cc pc1 = .ok (.ifCond .eq off, 3)) (ht : (pc1 : Int) + off = (tgt : Int)) : Gc θ δ Γ pc tgt (pc1 + 3) (cZ (fun x => x = 0) a) := fun L M T F t hs he kT kF => ga L M _ t hs he (fun x M2 q2 => GG.if_eq h d ht (fun r => kT _ (q2.1 r)) (fun r => kF _ (q2.2 r)))
theorem Gc.lcmp_eq_t {θ : XΘ} {own : String} {cc : ByteArray} {nn : Nat} {rm : Nat × Nat} {rc : Option FieldType} (h : Fx θ own cc nn rm rc) {δ : Nat} {Γ : XG} {pc pc1 pc2 tgt : Nat} {a b : XE} {off : Int} (ga : Ge θ δ Γ pc pc1 1 a) (gb : Ge θ (δ + 2) Γ pc1 pc2 1 b) (d0 : decode cc pc2 = .ok (.lcmp, 1)) (d : decode cc (pc2 + 1) = .ok (.ifCond .eq off, 3)) (ht : ((pc2 + 1 : Nat) : Int) + off = (tgt : Int)) : Gc θ δ Γ pc tgt (pc2 + 1 + 3) (cB (fun x y => x = y) a b) := fun L M T F t hs he kT kF => ga L M _ t hs he (fun x M1 q1 => gb L M1 _ _ (by rw [xsum_c]; simp [x_cat]; omega) q1 (fun y M2 q2 => GG.lcmp h d0 (GG.if_eq h d ht (fun r => kT _ (q2.1 (lCmp_eq.mp r))) (fun r => kF _ (q2.2 (fun r2 => r (lCmp_eq.mpr r2)))))))
theorem Gc.icmp_eq_f {θ : XΘ} {own : String} {cc : ByteArray} {nn : Nat} {rm : Nat × Nat} {rc : Option FieldType} (h : Fx θ own cc nn rm rc) {δ : Nat} {Γ : XG} {pc pc1 pc2 tgt : Nat} {a b : XE} {off : Int} (ga : Ge θ δ Γ pc pc1 0 a) (gb : Ge θ (δ + 1) Γ pc1 pc2 0 b) (d : decode cc pc2 = .ok (.if_icmp .eq off, 3)) (ht : (pc2 : Int) + off = (tgt : Int)) : Gc θ δ Γ pc (pc2 + 3) tgt (cB (fun x y => x ≠ y) a b) := fun L M T F t hs he kT kF => ga L M _ t hs he (fun x M1 q1 => gb L M1 _ _ (by rw [xsum_c]; simp [x_cat]; omega) q1 (fun y M2 q2 => GG.icmp_eq h d ht (fun r => kF _ (q2.2 (fun r2 => absurd r (by omega)))) (fun r => kT _ (q2.1 (by omega)))))
theorem Gc.if_eq_f {θ : XΘ} {own : String} {cc : ByteArray} {nn : Nat} {rm : Nat × Nat} {rc : Option FieldType} (h : Fx θ own cc nn rm rc) {δ : Nat} {Γ : XG} {pc pc1 tgt : Nat} {a : XE} {off : Int} (ga : Ge θ δ Γ pc pc1 0 a) (d : decode cc pc1 = .ok (.ifCond .eq off, 3)) (ht : (pc1 : Int) + off = (tgt : Int)) : Gc θ δ Γ pc (pc1 + 3) tgt (cZ (fun x => x ≠ 0) a) := fun L M T F t hs he kT kF => ga L M _ t hs he (fun x M2 q2 => GG.if_eq h d ht (fun r => kF _ (q2.2 (fun r2 => absurd r (by omega)))) (fun r => kT _ (q2.1 (by omega))))
theorem Gc.lcmp_eq_f {θ : XΘ} {own : String} {cc : ByteArray} {nn : Nat} {rm : Nat × Nat} {rc : Option FieldType} (h : Fx θ own cc nn rm rc) {δ : Nat} {Γ : XG} {pc pc1 pc2 tgt : Nat} {a b : XE} {off : Int} (ga : Ge θ δ Γ pc pc1 1 a) (gb : Ge θ (δ + 2) Γ pc1 pc2 1 b) (d0 : decode cc pc2 = .ok (.lcmp, 1)) (d : decode cc (pc2 + 1) = .ok (.ifCond .eq off, 3)) (ht : ((pc2 + 1 : Nat) : Int) + off = (tgt : Int)) : Gc θ δ Γ pc (pc2 + 1 + 3) tgt (cB (fun x y => x ≠ y) a b) := fun L M T F t hs he kT kF => ga L M _ t hs he (fun x M1 q1 => gb L M1 _ _ (by rw [xsum_c]; simp [x_cat]; omega) q1 (fun y M2 q2 => GG.lcmp h d0 (GG.if_eq h d ht (fun r => kF _ (q2.2 (fun r2 => absurd (lCmp_eq.mp r) (by omega)))) (fun r => kT _ (q2.1 (by have r3 := mt lCmp_eq.mpr r; omega))))))
theorem Gc.icmp_ne_t {θ : XΘ} {own : String} {cc : ByteArray} {nn : Nat} {rm : Nat × Nat} {rc : Option FieldType} (h : Fx θ own cc nn rm rc) {δ : Nat} {Γ : XG} {pc pc1 pc2 tgt : Nat} {a b : XE} {off : Int} (ga : Ge θ δ Γ pc pc1 0 a) (gb : Ge θ (δ + 1) Γ pc1 pc2 0 b) (d : decode cc pc2 = .ok (.if_icmp .ne off, 3)) (ht : (pc2 : Int) + off = (tgt : Int)) : Gc θ δ Γ pc tgt (pc2 + 3) (cB (fun x y => x ≠ y) a b) := fun L M T F t hs he kT kF => ga L M _ t hs he (fun x M1 q1 => gb L M1 _ _ (by rw [xsum_c]; simp [x_cat]; omega) q1 (fun y M2 q2 => GG.icmp_ne h d ht (fun r => kT _ (q2.1 r)) (fun r => kF _ (q2.2 r))))
theorem Gc.if_ne_t {θ : XΘ} {own : String} {cc : ByteArray} {nn : Nat} {rm : Nat × Nat} {rc : Option FieldType} (h : Fx θ own cc nn rm rc) {δ : Nat} {Γ : XG} {pc pc1 tgt : Nat} {a : XE} {off : Int} (ga : Ge θ δ Γ pc pc1 0 a) (d : decode cc pc1 = .ok (.ifCond .ne off, 3)) (ht : (pc1 : Int) + off = (tgt : Int)) : Gc θ δ Γ pc tgt (pc1 + 3) (cZ (fun x => x ≠ 0) a) := fun L M T F t hs he kT kF => ga L M _ t hs he (fun x M2 q2 => GG.if_ne h d ht (fun r => kT _ (q2.1 r)) (fun r => kF _ (q2.2 r)))
theorem Gc.lcmp_ne_t {θ : XΘ} {own : String} {cc : ByteArray} {nn : Nat} {rm : Nat × Nat} {rc : Option FieldType} (h : Fx θ own cc nn rm rc) {δ : Nat} {Γ : XG} {pc pc1 pc2 tgt : Nat} {a b : XE} {off : Int} (ga : Ge θ δ Γ pc pc1 1 a) (gb : Ge θ (δ + 2) Γ pc1 pc2 1 b) (d0 : decode cc pc2 = .ok (.lcmp, 1)) (d : decode cc (pc2 + 1) = .ok (.ifCond .ne off, 3)) (ht : ((pc2 + 1 : Nat) : Int) + off = (tgt : Int)) : Gc θ δ Γ pc tgt (pc2 + 1 + 3) (cB (fun x y => x ≠ y) a b) := fun L M T F t hs he kT kF => ga L M _ t hs he (fun x M1 q1 => gb L M1 _ _ (by rw [xsum_c]; simp [x_cat]; omega) q1 (fun y M2 q2 => GG.lcmp h d0 (GG.if_ne h d ht (fun r => kT _ (q2.1 ((not_congr lCmp_eq).mp r))) (fun r => kF _ (q2.2 (fun r2 => r ((not_congr lCmp_eq).mpr r2)))))))
theorem Gc.icmp_ne_f {θ : XΘ} {own : String} {cc : ByteArray} {nn : Nat} {rm : Nat × Nat} {rc : Option FieldType} (h : Fx θ own cc nn rm rc) {δ : Nat} {Γ : XG} {pc pc1 pc2 tgt : Nat} {a b : XE} {off : Int} (ga : Ge θ δ Γ pc pc1 0 a) (gb : Ge θ (δ + 1) Γ pc1 pc2 0 b) (d : decode cc pc2 = .ok (.if_icmp .ne off, 3)) (ht : (pc2 : Int) + off = (tgt : Int)) : Gc θ δ Γ pc (pc2 + 3) tgt (cB (fun x y => x = y) a b) := fun L M T F t hs he kT kF => ga L M _ t hs he (fun x M1 q1 => gb L M1 _ _ (by rw [xsum_c]; simp [x_cat]; omega) q1 (fun y M2 q2 => GG.icmp_ne h d ht (fun r => kF _ (q2.2 (fun r2 => absurd r (by omega)))) (fun r => kT _ (q2.1 (by omega)))))
theorem Gc.if_ne_f {θ : XΘ} {own : String} {cc : ByteArray} {nn : Nat} {rm : Nat × Nat} {rc : Option FieldType} (h : Fx θ own cc nn rm rc) {δ : Nat} {Γ : XG} {pc pc1 tgt : Nat} {a : XE} {off : Int} (ga : Ge θ δ Γ pc pc1 0 a) (d : decode cc pc1 = .ok (.ifCond .ne off, 3)) (ht : (pc1 : Int) + off = (tgt : Int)) : Gc θ δ Γ pc (pc1 + 3) tgt (cZ (fun x => x = 0) a) := fun L M T F t hs he kT kF => ga L M _ t hs he (fun x M2 q2 => GG.if_ne h d ht (fun r => kF _ (q2.2 (fun r2 => absurd r (by omega)))) (fun r => kT _ (q2.1 (by omega))))
theorem Gc.lcmp_ne_f {θ : XΘ} {own : String} {cc : ByteArray} {nn : Nat} {rm : Nat × Nat} {rc : Option FieldType} (h : Fx θ own cc nn rm rc) {δ : Nat} {Γ : XG} {pc pc1 pc2 tgt : Nat} {a b : XE} {off : Int} (ga : Ge θ δ Γ pc pc1 1 a) (gb : Ge θ (δ + 2) Γ pc1 pc2 1 b) (d0 : decode cc pc2 = .ok (.lcmp, 1)) (d : decode cc (pc2 + 1) = .ok (.ifCond .ne off, 3)) (ht : ((pc2 + 1 : Nat) : Int) + off = (tgt : Int)) : Gc θ δ Γ pc (pc2 + 1 + 3) tgt (cB (fun x y => x = y) a b) := fun L M T F t hs he kT kF => ga L M _ t hs he (fun x M1 q1 => gb L M1 _ _ (by rw [xsum_c]; simp [x_cat]; omega) q1 (fun y M2 q2 => GG.lcmp h d0 (GG.if_ne h d ht (fun r => kF _ (q2.2 (fun r2 => absurd ((not_congr lCmp_eq).mp r) (by omega)))) (fun r => kT _ (q2.1 (by have r3 := mt (not_congr lCmp_eq).mpr r; omega))))))
theorem Gc.icmp_lt_t {θ : XΘ} {own : String} {cc : ByteArray} {nn : Nat} {rm : Nat × Nat} {rc : Option FieldType} (h : Fx θ own cc nn rm rc) {δ : Nat} {Γ : XG} {pc pc1 pc2 tgt : Nat} {a b : XE} {off : Int} (ga : Ge θ δ Γ pc pc1 0 a) (gb : Ge θ (δ + 1) Γ pc1 pc2 0 b) (d : decode cc pc2 = .ok (.if_icmp .lt off, 3)) (ht : (pc2 : Int) + off = (tgt : Int)) : Gc θ δ Γ pc tgt (pc2 + 3) (cB (fun x y => x < y) a b) := fun L M T F t hs he kT kF => ga L M _ t hs he (fun x M1 q1 => gb L M1 _ _ (by rw [xsum_c]; simp [x_cat]; omega) q1 (fun y M2 q2 => GG.icmp_lt h d ht (fun r => kT _ (q2.1 r)) (fun r => kF _ (q2.2 r))))
theorem Gc.if_lt_t {θ : XΘ} {own : String} {cc : ByteArray} {nn : Nat} {rm : Nat × Nat} {rc : Option FieldType} (h : Fx θ own cc nn rm rc) {δ : Nat} {Γ : XG} {pc pc1 tgt : Nat} {a : XE} {off : Int} (ga : Ge θ δ Γ pc pc1 0 a) (d : decode cc pc1 = .ok (.ifCond .lt off, 3)) (ht : (pc1 : Int) + off = (tgt : Int)) : Gc θ δ Γ pc tgt (pc1 + 3) (cZ (fun x => x < 0) a) := fun L M T F t hs he kT kF => ga L M _ t hs he (fun x M2 q2 => GG.if_lt h d ht (fun r => kT _ (q2.1 r)) (fun r => kF _ (q2.2 r)))
theorem Gc.lcmp_lt_t {θ : XΘ} {own : String} {cc : ByteArray} {nn : Nat} {rm : Nat × Nat} {rc : Option FieldType} (h : Fx θ own cc nn rm rc) {δ : Nat} {Γ : XG} {pc pc1 pc2 tgt : Nat} {a b : XE} {off : Int} (ga : Ge θ δ Γ pc pc1 1 a) (gb : Ge θ (δ + 2) Γ pc1 pc2 1 b) (d0 : decode cc pc2 = .ok (.lcmp, 1)) (d : decode cc (pc2 + 1) = .ok (.ifCond .lt off, 3)) (ht : ((pc2 + 1 : Nat) : Int) + off = (tgt : Int)) : Gc θ δ Γ pc tgt (pc2 + 1 + 3) (cB (fun x y => x < y) a b) := fun L M T F t hs he kT kF => ga L M _ t hs he (fun x M1 q1 => gb L M1 _ _ (by rw [xsum_c]; simp [x_cat]; omega) q1 (fun y M2 q2 => GG.lcmp h d0 (GG.if_lt h d ht (fun r => kT _ (q2.1 (lCmp_lt.mp r))) (fun r => kF _ (q2.2 (fun r2 => r (lCmp_lt.mpr r2)))))))
theorem Gc.icmp_lt_f {θ : XΘ} {own : String} {cc : ByteArray} {nn : Nat} {rm : Nat × Nat} {rc : Option FieldType} (h : Fx θ own cc nn rm rc) {δ : Nat} {Γ : XG} {pc pc1 pc2 tgt : Nat} {a b : XE} {off : Int} (ga : Ge θ δ Γ pc pc1 0 a) (gb : Ge θ (δ + 1) Γ pc1 pc2 0 b) (d : decode cc pc2 = .ok (.if_icmp .lt off, 3)) (ht : (pc2 : Int) + off = (tgt : Int)) : Gc θ δ Γ pc (pc2 + 3) tgt (cB (fun x y => y ≤ x) a b) := fun L M T F t hs he kT kF => ga L M _ t hs he (fun x M1 q1 => gb L M1 _ _ (by rw [xsum_c]; simp [x_cat]; omega) q1 (fun y M2 q2 => GG.icmp_lt h d ht (fun r => kF _ (q2.2 (fun r2 => absurd r (by omega)))) (fun r => kT _ (q2.1 (by omega)))))
theorem Gc.if_lt_f {θ : XΘ} {own : String} {cc : ByteArray} {nn : Nat} {rm : Nat × Nat} {rc : Option FieldType} (h : Fx θ own cc nn rm rc) {δ : Nat} {Γ : XG} {pc pc1 tgt : Nat} {a : XE} {off : Int} (ga : Ge θ δ Γ pc pc1 0 a) (d : decode cc pc1 = .ok (.ifCond .lt off, 3)) (ht : (pc1 : Int) + off = (tgt : Int)) : Gc θ δ Γ pc (pc1 + 3) tgt (cZ (fun x => 0 ≤ x) a) := fun L M T F t hs he kT kF => ga L M _ t hs he (fun x M2 q2 => GG.if_lt h d ht (fun r => kF _ (q2.2 (fun r2 => absurd r (by omega)))) (fun r => kT _ (q2.1 (by omega))))
theorem Gc.lcmp_lt_f {θ : XΘ} {own : String} {cc : ByteArray} {nn : Nat} {rm : Nat × Nat} {rc : Option FieldType} (h : Fx θ own cc nn rm rc) {δ : Nat} {Γ : XG} {pc pc1 pc2 tgt : Nat} {a b : XE} {off : Int} (ga : Ge θ δ Γ pc pc1 1 a) (gb : Ge θ (δ + 2) Γ pc1 pc2 1 b) (d0 : decode cc pc2 = .ok (.lcmp, 1)) (d : decode cc (pc2 + 1) = .ok (.ifCond .lt off, 3)) (ht : ((pc2 + 1 : Nat) : Int) + off = (tgt : Int)) : Gc θ δ Γ pc (pc2 + 1 + 3) tgt (cB (fun x y => y ≤ x) a b) := fun L M T F t hs he kT kF => ga L M _ t hs he (fun x M1 q1 => gb L M1 _ _ (by rw [xsum_c]; simp [x_cat]; omega) q1 (fun y M2 q2 => GG.lcmp h d0 (GG.if_lt h d ht (fun r => kF _ (q2.2 (fun r2 => absurd (lCmp_lt.mp r) (by omega)))) (fun r => kT _ (q2.1 (by have r3 := mt lCmp_lt.mpr r; omega))))))
theorem Gc.icmp_ge_t {θ : XΘ} {own : String} {cc : ByteArray} {nn : Nat} {rm : Nat × Nat} {rc : Option FieldType} (h : Fx θ own cc nn rm rc) {δ : Nat} {Γ : XG} {pc pc1 pc2 tgt : Nat} {a b : XE} {off : Int} (ga : Ge θ δ Γ pc pc1 0 a) (gb : Ge θ (δ + 1) Γ pc1 pc2 0 b) (d : decode cc pc2 = .ok (.if_icmp .ge off, 3)) (ht : (pc2 : Int) + off = (tgt : Int)) : Gc θ δ Γ pc tgt (pc2 + 3) (cB (fun x y => y ≤ x) a b) := fun L M T F t hs he kT kF => ga L M _ t hs he (fun x M1 q1 => gb L M1 _ _ (by rw [xsum_c]; simp [x_cat]; omega) q1 (fun y M2 q2 => GG.icmp_ge h d ht (fun r => kT _ (q2.1 r)) (fun r => kF _ (q2.2 r))))
theorem Gc.if_ge_t {θ : XΘ} {own : String} {cc : ByteArray} {nn : Nat} {rm : Nat × Nat} {rc : Option FieldType} (h : Fx θ own cc nn rm rc) {δ : Nat} {Γ : XG} {pc pc1 tgt : Nat} {a : XE} {off : Int} (ga : Ge θ δ Γ pc pc1 0 a) (d : decode cc pc1 = .ok (.ifCond .ge off, 3)) (ht : (pc1 : Int) + off = (tgt : Int)) : Gc θ δ Γ pc tgt (pc1 + 3) (cZ (fun x => 0 ≤ x) a) := fun L M T F t hs he kT kF => ga L M _ t hs he (fun x M2 q2 => GG.if_ge h d ht (fun r => kT _ (q2.1 r)) (fun r => kF _ (q2.2 r)))
theorem Gc.lcmp_ge_t {θ : XΘ} {own : String} {cc : ByteArray} {nn : Nat} {rm : Nat × Nat} {rc : Option FieldType} (h : Fx θ own cc nn rm rc) {δ : Nat} {Γ : XG} {pc pc1 pc2 tgt : Nat} {a b : XE} {off : Int} (ga : Ge θ δ Γ pc pc1 1 a) (gb : Ge θ (δ + 2) Γ pc1 pc2 1 b) (d0 : decode cc pc2 = .ok (.lcmp, 1)) (d : decode cc (pc2 + 1) = .ok (.ifCond .ge off, 3)) (ht : ((pc2 + 1 : Nat) : Int) + off = (tgt : Int)) : Gc θ δ Γ pc tgt (pc2 + 1 + 3) (cB (fun x y => y ≤ x) a b) := fun L M T F t hs he kT kF => ga L M _ t hs he (fun x M1 q1 => gb L M1 _ _ (by rw [xsum_c]; simp [x_cat]; omega) q1 (fun y M2 q2 => GG.lcmp h d0 (GG.if_ge h d ht (fun r => kT _ (q2.1 (lCmp_ge.mp r))) (fun r => kF _ (q2.2 (fun r2 => r (lCmp_ge.mpr r2)))))))
theorem Gc.icmp_ge_f {θ : XΘ} {own : String} {cc : ByteArray} {nn : Nat} {rm : Nat × Nat} {rc : Option FieldType} (h : Fx θ own cc nn rm rc) {δ : Nat} {Γ : XG} {pc pc1 pc2 tgt : Nat} {a b : XE} {off : Int} (ga : Ge θ δ Γ pc pc1 0 a) (gb : Ge θ (δ + 1) Γ pc1 pc2 0 b) (d : decode cc pc2 = .ok (.if_icmp .ge off, 3)) (ht : (pc2 : Int) + off = (tgt : Int)) : Gc θ δ Γ pc (pc2 + 3) tgt (cB (fun x y => x < y) a b) := fun L M T F t hs he kT kF => ga L M _ t hs he (fun x M1 q1 => gb L M1 _ _ (by rw [xsum_c]; simp [x_cat]; omega) q1 (fun y M2 q2 => GG.icmp_ge h d ht (fun r => kF _ (q2.2 (fun r2 => absurd r (by omega)))) (fun r => kT _ (q2.1 (by omega)))))
theorem Gc.if_ge_f {θ : XΘ} {own : String} {cc : ByteArray} {nn : Nat} {rm : Nat × Nat} {rc : Option FieldType} (h : Fx θ own cc nn rm rc) {δ : Nat} {Γ : XG} {pc pc1 tgt : Nat} {a : XE} {off : Int} (ga : Ge θ δ Γ pc pc1 0 a) (d : decode cc pc1 = .ok (.ifCond .ge off, 3)) (ht : (pc1 : Int) + off = (tgt : Int)) : Gc θ δ Γ pc (pc1 + 3) tgt (cZ (fun x => x < 0) a) := fun L M T F t hs he kT kF => ga L M _ t hs he (fun x M2 q2 => GG.if_ge h d ht (fun r => kF _ (q2.2 (fun r2 => absurd r (by omega)))) (fun r => kT _ (q2.1 (by omega))))
theorem Gc.lcmp_ge_f {θ : XΘ} {own : String} {cc : ByteArray} {nn : Nat} {rm : Nat × Nat} {rc : Option FieldType} (h : Fx θ own cc nn rm rc) {δ : Nat} {Γ : XG} {pc pc1 pc2 tgt : Nat} {a b : XE} {off : Int} (ga : Ge θ δ Γ pc pc1 1 a) (gb : Ge θ (δ + 2) Γ pc1 pc2 1 b) (d0 : decode cc pc2 = .ok (.lcmp, 1)) (d : decode cc (pc2 + 1) = .ok (.ifCond .ge off, 3)) (ht : ((pc2 + 1 : Nat) : Int) + off = (tgt : Int)) : Gc θ δ Γ pc (pc2 + 1 + 3) tgt (cB (fun x y => x < y) a b) := fun L M T F t hs he kT kF => ga L M _ t hs he (fun x M1 q1 => gb L M1 _ _ (by rw [xsum_c]; simp [x_cat]; omega) q1 (fun y M2 q2 => GG.lcmp h d0 (GG.if_ge h d ht (fun r => kF _ (q2.2 (fun r2 => absurd (lCmp_ge.mp r) (by omega)))) (fun r => kT _ (q2.1 (by have r3 := mt lCmp_ge.mpr r; omega))))))
theorem Gc.icmp_gt_t {θ : XΘ} {own : String} {cc : ByteArray} {nn : Nat} {rm : Nat × Nat} {rc : Option FieldType} (h : Fx θ own cc nn rm rc) {δ : Nat} {Γ : XG} {pc pc1 pc2 tgt : Nat} {a b : XE} {off : Int} (ga : Ge θ δ Γ pc pc1 0 a) (gb : Ge θ (δ + 1) Γ pc1 pc2 0 b) (d : decode cc pc2 = .ok (.if_icmp .gt off, 3)) (ht : (pc2 : Int) + off = (tgt : Int)) : Gc θ δ Γ pc tgt (pc2 + 3) (cB (fun x y => y < x) a b) := fun L M T F t hs he kT kF => ga L M _ t hs he (fun x M1 q1 => gb L M1 _ _ (by rw [xsum_c]; simp [x_cat]; omega) q1 (fun y M2 q2 => GG.icmp_gt h d ht (fun r => kT _ (q2.1 r)) (fun r => kF _ (q2.2 r))))
theorem Gc.if_gt_t {θ : XΘ} {own : String} {cc : ByteArray} {nn : Nat} {rm : Nat × Nat} {rc : Option FieldType} (h : Fx θ own cc nn rm rc) {δ : Nat} {Γ : XG} {pc pc1 tgt : Nat} {a : XE} {off : Int} (ga : Ge θ δ Γ pc pc1 0 a) (d : decode cc pc1 = .ok (.ifCond .gt off, 3)) (ht : (pc1 : Int) + off = (tgt : Int)) : Gc θ δ Γ pc tgt (pc1 + 3) (cZ (fun x => 0 < x) a) := fun L M T F t hs he kT kF => ga L M _ t hs he (fun x M2 q2 => GG.if_gt h d ht (fun r => kT _ (q2.1 r)) (fun r => kF _ (q2.2 r)))
theorem Gc.lcmp_gt_t {θ : XΘ} {own : String} {cc : ByteArray} {nn : Nat} {rm : Nat × Nat} {rc : Option FieldType} (h : Fx θ own cc nn rm rc) {δ : Nat} {Γ : XG} {pc pc1 pc2 tgt : Nat} {a b : XE} {off : Int} (ga : Ge θ δ Γ pc pc1 1 a) (gb : Ge θ (δ + 2) Γ pc1 pc2 1 b) (d0 : decode cc pc2 = .ok (.lcmp, 1)) (d : decode cc (pc2 + 1) = .ok (.ifCond .gt off, 3)) (ht : ((pc2 + 1 : Nat) : Int) + off = (tgt : Int)) : Gc θ δ Γ pc tgt (pc2 + 1 + 3) (cB (fun x y => y < x) a b) := fun L M T F t hs he kT kF => ga L M _ t hs he (fun x M1 q1 => gb L M1 _ _ (by rw [xsum_c]; simp [x_cat]; omega) q1 (fun y M2 q2 => GG.lcmp h d0 (GG.if_gt h d ht (fun r => kT _ (q2.1 (lCmp_gt.mp r))) (fun r => kF _ (q2.2 (fun r2 => r (lCmp_gt.mpr r2)))))))
theorem Gc.icmp_gt_f {θ : XΘ} {own : String} {cc : ByteArray} {nn : Nat} {rm : Nat × Nat} {rc : Option FieldType} (h : Fx θ own cc nn rm rc) {δ : Nat} {Γ : XG} {pc pc1 pc2 tgt : Nat} {a b : XE} {off : Int} (ga : Ge θ δ Γ pc pc1 0 a) (gb : Ge θ (δ + 1) Γ pc1 pc2 0 b) (d : decode cc pc2 = .ok (.if_icmp .gt off, 3)) (ht : (pc2 : Int) + off = (tgt : Int)) : Gc θ δ Γ pc (pc2 + 3) tgt (cB (fun x y => x ≤ y) a b) := fun L M T F t hs he kT kF => ga L M _ t hs he (fun x M1 q1 => gb L M1 _ _ (by rw [xsum_c]; simp [x_cat]; omega) q1 (fun y M2 q2 => GG.icmp_gt h d ht (fun r => kF _ (q2.2 (fun r2 => absurd r (by omega)))) (fun r => kT _ (q2.1 (by omega)))))
theorem Gc.if_gt_f {θ : XΘ} {own : String} {cc : ByteArray} {nn : Nat} {rm : Nat × Nat} {rc : Option FieldType} (h : Fx θ own cc nn rm rc) {δ : Nat} {Γ : XG} {pc pc1 tgt : Nat} {a : XE} {off : Int} (ga : Ge θ δ Γ pc pc1 0 a) (d : decode cc pc1 = .ok (.ifCond .gt off, 3)) (ht : (pc1 : Int) + off = (tgt : Int)) : Gc θ δ Γ pc (pc1 + 3) tgt (cZ (fun x => x ≤ 0) a) := fun L M T F t hs he kT kF => ga L M _ t hs he (fun x M2 q2 => GG.if_gt h d ht (fun r => kF _ (q2.2 (fun r2 => absurd r (by omega)))) (fun r => kT _ (q2.1 (by omega))))
theorem Gc.lcmp_gt_f {θ : XΘ} {own : String} {cc : ByteArray} {nn : Nat} {rm : Nat × Nat} {rc : Option FieldType} (h : Fx θ own cc nn rm rc) {δ : Nat} {Γ : XG} {pc pc1 pc2 tgt : Nat} {a b : XE} {off : Int} (ga : Ge θ δ Γ pc pc1 1 a) (gb : Ge θ (δ + 2) Γ pc1 pc2 1 b) (d0 : decode cc pc2 = .ok (.lcmp, 1)) (d : decode cc (pc2 + 1) = .ok (.ifCond .gt off, 3)) (ht : ((pc2 + 1 : Nat) : Int) + off = (tgt : Int)) : Gc θ δ Γ pc (pc2 + 1 + 3) tgt (cB (fun x y => x ≤ y) a b) := fun L M T F t hs he kT kF => ga L M _ t hs he (fun x M1 q1 => gb L M1 _ _ (by rw [xsum_c]; simp [x_cat]; omega) q1 (fun y M2 q2 => GG.lcmp h d0 (GG.if_gt h d ht (fun r => kF _ (q2.2 (fun r2 => absurd (lCmp_gt.mp r) (by omega)))) (fun r => kT _ (q2.1 (by have r3 := mt lCmp_gt.mpr r; omega))))))
theorem Gc.icmp_le_t {θ : XΘ} {own : String} {cc : ByteArray} {nn : Nat} {rm : Nat × Nat} {rc : Option FieldType} (h : Fx θ own cc nn rm rc) {δ : Nat} {Γ : XG} {pc pc1 pc2 tgt : Nat} {a b : XE} {off : Int} (ga : Ge θ δ Γ pc pc1 0 a) (gb : Ge θ (δ + 1) Γ pc1 pc2 0 b) (d : decode cc pc2 = .ok (.if_icmp .le off, 3)) (ht : (pc2 : Int) + off = (tgt : Int)) : Gc θ δ Γ pc tgt (pc2 + 3) (cB (fun x y => x ≤ y) a b) := fun L M T F t hs he kT kF => ga L M _ t hs he (fun x M1 q1 => gb L M1 _ _ (by rw [xsum_c]; simp [x_cat]; omega) q1 (fun y M2 q2 => GG.icmp_le h d ht (fun r => kT _ (q2.1 r)) (fun r => kF _ (q2.2 r))))
theorem Gc.if_le_t {θ : XΘ} {own : String} {cc : ByteArray} {nn : Nat} {rm : Nat × Nat} {rc : Option FieldType} (h : Fx θ own cc nn rm rc) {δ : Nat} {Γ : XG} {pc pc1 tgt : Nat} {a : XE} {off : Int} (ga : Ge θ δ Γ pc pc1 0 a) (d : decode cc pc1 = .ok (.ifCond .le off, 3)) (ht : (pc1 : Int) + off = (tgt : Int)) : Gc θ δ Γ pc tgt (pc1 + 3) (cZ (fun x => x ≤ 0) a) := fun L M T F t hs he kT kF => ga L M _ t hs he (fun x M2 q2 => GG.if_le h d ht (fun r => kT _ (q2.1 r)) (fun r => kF _ (q2.2 r)))
theorem Gc.lcmp_le_t {θ : XΘ} {own : String} {cc : ByteArray} {nn : Nat} {rm : Nat × Nat} {rc : Option FieldType} (h : Fx θ own cc nn rm rc) {δ : Nat} {Γ : XG} {pc pc1 pc2 tgt : Nat} {a b : XE} {off : Int} (ga : Ge θ δ Γ pc pc1 1 a) (gb : Ge θ (δ + 2) Γ pc1 pc2 1 b) (d0 : decode cc pc2 = .ok (.lcmp, 1)) (d : decode cc (pc2 + 1) = .ok (.ifCond .le off, 3)) (ht : ((pc2 + 1 : Nat) : Int) + off = (tgt : Int)) : Gc θ δ Γ pc tgt (pc2 + 1 + 3) (cB (fun x y => x ≤ y) a b) := fun L M T F t hs he kT kF => ga L M _ t hs he (fun x M1 q1 => gb L M1 _ _ (by rw [xsum_c]; simp [x_cat]; omega) q1 (fun y M2 q2 => GG.lcmp h d0 (GG.if_le h d ht (fun r => kT _ (q2.1 (lCmp_le.mp r))) (fun r => kF _ (q2.2 (fun r2 => r (lCmp_le.mpr r2)))))))
theorem Gc.icmp_le_f {θ : XΘ} {own : String} {cc : ByteArray} {nn : Nat} {rm : Nat × Nat} {rc : Option FieldType} (h : Fx θ own cc nn rm rc) {δ : Nat} {Γ : XG} {pc pc1 pc2 tgt : Nat} {a b : XE} {off : Int} (ga : Ge θ δ Γ pc pc1 0 a) (gb : Ge θ (δ + 1) Γ pc1 pc2 0 b) (d : decode cc pc2 = .ok (.if_icmp .le off, 3)) (ht : (pc2 : Int) + off = (tgt : Int)) : Gc θ δ Γ pc (pc2 + 3) tgt (cB (fun x y => y < x) a b) := fun L M T F t hs he kT kF => ga L M _ t hs he (fun x M1 q1 => gb L M1 _ _ (by rw [xsum_c]; simp [x_cat]; omega) q1 (fun y M2 q2 => GG.icmp_le h d ht (fun r => kF _ (q2.2 (fun r2 => absurd r (by omega)))) (fun r => kT _ (q2.1 (by omega)))))
theorem Gc.if_le_f {θ : XΘ} {own : String} {cc : ByteArray} {nn : Nat} {rm : Nat × Nat} {rc : Option FieldType} (h : Fx θ own cc nn rm rc) {δ : Nat} {Γ : XG} {pc pc1 tgt : Nat} {a : XE} {off : Int} (ga : Ge θ δ Γ pc pc1 0 a) (d : decode cc pc1 = .ok (.ifCond .le off, 3)) (ht : (pc1 : Int) + off = (tgt : Int)) : Gc θ δ Γ pc (pc1 + 3) tgt (cZ (fun x => 0 < x) a) := fun L M T F t hs he kT kF => ga L M _ t hs he (fun x M2 q2 => GG.if_le h d ht (fun r => kF _ (q2.2 (fun r2 => absurd r (by omega)))) (fun r => kT _ (q2.1 (by omega))))
theorem Gc.lcmp_le_f {θ : XΘ} {own : String} {cc : ByteArray} {nn : Nat} {rm : Nat × Nat} {rc : Option FieldType} (h : Fx θ own cc nn rm rc) {δ : Nat} {Γ : XG} {pc pc1 pc2 tgt : Nat} {a b : XE} {off : Int} (ga : Ge θ δ Γ pc pc1 1 a) (gb : Ge θ (δ + 2) Γ pc1 pc2 1 b) (d0 : decode cc pc2 = .ok (.lcmp, 1)) (d : decode cc (pc2 + 1) = .ok (.ifCond .le off, 3)) (ht : ((pc2 + 1 : Nat) : Int) + off = (tgt : Int)) : Gc θ δ Γ pc (pc2 + 1 + 3) tgt (cB (fun x y => y < x) a b) := fun L M T F t hs he kT kF => ga L M _ t hs he (fun x M1 q1 => gb L M1 _ _ (by rw [xsum_c]; simp [x_cat]; omega) q1 (fun y M2 q2 => GG.lcmp h d0 (GG.if_le h d ht (fun r => kF _ (q2.2 (fun r2 => absurd (lCmp_le.mp r) (by omega)))) (fun r => kT _ (q2.1 (by have r3 := mt lCmp_le.mpr r; omega))))))
theorem Gc.and {θ : XΘ} {δ : Nat} {Γ : XG} {pc pM pT pF : Nat} {a b : XCd} (ga : Gc θ δ Γ pc pM pF a) (gb : Gc θ δ Γ pM pT pF b) : Gc θ δ Γ pc pT pF (cAnd a b) := fun L M T F t hs he kT kF => ga L M _ _ t hs he (fun M1 q => gb L M1 _ _ t hs q kT kF) kF
theorem Gc.or {θ : XΘ} {δ : Nat} {Γ : XG} {pc pM pT pF : Nat} {a b : XCd} (ga : Gc θ δ Γ pc pT pM a) (gb : Gc θ δ Γ pM pT pF b) : Gc θ δ Γ pc pT pF (cOr a b) := fun L M T F t hs he kT kF => ga L M _ _ t hs he kT (fun M1 q => gb L M1 _ _ t hs q kT kF)
theorem Gc.not {θ : XΘ} {δ : Nat} {Γ : XG} {pc pT pF : Nat} {a : XCd} (ga : Gc θ δ Γ pc pF pT a) : Gc θ δ Γ pc pT pF (cNot a) := fun L M T F t hs he kT kF => ga L M _ _ t hs he kF kT
theorem Ge.tern {θ : XΘ} {δ : Nat} {Γ : XG} {pc pT pF pE κ : Nat} {c : XCd} {a b : XE} (gc : Gc θ δ Γ pc pT pF c) (ga : Ge θ δ Γ pT pE κ a) (gb : Ge θ δ Γ pF pE κ b) : Ge θ δ Γ pc pE κ (eIf c a b) := fun L M Q t hs he k => gc L M _ _ t hs he (fun M1 q => ga L M1 _ t hs q k) (fun M1 q => gb L M1 _ t hs q k)
theorem Gr.i {θ : XΘ} {δ : Nat} {Γ : XG} {pc pc2 : Nat} {e : XE} (g : Gr θ δ Γ pc pc2 (some .int) e) : Ge θ δ Γ pc pc2 0 e := g
theorem Gr.z {θ : XΘ} {δ : Nat} {Γ : XG} {pc pc2 : Nat} {e : XE} (g : Gr θ δ Γ pc pc2 (some .boolean) e) : Ge θ δ Γ pc pc2 0 e := g
theorem Gr.l {θ : XΘ} {δ : Nat} {Γ : XG} {pc pc2 : Nat} {e : XE} (g : Gr θ δ Γ pc pc2 (some .long) e) : Ge θ δ Γ pc pc2 1 e := g
theorem Gr.v {θ : XΘ} {δ : Nat} {Γ : XG} {pc pc2 : Nat} {e : XE} (g : Gr θ δ Γ pc pc2 none e) : Gv θ δ Γ pc pc2 e := g
theorem Gv.pop {θ : XΘ} {own : String} {cc : ByteArray} {nn : Nat} {rm : Nat × Nat} {rc : Option FieldType} (h : Fx θ own cc nn rm rc) {δ : Nat} {Γ : XG} {pc pc1 κ : Nat} {e : XE} (hκ : κ ≠ 1) (g : Ge θ δ Γ pc pc1 κ e) (d : decode cc pc1 = .ok (.pop, 1)) : Gv θ δ Γ pc (pc1 + 1) e := fun L M Q t hs he k => g L M _ t hs he (fun v M1 q => GG.pop h hκ d (k _ _ q))
def eC0 (F : XM → (Int → XM → Prop) → Prop) : XE := fun _ M Q => F M Q
theorem Gr.v0 {θ : XΘ} {own : String} {cc : ByteArray} {nn : Nat} {rm : Nat × Nat} {rc : Option FieldType} (h : Fx θ own cc nn rm rc) {δ : Nat} {Γ : XG} {pc pc1 : Nat} {k : Nat}   {F : XM → (Int → XM → Prop) → Prop} {y : MethodName} {b : ByteArray} {n ix : Nat} {ret : Option FieldType} {rmy : Nat × Nat} {ci : Nat} {C : vw_C} {fs : XW → (Int → Int) → List Value} (hk : k < xN) (hC : vwCl[ci]? = some C) (hCy : C.1 = y.cls) (hcell : ∀ ω f, xcell ω k f = .inr (ci, fs ω f)) (hw1 : Cond.methodLink own ix y ∈ xT) (hw2 : Cond.instanceMethod y ∈ xT) (hw3 : Cond.selects y.cls y y ∈ xT) (hw4 : Cond.code y b n ret ∈ xT) (hw5 : Cond.initialized y.cls ∈ xT) (hy : y.cls ≠ "java/lang/invoke/MethodHandle" ∧ y.cls ≠ "java/lang/invoke/VarHandle") (hlen : (parseMethodDescriptor y.desc).map (fun d => d.parameters.length) = some 0) (hfr : rmy.1 + 1 ≤ rm.1) (hlo : δ + (n + 11) + rmy.2 ≤ rm.2) (p : Gp θ Γ pc pc1 k) (hM : ∀ M Q, F M Q → ∀ l ω, XC l ω y b n ret rmy [(k + 4, 0)] M Q) (d : decode cc pc1 = .ok (.invokevirtual ix, 3)) : Gr θ δ Γ pc (pc1 + 3) ret (eC0 F) := fun L M Q t hs he k9 => p L M t (GG.cv h [] hk hC hCy hcell hw1 hw2 hw3 hw4 hw5 hy hlen hfr (by omega) (hM _ _ he) d (fun v M9 _ q => k9 v M9 q))
theorem Gr.s0 {θ : XΘ} {own : String} {cc : ByteArray} {nn : Nat} {rm : Nat × Nat} {rc : Option FieldType} (h : Fx θ own cc nn rm rc) {δ : Nat} {Γ : XG} {pc  : Nat}    {F : XM → (Int → XM → Prop) → Prop} {y : MethodName} {b : ByteArray} {n ix : Nat} {ret : Option FieldType} {rmy : Nat × Nat} (hw1 : Cond.methodLink own ix y ∈ xT) (hw2 : Cond.static y ∈ xT) (hw4 : Cond.code y b n ret ∈ xT) (hw5 : Cond.initialized y.cls ∈ xT) (hy : y.cls ≠ "java/lang/invoke/MethodHandle" ∧ y.cls ≠ "java/lang/invoke/VarHandle") (hlen : (parseMethodDescriptor y.desc).map (fun d => d.parameters.length) = some 0) (hfr : rmy.1 + 1 ≤ rm.1) (hlo : δ + (n + 11) + rmy.2 ≤ rm.2) (hM : ∀ M Q, F M Q → ∀ l ω, XC l ω y b n ret rmy [] M Q) (d : decode cc pc = .ok (.invokestatic ix, 3)) : Gr θ δ Γ pc (pc + 3) ret (eC0 F) := fun L M Q t hs he k9 => GG.cs h [] hw1 hw2 hw4 hw5 hy hlen hfr (by omega) (hM _ _ he) d (fun v M9 _ q => k9 v M9 q)
theorem Gr.n0 {θ : XΘ} {own : String} {cc : ByteArray} {nn : Nat} {rm : Nat × Nat} {rc : Option FieldType} (h : Fx θ own cc nn rm rc) {δ : Nat} {Γ : XG} {pc  : Nat}    {F : XM → (Int → XM → Prop) → Prop} {y : MethodName} {b : ByteArray} {n ix : Nat} {ret : Option FieldType} {rmy : Nat × Nat} {host : String} (hw1 : Cond.methodLinkNest own ix y host ∈ xNest) (hw2 : Cond.static y ∈ xT) (hw4 : Cond.code y b n ret ∈ xT) (hw5 : Cond.initialized y.cls ∈ xT) (hy : y.cls ≠ "java/lang/invoke/MethodHandle" ∧ y.cls ≠ "java/lang/invoke/VarHandle") (hlen : (parseMethodDescriptor y.desc).map (fun d => d.parameters.length) = some 0) (hfr : rmy.1 + 1 ≤ rm.1) (hlo : δ + (n + 11) + rmy.2 ≤ rm.2) (hM : ∀ M Q, F M Q → ∀ l ω, XC l ω y b n ret rmy [] M Q) (d : decode cc pc = .ok (.invokestatic ix, 3)) : Gr θ δ Γ pc (pc + 3) ret (eC0 F) := fun L M Q t hs he k9 => GG.cn h [] hw1 hw2 hw4 hw5 hy hlen hfr (by omega) (hM _ _ he) d (fun v M9 _ q => k9 v M9 q)
def eC1 (F : Int → XM → (Int → XM → Prop) → Prop) (e1 : XE) : XE := fun L M Q => e1 L M (fun x1 M => F x1 M Q)
theorem Gr.v1 {θ : XΘ} {own : String} {cc : ByteArray} {nn : Nat} {rm : Nat × Nat} {rc : Option FieldType} (h : Fx θ own cc nn rm rc) {δ : Nat} {Γ : XG} {pc pc1 pc2 : Nat} {k : Nat} {κ1 : Nat} {e1 : XE} {F : Int → XM → (Int → XM → Prop) → Prop} {y : MethodName} {b : ByteArray} {n ix : Nat} {ret : Option FieldType} {rmy : Nat × Nat} {ci : Nat} {C : vw_C} {fs : XW → (Int → Int) → List Value} (hk : k < xN) (hC : vwCl[ci]? = some C) (hCy : C.1 = y.cls) (hcell : ∀ ω f, xcell ω k f = .inr (ci, fs ω f)) (hw1 : Cond.methodLink own ix y ∈ xT) (hw2 : Cond.instanceMethod y ∈ xT) (hw3 : Cond.selects y.cls y y ∈ xT) (hw4 : Cond.code y b n ret ∈ xT) (hw5 : Cond.initialized y.cls ∈ xT) (hy : y.cls ≠ "java/lang/invoke/MethodHandle" ∧ y.cls ≠ "java/lang/invoke/VarHandle") (hlen : (parseMethodDescriptor y.desc).map (fun d => d.parameters.length) = some 1) (hfr : rmy.1 + 1 ≤ rm.1) (hlo : δ + (n + 11) + rmy.2 ≤ rm.2) (p : Gp θ Γ pc pc1 k) (g1 : Ge θ (δ + 1) Γ pc1 pc2 κ1 e1) (hM : ∀ (x1 : Int) M Q, F x1 M Q → ∀ l ω, XC l ω y b n ret rmy [(k + 4, 0), (κ1, x1)] M Q) (d : decode cc pc2 = .ok (.invokevirtual ix, 3)) : Gr θ δ Γ pc (pc2 + 3) ret (eC1 F e1) := fun L M Q t hs he k9 => p L M t (g1 L M _ _ (by simp only [xsum_c]; simp only [show x_cat (k + 4) = 1 by simp [x_cat]]; omega) he (fun x1 M1 q1 => GG.cv h [(κ1, x1)] hk hC hCy hcell hw1 hw2 hw3 hw4 hw5 hy hlen hfr (by omega) (hM x1 _ _ q1) d (fun v M9 _ q => k9 v M9 q)))
theorem Gr.s1 {θ : XΘ} {own : String} {cc : ByteArray} {nn : Nat} {rm : Nat × Nat} {rc : Option FieldType} (h : Fx θ own cc nn rm rc) {δ : Nat} {Γ : XG} {pc pc2 : Nat}  {κ1 : Nat} {e1 : XE} {F : Int → XM → (Int → XM → Prop) → Prop} {y : MethodName} {b : ByteArray} {n ix : Nat} {ret : Option FieldType} {rmy : Nat × Nat} (hw1 : Cond.methodLink own ix y ∈ xT) (hw2 : Cond.static y ∈ xT) (hw4 : Cond.code y b n ret ∈ xT) (hw5 : Cond.initialized y.cls ∈ xT) (hy : y.cls ≠ "java/lang/invoke/MethodHandle" ∧ y.cls ≠ "java/lang/invoke/VarHandle") (hlen : (parseMethodDescriptor y.desc).map (fun d => d.parameters.length) = some 1) (hfr : rmy.1 + 1 ≤ rm.1) (hlo : δ + (n + 11) + rmy.2 ≤ rm.2) (g1 : Ge θ (δ) Γ pc pc2 κ1 e1) (hM : ∀ (x1 : Int) M Q, F x1 M Q → ∀ l ω, XC l ω y b n ret rmy [(κ1, x1)] M Q) (d : decode cc pc2 = .ok (.invokestatic ix, 3)) : Gr θ δ Γ pc (pc2 + 3) ret (eC1 F e1) := fun L M Q t hs he k9 => g1 L M _ _ hs he (fun x1 M1 q1 => GG.cs h [(κ1, x1)] hw1 hw2 hw4 hw5 hy hlen hfr (by omega) (hM x1 _ _ q1) d (fun v M9 _ q => k9 v M9 q))
theorem Gr.n1 {θ : XΘ} {own : String} {cc : ByteArray} {nn : Nat} {rm : Nat × Nat} {rc : Option FieldType} (h : Fx θ own cc nn rm rc) {δ : Nat} {Γ : XG} {pc pc2 : Nat}  {κ1 : Nat} {e1 : XE} {F : Int → XM → (Int → XM → Prop) → Prop} {y : MethodName} {b : ByteArray} {n ix : Nat} {ret : Option FieldType} {rmy : Nat × Nat} {host : String} (hw1 : Cond.methodLinkNest own ix y host ∈ xNest) (hw2 : Cond.static y ∈ xT) (hw4 : Cond.code y b n ret ∈ xT) (hw5 : Cond.initialized y.cls ∈ xT) (hy : y.cls ≠ "java/lang/invoke/MethodHandle" ∧ y.cls ≠ "java/lang/invoke/VarHandle") (hlen : (parseMethodDescriptor y.desc).map (fun d => d.parameters.length) = some 1) (hfr : rmy.1 + 1 ≤ rm.1) (hlo : δ + (n + 11) + rmy.2 ≤ rm.2) (g1 : Ge θ (δ) Γ pc pc2 κ1 e1) (hM : ∀ (x1 : Int) M Q, F x1 M Q → ∀ l ω, XC l ω y b n ret rmy [(κ1, x1)] M Q) (d : decode cc pc2 = .ok (.invokestatic ix, 3)) : Gr θ δ Γ pc (pc2 + 3) ret (eC1 F e1) := fun L M Q t hs he k9 => g1 L M _ _ hs he (fun x1 M1 q1 => GG.cn h [(κ1, x1)] hw1 hw2 hw4 hw5 hy hlen hfr (by omega) (hM x1 _ _ q1) d (fun v M9 _ q => k9 v M9 q))
def eC2 (F : Int → Int → XM → (Int → XM → Prop) → Prop) (e1 e2 : XE) : XE := fun L M Q => e1 L M (fun x1 M => e2 L M (fun x2 M => F x1 x2 M Q))
theorem Gr.v2 {θ : XΘ} {own : String} {cc : ByteArray} {nn : Nat} {rm : Nat × Nat} {rc : Option FieldType} (h : Fx θ own cc nn rm rc) {δ : Nat} {Γ : XG} {pc pc1 pc2 pc3 : Nat} {k : Nat} {κ1 κ2 : Nat} {e1 e2 : XE} {F : Int → Int → XM → (Int → XM → Prop) → Prop} {y : MethodName} {b : ByteArray} {n ix : Nat} {ret : Option FieldType} {rmy : Nat × Nat} {ci : Nat} {C : vw_C} {fs : XW → (Int → Int) → List Value} (hk : k < xN) (hC : vwCl[ci]? = some C) (hCy : C.1 = y.cls) (hcell : ∀ ω f, xcell ω k f = .inr (ci, fs ω f)) (hw1 : Cond.methodLink own ix y ∈ xT) (hw2 : Cond.instanceMethod y ∈ xT) (hw3 : Cond.selects y.cls y y ∈ xT) (hw4 : Cond.code y b n ret ∈ xT) (hw5 : Cond.initialized y.cls ∈ xT) (hy : y.cls ≠ "java/lang/invoke/MethodHandle" ∧ y.cls ≠ "java/lang/invoke/VarHandle") (hlen : (parseMethodDescriptor y.desc).map (fun d => d.parameters.length) = some 2) (hfr : rmy.1 + 1 ≤ rm.1) (hlo : δ + (n + 11) + rmy.2 ≤ rm.2) (p : Gp θ Γ pc pc1 k) (g1 : Ge θ (δ + 1) Γ pc1 pc2 κ1 e1) (g2 : Ge θ (δ + 1 + x_cat κ1) Γ pc2 pc3 κ2 e2) (hM : ∀ (x1 : Int) (x2 : Int) M Q, F x1 x2 M Q → ∀ l ω, XC l ω y b n ret rmy [(k + 4, 0), (κ1, x1), (κ2, x2)] M Q) (d : decode cc pc3 = .ok (.invokevirtual ix, 3)) : Gr θ δ Γ pc (pc3 + 3) ret (eC2 F e1 e2) := fun L M Q t hs he k9 => p L M t (g1 L M _ _ (by simp only [xsum_c]; simp only [show x_cat (k + 4) = 1 by simp [x_cat]]; omega) he (fun x1 M1 q1 => g2 L M1 _ _ (by simp only [xsum_c]; simp only [show x_cat (k + 4) = 1 by simp [x_cat]]; omega) q1 (fun x2 M2 q2 => GG.cv h [(κ1, x1), (κ2, x2)] hk hC hCy hcell hw1 hw2 hw3 hw4 hw5 hy hlen hfr (by omega) (hM x1 x2 _ _ q2) d (fun v M9 _ q => k9 v M9 q))))
theorem Gr.s2 {θ : XΘ} {own : String} {cc : ByteArray} {nn : Nat} {rm : Nat × Nat} {rc : Option FieldType} (h : Fx θ own cc nn rm rc) {δ : Nat} {Γ : XG} {pc pc2 pc3 : Nat}  {κ1 κ2 : Nat} {e1 e2 : XE} {F : Int → Int → XM → (Int → XM → Prop) → Prop} {y : MethodName} {b : ByteArray} {n ix : Nat} {ret : Option FieldType} {rmy : Nat × Nat} (hw1 : Cond.methodLink own ix y ∈ xT) (hw2 : Cond.static y ∈ xT) (hw4 : Cond.code y b n ret ∈ xT) (hw5 : Cond.initialized y.cls ∈ xT) (hy : y.cls ≠ "java/lang/invoke/MethodHandle" ∧ y.cls ≠ "java/lang/invoke/VarHandle") (hlen : (parseMethodDescriptor y.desc).map (fun d => d.parameters.length) = some 2) (hfr : rmy.1 + 1 ≤ rm.1) (hlo : δ + (n + 11) + rmy.2 ≤ rm.2) (g1 : Ge θ (δ) Γ pc pc2 κ1 e1) (g2 : Ge θ (δ + x_cat κ1) Γ pc2 pc3 κ2 e2) (hM : ∀ (x1 : Int) (x2 : Int) M Q, F x1 x2 M Q → ∀ l ω, XC l ω y b n ret rmy [(κ1, x1), (κ2, x2)] M Q) (d : decode cc pc3 = .ok (.invokestatic ix, 3)) : Gr θ δ Γ pc (pc3 + 3) ret (eC2 F e1 e2) := fun L M Q t hs he k9 => g1 L M _ _ hs he (fun x1 M1 q1 => g2 L M1 _ _ (by simp only [xsum_c]; omega) q1 (fun x2 M2 q2 => GG.cs h [(κ1, x1), (κ2, x2)] hw1 hw2 hw4 hw5 hy hlen hfr (by omega) (hM x1 x2 _ _ q2) d (fun v M9 _ q => k9 v M9 q)))
theorem Gr.n2 {θ : XΘ} {own : String} {cc : ByteArray} {nn : Nat} {rm : Nat × Nat} {rc : Option FieldType} (h : Fx θ own cc nn rm rc) {δ : Nat} {Γ : XG} {pc pc2 pc3 : Nat}  {κ1 κ2 : Nat} {e1 e2 : XE} {F : Int → Int → XM → (Int → XM → Prop) → Prop} {y : MethodName} {b : ByteArray} {n ix : Nat} {ret : Option FieldType} {rmy : Nat × Nat} {host : String} (hw1 : Cond.methodLinkNest own ix y host ∈ xNest) (hw2 : Cond.static y ∈ xT) (hw4 : Cond.code y b n ret ∈ xT) (hw5 : Cond.initialized y.cls ∈ xT) (hy : y.cls ≠ "java/lang/invoke/MethodHandle" ∧ y.cls ≠ "java/lang/invoke/VarHandle") (hlen : (parseMethodDescriptor y.desc).map (fun d => d.parameters.length) = some 2) (hfr : rmy.1 + 1 ≤ rm.1) (hlo : δ + (n + 11) + rmy.2 ≤ rm.2) (g1 : Ge θ (δ) Γ pc pc2 κ1 e1) (g2 : Ge θ (δ + x_cat κ1) Γ pc2 pc3 κ2 e2) (hM : ∀ (x1 : Int) (x2 : Int) M Q, F x1 x2 M Q → ∀ l ω, XC l ω y b n ret rmy [(κ1, x1), (κ2, x2)] M Q) (d : decode cc pc3 = .ok (.invokestatic ix, 3)) : Gr θ δ Γ pc (pc3 + 3) ret (eC2 F e1 e2) := fun L M Q t hs he k9 => g1 L M _ _ hs he (fun x1 M1 q1 => g2 L M1 _ _ (by simp only [xsum_c]; omega) q1 (fun x2 M2 q2 => GG.cn h [(κ1, x1), (κ2, x2)] hw1 hw2 hw4 hw5 hy hlen hfr (by omega) (hM x1 x2 _ _ q2) d (fun v M9 _ q => k9 v M9 q)))
def eC3 (F : Int → Int → Int → XM → (Int → XM → Prop) → Prop) (e1 e2 e3 : XE) : XE := fun L M Q => e1 L M (fun x1 M => e2 L M (fun x2 M => e3 L M (fun x3 M => F x1 x2 x3 M Q)))
theorem Gr.v3 {θ : XΘ} {own : String} {cc : ByteArray} {nn : Nat} {rm : Nat × Nat} {rc : Option FieldType} (h : Fx θ own cc nn rm rc) {δ : Nat} {Γ : XG} {pc pc1 pc2 pc3 pc4 : Nat} {k : Nat} {κ1 κ2 κ3 : Nat} {e1 e2 e3 : XE} {F : Int → Int → Int → XM → (Int → XM → Prop) → Prop} {y : MethodName} {b : ByteArray} {n ix : Nat} {ret : Option FieldType} {rmy : Nat × Nat} {ci : Nat} {C : vw_C} {fs : XW → (Int → Int) → List Value} (hk : k < xN) (hC : vwCl[ci]? = some C) (hCy : C.1 = y.cls) (hcell : ∀ ω f, xcell ω k f = .inr (ci, fs ω f)) (hw1 : Cond.methodLink own ix y ∈ xT) (hw2 : Cond.instanceMethod y ∈ xT) (hw3 : Cond.selects y.cls y y ∈ xT) (hw4 : Cond.code y b n ret ∈ xT) (hw5 : Cond.initialized y.cls ∈ xT) (hy : y.cls ≠ "java/lang/invoke/MethodHandle" ∧ y.cls ≠ "java/lang/invoke/VarHandle") (hlen : (parseMethodDescriptor y.desc).map (fun d => d.parameters.length) = some 3) (hfr : rmy.1 + 1 ≤ rm.1) (hlo : δ + (n + 11) + rmy.2 ≤ rm.2) (p : Gp θ Γ pc pc1 k) (g1 : Ge θ (δ + 1) Γ pc1 pc2 κ1 e1) (g2 : Ge θ (δ + 1 + x_cat κ1) Γ pc2 pc3 κ2 e2) (g3 : Ge θ (δ + 1 + x_cat κ1 + x_cat κ2) Γ pc3 pc4 κ3 e3) (hM : ∀ (x1 : Int) (x2 : Int) (x3 : Int) M Q, F x1 x2 x3 M Q → ∀ l ω, XC l ω y b n ret rmy [(k + 4, 0), (κ1, x1), (κ2, x2), (κ3, x3)] M Q) (d : decode cc pc4 = .ok (.invokevirtual ix, 3)) : Gr θ δ Γ pc (pc4 + 3) ret (eC3 F e1 e2 e3) := fun L M Q t hs he k9 => p L M t (g1 L M _ _ (by simp only [xsum_c]; simp only [show x_cat (k + 4) = 1 by simp [x_cat]]; omega) he (fun x1 M1 q1 => g2 L M1 _ _ (by simp only [xsum_c]; simp only [show x_cat (k + 4) = 1 by simp [x_cat]]; omega) q1 (fun x2 M2 q2 => g3 L M2 _ _ (by simp only [xsum_c]; simp only [show x_cat (k + 4) = 1 by simp [x_cat]]; omega) q2 (fun x3 M3 q3 => GG.cv h [(κ1, x1), (κ2, x2), (κ3, x3)] hk hC hCy hcell hw1 hw2 hw3 hw4 hw5 hy hlen hfr (by omega) (hM x1 x2 x3 _ _ q3) d (fun v M9 _ q => k9 v M9 q)))))
theorem Gr.s3 {θ : XΘ} {own : String} {cc : ByteArray} {nn : Nat} {rm : Nat × Nat} {rc : Option FieldType} (h : Fx θ own cc nn rm rc) {δ : Nat} {Γ : XG} {pc pc2 pc3 pc4 : Nat}  {κ1 κ2 κ3 : Nat} {e1 e2 e3 : XE} {F : Int → Int → Int → XM → (Int → XM → Prop) → Prop} {y : MethodName} {b : ByteArray} {n ix : Nat} {ret : Option FieldType} {rmy : Nat × Nat} (hw1 : Cond.methodLink own ix y ∈ xT) (hw2 : Cond.static y ∈ xT) (hw4 : Cond.code y b n ret ∈ xT) (hw5 : Cond.initialized y.cls ∈ xT) (hy : y.cls ≠ "java/lang/invoke/MethodHandle" ∧ y.cls ≠ "java/lang/invoke/VarHandle") (hlen : (parseMethodDescriptor y.desc).map (fun d => d.parameters.length) = some 3) (hfr : rmy.1 + 1 ≤ rm.1) (hlo : δ + (n + 11) + rmy.2 ≤ rm.2) (g1 : Ge θ (δ) Γ pc pc2 κ1 e1) (g2 : Ge θ (δ + x_cat κ1) Γ pc2 pc3 κ2 e2) (g3 : Ge θ (δ + x_cat κ1 + x_cat κ2) Γ pc3 pc4 κ3 e3) (hM : ∀ (x1 : Int) (x2 : Int) (x3 : Int) M Q, F x1 x2 x3 M Q → ∀ l ω, XC l ω y b n ret rmy [(κ1, x1), (κ2, x2), (κ3, x3)] M Q) (d : decode cc pc4 = .ok (.invokestatic ix, 3)) : Gr θ δ Γ pc (pc4 + 3) ret (eC3 F e1 e2 e3) := fun L M Q t hs he k9 => g1 L M _ _ hs he (fun x1 M1 q1 => g2 L M1 _ _ (by simp only [xsum_c]; omega) q1 (fun x2 M2 q2 => g3 L M2 _ _ (by simp only [xsum_c]; omega) q2 (fun x3 M3 q3 => GG.cs h [(κ1, x1), (κ2, x2), (κ3, x3)] hw1 hw2 hw4 hw5 hy hlen hfr (by omega) (hM x1 x2 x3 _ _ q3) d (fun v M9 _ q => k9 v M9 q))))
theorem Gr.n3 {θ : XΘ} {own : String} {cc : ByteArray} {nn : Nat} {rm : Nat × Nat} {rc : Option FieldType} (h : Fx θ own cc nn rm rc) {δ : Nat} {Γ : XG} {pc pc2 pc3 pc4 : Nat}  {κ1 κ2 κ3 : Nat} {e1 e2 e3 : XE} {F : Int → Int → Int → XM → (Int → XM → Prop) → Prop} {y : MethodName} {b : ByteArray} {n ix : Nat} {ret : Option FieldType} {rmy : Nat × Nat} {host : String} (hw1 : Cond.methodLinkNest own ix y host ∈ xNest) (hw2 : Cond.static y ∈ xT) (hw4 : Cond.code y b n ret ∈ xT) (hw5 : Cond.initialized y.cls ∈ xT) (hy : y.cls ≠ "java/lang/invoke/MethodHandle" ∧ y.cls ≠ "java/lang/invoke/VarHandle") (hlen : (parseMethodDescriptor y.desc).map (fun d => d.parameters.length) = some 3) (hfr : rmy.1 + 1 ≤ rm.1) (hlo : δ + (n + 11) + rmy.2 ≤ rm.2) (g1 : Ge θ (δ) Γ pc pc2 κ1 e1) (g2 : Ge θ (δ + x_cat κ1) Γ pc2 pc3 κ2 e2) (g3 : Ge θ (δ + x_cat κ1 + x_cat κ2) Γ pc3 pc4 κ3 e3) (hM : ∀ (x1 : Int) (x2 : Int) (x3 : Int) M Q, F x1 x2 x3 M Q → ∀ l ω, XC l ω y b n ret rmy [(κ1, x1), (κ2, x2), (κ3, x3)] M Q) (d : decode cc pc4 = .ok (.invokestatic ix, 3)) : Gr θ δ Γ pc (pc4 + 3) ret (eC3 F e1 e2 e3) := fun L M Q t hs he k9 => g1 L M _ _ hs he (fun x1 M1 q1 => g2 L M1 _ _ (by simp only [xsum_c]; omega) q1 (fun x2 M2 q2 => g3 L M2 _ _ (by simp only [xsum_c]; omega) q2 (fun x3 M3 q3 => GG.cn h [(κ1, x1), (κ2, x2), (κ3, x3)] hw1 hw2 hw4 hw5 hy hlen hfr (by omega) (hM x1 x2 x3 _ _ q3) d (fun v M9 _ q => k9 v M9 q))))
def eC4 (F : Int → Int → Int → Int → XM → (Int → XM → Prop) → Prop) (e1 e2 e3 e4 : XE) : XE := fun L M Q => e1 L M (fun x1 M => e2 L M (fun x2 M => e3 L M (fun x3 M => e4 L M (fun x4 M => F x1 x2 x3 x4 M Q))))
theorem Gr.v4 {θ : XΘ} {own : String} {cc : ByteArray} {nn : Nat} {rm : Nat × Nat} {rc : Option FieldType} (h : Fx θ own cc nn rm rc) {δ : Nat} {Γ : XG} {pc pc1 pc2 pc3 pc4 pc5 : Nat} {k : Nat} {κ1 κ2 κ3 κ4 : Nat} {e1 e2 e3 e4 : XE} {F : Int → Int → Int → Int → XM → (Int → XM → Prop) → Prop} {y : MethodName} {b : ByteArray} {n ix : Nat} {ret : Option FieldType} {rmy : Nat × Nat} {ci : Nat} {C : vw_C} {fs : XW → (Int → Int) → List Value} (hk : k < xN) (hC : vwCl[ci]? = some C) (hCy : C.1 = y.cls) (hcell : ∀ ω f, xcell ω k f = .inr (ci, fs ω f)) (hw1 : Cond.methodLink own ix y ∈ xT) (hw2 : Cond.instanceMethod y ∈ xT) (hw3 : Cond.selects y.cls y y ∈ xT) (hw4 : Cond.code y b n ret ∈ xT) (hw5 : Cond.initialized y.cls ∈ xT) (hy : y.cls ≠ "java/lang/invoke/MethodHandle" ∧ y.cls ≠ "java/lang/invoke/VarHandle") (hlen : (parseMethodDescriptor y.desc).map (fun d => d.parameters.length) = some 4) (hfr : rmy.1 + 1 ≤ rm.1) (hlo : δ + (n + 11) + rmy.2 ≤ rm.2) (p : Gp θ Γ pc pc1 k) (g1 : Ge θ (δ + 1) Γ pc1 pc2 κ1 e1) (g2 : Ge θ (δ + 1 + x_cat κ1) Γ pc2 pc3 κ2 e2) (g3 : Ge θ (δ + 1 + x_cat κ1 + x_cat κ2) Γ pc3 pc4 κ3 e3) (g4 : Ge θ (δ + 1 + x_cat κ1 + x_cat κ2 + x_cat κ3) Γ pc4 pc5 κ4 e4) (hM : ∀ (x1 : Int) (x2 : Int) (x3 : Int) (x4 : Int) M Q, F x1 x2 x3 x4 M Q → ∀ l ω, XC l ω y b n ret rmy [(k + 4, 0), (κ1, x1), (κ2, x2), (κ3, x3), (κ4, x4)] M Q) (d : decode cc pc5 = .ok (.invokevirtual ix, 3)) : Gr θ δ Γ pc (pc5 + 3) ret (eC4 F e1 e2 e3 e4) := fun L M Q t hs he k9 => p L M t (g1 L M _ _ (by simp only [xsum_c]; simp only [show x_cat (k + 4) = 1 by simp [x_cat]]; omega) he (fun x1 M1 q1 => g2 L M1 _ _ (by simp only [xsum_c]; simp only [show x_cat (k + 4) = 1 by simp [x_cat]]; omega) q1 (fun x2 M2 q2 => g3 L M2 _ _ (by simp only [xsum_c]; simp only [show x_cat (k + 4) = 1 by simp [x_cat]]; omega) q2 (fun x3 M3 q3 => g4 L M3 _ _ (by simp only [xsum_c]; simp only [show x_cat (k + 4) = 1 by simp [x_cat]]; omega) q3 (fun x4 M4 q4 => GG.cv h [(κ1, x1), (κ2, x2), (κ3, x3), (κ4, x4)] hk hC hCy hcell hw1 hw2 hw3 hw4 hw5 hy hlen hfr (by omega) (hM x1 x2 x3 x4 _ _ q4) d (fun v M9 _ q => k9 v M9 q))))))
theorem Gr.s4 {θ : XΘ} {own : String} {cc : ByteArray} {nn : Nat} {rm : Nat × Nat} {rc : Option FieldType} (h : Fx θ own cc nn rm rc) {δ : Nat} {Γ : XG} {pc pc2 pc3 pc4 pc5 : Nat}  {κ1 κ2 κ3 κ4 : Nat} {e1 e2 e3 e4 : XE} {F : Int → Int → Int → Int → XM → (Int → XM → Prop) → Prop} {y : MethodName} {b : ByteArray} {n ix : Nat} {ret : Option FieldType} {rmy : Nat × Nat} (hw1 : Cond.methodLink own ix y ∈ xT) (hw2 : Cond.static y ∈ xT) (hw4 : Cond.code y b n ret ∈ xT) (hw5 : Cond.initialized y.cls ∈ xT) (hy : y.cls ≠ "java/lang/invoke/MethodHandle" ∧ y.cls ≠ "java/lang/invoke/VarHandle") (hlen : (parseMethodDescriptor y.desc).map (fun d => d.parameters.length) = some 4) (hfr : rmy.1 + 1 ≤ rm.1) (hlo : δ + (n + 11) + rmy.2 ≤ rm.2) (g1 : Ge θ (δ) Γ pc pc2 κ1 e1) (g2 : Ge θ (δ + x_cat κ1) Γ pc2 pc3 κ2 e2) (g3 : Ge θ (δ + x_cat κ1 + x_cat κ2) Γ pc3 pc4 κ3 e3) (g4 : Ge θ (δ + x_cat κ1 + x_cat κ2 + x_cat κ3) Γ pc4 pc5 κ4 e4) (hM : ∀ (x1 : Int) (x2 : Int) (x3 : Int) (x4 : Int) M Q, F x1 x2 x3 x4 M Q → ∀ l ω, XC l ω y b n ret rmy [(κ1, x1), (κ2, x2), (κ3, x3), (κ4, x4)] M Q) (d : decode cc pc5 = .ok (.invokestatic ix, 3)) : Gr θ δ Γ pc (pc5 + 3) ret (eC4 F e1 e2 e3 e4) := fun L M Q t hs he k9 => g1 L M _ _ hs he (fun x1 M1 q1 => g2 L M1 _ _ (by simp only [xsum_c]; omega) q1 (fun x2 M2 q2 => g3 L M2 _ _ (by simp only [xsum_c]; omega) q2 (fun x3 M3 q3 => g4 L M3 _ _ (by simp only [xsum_c]; omega) q3 (fun x4 M4 q4 => GG.cs h [(κ1, x1), (κ2, x2), (κ3, x3), (κ4, x4)] hw1 hw2 hw4 hw5 hy hlen hfr (by omega) (hM x1 x2 x3 x4 _ _ q4) d (fun v M9 _ q => k9 v M9 q)))))
theorem Gr.n4 {θ : XΘ} {own : String} {cc : ByteArray} {nn : Nat} {rm : Nat × Nat} {rc : Option FieldType} (h : Fx θ own cc nn rm rc) {δ : Nat} {Γ : XG} {pc pc2 pc3 pc4 pc5 : Nat}  {κ1 κ2 κ3 κ4 : Nat} {e1 e2 e3 e4 : XE} {F : Int → Int → Int → Int → XM → (Int → XM → Prop) → Prop} {y : MethodName} {b : ByteArray} {n ix : Nat} {ret : Option FieldType} {rmy : Nat × Nat} {host : String} (hw1 : Cond.methodLinkNest own ix y host ∈ xNest) (hw2 : Cond.static y ∈ xT) (hw4 : Cond.code y b n ret ∈ xT) (hw5 : Cond.initialized y.cls ∈ xT) (hy : y.cls ≠ "java/lang/invoke/MethodHandle" ∧ y.cls ≠ "java/lang/invoke/VarHandle") (hlen : (parseMethodDescriptor y.desc).map (fun d => d.parameters.length) = some 4) (hfr : rmy.1 + 1 ≤ rm.1) (hlo : δ + (n + 11) + rmy.2 ≤ rm.2) (g1 : Ge θ (δ) Γ pc pc2 κ1 e1) (g2 : Ge θ (δ + x_cat κ1) Γ pc2 pc3 κ2 e2) (g3 : Ge θ (δ + x_cat κ1 + x_cat κ2) Γ pc3 pc4 κ3 e3) (g4 : Ge θ (δ + x_cat κ1 + x_cat κ2 + x_cat κ3) Γ pc4 pc5 κ4 e4) (hM : ∀ (x1 : Int) (x2 : Int) (x3 : Int) (x4 : Int) M Q, F x1 x2 x3 x4 M Q → ∀ l ω, XC l ω y b n ret rmy [(κ1, x1), (κ2, x2), (κ3, x3), (κ4, x4)] M Q) (d : decode cc pc5 = .ok (.invokestatic ix, 3)) : Gr θ δ Γ pc (pc5 + 3) ret (eC4 F e1 e2 e3 e4) := fun L M Q t hs he k9 => g1 L M _ _ hs he (fun x1 M1 q1 => g2 L M1 _ _ (by simp only [xsum_c]; omega) q1 (fun x2 M2 q2 => g3 L M2 _ _ (by simp only [xsum_c]; omega) q2 (fun x3 M3 q3 => g4 L M3 _ _ (by simp only [xsum_c]; omega) q3 (fun x4 M4 q4 => GG.cn h [(κ1, x1), (κ2, x2), (κ3, x3), (κ4, x4)] hw1 hw2 hw4 hw5 hy hlen hfr (by omega) (hM x1 x2 x3 x4 _ _ q4) d (fun v M9 _ q => k9 v M9 q)))))
def eC5 (F : Int → Int → Int → Int → Int → XM → (Int → XM → Prop) → Prop) (e1 e2 e3 e4 e5 : XE) : XE := fun L M Q => e1 L M (fun x1 M => e2 L M (fun x2 M => e3 L M (fun x3 M => e4 L M (fun x4 M => e5 L M (fun x5 M => F x1 x2 x3 x4 x5 M Q)))))
theorem Gr.v5 {θ : XΘ} {own : String} {cc : ByteArray} {nn : Nat} {rm : Nat × Nat} {rc : Option FieldType} (h : Fx θ own cc nn rm rc) {δ : Nat} {Γ : XG} {pc pc1 pc2 pc3 pc4 pc5 pc6 : Nat} {k : Nat} {κ1 κ2 κ3 κ4 κ5 : Nat} {e1 e2 e3 e4 e5 : XE} {F : Int → Int → Int → Int → Int → XM → (Int → XM → Prop) → Prop} {y : MethodName} {b : ByteArray} {n ix : Nat} {ret : Option FieldType} {rmy : Nat × Nat} {ci : Nat} {C : vw_C} {fs : XW → (Int → Int) → List Value} (hk : k < xN) (hC : vwCl[ci]? = some C) (hCy : C.1 = y.cls) (hcell : ∀ ω f, xcell ω k f = .inr (ci, fs ω f)) (hw1 : Cond.methodLink own ix y ∈ xT) (hw2 : Cond.instanceMethod y ∈ xT) (hw3 : Cond.selects y.cls y y ∈ xT) (hw4 : Cond.code y b n ret ∈ xT) (hw5 : Cond.initialized y.cls ∈ xT) (hy : y.cls ≠ "java/lang/invoke/MethodHandle" ∧ y.cls ≠ "java/lang/invoke/VarHandle") (hlen : (parseMethodDescriptor y.desc).map (fun d => d.parameters.length) = some 5) (hfr : rmy.1 + 1 ≤ rm.1) (hlo : δ + (n + 11) + rmy.2 ≤ rm.2) (p : Gp θ Γ pc pc1 k) (g1 : Ge θ (δ + 1) Γ pc1 pc2 κ1 e1) (g2 : Ge θ (δ + 1 + x_cat κ1) Γ pc2 pc3 κ2 e2) (g3 : Ge θ (δ + 1 + x_cat κ1 + x_cat κ2) Γ pc3 pc4 κ3 e3) (g4 : Ge θ (δ + 1 + x_cat κ1 + x_cat κ2 + x_cat κ3) Γ pc4 pc5 κ4 e4) (g5 : Ge θ (δ + 1 + x_cat κ1 + x_cat κ2 + x_cat κ3 + x_cat κ4) Γ pc5 pc6 κ5 e5) (hM : ∀ (x1 : Int) (x2 : Int) (x3 : Int) (x4 : Int) (x5 : Int) M Q, F x1 x2 x3 x4 x5 M Q → ∀ l ω, XC l ω y b n ret rmy [(k + 4, 0), (κ1, x1), (κ2, x2), (κ3, x3), (κ4, x4), (κ5, x5)] M Q) (d : decode cc pc6 = .ok (.invokevirtual ix, 3)) : Gr θ δ Γ pc (pc6 + 3) ret (eC5 F e1 e2 e3 e4 e5) := fun L M Q t hs he k9 => p L M t (g1 L M _ _ (by simp only [xsum_c]; simp only [show x_cat (k + 4) = 1 by simp [x_cat]]; omega) he (fun x1 M1 q1 => g2 L M1 _ _ (by simp only [xsum_c]; simp only [show x_cat (k + 4) = 1 by simp [x_cat]]; omega) q1 (fun x2 M2 q2 => g3 L M2 _ _ (by simp only [xsum_c]; simp only [show x_cat (k + 4) = 1 by simp [x_cat]]; omega) q2 (fun x3 M3 q3 => g4 L M3 _ _ (by simp only [xsum_c]; simp only [show x_cat (k + 4) = 1 by simp [x_cat]]; omega) q3 (fun x4 M4 q4 => g5 L M4 _ _ (by simp only [xsum_c]; simp only [show x_cat (k + 4) = 1 by simp [x_cat]]; omega) q4 (fun x5 M5 q5 => GG.cv h [(κ1, x1), (κ2, x2), (κ3, x3), (κ4, x4), (κ5, x5)] hk hC hCy hcell hw1 hw2 hw3 hw4 hw5 hy hlen hfr (by omega) (hM x1 x2 x3 x4 x5 _ _ q5) d (fun v M9 _ q => k9 v M9 q)))))))
theorem Gr.s5 {θ : XΘ} {own : String} {cc : ByteArray} {nn : Nat} {rm : Nat × Nat} {rc : Option FieldType} (h : Fx θ own cc nn rm rc) {δ : Nat} {Γ : XG} {pc pc2 pc3 pc4 pc5 pc6 : Nat}  {κ1 κ2 κ3 κ4 κ5 : Nat} {e1 e2 e3 e4 e5 : XE} {F : Int → Int → Int → Int → Int → XM → (Int → XM → Prop) → Prop} {y : MethodName} {b : ByteArray} {n ix : Nat} {ret : Option FieldType} {rmy : Nat × Nat} (hw1 : Cond.methodLink own ix y ∈ xT) (hw2 : Cond.static y ∈ xT) (hw4 : Cond.code y b n ret ∈ xT) (hw5 : Cond.initialized y.cls ∈ xT) (hy : y.cls ≠ "java/lang/invoke/MethodHandle" ∧ y.cls ≠ "java/lang/invoke/VarHandle") (hlen : (parseMethodDescriptor y.desc).map (fun d => d.parameters.length) = some 5) (hfr : rmy.1 + 1 ≤ rm.1) (hlo : δ + (n + 11) + rmy.2 ≤ rm.2) (g1 : Ge θ (δ) Γ pc pc2 κ1 e1) (g2 : Ge θ (δ + x_cat κ1) Γ pc2 pc3 κ2 e2) (g3 : Ge θ (δ + x_cat κ1 + x_cat κ2) Γ pc3 pc4 κ3 e3) (g4 : Ge θ (δ + x_cat κ1 + x_cat κ2 + x_cat κ3) Γ pc4 pc5 κ4 e4) (g5 : Ge θ (δ + x_cat κ1 + x_cat κ2 + x_cat κ3 + x_cat κ4) Γ pc5 pc6 κ5 e5) (hM : ∀ (x1 : Int) (x2 : Int) (x3 : Int) (x4 : Int) (x5 : Int) M Q, F x1 x2 x3 x4 x5 M Q → ∀ l ω, XC l ω y b n ret rmy [(κ1, x1), (κ2, x2), (κ3, x3), (κ4, x4), (κ5, x5)] M Q) (d : decode cc pc6 = .ok (.invokestatic ix, 3)) : Gr θ δ Γ pc (pc6 + 3) ret (eC5 F e1 e2 e3 e4 e5) := fun L M Q t hs he k9 => g1 L M _ _ hs he (fun x1 M1 q1 => g2 L M1 _ _ (by simp only [xsum_c]; omega) q1 (fun x2 M2 q2 => g3 L M2 _ _ (by simp only [xsum_c]; omega) q2 (fun x3 M3 q3 => g4 L M3 _ _ (by simp only [xsum_c]; omega) q3 (fun x4 M4 q4 => g5 L M4 _ _ (by simp only [xsum_c]; omega) q4 (fun x5 M5 q5 => GG.cs h [(κ1, x1), (κ2, x2), (κ3, x3), (κ4, x4), (κ5, x5)] hw1 hw2 hw4 hw5 hy hlen hfr (by omega) (hM x1 x2 x3 x4 x5 _ _ q5) d (fun v M9 _ q => k9 v M9 q))))))
theorem Gr.n5 {θ : XΘ} {own : String} {cc : ByteArray} {nn : Nat} {rm : Nat × Nat} {rc : Option FieldType} (h : Fx θ own cc nn rm rc) {δ : Nat} {Γ : XG} {pc pc2 pc3 pc4 pc5 pc6 : Nat}  {κ1 κ2 κ3 κ4 κ5 : Nat} {e1 e2 e3 e4 e5 : XE} {F : Int → Int → Int → Int → Int → XM → (Int → XM → Prop) → Prop} {y : MethodName} {b : ByteArray} {n ix : Nat} {ret : Option FieldType} {rmy : Nat × Nat} {host : String} (hw1 : Cond.methodLinkNest own ix y host ∈ xNest) (hw2 : Cond.static y ∈ xT) (hw4 : Cond.code y b n ret ∈ xT) (hw5 : Cond.initialized y.cls ∈ xT) (hy : y.cls ≠ "java/lang/invoke/MethodHandle" ∧ y.cls ≠ "java/lang/invoke/VarHandle") (hlen : (parseMethodDescriptor y.desc).map (fun d => d.parameters.length) = some 5) (hfr : rmy.1 + 1 ≤ rm.1) (hlo : δ + (n + 11) + rmy.2 ≤ rm.2) (g1 : Ge θ (δ) Γ pc pc2 κ1 e1) (g2 : Ge θ (δ + x_cat κ1) Γ pc2 pc3 κ2 e2) (g3 : Ge θ (δ + x_cat κ1 + x_cat κ2) Γ pc3 pc4 κ3 e3) (g4 : Ge θ (δ + x_cat κ1 + x_cat κ2 + x_cat κ3) Γ pc4 pc5 κ4 e4) (g5 : Ge θ (δ + x_cat κ1 + x_cat κ2 + x_cat κ3 + x_cat κ4) Γ pc5 pc6 κ5 e5) (hM : ∀ (x1 : Int) (x2 : Int) (x3 : Int) (x4 : Int) (x5 : Int) M Q, F x1 x2 x3 x4 x5 M Q → ∀ l ω, XC l ω y b n ret rmy [(κ1, x1), (κ2, x2), (κ3, x3), (κ4, x4), (κ5, x5)] M Q) (d : decode cc pc6 = .ok (.invokestatic ix, 3)) : Gr θ δ Γ pc (pc6 + 3) ret (eC5 F e1 e2 e3 e4 e5) := fun L M Q t hs he k9 => g1 L M _ _ hs he (fun x1 M1 q1 => g2 L M1 _ _ (by simp only [xsum_c]; omega) q1 (fun x2 M2 q2 => g3 L M2 _ _ (by simp only [xsum_c]; omega) q2 (fun x3 M3 q3 => g4 L M3 _ _ (by simp only [xsum_c]; omega) q3 (fun x4 M4 q4 => g5 L M4 _ _ (by simp only [xsum_c]; omega) q4 (fun x5 M5 q5 => GG.cn h [(κ1, x1), (κ2, x2), (κ3, x3), (κ4, x4), (κ5, x5)] hw1 hw2 hw4 hw5 hy hlen hfr (by omega) (hM x1 x2 x3 x4 x5 _ _ q5) d (fun v M9 _ q => k9 v M9 q))))))
def eC6 (F : Int → Int → Int → Int → Int → Int → XM → (Int → XM → Prop) → Prop) (e1 e2 e3 e4 e5 e6 : XE) : XE := fun L M Q => e1 L M (fun x1 M => e2 L M (fun x2 M => e3 L M (fun x3 M => e4 L M (fun x4 M => e5 L M (fun x5 M => e6 L M (fun x6 M => F x1 x2 x3 x4 x5 x6 M Q))))))
theorem Gr.v6 {θ : XΘ} {own : String} {cc : ByteArray} {nn : Nat} {rm : Nat × Nat} {rc : Option FieldType} (h : Fx θ own cc nn rm rc) {δ : Nat} {Γ : XG} {pc pc1 pc2 pc3 pc4 pc5 pc6 pc7 : Nat} {k : Nat} {κ1 κ2 κ3 κ4 κ5 κ6 : Nat} {e1 e2 e3 e4 e5 e6 : XE} {F : Int → Int → Int → Int → Int → Int → XM → (Int → XM → Prop) → Prop} {y : MethodName} {b : ByteArray} {n ix : Nat} {ret : Option FieldType} {rmy : Nat × Nat} {ci : Nat} {C : vw_C} {fs : XW → (Int → Int) → List Value} (hk : k < xN) (hC : vwCl[ci]? = some C) (hCy : C.1 = y.cls) (hcell : ∀ ω f, xcell ω k f = .inr (ci, fs ω f)) (hw1 : Cond.methodLink own ix y ∈ xT) (hw2 : Cond.instanceMethod y ∈ xT) (hw3 : Cond.selects y.cls y y ∈ xT) (hw4 : Cond.code y b n ret ∈ xT) (hw5 : Cond.initialized y.cls ∈ xT) (hy : y.cls ≠ "java/lang/invoke/MethodHandle" ∧ y.cls ≠ "java/lang/invoke/VarHandle") (hlen : (parseMethodDescriptor y.desc).map (fun d => d.parameters.length) = some 6) (hfr : rmy.1 + 1 ≤ rm.1) (hlo : δ + (n + 11) + rmy.2 ≤ rm.2) (p : Gp θ Γ pc pc1 k) (g1 : Ge θ (δ + 1) Γ pc1 pc2 κ1 e1) (g2 : Ge θ (δ + 1 + x_cat κ1) Γ pc2 pc3 κ2 e2) (g3 : Ge θ (δ + 1 + x_cat κ1 + x_cat κ2) Γ pc3 pc4 κ3 e3) (g4 : Ge θ (δ + 1 + x_cat κ1 + x_cat κ2 + x_cat κ3) Γ pc4 pc5 κ4 e4) (g5 : Ge θ (δ + 1 + x_cat κ1 + x_cat κ2 + x_cat κ3 + x_cat κ4) Γ pc5 pc6 κ5 e5) (g6 : Ge θ (δ + 1 + x_cat κ1 + x_cat κ2 + x_cat κ3 + x_cat κ4 + x_cat κ5) Γ pc6 pc7 κ6 e6) (hM : ∀ (x1 : Int) (x2 : Int) (x3 : Int) (x4 : Int) (x5 : Int) (x6 : Int) M Q, F x1 x2 x3 x4 x5 x6 M Q → ∀ l ω, XC l ω y b n ret rmy [(k + 4, 0), (κ1, x1), (κ2, x2), (κ3, x3), (κ4, x4), (κ5, x5), (κ6, x6)] M Q) (d : decode cc pc7 = .ok (.invokevirtual ix, 3)) : Gr θ δ Γ pc (pc7 + 3) ret (eC6 F e1 e2 e3 e4 e5 e6) := fun L M Q t hs he k9 => p L M t (g1 L M _ _ (by simp only [xsum_c]; simp only [show x_cat (k + 4) = 1 by simp [x_cat]]; omega) he (fun x1 M1 q1 => g2 L M1 _ _ (by simp only [xsum_c]; simp only [show x_cat (k + 4) = 1 by simp [x_cat]]; omega) q1 (fun x2 M2 q2 => g3 L M2 _ _ (by simp only [xsum_c]; simp only [show x_cat (k + 4) = 1 by simp [x_cat]]; omega) q2 (fun x3 M3 q3 => g4 L M3 _ _ (by simp only [xsum_c]; simp only [show x_cat (k + 4) = 1 by simp [x_cat]]; omega) q3 (fun x4 M4 q4 => g5 L M4 _ _ (by simp only [xsum_c]; simp only [show x_cat (k + 4) = 1 by simp [x_cat]]; omega) q4 (fun x5 M5 q5 => g6 L M5 _ _ (by simp only [xsum_c]; simp only [show x_cat (k + 4) = 1 by simp [x_cat]]; omega) q5 (fun x6 M6 q6 => GG.cv h [(κ1, x1), (κ2, x2), (κ3, x3), (κ4, x4), (κ5, x5), (κ6, x6)] hk hC hCy hcell hw1 hw2 hw3 hw4 hw5 hy hlen hfr (by omega) (hM x1 x2 x3 x4 x5 x6 _ _ q6) d (fun v M9 _ q => k9 v M9 q))))))))
theorem Gr.s6 {θ : XΘ} {own : String} {cc : ByteArray} {nn : Nat} {rm : Nat × Nat} {rc : Option FieldType} (h : Fx θ own cc nn rm rc) {δ : Nat} {Γ : XG} {pc pc2 pc3 pc4 pc5 pc6 pc7 : Nat}  {κ1 κ2 κ3 κ4 κ5 κ6 : Nat} {e1 e2 e3 e4 e5 e6 : XE} {F : Int → Int → Int → Int → Int → Int → XM → (Int → XM → Prop) → Prop} {y : MethodName} {b : ByteArray} {n ix : Nat} {ret : Option FieldType} {rmy : Nat × Nat} (hw1 : Cond.methodLink own ix y ∈ xT) (hw2 : Cond.static y ∈ xT) (hw4 : Cond.code y b n ret ∈ xT) (hw5 : Cond.initialized y.cls ∈ xT) (hy : y.cls ≠ "java/lang/invoke/MethodHandle" ∧ y.cls ≠ "java/lang/invoke/VarHandle") (hlen : (parseMethodDescriptor y.desc).map (fun d => d.parameters.length) = some 6) (hfr : rmy.1 + 1 ≤ rm.1) (hlo : δ + (n + 11) + rmy.2 ≤ rm.2) (g1 : Ge θ (δ) Γ pc pc2 κ1 e1) (g2 : Ge θ (δ + x_cat κ1) Γ pc2 pc3 κ2 e2) (g3 : Ge θ (δ + x_cat κ1 + x_cat κ2) Γ pc3 pc4 κ3 e3) (g4 : Ge θ (δ + x_cat κ1 + x_cat κ2 + x_cat κ3) Γ pc4 pc5 κ4 e4) (g5 : Ge θ (δ + x_cat κ1 + x_cat κ2 + x_cat κ3 + x_cat κ4) Γ pc5 pc6 κ5 e5) (g6 : Ge θ (δ + x_cat κ1 + x_cat κ2 + x_cat κ3 + x_cat κ4 + x_cat κ5) Γ pc6 pc7 κ6 e6) (hM : ∀ (x1 : Int) (x2 : Int) (x3 : Int) (x4 : Int) (x5 : Int) (x6 : Int) M Q, F x1 x2 x3 x4 x5 x6 M Q → ∀ l ω, XC l ω y b n ret rmy [(κ1, x1), (κ2, x2), (κ3, x3), (κ4, x4), (κ5, x5), (κ6, x6)] M Q) (d : decode cc pc7 = .ok (.invokestatic ix, 3)) : Gr θ δ Γ pc (pc7 + 3) ret (eC6 F e1 e2 e3 e4 e5 e6) := fun L M Q t hs he k9 => g1 L M _ _ hs he (fun x1 M1 q1 => g2 L M1 _ _ (by simp only [xsum_c]; omega) q1 (fun x2 M2 q2 => g3 L M2 _ _ (by simp only [xsum_c]; omega) q2 (fun x3 M3 q3 => g4 L M3 _ _ (by simp only [xsum_c]; omega) q3 (fun x4 M4 q4 => g5 L M4 _ _ (by simp only [xsum_c]; omega) q4 (fun x5 M5 q5 => g6 L M5 _ _ (by simp only [xsum_c]; omega) q5 (fun x6 M6 q6 => GG.cs h [(κ1, x1), (κ2, x2), (κ3, x3), (κ4, x4), (κ5, x5), (κ6, x6)] hw1 hw2 hw4 hw5 hy hlen hfr (by omega) (hM x1 x2 x3 x4 x5 x6 _ _ q6) d (fun v M9 _ q => k9 v M9 q)))))))
theorem Gr.n6 {θ : XΘ} {own : String} {cc : ByteArray} {nn : Nat} {rm : Nat × Nat} {rc : Option FieldType} (h : Fx θ own cc nn rm rc) {δ : Nat} {Γ : XG} {pc pc2 pc3 pc4 pc5 pc6 pc7 : Nat}  {κ1 κ2 κ3 κ4 κ5 κ6 : Nat} {e1 e2 e3 e4 e5 e6 : XE} {F : Int → Int → Int → Int → Int → Int → XM → (Int → XM → Prop) → Prop} {y : MethodName} {b : ByteArray} {n ix : Nat} {ret : Option FieldType} {rmy : Nat × Nat} {host : String} (hw1 : Cond.methodLinkNest own ix y host ∈ xNest) (hw2 : Cond.static y ∈ xT) (hw4 : Cond.code y b n ret ∈ xT) (hw5 : Cond.initialized y.cls ∈ xT) (hy : y.cls ≠ "java/lang/invoke/MethodHandle" ∧ y.cls ≠ "java/lang/invoke/VarHandle") (hlen : (parseMethodDescriptor y.desc).map (fun d => d.parameters.length) = some 6) (hfr : rmy.1 + 1 ≤ rm.1) (hlo : δ + (n + 11) + rmy.2 ≤ rm.2) (g1 : Ge θ (δ) Γ pc pc2 κ1 e1) (g2 : Ge θ (δ + x_cat κ1) Γ pc2 pc3 κ2 e2) (g3 : Ge θ (δ + x_cat κ1 + x_cat κ2) Γ pc3 pc4 κ3 e3) (g4 : Ge θ (δ + x_cat κ1 + x_cat κ2 + x_cat κ3) Γ pc4 pc5 κ4 e4) (g5 : Ge θ (δ + x_cat κ1 + x_cat κ2 + x_cat κ3 + x_cat κ4) Γ pc5 pc6 κ5 e5) (g6 : Ge θ (δ + x_cat κ1 + x_cat κ2 + x_cat κ3 + x_cat κ4 + x_cat κ5) Γ pc6 pc7 κ6 e6) (hM : ∀ (x1 : Int) (x2 : Int) (x3 : Int) (x4 : Int) (x5 : Int) (x6 : Int) M Q, F x1 x2 x3 x4 x5 x6 M Q → ∀ l ω, XC l ω y b n ret rmy [(κ1, x1), (κ2, x2), (κ3, x3), (κ4, x4), (κ5, x5), (κ6, x6)] M Q) (d : decode cc pc7 = .ok (.invokestatic ix, 3)) : Gr θ δ Γ pc (pc7 + 3) ret (eC6 F e1 e2 e3 e4 e5 e6) := fun L M Q t hs he k9 => g1 L M _ _ hs he (fun x1 M1 q1 => g2 L M1 _ _ (by simp only [xsum_c]; omega) q1 (fun x2 M2 q2 => g3 L M2 _ _ (by simp only [xsum_c]; omega) q2 (fun x3 M3 q3 => g4 L M3 _ _ (by simp only [xsum_c]; omega) q3 (fun x4 M4 q4 => g5 L M4 _ _ (by simp only [xsum_c]; omega) q4 (fun x5 M5 q5 => g6 L M5 _ _ (by simp only [xsum_c]; omega) q5 (fun x6 M6 q6 => GG.cn h [(κ1, x1), (κ2, x2), (κ3, x3), (κ4, x4), (κ5, x5), (κ6, x6)] hw1 hw2 hw4 hw5 hy hlen hfr (by omega) (hM x1 x2 x3 x4 x5 x6 _ _ q6) d (fun v M9 _ q => k9 v M9 q)))))))
def eC7 (F : Int → Int → Int → Int → Int → Int → Int → XM → (Int → XM → Prop) → Prop) (e1 e2 e3 e4 e5 e6 e7 : XE) : XE := fun L M Q => e1 L M (fun x1 M => e2 L M (fun x2 M => e3 L M (fun x3 M => e4 L M (fun x4 M => e5 L M (fun x5 M => e6 L M (fun x6 M => e7 L M (fun x7 M => F x1 x2 x3 x4 x5 x6 x7 M Q)))))))
theorem Gr.v7 {θ : XΘ} {own : String} {cc : ByteArray} {nn : Nat} {rm : Nat × Nat} {rc : Option FieldType} (h : Fx θ own cc nn rm rc) {δ : Nat} {Γ : XG} {pc pc1 pc2 pc3 pc4 pc5 pc6 pc7 pc8 : Nat} {k : Nat} {κ1 κ2 κ3 κ4 κ5 κ6 κ7 : Nat} {e1 e2 e3 e4 e5 e6 e7 : XE} {F : Int → Int → Int → Int → Int → Int → Int → XM → (Int → XM → Prop) → Prop} {y : MethodName} {b : ByteArray} {n ix : Nat} {ret : Option FieldType} {rmy : Nat × Nat} {ci : Nat} {C : vw_C} {fs : XW → (Int → Int) → List Value} (hk : k < xN) (hC : vwCl[ci]? = some C) (hCy : C.1 = y.cls) (hcell : ∀ ω f, xcell ω k f = .inr (ci, fs ω f)) (hw1 : Cond.methodLink own ix y ∈ xT) (hw2 : Cond.instanceMethod y ∈ xT) (hw3 : Cond.selects y.cls y y ∈ xT) (hw4 : Cond.code y b n ret ∈ xT) (hw5 : Cond.initialized y.cls ∈ xT) (hy : y.cls ≠ "java/lang/invoke/MethodHandle" ∧ y.cls ≠ "java/lang/invoke/VarHandle") (hlen : (parseMethodDescriptor y.desc).map (fun d => d.parameters.length) = some 7) (hfr : rmy.1 + 1 ≤ rm.1) (hlo : δ + (n + 11) + rmy.2 ≤ rm.2) (p : Gp θ Γ pc pc1 k) (g1 : Ge θ (δ + 1) Γ pc1 pc2 κ1 e1) (g2 : Ge θ (δ + 1 + x_cat κ1) Γ pc2 pc3 κ2 e2) (g3 : Ge θ (δ + 1 + x_cat κ1 + x_cat κ2) Γ pc3 pc4 κ3 e3) (g4 : Ge θ (δ + 1 + x_cat κ1 + x_cat κ2 + x_cat κ3) Γ pc4 pc5 κ4 e4) (g5 : Ge θ (δ + 1 + x_cat κ1 + x_cat κ2 + x_cat κ3 + x_cat κ4) Γ pc5 pc6 κ5 e5) (g6 : Ge θ (δ + 1 + x_cat κ1 + x_cat κ2 + x_cat κ3 + x_cat κ4 + x_cat κ5) Γ pc6 pc7 κ6 e6) (g7 : Ge θ (δ + 1 + x_cat κ1 + x_cat κ2 + x_cat κ3 + x_cat κ4 + x_cat κ5 + x_cat κ6) Γ pc7 pc8 κ7 e7) (hM : ∀ (x1 : Int) (x2 : Int) (x3 : Int) (x4 : Int) (x5 : Int) (x6 : Int) (x7 : Int) M Q, F x1 x2 x3 x4 x5 x6 x7 M Q → ∀ l ω, XC l ω y b n ret rmy [(k + 4, 0), (κ1, x1), (κ2, x2), (κ3, x3), (κ4, x4), (κ5, x5), (κ6, x6), (κ7, x7)] M Q) (d : decode cc pc8 = .ok (.invokevirtual ix, 3)) : Gr θ δ Γ pc (pc8 + 3) ret (eC7 F e1 e2 e3 e4 e5 e6 e7) := fun L M Q t hs he k9 => p L M t (g1 L M _ _ (by simp only [xsum_c]; simp only [show x_cat (k + 4) = 1 by simp [x_cat]]; omega) he (fun x1 M1 q1 => g2 L M1 _ _ (by simp only [xsum_c]; simp only [show x_cat (k + 4) = 1 by simp [x_cat]]; omega) q1 (fun x2 M2 q2 => g3 L M2 _ _ (by simp only [xsum_c]; simp only [show x_cat (k + 4) = 1 by simp [x_cat]]; omega) q2 (fun x3 M3 q3 => g4 L M3 _ _ (by simp only [xsum_c]; simp only [show x_cat (k + 4) = 1 by simp [x_cat]]; omega) q3 (fun x4 M4 q4 => g5 L M4 _ _ (by simp only [xsum_c]; simp only [show x_cat (k + 4) = 1 by simp [x_cat]]; omega) q4 (fun x5 M5 q5 => g6 L M5 _ _ (by simp only [xsum_c]; simp only [show x_cat (k + 4) = 1 by simp [x_cat]]; omega) q5 (fun x6 M6 q6 => g7 L M6 _ _ (by simp only [xsum_c]; simp only [show x_cat (k + 4) = 1 by simp [x_cat]]; omega) q6 (fun x7 M7 q7 => GG.cv h [(κ1, x1), (κ2, x2), (κ3, x3), (κ4, x4), (κ5, x5), (κ6, x6), (κ7, x7)] hk hC hCy hcell hw1 hw2 hw3 hw4 hw5 hy hlen hfr (by omega) (hM x1 x2 x3 x4 x5 x6 x7 _ _ q7) d (fun v M9 _ q => k9 v M9 q)))))))))
theorem Gr.s7 {θ : XΘ} {own : String} {cc : ByteArray} {nn : Nat} {rm : Nat × Nat} {rc : Option FieldType} (h : Fx θ own cc nn rm rc) {δ : Nat} {Γ : XG} {pc pc2 pc3 pc4 pc5 pc6 pc7 pc8 : Nat}  {κ1 κ2 κ3 κ4 κ5 κ6 κ7 : Nat} {e1 e2 e3 e4 e5 e6 e7 : XE} {F : Int → Int → Int → Int → Int → Int → Int → XM → (Int → XM → Prop) → Prop} {y : MethodName} {b : ByteArray} {n ix : Nat} {ret : Option FieldType} {rmy : Nat × Nat} (hw1 : Cond.methodLink own ix y ∈ xT) (hw2 : Cond.static y ∈ xT) (hw4 : Cond.code y b n ret ∈ xT) (hw5 : Cond.initialized y.cls ∈ xT) (hy : y.cls ≠ "java/lang/invoke/MethodHandle" ∧ y.cls ≠ "java/lang/invoke/VarHandle") (hlen : (parseMethodDescriptor y.desc).map (fun d => d.parameters.length) = some 7) (hfr : rmy.1 + 1 ≤ rm.1) (hlo : δ + (n + 11) + rmy.2 ≤ rm.2) (g1 : Ge θ (δ) Γ pc pc2 κ1 e1) (g2 : Ge θ (δ + x_cat κ1) Γ pc2 pc3 κ2 e2) (g3 : Ge θ (δ + x_cat κ1 + x_cat κ2) Γ pc3 pc4 κ3 e3) (g4 : Ge θ (δ + x_cat κ1 + x_cat κ2 + x_cat κ3) Γ pc4 pc5 κ4 e4) (g5 : Ge θ (δ + x_cat κ1 + x_cat κ2 + x_cat κ3 + x_cat κ4) Γ pc5 pc6 κ5 e5) (g6 : Ge θ (δ + x_cat κ1 + x_cat κ2 + x_cat κ3 + x_cat κ4 + x_cat κ5) Γ pc6 pc7 κ6 e6) (g7 : Ge θ (δ + x_cat κ1 + x_cat κ2 + x_cat κ3 + x_cat κ4 + x_cat κ5 + x_cat κ6) Γ pc7 pc8 κ7 e7) (hM : ∀ (x1 : Int) (x2 : Int) (x3 : Int) (x4 : Int) (x5 : Int) (x6 : Int) (x7 : Int) M Q, F x1 x2 x3 x4 x5 x6 x7 M Q → ∀ l ω, XC l ω y b n ret rmy [(κ1, x1), (κ2, x2), (κ3, x3), (κ4, x4), (κ5, x5), (κ6, x6), (κ7, x7)] M Q) (d : decode cc pc8 = .ok (.invokestatic ix, 3)) : Gr θ δ Γ pc (pc8 + 3) ret (eC7 F e1 e2 e3 e4 e5 e6 e7) := fun L M Q t hs he k9 => g1 L M _ _ hs he (fun x1 M1 q1 => g2 L M1 _ _ (by simp only [xsum_c]; omega) q1 (fun x2 M2 q2 => g3 L M2 _ _ (by simp only [xsum_c]; omega) q2 (fun x3 M3 q3 => g4 L M3 _ _ (by simp only [xsum_c]; omega) q3 (fun x4 M4 q4 => g5 L M4 _ _ (by simp only [xsum_c]; omega) q4 (fun x5 M5 q5 => g6 L M5 _ _ (by simp only [xsum_c]; omega) q5 (fun x6 M6 q6 => g7 L M6 _ _ (by simp only [xsum_c]; omega) q6 (fun x7 M7 q7 => GG.cs h [(κ1, x1), (κ2, x2), (κ3, x3), (κ4, x4), (κ5, x5), (κ6, x6), (κ7, x7)] hw1 hw2 hw4 hw5 hy hlen hfr (by omega) (hM x1 x2 x3 x4 x5 x6 x7 _ _ q7) d (fun v M9 _ q => k9 v M9 q))))))))
theorem Gr.n7 {θ : XΘ} {own : String} {cc : ByteArray} {nn : Nat} {rm : Nat × Nat} {rc : Option FieldType} (h : Fx θ own cc nn rm rc) {δ : Nat} {Γ : XG} {pc pc2 pc3 pc4 pc5 pc6 pc7 pc8 : Nat}  {κ1 κ2 κ3 κ4 κ5 κ6 κ7 : Nat} {e1 e2 e3 e4 e5 e6 e7 : XE} {F : Int → Int → Int → Int → Int → Int → Int → XM → (Int → XM → Prop) → Prop} {y : MethodName} {b : ByteArray} {n ix : Nat} {ret : Option FieldType} {rmy : Nat × Nat} {host : String} (hw1 : Cond.methodLinkNest own ix y host ∈ xNest) (hw2 : Cond.static y ∈ xT) (hw4 : Cond.code y b n ret ∈ xT) (hw5 : Cond.initialized y.cls ∈ xT) (hy : y.cls ≠ "java/lang/invoke/MethodHandle" ∧ y.cls ≠ "java/lang/invoke/VarHandle") (hlen : (parseMethodDescriptor y.desc).map (fun d => d.parameters.length) = some 7) (hfr : rmy.1 + 1 ≤ rm.1) (hlo : δ + (n + 11) + rmy.2 ≤ rm.2) (g1 : Ge θ (δ) Γ pc pc2 κ1 e1) (g2 : Ge θ (δ + x_cat κ1) Γ pc2 pc3 κ2 e2) (g3 : Ge θ (δ + x_cat κ1 + x_cat κ2) Γ pc3 pc4 κ3 e3) (g4 : Ge θ (δ + x_cat κ1 + x_cat κ2 + x_cat κ3) Γ pc4 pc5 κ4 e4) (g5 : Ge θ (δ + x_cat κ1 + x_cat κ2 + x_cat κ3 + x_cat κ4) Γ pc5 pc6 κ5 e5) (g6 : Ge θ (δ + x_cat κ1 + x_cat κ2 + x_cat κ3 + x_cat κ4 + x_cat κ5) Γ pc6 pc7 κ6 e6) (g7 : Ge θ (δ + x_cat κ1 + x_cat κ2 + x_cat κ3 + x_cat κ4 + x_cat κ5 + x_cat κ6) Γ pc7 pc8 κ7 e7) (hM : ∀ (x1 : Int) (x2 : Int) (x3 : Int) (x4 : Int) (x5 : Int) (x6 : Int) (x7 : Int) M Q, F x1 x2 x3 x4 x5 x6 x7 M Q → ∀ l ω, XC l ω y b n ret rmy [(κ1, x1), (κ2, x2), (κ3, x3), (κ4, x4), (κ5, x5), (κ6, x6), (κ7, x7)] M Q) (d : decode cc pc8 = .ok (.invokestatic ix, 3)) : Gr θ δ Γ pc (pc8 + 3) ret (eC7 F e1 e2 e3 e4 e5 e6 e7) := fun L M Q t hs he k9 => g1 L M _ _ hs he (fun x1 M1 q1 => g2 L M1 _ _ (by simp only [xsum_c]; omega) q1 (fun x2 M2 q2 => g3 L M2 _ _ (by simp only [xsum_c]; omega) q2 (fun x3 M3 q3 => g4 L M3 _ _ (by simp only [xsum_c]; omega) q3 (fun x4 M4 q4 => g5 L M4 _ _ (by simp only [xsum_c]; omega) q4 (fun x5 M5 q5 => g6 L M5 _ _ (by simp only [xsum_c]; omega) q5 (fun x6 M6 q6 => g7 L M6 _ _ (by simp only [xsum_c]; omega) q6 (fun x7 M7 q7 => GG.cn h [(κ1, x1), (κ2, x2), (κ3, x3), (κ4, x4), (κ5, x5), (κ6, x6), (κ7, x7)] hw1 hw2 hw4 hw5 hy hlen hfr (by omega) (hM x1 x2 x3 x4 x5 x6 x7 _ _ q7) d (fun v M9 _ q => k9 v M9 q))))))))
theorem Gs.skip {θ : XΘ} {Γ : XG} {pc : Nat} : Gs θ Γ pc Γ pc sSkip := fun Qn Qr L M ha kn kr => kn L M ha
theorem Gs.wk {θ : XΘ} {Γ Γ2 Γ3 : XG} {pc pc2 : Nat} {a : XS} (g : Gs θ Γ pc Γ2 pc2 a) (hs : xsub Γ3 Γ2 = true) : Gs θ Γ pc Γ3 pc2 a := fun Qn Qr L M ha kn kr => g Qn Qr L M ha (fun L M q => GG.weak (xsub_of hs) (kn L M q)) kr
theorem Gs.seq {θ : XΘ} {Γ Γ2 Γ3 : XG} {pc pc2 pc3 : Nat} {a b : XS} (ga : Gs θ Γ pc Γ2 pc2 a) (gb : Gs θ Γ2 pc2 Γ3 pc3 b) : Gs θ Γ pc Γ3 pc3 (sSeq a b) := fun Qn Qr L M ha kn kr => ga _ Qr L M ha (fun L M q => gb Qn Qr L M q kn kr) kr
theorem Gs.istore_n {θ : XΘ} {own : String} {cc : ByteArray} {nn : Nat} {rm : Nat × Nat} {rc : Option FieldType} (h : Fx θ own cc nn rm rc) {Γ : XG} {pc pc1 i : Nat} {Γ2 : XG} {j : Fin 4} {e : XE} (g : Ge θ 0 Γ pc pc1 0 e) (d : decode cc pc1 = .ok (.istore_n j, 1)) (hi : (j : Nat) = i) (hn : Nat.blt (i) nn = true) (hΓ : xst1 i 0 Γ = Γ2) : Gs θ Γ pc Γ2 (pc1 + 1) (sSet i e) := fun Qn Qr L M ha kn kr => g L M _ [] (Nat.le_refl 0) ha (fun v M1 q => GG.istore_n h d hi (by simpa using hn) (by rw [hΓ]; exact kn _ _ q))
theorem Gs.istore {θ : XΘ} {own : String} {cc : ByteArray} {nn : Nat} {rm : Nat × Nat} {rc : Option FieldType} (h : Fx θ own cc nn rm rc) {Γ : XG} {pc pc1 i : Nat} {Γ2 : XG} {e : XE} (g : Ge θ 0 Γ pc pc1 0 e) (d : decode cc pc1 = .ok (.istore i, 2)) (hn : Nat.blt (i) nn = true) (hΓ : xst1 i 0 Γ = Γ2) : Gs θ Γ pc Γ2 (pc1 + 2) (sSet i e) := fun Qn Qr L M ha kn kr => g L M _ [] (Nat.le_refl 0) ha (fun v M1 q => GG.istore h d (by simpa using hn) (by rw [hΓ]; exact kn _ _ q))
theorem Gs.lstore_n {θ : XΘ} {own : String} {cc : ByteArray} {nn : Nat} {rm : Nat × Nat} {rc : Option FieldType} (h : Fx θ own cc nn rm rc) {Γ : XG} {pc pc1 i : Nat} {Γ2 : XG} {j : Fin 4} {e : XE} (g : Ge θ 0 Γ pc pc1 1 e) (d : decode cc pc1 = .ok (.lstore_n j, 1)) (hi : (j : Nat) = i) (hn : Nat.blt (i + 1) nn = true) (hΓ : xst2 i 1 Γ = Γ2) : Gs θ Γ pc Γ2 (pc1 + 1) (sSet i e) := fun Qn Qr L M ha kn kr => g L M _ [] (Nat.le_refl 0) ha (fun v M1 q => GG.lstore_n h d hi (by simpa using hn) (by rw [hΓ]; exact kn _ _ q))
theorem Gs.lstore {θ : XΘ} {own : String} {cc : ByteArray} {nn : Nat} {rm : Nat × Nat} {rc : Option FieldType} (h : Fx θ own cc nn rm rc) {Γ : XG} {pc pc1 i : Nat} {Γ2 : XG} {e : XE} (g : Ge θ 0 Γ pc pc1 1 e) (d : decode cc pc1 = .ok (.lstore i, 2)) (hn : Nat.blt (i + 1) nn = true) (hΓ : xst2 i 1 Γ = Γ2) : Gs θ Γ pc Γ2 (pc1 + 2) (sSet i e) := fun Qn Qr L M ha kn kr => g L M _ [] (Nat.le_refl 0) ha (fun v M1 q => GG.lstore h d (by simpa using hn) (by rw [hΓ]; exact kn _ _ q))
theorem Gs.astore_n {θ : XΘ} {own : String} {cc : ByteArray} {nn : Nat} {rm : Nat × Nat} {rc : Option FieldType} (h : Fx θ own cc nn rm rc) {Γ : XG} {pc pc1 i κ : Nat} {Γ2 : XG} {j : Fin 4} {e : XE} (hκ : 2 ≤ κ) (g : Ge θ 0 Γ pc pc1 κ e) (d : decode cc pc1 = .ok (.astore_n j, 1)) (hi : (j : Nat) = i) (hn : Nat.blt i nn = true) (hΓ : xst1 i κ Γ = Γ2) : Gs θ Γ pc Γ2 (pc1 + 1) (sSet i e) := fun Qn Qr L M ha kn kr => g L M _ [] (Nat.le_refl 0) ha (fun v M1 q => GG.astore_n h hκ d hi (by simpa using hn) (by rw [hΓ]; exact kn _ _ q))
theorem Gs.inc {θ : XΘ} {own : String} {cc : ByteArray} {nn : Nat} {rm : Nat × Nat} {rc : Option FieldType} (h : Fx θ own cc nn rm rc) {Γ : XG} {pc i : Nat} {n : Int} {Γ2 : XG} (d : decode cc pc = .ok (.iinc i n, 3)) (hg : xmem i 0 Γ = true) (hΓ : xst1 i 0 Γ = Γ2) : Gs θ Γ pc Γ2 (pc + 3) (sInc i n) := fun Qn Qr L M ha kn kr => GG.iinc h d (xmem_of hg) (by rw [hΓ]; exact kn _ _ ha)
theorem Gs.PF {θ : XΘ} {Γ : XG} {pc pc1 pc2 pc3 x : Nat} {j : Int} {e : XE} (p : Gp θ Γ pc pc1 x) (g : Ge θ 1 Γ pc1 pc2 0 e) (f : ∀ {L : XL} {t : XT} {M : XM} {z v : Int}, GG θ Γ pc3 L t (st M x j v) → GG θ Γ pc2 L ((0, v) :: (x + 4, z) :: t) M) : Gs θ Γ pc Γ pc3 (sPF x j e) := fun Qn Qr L M ha kn kr => p L M [] (g L M _ _ (by simp [xsum, x_cat]) ha (fun v M1 q => f (kn _ _ q)))
theorem Gs.PA {θ : XΘ} {own : String} {cc : ByteArray} {nn : Nat} {rm : Nat × Nat} {rc : Option FieldType} (h : Fx θ own cc nn rm rc) {Γ : XG} {pc pc1 pc2 pc3 x n : Nat} {N : Int} {i e : XE} (c : xIarr x n) (hN : (n : Int) = N) (p : Gp θ Γ pc pc1 x) (gi : Ge θ 1 Γ pc1 pc2 0 i) (g : Ge θ 2 Γ pc2 pc3 0 e) (d : decode cc pc3 = .ok (.iastore, 1)) : Gs θ Γ pc Γ (pc3 + 1) (sPA x N i e) := fun Qn Qr L M ha kn kr => p L M [] (gi L M _ _ (by simp [xsum, x_cat]) ha (fun j M1 q1 => g L M1 _ _ (by simp [xsum, x_cat]) q1 (fun v M2 q => GG.iast h c.1 c.2.1 c.2.2.1 c.2.2.2 d q.1 (by rw [hN]; exact q.2.1) (kn _ _ q.2.2))))
theorem Gs.PAJ {θ : XΘ} {own : String} {cc : ByteArray} {nn : Nat} {rm : Nat × Nat} {rc : Option FieldType} (h : Fx θ own cc nn rm rc) {Γ : XG} {pc pc1 pc2 pc3 x n : Nat} {N : Int} {i e : XE} (c : xJarr x n) (hN : (n : Int) = N) (p : Gp θ Γ pc pc1 x) (gi : Ge θ 1 Γ pc1 pc2 0 i) (g : Ge θ 2 Γ pc2 pc3 1 e) (d : decode cc pc3 = .ok (.lastore, 1)) : Gs θ Γ pc Γ (pc3 + 1) (sPA x N i e) := fun Qn Qr L M ha kn kr => p L M [] (gi L M _ _ (by simp [xsum, x_cat]) ha (fun j M1 q1 => g L M1 _ _ (by simp [xsum, x_cat]) q1 (fun v M2 q => GG.last h c.1 c.2.1 c.2.2.1 c.2.2.2 d (fun _ => rfl) q.1 (by rw [hN]; exact q.2.1) (kn _ _ q.2.2))))
theorem Gs.PD {θ : XΘ} {own : String} {cc : ByteArray} {nn : Nat} {rm : Nat × Nat} {rc : Option FieldType} (h : Fx θ own cc nn rm rc) {Γ : XG} {pc pc1 pc2 pc3 n κ : Nat} {N : Int} {r i e : XE} (c : xRow κ n) (hc : x_cat κ = 1) (hN : (n : Int) = N) (p : Ge θ 0 Γ pc pc1 κ r) (gi : Ge θ 1 Γ pc1 pc2 0 i) (g : Ge θ 2 Γ pc2 pc3 1 e) (d : decode cc pc3 = .ok (.lastore, 1)) : Gs θ Γ pc Γ (pc3 + 1) (sPD N r i e) := fun Qn Qr L M ha kn kr => p L M _ [] (Nat.le_refl 0) ha (fun a M0 q0 => GG.wfS (fun hS => gi L M0 _ _ (by simp [xsum, hc]) q0 (fun j M1 q1 => g L M1 _ _ (by rw [xsum_c, xsum_c, hc]; exact Nat.le_refl 2) q1 (fun v M2 q => by
  have cc1 := c a (xwS_hd hS)
  exact GG.last h cc1.2.1 cc1.2.2.1 cc1.2.2.2.1 cc1.2.2.2.2 d cc1.1 q.1 (by rw [hN]; exact q.2.1) (kn _ _ q.2.2)))))
theorem Gs.OF {θ : XΘ} {own : String} {cc : ByteArray} {nn : Nat} {rm : Nat × Nat} {rc : Option FieldType} (h : Fx θ own cc nn rm rc) {Γ : XG} {pc pc1 pc2 pc3 pc4 pc5 x : Nat} {j : Int} {f : Int → Int → Int} {e : XE} (p : Gp θ Γ pc pc1 x) (d1 : decode cc pc1 = .ok (.dup, 1)) (fr : ∀ {L : XL} {t : XT} {M : XM} {z : Int}, GG θ Γ pc2 L ((0, M x j) :: t) M → GG θ Γ (pc1 + 1) L ((x + 4, z) :: t) M) (g : Ge θ 2 Γ pc2 pc3 0 e) (op : ∀ {L : XL} {t : XT} {M : XM} {a b : Int}, GG θ Γ pc4 L ((0, f a b) :: t) M → GG θ Γ pc3 L ((0, b) :: (0, a) :: t) M) (fw : ∀ {L : XL} {t : XT} {M : XM} {z v : Int}, GG θ Γ pc5 L t (st M x j v) → GG θ Γ pc4 L ((0, v) :: (x + 4, z) :: t) M) : Gs θ Γ pc Γ pc5 (sOF x j f e) := fun Qn Qr L M ha kn kr => p L M [] (GG.dup h (by omega) d1 (fr (g L M _ _ (by simp [xsum, x_cat]) ha (fun v M2 q => op (fw (kn _ _ q))))))
theorem Ge.PF {θ : XΘ} {own : String} {cc : ByteArray} {nn : Nat} {rm : Nat × Nat} {rc : Option FieldType} (h : Fx θ own cc nn rm rc) {δ : Nat} {Γ : XG} {pc pc1 pc2 pc4 pc5 x : Nat} {j : Int} (p : Gp θ Γ pc pc1 x) (d1 : decode cc pc1 = .ok (.dup, 1)) (fr : ∀ {L : XL} {t : XT} {M : XM} {z : Int}, GG θ Γ pc2 L ((0, M x j) :: t) M → GG θ Γ (pc1 + 1) L ((x + 4, z) :: t) M) (d2 : decode cc pc2 = .ok (.dup_x1, 1)) (d3 : decode cc (pc2 + 1) = .ok (.iconst 1, 1)) (op : ∀ {L : XL} {t : XT} {M : XM} {a b : Int}, GG θ Γ pc4 L ((0, iAdd a b) :: t) M → GG θ Γ (pc2 + 1 + 1) L ((0, b) :: (0, a) :: t) M) (fw : ∀ {L : XL} {t : XT} {M : XM} {z v : Int}, GG θ Γ pc5 L t (st M x j v) → GG θ Γ pc4 L ((0, v) :: (x + 4, z) :: t) M) : Ge θ δ Γ pc pc5 0 (ePF x j) := fun L M Q t ht he k => p L M t (GG.dup h (by omega) d1 (fr (GG.dup_x1 h (by omega) (by omega) d2 (GG.iconst h d3 rfl (by unfold r32; omega) (op (fw (k _ _ he)))))))
theorem Gs.OA {θ : XΘ} {own : String} {cc : ByteArray} {nn : Nat} {rm : Nat × Nat} {rc : Option FieldType} (h : Fx θ own cc nn rm rc) {Γ : XG} {pc pc1 pc2 pc3 pc4 x n : Nat} {N : Int} {f : Int → Int → Int} {i e : XE} (c : xIarr x n) (hN : (n : Int) = N) (p : Gp θ Γ pc pc1 x) (gi : Ge θ 1 Γ pc1 pc2 0 i) (d1 : decode cc pc2 = .ok (.dup2, 1)) (d2 : decode cc (pc2 + 1) = .ok (.iaload, 1)) (g : Ge θ 3 Γ (pc2 + 1 + 1) pc3 0 e) (op : ∀ {L : XL} {t : XT} {M : XM} {a b : Int}, GG θ Γ pc4 L ((0, f a b) :: t) M → GG θ Γ pc3 L ((0, b) :: (0, a) :: t) M) (d3 : decode cc pc4 = .ok (.iastore, 1)) : Gs θ Γ pc Γ (pc4 + 1) (sOA x N i f e) := fun Qn Qr L M ha kn kr => p L M [] (gi L M _ _ (by simp [xsum, x_cat]) ha (fun j M1 q1 => GG.dup2 h (by omega) (by omega) d1 (GG.iald h c.1 c.2.1 c.2.2.1 c.2.2.2 d2 q1.1 (by rw [hN]; exact q1.2.1) (g L M1 _ _ (by simp [xsum, x_cat]) q1.2.2 (fun v M2 q => op (GG.iast h c.1 c.2.1 c.2.2.1 c.2.2.2 d3 q1.1 (by rw [hN]; exact q1.2.1) (kn _ _ q)))))))
theorem Gs.OAJ {θ : XΘ} {own : String} {cc : ByteArray} {nn : Nat} {rm : Nat × Nat} {rc : Option FieldType} (h : Fx θ own cc nn rm rc) {Γ : XG} {pc pc1 pc2 pc3 pc4 x n : Nat} {N : Int} {f : Int → Int → Int} {i e : XE} (c : xJarr x n) (hN : (n : Int) = N) (p : Gp θ Γ pc pc1 x) (gi : Ge θ 1 Γ pc1 pc2 0 i) (d1 : decode cc pc2 = .ok (.dup2, 1)) (d2 : decode cc (pc2 + 1) = .ok (.laload, 1)) (g : Ge θ 4 Γ (pc2 + 1 + 1) pc3 1 e) (op : ∀ {L : XL} {t : XT} {M : XM} {a b : Int}, GG θ Γ pc4 L ((1, f a b) :: t) M → GG θ Γ pc3 L ((1, b) :: (1, a) :: t) M) (d3 : decode cc pc4 = .ok (.lastore, 1)) : Gs θ Γ pc Γ (pc4 + 1) (sOA x N i f e) := fun Qn Qr L M ha kn kr => p L M [] (gi L M _ _ (by simp [xsum, x_cat]) ha (fun j M1 q1 => GG.dup2 h (by omega) (by omega) d1 (GG.lald h c.1 c.2.1 c.2.2.1 c.2.2.2 d2 (fun _ => rfl) q1.1 (by rw [hN]; exact q1.2.1) (g L M1 _ _ (by simp [xsum, x_cat]) q1.2.2 (fun v M2 q => op (GG.last h c.1 c.2.1 c.2.2.1 c.2.2.2 d3 (fun _ => rfl) q1.1 (by rw [hN]; exact q1.2.1) (kn _ _ q)))))))
theorem Gs.x {θ : XΘ} {Γ : XG} {pc pc2 : Nat} {e : XE} (g : Gv θ 0 Γ pc pc2 e) : Gs θ Γ pc Γ pc2 (sX e) := fun Qn Qr L M ha kn kr => g L M _ [] (Nat.le_refl 0) ha (fun v M1 q => kn _ _ q)
theorem Gs.if {θ : XΘ} {Γ : XG} {pc pT pF pE : Nat} {c : XCd} {a b : XS} (gc : Gc θ 0 Γ pc pT pF c) (ga : Gs θ Γ pT Γ pE a) (gb : Gs θ Γ pF Γ pE b) : Gs θ Γ pc Γ pE (sIf c a b) := fun Qn Qr L M ha kn kr => gc L M _ _ [] (Nat.le_refl 0) ha (fun M1 q => ga Qn Qr L M1 q kn kr) (fun M1 q => gb Qn Qr L M1 q kn kr)
theorem Gs.while {θ : XΘ} {own : String} {cc : ByteArray} {nn : Nat} {rm : Nat × Nat} {rc : Option FieldType} (h : Fx θ own cc nn rm rc) {Γ : XG} {pc pB pX pE : Nat} {c : XCd} {b : XS} {off : Int} (gc : Gc θ 0 Γ pc pB pX c) (gb : Gs θ Γ pB Γ pE b) (d : decode cc pE = .ok (.goto off, 3)) (ht : (pE : Int) + off = (pc : Int)) : Gs θ Γ pc Γ pX (sWhile c b) := fun Qn Qr L M ha kn kr => by
  obtain ⟨I, μ, hI, hstep⟩ := ha
  have key : ∀ (n : Nat) (L : XL) (M : XM), I L M → μ L M < n → GG θ Γ pc L [] M := by
    intro n
    induction n with
    | zero => intro L M _ hn; exact absurd hn (Nat.not_lt_zero _)
    | succ n ih =>
      intro L M hi hn
      exact gc L M _ _ [] (Nat.le_refl 0) (hstep L M hi) (fun M1 q => gb _ Qr L M1 q (fun L2 M2 q2 => GG.goto h d ht (ih L2 M2 q2.1 (by omega))) kr) (fun M1 q => kn L M1 q)
  exact key (μ L M + 1) L M hI (Nat.lt_succ_self _)
theorem Gs.ret {θ : XΘ} {own : String} {cc : ByteArray} {nn : Nat} {rm : Nat × Nat} (h : Fx θ own cc nn rm (some .int)) {Γ Γ2 : XG} {pc pc1 pc2 : Nat} {e : XE} (g : Ge θ 0 Γ pc pc1 0 e) (d : decode cc pc1 = .ok (.ireturn, 1)) : Gs θ Γ pc Γ2 pc2 (sRet e) := fun Qn Qr L M ha kn kr => g L M _ [] (Nat.le_refl 0) ha (fun v M1 q => by
  obtain ⟨p, l, e, R, s, m, args, below, meth, c, Qf, ω, M0, nL, nc, ns, fin⟩ := θ
  obtain ⟨hx, hb, hml, hown, hts, hK, hE, hr1, hr2, hr3, hr4, hret, hnn⟩ := h
  exact hret Γ pc1 L v M1 d (kr v M1 q))
theorem Gs.retl {θ : XΘ} {own : String} {cc : ByteArray} {nn : Nat} {rm : Nat × Nat} (h : Fx θ own cc nn rm (some .long)) {Γ Γ2 : XG} {pc pc1 pc2 : Nat} {e : XE} (g : Ge θ 0 Γ pc pc1 1 e) (d : decode cc pc1 = .ok (.lreturn, 1)) : Gs θ Γ pc Γ2 pc2 (sRet e) := fun Qn Qr L M ha kn kr => g L M _ [] (Nat.le_refl 0) ha (fun v M1 q => by
  obtain ⟨p, l, e, R, s, m, args, below, meth, c, Qf, ω, M0, nL, nc, ns, fin⟩ := θ
  obtain ⟨hx, hb, hml, hown, hts, hK, hE, hr1, hr2, hr3, hr4, hret, hnn⟩ := h
  exact hret Γ pc1 L v M1 d (kr v M1 q))
theorem Gs.retz {θ : XΘ} {own : String} {cc : ByteArray} {nn : Nat} {rm : Nat × Nat} (h : Fx θ own cc nn rm (some .boolean)) {Γ Γ2 : XG} {pc pc1 pc2 : Nat} {e : XE} (g : Ge θ 0 Γ pc pc1 0 e) (d : decode cc pc1 = .ok (.ireturn, 1)) : Gs θ Γ pc Γ2 pc2 (sRetB e) := fun Qn Qr L M ha kn kr => g L M _ [] (Nat.le_refl 0) ha (fun v M1 q => by
  obtain ⟨p, l, e, R, s, m, args, below, meth, c, Qf, ω, M0, nL, nc, ns, fin⟩ := θ
  obtain ⟨hx, hb, hml, hown, hts, hK, hE, hr1, hr2, hr3, hr4, hret, hnn⟩ := h
  exact hret Γ pc1 L v M1 d q.1 (kr v M1 q.2))
theorem Gs.retv {θ : XΘ} {own : String} {cc : ByteArray} {nn : Nat} {rm : Nat × Nat} (h : Fx θ own cc nn rm none) {Γ Γ2 : XG} {pc pc2 : Nat} (d : decode cc pc = .ok (.return_, 1)) : Gs θ Γ pc Γ2 pc2 sRetV := fun Qn Qr L M ha kn kr => by
  obtain ⟨p, l, e, R, s, m, args, below, meth, c, Qf, ω, M0, nL, nc, ns, fin⟩ := θ
  obtain ⟨hx, hb, hml, hown, hts, hK, hE, hr1, hr2, hr3, hr4, hret, hnn⟩ := h
  exact hret Γ pc L M d (kr 0 M ha)
theorem Gs.cpy {θ : XΘ} {own : String} {cc : ByteArray} {nn : Nat} {rm : Nat × Nat} {rc : Option FieldType} (h : Fx θ own cc nn rm rc) {Γ : XG} {pc pc1 pc2 pc3 pc4 pc5 ix : Nat} {a i b j n : XE} (h1 : Cond.methodLink own ix arraycopyName ∈ xT) (h2 : Cond.native arraycopyName ∈ xT) (h3 : Cond.static arraycopyName ∈ xT) (h4 : Cond.initialized "java/lang/System" ∈ xT) (hf : 1 ≤ rm.1) (hl : nativeFrameWords "java/lang/System" "arraycopy" 5 + 11 ≤ rm.2) (ga : Ge θ 0 Γ pc pc1 2 a) (gi : Ge θ 1 Γ pc1 pc2 0 i) (gb : Ge θ 2 Γ pc2 pc3 2 b) (gj : Ge θ 3 Γ pc3 pc4 0 j) (gn : Ge θ 4 Γ pc4 pc5 0 n) (d : decode cc pc5 = .ok (.invokestatic ix, 3)) : Gs θ Γ pc Γ (pc5 + 3) (sCpy a i b j n) := fun Qn Qr L M ha kn kr => ga L M _ [] (Nat.le_refl 0) ha (fun a M0 q0 => GG.wfS (fun hSa => gi L M0 _ _ (by simp [xsum, x_cat]) q0 (fun i M1 q1 => gb L M1 _ _ (by simp [xsum, x_cat]) q1 (fun b M2 q2 => GG.wfS (fun hSb => gj L M2 _ _ (by simp [xsum, x_cat]) q2 (fun j M3 q3 => gn L M3 _ _ (by simp [xsum, x_cat]) q3 (fun n M4 q => GG.copyl h h1 h2 h3 h4 hf (by simp [xsum]; exact hl) d (xwS_hd hSa) (xwS_hd hSb) q.1 q.2.1 q.2.2.1 q.2.2.2.1 q.2.2.2.2.1 (kn _ _ q.2.2.2.2.2))))))))
def xpc (ps : List (Int × Nat)) (pd : Nat) (v : Int) : Nat := match ps with
  | [] => pd
  | (c, p) :: r => if v = c then p else xpc r pd v
theorem Gs.sel0 {θ : XΘ} {Γ Γ2 : XG} {pd pE : Nat} {sd : XS} (g : Gs θ Γ pd Γ2 pE sd) : ∀ v, Gs θ Γ (xpc [] pd v) Γ2 pE (sSel [] sd v) := fun v => g
theorem Gs.selc {θ : XΘ} {Γ Γ2 : XG} {p pd pE : Nat} {c : Int} {ps : List (Int × Nat)} {s sd : XS} {cs : List (Int × XS)} (g : Gs θ Γ p Γ2 pE s) (gr : ∀ v, Gs θ Γ (xpc ps pd v) Γ2 pE (sSel cs sd v)) : ∀ v, Gs θ Γ (xpc ((c, p) :: ps) pd v) Γ2 pE (sSel ((c, s) :: cs) sd v) := fun v Qn Qr L M ha kn kr => by
  unfold xpc
  by_cases e : v = c
  · rw [if_pos e]
    exact g Qn Qr L M (ha.1 e) kn kr
  · rw [if_neg e]
    exact gr v Qn Qr L M (ha.2 e) kn kr
theorem xpc_out {ps : List (Int × Nat)} {pd : Nat} {v lo hi : Int} (h : ps.all (fun q => decide (lo ≤ q.1) && decide (q.1 ≤ hi)) = true) (hv : v < lo ∨ hi < v) : xpc ps pd v = pd := by
  induction ps with
  | nil => rfl
  | cons q r ih =>
    obtain ⟨c, p⟩ := q
    rw [List.all_cons, Bool.and_eq_true] at h
    have h1 := h.1
    simp at h1
    unfold xpc
    rw [if_neg (by omega)]
    exact ih h.2
theorem Gs.tsw {θ : XΘ} {own : String} {cc : ByteArray} {nn : Nat} {rm : Nat × Nat} {rc : Option FieldType} (h : Fx θ own cc nn rm rc) {Γ : XG} {Γ2 : XG} {pc pc1 pd pE len : Nat} {e : XE} {dflt lo hi : Int} {offs : Array Int} {ps : List (Int × Nat)} {cs : List (Int × XS)} {sd : XS} (g : Ge θ 0 Γ pc pc1 0 e) (d : decode cc pc1 = .ok (.tableswitch dflt lo hi offs, len)) (hd : (pc1 : Int) + dflt = (pd : Int)) (hr : ps.all (fun q => decide (lo ≤ q.1) && decide (q.1 ≤ hi)) = true) (hin : ∀ i, i < offs.size → lo + (i : Int) ≤ hi → ∃ o, offs[i]? = some o ∧ (pc1 : Int) + o = (xpc ps pd (lo + (i : Int)) : Int)) (hsz : (offs.size : Int) = hi - lo + 1) (gs : ∀ v, Gs θ Γ (xpc ps pd v) Γ2 pE (sSel cs sd v)) : Gs θ Γ pc Γ2 pE (sSw e cs sd) := fun Qn Qr L M ha kn kr => g L M _ [] (Nat.le_refl 0) ha (fun v M1 q => by
  have hk := gs v Qn Qr L M1 q kn kr
  obtain ⟨p, l, e, R, s, m, args, below, meth, c, Qf, ω, M0, nL, nc, ns, fin⟩ := θ
  obtain ⟨hx, hb, hml, hown, hts, hK, hE, hr1, hr2, hr3, hr4, hret, hnn⟩ := h
  intro hG hS hM hM0 H locs ls hP hSv hl
  have hv : (Int32.ofInt v).toInt = v := xt32i (xwS_hd hS)
  have hk2 := hk hG (fun q hq => by cases hq) hM hM0 H locs ls hP hSv hl
  by_cases o : v < lo ∨ hi < v
  · rw [xpc_out hr o] at hk2
    exact lv_tableOut hx hb d (by rw [hv]; exact o) hd hk2
  · obtain ⟨f, hf, ht⟩ := hin (v - lo).toNat (by omega) (by omega)
    refine lv_tableIn (off := f) (tgt := xpc ps pd v) hx hb d (by rw [hv]; omega) (by rw [hv]; omega) (by rw [hv]; exact hf) ?_ hk2
    rw [ht, show lo + (((v - lo).toNat : Nat) : Int) = v by omega])
theorem Gs.while0 {θ : XΘ} {Γ : XG} {pc pB pX : Nat} {c : XCd} {b : XS} (gc : Gc θ 0 Γ pc pB pX c) (gb : Gs θ Γ pB Γ pc b) : Gs θ Γ pc Γ pX (sWhile c b) := fun Qn Qr L M ha kn kr => by
  obtain ⟨I, μ, hI, hstep⟩ := ha
  have key : ∀ (n : Nat) (L : XL) (M : XM), I L M → μ L M < n → GG θ Γ pc L [] M := by
    intro n
    induction n with
    | zero => intro L M _ hn; exact absurd hn (Nat.not_lt_zero _)
    | succ n ih =>
      intro L M hi hn
      exact gc L M _ _ [] (Nat.le_refl 0) (hstep L M hi) (fun M1 q => gb _ Qr L M1 q (fun L2 M2 q2 => ih L2 M2 q2.1 (by omega)) kr) (fun M1 q => kn L M1 q)
  exact key (μ L M + 1) L M hI (Nat.lt_succ_self _)
/-- what is asked of a method that is called: of the cell k, static -/
def xCV (y : MethodName) (b : ByteArray) (n : Nat) (ret : Option FieldType) (k na : Nat) : Prop := ∃ (ci : Nat) (C : vw_C) (fs : XW → (Int → Int) → List Value), k < xN ∧ vwCl[ci]? = some C ∧ C.1 = y.cls ∧ (∀ ω f, xcell ω k f = .inr (ci, fs ω f)) ∧ Cond.instanceMethod y ∈ xT ∧ Cond.selects y.cls y y ∈ xT ∧ Cond.code y b n ret ∈ xT ∧ Cond.initialized y.cls ∈ xT ∧ (y.cls ≠ "java/lang/invoke/MethodHandle" ∧ y.cls ≠ "java/lang/invoke/VarHandle") ∧ (parseMethodDescriptor y.desc).map (fun d => d.parameters.length) = some na
def xCS (y : MethodName) (b : ByteArray) (n : Nat) (ret : Option FieldType) (na : Nat) : Prop := Cond.static y ∈ xT ∧ Cond.code y b n ret ∈ xT ∧ Cond.initialized y.cls ∈ xT ∧ (y.cls ≠ "java/lang/invoke/MethodHandle" ∧ y.cls ≠ "java/lang/invoke/VarHandle") ∧ (parseMethodDescriptor y.desc).map (fun d => d.parameters.length) = some na
theorem Cv0 {θ : XΘ} {own : String} {cc : ByteArray} {nn : Nat} {rm : Nat × Nat} {rc : Option FieldType} (h : Fx θ own cc nn rm rc) {δ : Nat} {Γ : XG} {pc pc1 : Nat} {k : Nat}   {F : XM → (Int → XM → Prop) → Prop} {y : MethodName} {b : ByteArray} {n ix : Nat} {ret : Option FieldType} {rmy : Nat × Nat} (c : xCV y b n ret k 0) (hw1 : Cond.methodLink own ix y ∈ xT) (hfr : Nat.ble (rmy.1 + 1) rm.1 = true) (hlo : Nat.ble (δ + (n + 11) + rmy.2) rm.2 = true)  (p : Gp θ Γ pc pc1 k) (hM : ∀ M Q, F M Q → ∀ l ω, XC l ω y b n ret rmy [(k + 4, 0)] M Q) (d : decode cc pc1 = .ok (.invokevirtual ix, 3)) : Gr θ δ Γ pc (pc1 + 3) ret (eC0 F) := by
  obtain ⟨ci, C, fs, c1, c2, c3, c4, c5, c6, c7, c8, c9, c10⟩ := c
  exact Gr.v0 h c1 c2 c3 c4 hw1 c5 c6 c7 c8 c9 c10 (Nat.le_of_ble_eq_true hfr) (Nat.le_of_ble_eq_true hlo) p hM d
theorem Cs0 {θ : XΘ} {own : String} {cc : ByteArray} {nn : Nat} {rm : Nat × Nat} {rc : Option FieldType} (h : Fx θ own cc nn rm rc) {δ : Nat} {Γ : XG} {pc  : Nat}    {F : XM → (Int → XM → Prop) → Prop} {y : MethodName} {b : ByteArray} {n ix : Nat} {ret : Option FieldType} {rmy : Nat × Nat} (c : xCS y b n ret 0) (hw1 : Cond.methodLink own ix y ∈ xT) (hfr : Nat.ble (rmy.1 + 1) rm.1 = true) (hlo : Nat.ble (δ + (n + 11) + rmy.2) rm.2 = true)  (hM : ∀ M Q, F M Q → ∀ l ω, XC l ω y b n ret rmy [] M Q) (d : decode cc pc = .ok (.invokestatic ix, 3)) : Gr θ δ Γ pc (pc + 3) ret (eC0 F) := by
  obtain ⟨c1, c2, c3, c4, c5⟩ := c
  exact Gr.s0 h hw1 c1 c2 c3 c4 c5 (Nat.le_of_ble_eq_true hfr) (Nat.le_of_ble_eq_true hlo) hM d
theorem Cn0 {θ : XΘ} {own : String} {cc : ByteArray} {nn : Nat} {rm : Nat × Nat} {rc : Option FieldType} (h : Fx θ own cc nn rm rc) {δ : Nat} {Γ : XG} {pc  : Nat}    {F : XM → (Int → XM → Prop) → Prop} {y : MethodName} {b : ByteArray} {n ix : Nat} {ret : Option FieldType} {rmy : Nat × Nat} (c : xCS y b n ret 0) {host : String} (hw1 : Cond.methodLinkNest own ix y host ∈ xNest) (hfr : Nat.ble (rmy.1 + 1) rm.1 = true) (hlo : Nat.ble (δ + (n + 11) + rmy.2) rm.2 = true)  (hM : ∀ M Q, F M Q → ∀ l ω, XC l ω y b n ret rmy [] M Q) (d : decode cc pc = .ok (.invokestatic ix, 3)) : Gr θ δ Γ pc (pc + 3) ret (eC0 F) := by
  obtain ⟨c1, c2, c3, c4, c5⟩ := c
  exact Gr.n0 h hw1 c1 c2 c3 c4 c5 (Nat.le_of_ble_eq_true hfr) (Nat.le_of_ble_eq_true hlo) hM d
theorem Cv1 {θ : XΘ} {own : String} {cc : ByteArray} {nn : Nat} {rm : Nat × Nat} {rc : Option FieldType} (h : Fx θ own cc nn rm rc) {δ : Nat} {Γ : XG} {pc pc1 pc2 : Nat} {k : Nat} {κ1 : Nat} {e1 : XE} {F : Int → XM → (Int → XM → Prop) → Prop} {y : MethodName} {b : ByteArray} {n ix : Nat} {ret : Option FieldType} {rmy : Nat × Nat} (c : xCV y b n ret k 1) (hw1 : Cond.methodLink own ix y ∈ xT) (hfr : Nat.ble (rmy.1 + 1) rm.1 = true) (hlo : Nat.ble (δ + (n + 11) + rmy.2) rm.2 = true)  (p : Gp θ Γ pc pc1 k) (g1 : Ge θ (δ + 1) Γ pc1 pc2 κ1 e1) (hM : ∀ (x1 : Int) M Q, F x1 M Q → ∀ l ω, XC l ω y b n ret rmy [(k + 4, 0), (κ1, x1)] M Q) (d : decode cc pc2 = .ok (.invokevirtual ix, 3)) : Gr θ δ Γ pc (pc2 + 3) ret (eC1 F e1) := by
  obtain ⟨ci, C, fs, c1, c2, c3, c4, c5, c6, c7, c8, c9, c10⟩ := c
  exact Gr.v1 h c1 c2 c3 c4 hw1 c5 c6 c7 c8 c9 c10 (Nat.le_of_ble_eq_true hfr) (Nat.le_of_ble_eq_true hlo) p g1 hM d
theorem Cs1 {θ : XΘ} {own : String} {cc : ByteArray} {nn : Nat} {rm : Nat × Nat} {rc : Option FieldType} (h : Fx θ own cc nn rm rc) {δ : Nat} {Γ : XG} {pc pc2 : Nat}  {κ1 : Nat} {e1 : XE} {F : Int → XM → (Int → XM → Prop) → Prop} {y : MethodName} {b : ByteArray} {n ix : Nat} {ret : Option FieldType} {rmy : Nat × Nat} (c : xCS y b n ret 1) (hw1 : Cond.methodLink own ix y ∈ xT) (hfr : Nat.ble (rmy.1 + 1) rm.1 = true) (hlo : Nat.ble (δ + (n + 11) + rmy.2) rm.2 = true)  (g1 : Ge θ (δ) Γ pc pc2 κ1 e1) (hM : ∀ (x1 : Int) M Q, F x1 M Q → ∀ l ω, XC l ω y b n ret rmy [(κ1, x1)] M Q) (d : decode cc pc2 = .ok (.invokestatic ix, 3)) : Gr θ δ Γ pc (pc2 + 3) ret (eC1 F e1) := by
  obtain ⟨c1, c2, c3, c4, c5⟩ := c
  exact Gr.s1 h hw1 c1 c2 c3 c4 c5 (Nat.le_of_ble_eq_true hfr) (Nat.le_of_ble_eq_true hlo) g1 hM d
theorem Cn1 {θ : XΘ} {own : String} {cc : ByteArray} {nn : Nat} {rm : Nat × Nat} {rc : Option FieldType} (h : Fx θ own cc nn rm rc) {δ : Nat} {Γ : XG} {pc pc2 : Nat}  {κ1 : Nat} {e1 : XE} {F : Int → XM → (Int → XM → Prop) → Prop} {y : MethodName} {b : ByteArray} {n ix : Nat} {ret : Option FieldType} {rmy : Nat × Nat} (c : xCS y b n ret 1) {host : String} (hw1 : Cond.methodLinkNest own ix y host ∈ xNest) (hfr : Nat.ble (rmy.1 + 1) rm.1 = true) (hlo : Nat.ble (δ + (n + 11) + rmy.2) rm.2 = true)  (g1 : Ge θ (δ) Γ pc pc2 κ1 e1) (hM : ∀ (x1 : Int) M Q, F x1 M Q → ∀ l ω, XC l ω y b n ret rmy [(κ1, x1)] M Q) (d : decode cc pc2 = .ok (.invokestatic ix, 3)) : Gr θ δ Γ pc (pc2 + 3) ret (eC1 F e1) := by
  obtain ⟨c1, c2, c3, c4, c5⟩ := c
  exact Gr.n1 h hw1 c1 c2 c3 c4 c5 (Nat.le_of_ble_eq_true hfr) (Nat.le_of_ble_eq_true hlo) g1 hM d
theorem Cv2 {θ : XΘ} {own : String} {cc : ByteArray} {nn : Nat} {rm : Nat × Nat} {rc : Option FieldType} (h : Fx θ own cc nn rm rc) {δ : Nat} {Γ : XG} {pc pc1 pc2 pc3 : Nat} {k : Nat} {κ1 κ2 : Nat} {e1 e2 : XE} {F : Int → Int → XM → (Int → XM → Prop) → Prop} {y : MethodName} {b : ByteArray} {n ix : Nat} {ret : Option FieldType} {rmy : Nat × Nat} (c : xCV y b n ret k 2) (hw1 : Cond.methodLink own ix y ∈ xT) (hfr : Nat.ble (rmy.1 + 1) rm.1 = true) (hlo : Nat.ble (δ + (n + 11) + rmy.2) rm.2 = true)  (p : Gp θ Γ pc pc1 k) (g1 : Ge θ (δ + 1) Γ pc1 pc2 κ1 e1) (g2 : Ge θ (δ + 1 + x_cat κ1) Γ pc2 pc3 κ2 e2) (hM : ∀ (x1 : Int) (x2 : Int) M Q, F x1 x2 M Q → ∀ l ω, XC l ω y b n ret rmy [(k + 4, 0), (κ1, x1), (κ2, x2)] M Q) (d : decode cc pc3 = .ok (.invokevirtual ix, 3)) : Gr θ δ Γ pc (pc3 + 3) ret (eC2 F e1 e2) := by
  obtain ⟨ci, C, fs, c1, c2, c3, c4, c5, c6, c7, c8, c9, c10⟩ := c
  exact Gr.v2 h c1 c2 c3 c4 hw1 c5 c6 c7 c8 c9 c10 (Nat.le_of_ble_eq_true hfr) (Nat.le_of_ble_eq_true hlo) p g1 g2 hM d
theorem Cs2 {θ : XΘ} {own : String} {cc : ByteArray} {nn : Nat} {rm : Nat × Nat} {rc : Option FieldType} (h : Fx θ own cc nn rm rc) {δ : Nat} {Γ : XG} {pc pc2 pc3 : Nat}  {κ1 κ2 : Nat} {e1 e2 : XE} {F : Int → Int → XM → (Int → XM → Prop) → Prop} {y : MethodName} {b : ByteArray} {n ix : Nat} {ret : Option FieldType} {rmy : Nat × Nat} (c : xCS y b n ret 2) (hw1 : Cond.methodLink own ix y ∈ xT) (hfr : Nat.ble (rmy.1 + 1) rm.1 = true) (hlo : Nat.ble (δ + (n + 11) + rmy.2) rm.2 = true)  (g1 : Ge θ (δ) Γ pc pc2 κ1 e1) (g2 : Ge θ (δ + x_cat κ1) Γ pc2 pc3 κ2 e2) (hM : ∀ (x1 : Int) (x2 : Int) M Q, F x1 x2 M Q → ∀ l ω, XC l ω y b n ret rmy [(κ1, x1), (κ2, x2)] M Q) (d : decode cc pc3 = .ok (.invokestatic ix, 3)) : Gr θ δ Γ pc (pc3 + 3) ret (eC2 F e1 e2) := by
  obtain ⟨c1, c2, c3, c4, c5⟩ := c
  exact Gr.s2 h hw1 c1 c2 c3 c4 c5 (Nat.le_of_ble_eq_true hfr) (Nat.le_of_ble_eq_true hlo) g1 g2 hM d
theorem Cn2 {θ : XΘ} {own : String} {cc : ByteArray} {nn : Nat} {rm : Nat × Nat} {rc : Option FieldType} (h : Fx θ own cc nn rm rc) {δ : Nat} {Γ : XG} {pc pc2 pc3 : Nat}  {κ1 κ2 : Nat} {e1 e2 : XE} {F : Int → Int → XM → (Int → XM → Prop) → Prop} {y : MethodName} {b : ByteArray} {n ix : Nat} {ret : Option FieldType} {rmy : Nat × Nat} (c : xCS y b n ret 2) {host : String} (hw1 : Cond.methodLinkNest own ix y host ∈ xNest) (hfr : Nat.ble (rmy.1 + 1) rm.1 = true) (hlo : Nat.ble (δ + (n + 11) + rmy.2) rm.2 = true)  (g1 : Ge θ (δ) Γ pc pc2 κ1 e1) (g2 : Ge θ (δ + x_cat κ1) Γ pc2 pc3 κ2 e2) (hM : ∀ (x1 : Int) (x2 : Int) M Q, F x1 x2 M Q → ∀ l ω, XC l ω y b n ret rmy [(κ1, x1), (κ2, x2)] M Q) (d : decode cc pc3 = .ok (.invokestatic ix, 3)) : Gr θ δ Γ pc (pc3 + 3) ret (eC2 F e1 e2) := by
  obtain ⟨c1, c2, c3, c4, c5⟩ := c
  exact Gr.n2 h hw1 c1 c2 c3 c4 c5 (Nat.le_of_ble_eq_true hfr) (Nat.le_of_ble_eq_true hlo) g1 g2 hM d
theorem Cv3 {θ : XΘ} {own : String} {cc : ByteArray} {nn : Nat} {rm : Nat × Nat} {rc : Option FieldType} (h : Fx θ own cc nn rm rc) {δ : Nat} {Γ : XG} {pc pc1 pc2 pc3 pc4 : Nat} {k : Nat} {κ1 κ2 κ3 : Nat} {e1 e2 e3 : XE} {F : Int → Int → Int → XM → (Int → XM → Prop) → Prop} {y : MethodName} {b : ByteArray} {n ix : Nat} {ret : Option FieldType} {rmy : Nat × Nat} (c : xCV y b n ret k 3) (hw1 : Cond.methodLink own ix y ∈ xT) (hfr : Nat.ble (rmy.1 + 1) rm.1 = true) (hlo : Nat.ble (δ + (n + 11) + rmy.2) rm.2 = true)  (p : Gp θ Γ pc pc1 k) (g1 : Ge θ (δ + 1) Γ pc1 pc2 κ1 e1) (g2 : Ge θ (δ + 1 + x_cat κ1) Γ pc2 pc3 κ2 e2) (g3 : Ge θ (δ + 1 + x_cat κ1 + x_cat κ2) Γ pc3 pc4 κ3 e3) (hM : ∀ (x1 : Int) (x2 : Int) (x3 : Int) M Q, F x1 x2 x3 M Q → ∀ l ω, XC l ω y b n ret rmy [(k + 4, 0), (κ1, x1), (κ2, x2), (κ3, x3)] M Q) (d : decode cc pc4 = .ok (.invokevirtual ix, 3)) : Gr θ δ Γ pc (pc4 + 3) ret (eC3 F e1 e2 e3) := by
  obtain ⟨ci, C, fs, c1, c2, c3, c4, c5, c6, c7, c8, c9, c10⟩ := c
  exact Gr.v3 h c1 c2 c3 c4 hw1 c5 c6 c7 c8 c9 c10 (Nat.le_of_ble_eq_true hfr) (Nat.le_of_ble_eq_true hlo) p g1 g2 g3 hM d
theorem Cs3 {θ : XΘ} {own : String} {cc : ByteArray} {nn : Nat} {rm : Nat × Nat} {rc : Option FieldType} (h : Fx θ own cc nn rm rc) {δ : Nat} {Γ : XG} {pc pc2 pc3 pc4 : Nat}  {κ1 κ2 κ3 : Nat} {e1 e2 e3 : XE} {F : Int → Int → Int → XM → (Int → XM → Prop) → Prop} {y : MethodName} {b : ByteArray} {n ix : Nat} {ret : Option FieldType} {rmy : Nat × Nat} (c : xCS y b n ret 3) (hw1 : Cond.methodLink own ix y ∈ xT) (hfr : Nat.ble (rmy.1 + 1) rm.1 = true) (hlo : Nat.ble (δ + (n + 11) + rmy.2) rm.2 = true)  (g1 : Ge θ (δ) Γ pc pc2 κ1 e1) (g2 : Ge θ (δ + x_cat κ1) Γ pc2 pc3 κ2 e2) (g3 : Ge θ (δ + x_cat κ1 + x_cat κ2) Γ pc3 pc4 κ3 e3) (hM : ∀ (x1 : Int) (x2 : Int) (x3 : Int) M Q, F x1 x2 x3 M Q → ∀ l ω, XC l ω y b n ret rmy [(κ1, x1), (κ2, x2), (κ3, x3)] M Q) (d : decode cc pc4 = .ok (.invokestatic ix, 3)) : Gr θ δ Γ pc (pc4 + 3) ret (eC3 F e1 e2 e3) := by
  obtain ⟨c1, c2, c3, c4, c5⟩ := c
  exact Gr.s3 h hw1 c1 c2 c3 c4 c5 (Nat.le_of_ble_eq_true hfr) (Nat.le_of_ble_eq_true hlo) g1 g2 g3 hM d
theorem Cn3 {θ : XΘ} {own : String} {cc : ByteArray} {nn : Nat} {rm : Nat × Nat} {rc : Option FieldType} (h : Fx θ own cc nn rm rc) {δ : Nat} {Γ : XG} {pc pc2 pc3 pc4 : Nat}  {κ1 κ2 κ3 : Nat} {e1 e2 e3 : XE} {F : Int → Int → Int → XM → (Int → XM → Prop) → Prop} {y : MethodName} {b : ByteArray} {n ix : Nat} {ret : Option FieldType} {rmy : Nat × Nat} (c : xCS y b n ret 3) {host : String} (hw1 : Cond.methodLinkNest own ix y host ∈ xNest) (hfr : Nat.ble (rmy.1 + 1) rm.1 = true) (hlo : Nat.ble (δ + (n + 11) + rmy.2) rm.2 = true)  (g1 : Ge θ (δ) Γ pc pc2 κ1 e1) (g2 : Ge θ (δ + x_cat κ1) Γ pc2 pc3 κ2 e2) (g3 : Ge θ (δ + x_cat κ1 + x_cat κ2) Γ pc3 pc4 κ3 e3) (hM : ∀ (x1 : Int) (x2 : Int) (x3 : Int) M Q, F x1 x2 x3 M Q → ∀ l ω, XC l ω y b n ret rmy [(κ1, x1), (κ2, x2), (κ3, x3)] M Q) (d : decode cc pc4 = .ok (.invokestatic ix, 3)) : Gr θ δ Γ pc (pc4 + 3) ret (eC3 F e1 e2 e3) := by
  obtain ⟨c1, c2, c3, c4, c5⟩ := c
  exact Gr.n3 h hw1 c1 c2 c3 c4 c5 (Nat.le_of_ble_eq_true hfr) (Nat.le_of_ble_eq_true hlo) g1 g2 g3 hM d
theorem Cv4 {θ : XΘ} {own : String} {cc : ByteArray} {nn : Nat} {rm : Nat × Nat} {rc : Option FieldType} (h : Fx θ own cc nn rm rc) {δ : Nat} {Γ : XG} {pc pc1 pc2 pc3 pc4 pc5 : Nat} {k : Nat} {κ1 κ2 κ3 κ4 : Nat} {e1 e2 e3 e4 : XE} {F : Int → Int → Int → Int → XM → (Int → XM → Prop) → Prop} {y : MethodName} {b : ByteArray} {n ix : Nat} {ret : Option FieldType} {rmy : Nat × Nat} (c : xCV y b n ret k 4) (hw1 : Cond.methodLink own ix y ∈ xT) (hfr : Nat.ble (rmy.1 + 1) rm.1 = true) (hlo : Nat.ble (δ + (n + 11) + rmy.2) rm.2 = true)  (p : Gp θ Γ pc pc1 k) (g1 : Ge θ (δ + 1) Γ pc1 pc2 κ1 e1) (g2 : Ge θ (δ + 1 + x_cat κ1) Γ pc2 pc3 κ2 e2) (g3 : Ge θ (δ + 1 + x_cat κ1 + x_cat κ2) Γ pc3 pc4 κ3 e3) (g4 : Ge θ (δ + 1 + x_cat κ1 + x_cat κ2 + x_cat κ3) Γ pc4 pc5 κ4 e4) (hM : ∀ (x1 : Int) (x2 : Int) (x3 : Int) (x4 : Int) M Q, F x1 x2 x3 x4 M Q → ∀ l ω, XC l ω y b n ret rmy [(k + 4, 0), (κ1, x1), (κ2, x2), (κ3, x3), (κ4, x4)] M Q) (d : decode cc pc5 = .ok (.invokevirtual ix, 3)) : Gr θ δ Γ pc (pc5 + 3) ret (eC4 F e1 e2 e3 e4) := by
  obtain ⟨ci, C, fs, c1, c2, c3, c4, c5, c6, c7, c8, c9, c10⟩ := c
  exact Gr.v4 h c1 c2 c3 c4 hw1 c5 c6 c7 c8 c9 c10 (Nat.le_of_ble_eq_true hfr) (Nat.le_of_ble_eq_true hlo) p g1 g2 g3 g4 hM d
theorem Cs4 {θ : XΘ} {own : String} {cc : ByteArray} {nn : Nat} {rm : Nat × Nat} {rc : Option FieldType} (h : Fx θ own cc nn rm rc) {δ : Nat} {Γ : XG} {pc pc2 pc3 pc4 pc5 : Nat}  {κ1 κ2 κ3 κ4 : Nat} {e1 e2 e3 e4 : XE} {F : Int → Int → Int → Int → XM → (Int → XM → Prop) → Prop} {y : MethodName} {b : ByteArray} {n ix : Nat} {ret : Option FieldType} {rmy : Nat × Nat} (c : xCS y b n ret 4) (hw1 : Cond.methodLink own ix y ∈ xT) (hfr : Nat.ble (rmy.1 + 1) rm.1 = true) (hlo : Nat.ble (δ + (n + 11) + rmy.2) rm.2 = true)  (g1 : Ge θ (δ) Γ pc pc2 κ1 e1) (g2 : Ge θ (δ + x_cat κ1) Γ pc2 pc3 κ2 e2) (g3 : Ge θ (δ + x_cat κ1 + x_cat κ2) Γ pc3 pc4 κ3 e3) (g4 : Ge θ (δ + x_cat κ1 + x_cat κ2 + x_cat κ3) Γ pc4 pc5 κ4 e4) (hM : ∀ (x1 : Int) (x2 : Int) (x3 : Int) (x4 : Int) M Q, F x1 x2 x3 x4 M Q → ∀ l ω, XC l ω y b n ret rmy [(κ1, x1), (κ2, x2), (κ3, x3), (κ4, x4)] M Q) (d : decode cc pc5 = .ok (.invokestatic ix, 3)) : Gr θ δ Γ pc (pc5 + 3) ret (eC4 F e1 e2 e3 e4) := by
  obtain ⟨c1, c2, c3, c4, c5⟩ := c
  exact Gr.s4 h hw1 c1 c2 c3 c4 c5 (Nat.le_of_ble_eq_true hfr) (Nat.le_of_ble_eq_true hlo) g1 g2 g3 g4 hM d
theorem Cn4 {θ : XΘ} {own : String} {cc : ByteArray} {nn : Nat} {rm : Nat × Nat} {rc : Option FieldType} (h : Fx θ own cc nn rm rc) {δ : Nat} {Γ : XG} {pc pc2 pc3 pc4 pc5 : Nat}  {κ1 κ2 κ3 κ4 : Nat} {e1 e2 e3 e4 : XE} {F : Int → Int → Int → Int → XM → (Int → XM → Prop) → Prop} {y : MethodName} {b : ByteArray} {n ix : Nat} {ret : Option FieldType} {rmy : Nat × Nat} (c : xCS y b n ret 4) {host : String} (hw1 : Cond.methodLinkNest own ix y host ∈ xNest) (hfr : Nat.ble (rmy.1 + 1) rm.1 = true) (hlo : Nat.ble (δ + (n + 11) + rmy.2) rm.2 = true)  (g1 : Ge θ (δ) Γ pc pc2 κ1 e1) (g2 : Ge θ (δ + x_cat κ1) Γ pc2 pc3 κ2 e2) (g3 : Ge θ (δ + x_cat κ1 + x_cat κ2) Γ pc3 pc4 κ3 e3) (g4 : Ge θ (δ + x_cat κ1 + x_cat κ2 + x_cat κ3) Γ pc4 pc5 κ4 e4) (hM : ∀ (x1 : Int) (x2 : Int) (x3 : Int) (x4 : Int) M Q, F x1 x2 x3 x4 M Q → ∀ l ω, XC l ω y b n ret rmy [(κ1, x1), (κ2, x2), (κ3, x3), (κ4, x4)] M Q) (d : decode cc pc5 = .ok (.invokestatic ix, 3)) : Gr θ δ Γ pc (pc5 + 3) ret (eC4 F e1 e2 e3 e4) := by
  obtain ⟨c1, c2, c3, c4, c5⟩ := c
  exact Gr.n4 h hw1 c1 c2 c3 c4 c5 (Nat.le_of_ble_eq_true hfr) (Nat.le_of_ble_eq_true hlo) g1 g2 g3 g4 hM d
theorem Cv5 {θ : XΘ} {own : String} {cc : ByteArray} {nn : Nat} {rm : Nat × Nat} {rc : Option FieldType} (h : Fx θ own cc nn rm rc) {δ : Nat} {Γ : XG} {pc pc1 pc2 pc3 pc4 pc5 pc6 : Nat} {k : Nat} {κ1 κ2 κ3 κ4 κ5 : Nat} {e1 e2 e3 e4 e5 : XE} {F : Int → Int → Int → Int → Int → XM → (Int → XM → Prop) → Prop} {y : MethodName} {b : ByteArray} {n ix : Nat} {ret : Option FieldType} {rmy : Nat × Nat} (c : xCV y b n ret k 5) (hw1 : Cond.methodLink own ix y ∈ xT) (hfr : Nat.ble (rmy.1 + 1) rm.1 = true) (hlo : Nat.ble (δ + (n + 11) + rmy.2) rm.2 = true)  (p : Gp θ Γ pc pc1 k) (g1 : Ge θ (δ + 1) Γ pc1 pc2 κ1 e1) (g2 : Ge θ (δ + 1 + x_cat κ1) Γ pc2 pc3 κ2 e2) (g3 : Ge θ (δ + 1 + x_cat κ1 + x_cat κ2) Γ pc3 pc4 κ3 e3) (g4 : Ge θ (δ + 1 + x_cat κ1 + x_cat κ2 + x_cat κ3) Γ pc4 pc5 κ4 e4) (g5 : Ge θ (δ + 1 + x_cat κ1 + x_cat κ2 + x_cat κ3 + x_cat κ4) Γ pc5 pc6 κ5 e5) (hM : ∀ (x1 : Int) (x2 : Int) (x3 : Int) (x4 : Int) (x5 : Int) M Q, F x1 x2 x3 x4 x5 M Q → ∀ l ω, XC l ω y b n ret rmy [(k + 4, 0), (κ1, x1), (κ2, x2), (κ3, x3), (κ4, x4), (κ5, x5)] M Q) (d : decode cc pc6 = .ok (.invokevirtual ix, 3)) : Gr θ δ Γ pc (pc6 + 3) ret (eC5 F e1 e2 e3 e4 e5) := by
  obtain ⟨ci, C, fs, c1, c2, c3, c4, c5, c6, c7, c8, c9, c10⟩ := c
  exact Gr.v5 h c1 c2 c3 c4 hw1 c5 c6 c7 c8 c9 c10 (Nat.le_of_ble_eq_true hfr) (Nat.le_of_ble_eq_true hlo) p g1 g2 g3 g4 g5 hM d
theorem Cs5 {θ : XΘ} {own : String} {cc : ByteArray} {nn : Nat} {rm : Nat × Nat} {rc : Option FieldType} (h : Fx θ own cc nn rm rc) {δ : Nat} {Γ : XG} {pc pc2 pc3 pc4 pc5 pc6 : Nat}  {κ1 κ2 κ3 κ4 κ5 : Nat} {e1 e2 e3 e4 e5 : XE} {F : Int → Int → Int → Int → Int → XM → (Int → XM → Prop) → Prop} {y : MethodName} {b : ByteArray} {n ix : Nat} {ret : Option FieldType} {rmy : Nat × Nat} (c : xCS y b n ret 5) (hw1 : Cond.methodLink own ix y ∈ xT) (hfr : Nat.ble (rmy.1 + 1) rm.1 = true) (hlo : Nat.ble (δ + (n + 11) + rmy.2) rm.2 = true)  (g1 : Ge θ (δ) Γ pc pc2 κ1 e1) (g2 : Ge θ (δ + x_cat κ1) Γ pc2 pc3 κ2 e2) (g3 : Ge θ (δ + x_cat κ1 + x_cat κ2) Γ pc3 pc4 κ3 e3) (g4 : Ge θ (δ + x_cat κ1 + x_cat κ2 + x_cat κ3) Γ pc4 pc5 κ4 e4) (g5 : Ge θ (δ + x_cat κ1 + x_cat κ2 + x_cat κ3 + x_cat κ4) Γ pc5 pc6 κ5 e5) (hM : ∀ (x1 : Int) (x2 : Int) (x3 : Int) (x4 : Int) (x5 : Int) M Q, F x1 x2 x3 x4 x5 M Q → ∀ l ω, XC l ω y b n ret rmy [(κ1, x1), (κ2, x2), (κ3, x3), (κ4, x4), (κ5, x5)] M Q) (d : decode cc pc6 = .ok (.invokestatic ix, 3)) : Gr θ δ Γ pc (pc6 + 3) ret (eC5 F e1 e2 e3 e4 e5) := by
  obtain ⟨c1, c2, c3, c4, c5⟩ := c
  exact Gr.s5 h hw1 c1 c2 c3 c4 c5 (Nat.le_of_ble_eq_true hfr) (Nat.le_of_ble_eq_true hlo) g1 g2 g3 g4 g5 hM d
theorem Cn5 {θ : XΘ} {own : String} {cc : ByteArray} {nn : Nat} {rm : Nat × Nat} {rc : Option FieldType} (h : Fx θ own cc nn rm rc) {δ : Nat} {Γ : XG} {pc pc2 pc3 pc4 pc5 pc6 : Nat}  {κ1 κ2 κ3 κ4 κ5 : Nat} {e1 e2 e3 e4 e5 : XE} {F : Int → Int → Int → Int → Int → XM → (Int → XM → Prop) → Prop} {y : MethodName} {b : ByteArray} {n ix : Nat} {ret : Option FieldType} {rmy : Nat × Nat} (c : xCS y b n ret 5) {host : String} (hw1 : Cond.methodLinkNest own ix y host ∈ xNest) (hfr : Nat.ble (rmy.1 + 1) rm.1 = true) (hlo : Nat.ble (δ + (n + 11) + rmy.2) rm.2 = true)  (g1 : Ge θ (δ) Γ pc pc2 κ1 e1) (g2 : Ge θ (δ + x_cat κ1) Γ pc2 pc3 κ2 e2) (g3 : Ge θ (δ + x_cat κ1 + x_cat κ2) Γ pc3 pc4 κ3 e3) (g4 : Ge θ (δ + x_cat κ1 + x_cat κ2 + x_cat κ3) Γ pc4 pc5 κ4 e4) (g5 : Ge θ (δ + x_cat κ1 + x_cat κ2 + x_cat κ3 + x_cat κ4) Γ pc5 pc6 κ5 e5) (hM : ∀ (x1 : Int) (x2 : Int) (x3 : Int) (x4 : Int) (x5 : Int) M Q, F x1 x2 x3 x4 x5 M Q → ∀ l ω, XC l ω y b n ret rmy [(κ1, x1), (κ2, x2), (κ3, x3), (κ4, x4), (κ5, x5)] M Q) (d : decode cc pc6 = .ok (.invokestatic ix, 3)) : Gr θ δ Γ pc (pc6 + 3) ret (eC5 F e1 e2 e3 e4 e5) := by
  obtain ⟨c1, c2, c3, c4, c5⟩ := c
  exact Gr.n5 h hw1 c1 c2 c3 c4 c5 (Nat.le_of_ble_eq_true hfr) (Nat.le_of_ble_eq_true hlo) g1 g2 g3 g4 g5 hM d
theorem Cv6 {θ : XΘ} {own : String} {cc : ByteArray} {nn : Nat} {rm : Nat × Nat} {rc : Option FieldType} (h : Fx θ own cc nn rm rc) {δ : Nat} {Γ : XG} {pc pc1 pc2 pc3 pc4 pc5 pc6 pc7 : Nat} {k : Nat} {κ1 κ2 κ3 κ4 κ5 κ6 : Nat} {e1 e2 e3 e4 e5 e6 : XE} {F : Int → Int → Int → Int → Int → Int → XM → (Int → XM → Prop) → Prop} {y : MethodName} {b : ByteArray} {n ix : Nat} {ret : Option FieldType} {rmy : Nat × Nat} (c : xCV y b n ret k 6) (hw1 : Cond.methodLink own ix y ∈ xT) (hfr : Nat.ble (rmy.1 + 1) rm.1 = true) (hlo : Nat.ble (δ + (n + 11) + rmy.2) rm.2 = true)  (p : Gp θ Γ pc pc1 k) (g1 : Ge θ (δ + 1) Γ pc1 pc2 κ1 e1) (g2 : Ge θ (δ + 1 + x_cat κ1) Γ pc2 pc3 κ2 e2) (g3 : Ge θ (δ + 1 + x_cat κ1 + x_cat κ2) Γ pc3 pc4 κ3 e3) (g4 : Ge θ (δ + 1 + x_cat κ1 + x_cat κ2 + x_cat κ3) Γ pc4 pc5 κ4 e4) (g5 : Ge θ (δ + 1 + x_cat κ1 + x_cat κ2 + x_cat κ3 + x_cat κ4) Γ pc5 pc6 κ5 e5) (g6 : Ge θ (δ + 1 + x_cat κ1 + x_cat κ2 + x_cat κ3 + x_cat κ4 + x_cat κ5) Γ pc6 pc7 κ6 e6) (hM : ∀ (x1 : Int) (x2 : Int) (x3 : Int) (x4 : Int) (x5 : Int) (x6 : Int) M Q, F x1 x2 x3 x4 x5 x6 M Q → ∀ l ω, XC l ω y b n ret rmy [(k + 4, 0), (κ1, x1), (κ2, x2), (κ3, x3), (κ4, x4), (κ5, x5), (κ6, x6)] M Q) (d : decode cc pc7 = .ok (.invokevirtual ix, 3)) : Gr θ δ Γ pc (pc7 + 3) ret (eC6 F e1 e2 e3 e4 e5 e6) := by
  obtain ⟨ci, C, fs, c1, c2, c3, c4, c5, c6, c7, c8, c9, c10⟩ := c
  exact Gr.v6 h c1 c2 c3 c4 hw1 c5 c6 c7 c8 c9 c10 (Nat.le_of_ble_eq_true hfr) (Nat.le_of_ble_eq_true hlo) p g1 g2 g3 g4 g5 g6 hM d
theorem Cs6 {θ : XΘ} {own : String} {cc : ByteArray} {nn : Nat} {rm : Nat × Nat} {rc : Option FieldType} (h : Fx θ own cc nn rm rc) {δ : Nat} {Γ : XG} {pc pc2 pc3 pc4 pc5 pc6 pc7 : Nat}  {κ1 κ2 κ3 κ4 κ5 κ6 : Nat} {e1 e2 e3 e4 e5 e6 : XE} {F : Int → Int → Int → Int → Int → Int → XM → (Int → XM → Prop) → Prop} {y : MethodName} {b : ByteArray} {n ix : Nat} {ret : Option FieldType} {rmy : Nat × Nat} (c : xCS y b n ret 6) (hw1 : Cond.methodLink own ix y ∈ xT) (hfr : Nat.ble (rmy.1 + 1) rm.1 = true) (hlo : Nat.ble (δ + (n + 11) + rmy.2) rm.2 = true)  (g1 : Ge θ (δ) Γ pc pc2 κ1 e1) (g2 : Ge θ (δ + x_cat κ1) Γ pc2 pc3 κ2 e2) (g3 : Ge θ (δ + x_cat κ1 + x_cat κ2) Γ pc3 pc4 κ3 e3) (g4 : Ge θ (δ + x_cat κ1 + x_cat κ2 + x_cat κ3) Γ pc4 pc5 κ4 e4) (g5 : Ge θ (δ + x_cat κ1 + x_cat κ2 + x_cat κ3 + x_cat κ4) Γ pc5 pc6 κ5 e5) (g6 : Ge θ (δ + x_cat κ1 + x_cat κ2 + x_cat κ3 + x_cat κ4 + x_cat κ5) Γ pc6 pc7 κ6 e6) (hM : ∀ (x1 : Int) (x2 : Int) (x3 : Int) (x4 : Int) (x5 : Int) (x6 : Int) M Q, F x1 x2 x3 x4 x5 x6 M Q → ∀ l ω, XC l ω y b n ret rmy [(κ1, x1), (κ2, x2), (κ3, x3), (κ4, x4), (κ5, x5), (κ6, x6)] M Q) (d : decode cc pc7 = .ok (.invokestatic ix, 3)) : Gr θ δ Γ pc (pc7 + 3) ret (eC6 F e1 e2 e3 e4 e5 e6) := by
  obtain ⟨c1, c2, c3, c4, c5⟩ := c
  exact Gr.s6 h hw1 c1 c2 c3 c4 c5 (Nat.le_of_ble_eq_true hfr) (Nat.le_of_ble_eq_true hlo) g1 g2 g3 g4 g5 g6 hM d
theorem Cn6 {θ : XΘ} {own : String} {cc : ByteArray} {nn : Nat} {rm : Nat × Nat} {rc : Option FieldType} (h : Fx θ own cc nn rm rc) {δ : Nat} {Γ : XG} {pc pc2 pc3 pc4 pc5 pc6 pc7 : Nat}  {κ1 κ2 κ3 κ4 κ5 κ6 : Nat} {e1 e2 e3 e4 e5 e6 : XE} {F : Int → Int → Int → Int → Int → Int → XM → (Int → XM → Prop) → Prop} {y : MethodName} {b : ByteArray} {n ix : Nat} {ret : Option FieldType} {rmy : Nat × Nat} (c : xCS y b n ret 6) {host : String} (hw1 : Cond.methodLinkNest own ix y host ∈ xNest) (hfr : Nat.ble (rmy.1 + 1) rm.1 = true) (hlo : Nat.ble (δ + (n + 11) + rmy.2) rm.2 = true)  (g1 : Ge θ (δ) Γ pc pc2 κ1 e1) (g2 : Ge θ (δ + x_cat κ1) Γ pc2 pc3 κ2 e2) (g3 : Ge θ (δ + x_cat κ1 + x_cat κ2) Γ pc3 pc4 κ3 e3) (g4 : Ge θ (δ + x_cat κ1 + x_cat κ2 + x_cat κ3) Γ pc4 pc5 κ4 e4) (g5 : Ge θ (δ + x_cat κ1 + x_cat κ2 + x_cat κ3 + x_cat κ4) Γ pc5 pc6 κ5 e5) (g6 : Ge θ (δ + x_cat κ1 + x_cat κ2 + x_cat κ3 + x_cat κ4 + x_cat κ5) Γ pc6 pc7 κ6 e6) (hM : ∀ (x1 : Int) (x2 : Int) (x3 : Int) (x4 : Int) (x5 : Int) (x6 : Int) M Q, F x1 x2 x3 x4 x5 x6 M Q → ∀ l ω, XC l ω y b n ret rmy [(κ1, x1), (κ2, x2), (κ3, x3), (κ4, x4), (κ5, x5), (κ6, x6)] M Q) (d : decode cc pc7 = .ok (.invokestatic ix, 3)) : Gr θ δ Γ pc (pc7 + 3) ret (eC6 F e1 e2 e3 e4 e5 e6) := by
  obtain ⟨c1, c2, c3, c4, c5⟩ := c
  exact Gr.n6 h hw1 c1 c2 c3 c4 c5 (Nat.le_of_ble_eq_true hfr) (Nat.le_of_ble_eq_true hlo) g1 g2 g3 g4 g5 g6 hM d
theorem Cv7 {θ : XΘ} {own : String} {cc : ByteArray} {nn : Nat} {rm : Nat × Nat} {rc : Option FieldType} (h : Fx θ own cc nn rm rc) {δ : Nat} {Γ : XG} {pc pc1 pc2 pc3 pc4 pc5 pc6 pc7 pc8 : Nat} {k : Nat} {κ1 κ2 κ3 κ4 κ5 κ6 κ7 : Nat} {e1 e2 e3 e4 e5 e6 e7 : XE} {F : Int → Int → Int → Int → Int → Int → Int → XM → (Int → XM → Prop) → Prop} {y : MethodName} {b : ByteArray} {n ix : Nat} {ret : Option FieldType} {rmy : Nat × Nat} (c : xCV y b n ret k 7) (hw1 : Cond.methodLink own ix y ∈ xT) (hfr : Nat.ble (rmy.1 + 1) rm.1 = true) (hlo : Nat.ble (δ + (n + 11) + rmy.2) rm.2 = true)  (p : Gp θ Γ pc pc1 k) (g1 : Ge θ (δ + 1) Γ pc1 pc2 κ1 e1) (g2 : Ge θ (δ + 1 + x_cat κ1) Γ pc2 pc3 κ2 e2) (g3 : Ge θ (δ + 1 + x_cat κ1 + x_cat κ2) Γ pc3 pc4 κ3 e3) (g4 : Ge θ (δ + 1 + x_cat κ1 + x_cat κ2 + x_cat κ3) Γ pc4 pc5 κ4 e4) (g5 : Ge θ (δ + 1 + x_cat κ1 + x_cat κ2 + x_cat κ3 + x_cat κ4) Γ pc5 pc6 κ5 e5) (g6 : Ge θ (δ + 1 + x_cat κ1 + x_cat κ2 + x_cat κ3 + x_cat κ4 + x_cat κ5) Γ pc6 pc7 κ6 e6) (g7 : Ge θ (δ + 1 + x_cat κ1 + x_cat κ2 + x_cat κ3 + x_cat κ4 + x_cat κ5 + x_cat κ6) Γ pc7 pc8 κ7 e7) (hM : ∀ (x1 : Int) (x2 : Int) (x3 : Int) (x4 : Int) (x5 : Int) (x6 : Int) (x7 : Int) M Q, F x1 x2 x3 x4 x5 x6 x7 M Q → ∀ l ω, XC l ω y b n ret rmy [(k + 4, 0), (κ1, x1), (κ2, x2), (κ3, x3), (κ4, x4), (κ5, x5), (κ6, x6), (κ7, x7)] M Q) (d : decode cc pc8 = .ok (.invokevirtual ix, 3)) : Gr θ δ Γ pc (pc8 + 3) ret (eC7 F e1 e2 e3 e4 e5 e6 e7) := by
  obtain ⟨ci, C, fs, c1, c2, c3, c4, c5, c6, c7, c8, c9, c10⟩ := c
  exact Gr.v7 h c1 c2 c3 c4 hw1 c5 c6 c7 c8 c9 c10 (Nat.le_of_ble_eq_true hfr) (Nat.le_of_ble_eq_true hlo) p g1 g2 g3 g4 g5 g6 g7 hM d
theorem Cs7 {θ : XΘ} {own : String} {cc : ByteArray} {nn : Nat} {rm : Nat × Nat} {rc : Option FieldType} (h : Fx θ own cc nn rm rc) {δ : Nat} {Γ : XG} {pc pc2 pc3 pc4 pc5 pc6 pc7 pc8 : Nat}  {κ1 κ2 κ3 κ4 κ5 κ6 κ7 : Nat} {e1 e2 e3 e4 e5 e6 e7 : XE} {F : Int → Int → Int → Int → Int → Int → Int → XM → (Int → XM → Prop) → Prop} {y : MethodName} {b : ByteArray} {n ix : Nat} {ret : Option FieldType} {rmy : Nat × Nat} (c : xCS y b n ret 7) (hw1 : Cond.methodLink own ix y ∈ xT) (hfr : Nat.ble (rmy.1 + 1) rm.1 = true) (hlo : Nat.ble (δ + (n + 11) + rmy.2) rm.2 = true)  (g1 : Ge θ (δ) Γ pc pc2 κ1 e1) (g2 : Ge θ (δ + x_cat κ1) Γ pc2 pc3 κ2 e2) (g3 : Ge θ (δ + x_cat κ1 + x_cat κ2) Γ pc3 pc4 κ3 e3) (g4 : Ge θ (δ + x_cat κ1 + x_cat κ2 + x_cat κ3) Γ pc4 pc5 κ4 e4) (g5 : Ge θ (δ + x_cat κ1 + x_cat κ2 + x_cat κ3 + x_cat κ4) Γ pc5 pc6 κ5 e5) (g6 : Ge θ (δ + x_cat κ1 + x_cat κ2 + x_cat κ3 + x_cat κ4 + x_cat κ5) Γ pc6 pc7 κ6 e6) (g7 : Ge θ (δ + x_cat κ1 + x_cat κ2 + x_cat κ3 + x_cat κ4 + x_cat κ5 + x_cat κ6) Γ pc7 pc8 κ7 e7) (hM : ∀ (x1 : Int) (x2 : Int) (x3 : Int) (x4 : Int) (x5 : Int) (x6 : Int) (x7 : Int) M Q, F x1 x2 x3 x4 x5 x6 x7 M Q → ∀ l ω, XC l ω y b n ret rmy [(κ1, x1), (κ2, x2), (κ3, x3), (κ4, x4), (κ5, x5), (κ6, x6), (κ7, x7)] M Q) (d : decode cc pc8 = .ok (.invokestatic ix, 3)) : Gr θ δ Γ pc (pc8 + 3) ret (eC7 F e1 e2 e3 e4 e5 e6 e7) := by
  obtain ⟨c1, c2, c3, c4, c5⟩ := c
  exact Gr.s7 h hw1 c1 c2 c3 c4 c5 (Nat.le_of_ble_eq_true hfr) (Nat.le_of_ble_eq_true hlo) g1 g2 g3 g4 g5 g6 g7 hM d
theorem Cn7 {θ : XΘ} {own : String} {cc : ByteArray} {nn : Nat} {rm : Nat × Nat} {rc : Option FieldType} (h : Fx θ own cc nn rm rc) {δ : Nat} {Γ : XG} {pc pc2 pc3 pc4 pc5 pc6 pc7 pc8 : Nat}  {κ1 κ2 κ3 κ4 κ5 κ6 κ7 : Nat} {e1 e2 e3 e4 e5 e6 e7 : XE} {F : Int → Int → Int → Int → Int → Int → Int → XM → (Int → XM → Prop) → Prop} {y : MethodName} {b : ByteArray} {n ix : Nat} {ret : Option FieldType} {rmy : Nat × Nat} (c : xCS y b n ret 7) {host : String} (hw1 : Cond.methodLinkNest own ix y host ∈ xNest) (hfr : Nat.ble (rmy.1 + 1) rm.1 = true) (hlo : Nat.ble (δ + (n + 11) + rmy.2) rm.2 = true)  (g1 : Ge θ (δ) Γ pc pc2 κ1 e1) (g2 : Ge θ (δ + x_cat κ1) Γ pc2 pc3 κ2 e2) (g3 : Ge θ (δ + x_cat κ1 + x_cat κ2) Γ pc3 pc4 κ3 e3) (g4 : Ge θ (δ + x_cat κ1 + x_cat κ2 + x_cat κ3) Γ pc4 pc5 κ4 e4) (g5 : Ge θ (δ + x_cat κ1 + x_cat κ2 + x_cat κ3 + x_cat κ4) Γ pc5 pc6 κ5 e5) (g6 : Ge θ (δ + x_cat κ1 + x_cat κ2 + x_cat κ3 + x_cat κ4 + x_cat κ5) Γ pc6 pc7 κ6 e6) (g7 : Ge θ (δ + x_cat κ1 + x_cat κ2 + x_cat κ3 + x_cat κ4 + x_cat κ5 + x_cat κ6) Γ pc7 pc8 κ7 e7) (hM : ∀ (x1 : Int) (x2 : Int) (x3 : Int) (x4 : Int) (x5 : Int) (x6 : Int) (x7 : Int) M Q, F x1 x2 x3 x4 x5 x6 x7 M Q → ∀ l ω, XC l ω y b n ret rmy [(κ1, x1), (κ2, x2), (κ3, x3), (κ4, x4), (κ5, x5), (κ6, x6), (κ7, x7)] M Q) (d : decode cc pc8 = .ok (.invokestatic ix, 3)) : Gr θ δ Γ pc (pc8 + 3) ret (eC7 F e1 e2 e3 e4 e5 e6 e7) := by
  obtain ⟨c1, c2, c3, c4, c5⟩ := c
  exact Gr.n7 h hw1 c1 c2 c3 c4 c5 (Nat.le_of_ble_eq_true hfr) (Nat.le_of_ble_eq_true hlo) g1 g2 g3 g4 g5 g6 g7 hM d
theorem lsw_off {pc1 pd : Nat} {dflt : Int} (hd : (pc1 : Int) + dflt = (pd : Int)) : ∀ (l : List (Int × Int)) (ps : List (Int × Nat)), l.map (fun q => (q.1, (pc1 : Int) + q.2)) = ps.map (fun q => (q.1, (q.2 : Int))) → ∀ v : Int, (pc1 : Int) + Op.lookupswitch.offset l dflt v = (xpc ps pd v : Int)
  | [], [], _, v => hd
  | [], q :: r, h, v => by simp at h
  | q :: r, [], h, v => by simp at h
  | (a, o) :: r, (c, p) :: r2, h, v => by
    simp only [List.map_cons, List.cons.injEq, Prod.mk.injEq] at h
    obtain ⟨⟨h1, h2⟩, h3⟩ := h
    rw [Op.lookupswitch.offset_cons]
    unfold xpc
    by_cases e : a = v
    · rw [if_pos e, if_pos (by omega)]; exact h2
    · rw [if_neg e, if_neg (by omega)]; exact lsw_off hd r r2 h3 v
theorem Gs.lsw {θ : XΘ} {own : String} {cc : ByteArray} {nn : Nat} {rm : Nat × Nat} {rc : Option FieldType} (h : Fx θ own cc nn rm rc) {Γ : XG} {Γ2 : XG} {pc pc1 pd pE len : Nat} {e : XE} {dflt : Int} {prs : Array (Int × Int)} {ps : List (Int × Nat)} {cs : List (Int × XS)} {sd : XS} (g : Ge θ 0 Γ pc pc1 0 e) (d : decode cc pc1 = .ok (.lookupswitch dflt prs, len)) (hd : (pc1 : Int) + dflt = (pd : Int)) (hp : (prs.toList.zip (prs.toList.drop 1)).all (fun (a, next) => a.1 < next.1) = true) (hm : prs.toList.map (fun q => (q.1, (pc1 : Int) + q.2)) = ps.map (fun q => (q.1, (q.2 : Int)))) (gs : ∀ v, Gs θ Γ (xpc ps pd v) Γ2 pE (sSel cs sd v)) : Gs θ Γ pc Γ2 pE (sSw e cs sd) := fun Qn Qr L M ha kn kr => g L M _ [] (Nat.le_refl 0) ha (fun v M1 q => by
  have hk := gs v Qn Qr L M1 q kn kr
  obtain ⟨p, l, e, R, s, m, args, below, meth, c, Qf, ω, M0, nL, nc, ns, fin⟩ := θ
  obtain ⟨hx, hb, hml, hown, hts, hK, hE, hr1, hr2, hr3, hr4, hret, hnn⟩ := h
  intro hG hS hM hM0 H locs ls hP hSv hl
  have hv : (Int32.ofInt v).toInt = v := xt32i (xwS_hd hS)
  refine lv_lookup (off := Op.lookupswitch.offset prs.toList dflt v) (tgt := xpc ps pd v) hx hb d hp (by rw [hv]) (lsw_off hd _ _ hm v) ?_
  exact hk hG (fun q hq => by cases hq) hM hM0 H locs ls hP hSv hl)
def dchk (b : ByteArray) : List (Nat × Instr × Nat) → Bool
  | [] => true
  | (pc, i, n) :: r => decide (decode b pc = .ok (i, n)) && dchk b r
theorem dq {b : ByteArray} : ∀ {l : List (Nat × Instr × Nat)} (h : dchk b l = true) (k : Nat) {pc : Nat} {i : Instr} {n : Nat} (hk : l[k]? = some (pc, i, n)), decode b pc = .ok (i, n)
  | [], _, k, pc, i, n, hk => by simp at hk
  | (pc0, i0, n0) :: r, h, 0, pc, i, n, hk => by
    unfold dchk at h
    rw [Bool.and_eq_true] at h
    simp at hk
    obtain ⟨rfl, rfl, rfl⟩ := hk
    exact of_decide_eq_true h.1
  | q :: r, h, k + 1, pc, i, n, hk => by
    obtain ⟨pc0, i0, n0⟩ := q
    unfold dchk at h
    rw [Bool.and_eq_true] at h
    exact dq h.2 k (by simpa using hk)
end
section
/-! ===== the tables, a row each ===== -/
def fo_8 (ω : XW) (f : Int → Int) : List Value := [.ref (ω.2.1 2), .ref (ω.2.1 13), .ref (ω.2.1 22), .ref (ω.2.1 29), .ref (ω.2.1 39), .ref (ω.2.1 67), .ref (ω.2.1 69), .ref (ω.2.1 73), .ref (ω.2.1 1)]
theorem fo_8_at : ∀ ω f, xcell ω 0 f = .inr (8, fo_8 ω f) := fun _ _ => rfl
theorem inT8 : ∀ w ∈ wsX80, w ∈ xT := fun w h => List.mem_filter.mpr ⟨inX8 w h, List.all_eq_true.mp (show wsX80.all goodWord = true by decide +kernel) w h⟩
def fo_7 (ω : XW) (f : Int → Int) : List Value := [.int (Int32.ofInt (f 0)), .ref (ω.2.1 3), .int (Int32.ofInt (f 2)), .ref (ω.2.1 4), .ref (ω.2.1 5), .ref (ω.2.1 6), .int (Int32.ofInt (f 6)), .ref (ω.2.1 7), .ref (ω.2.1 8), .ref (ω.2.1 9), .ref (ω.2.1 10), .ref (ω.2.1 11), .int (Int32.ofInt (f 12)), .ref (ω.2.1 12)]
theorem fo_7_at : ∀ ω f, xcell ω 2 f = .inr (7, fo_7 ω f) := fun _ _ => rfl
theorem inT7 : ∀ w ∈ wsX70, w ∈ xT := fun w h => List.mem_filter.mpr ⟨inX7 w h, List.all_eq_true.mp (show wsX70.all goodWord = true by decide +kernel) w h⟩
def fo_3 (ω : XW) (f : Int → Int) : List Value := [.int (Int32.ofInt (f 0)), .int (Int32.ofInt (f 1)), .int (Int32.ofInt (f 2)), .ref (ω.2.1 14), .ref (ω.2.1 15), .ref (ω.2.1 16), .ref (ω.2.1 17), .ref (ω.2.1 18), .ref (ω.2.1 19), .ref (ω.2.1 20), .ref (ω.2.1 21)]
theorem fo_3_at : ∀ ω f, xcell ω 13 f = .inr (3, fo_3 ω f) := fun _ _ => rfl
theorem inT3 : ∀ w ∈ wsX30, w ∈ xT := fun w h => List.mem_filter.mpr ⟨inX3 w h, List.all_eq_true.mp (show wsX30.all goodWord = true by decide +kernel) w h⟩
def fo_4 (ω : XW) (f : Int → Int) : List Value := [.ref (ω.2.1 23), .int (Int32.ofInt (f 1)), .int (Int32.ofInt (f 2)), .ref (ω.2.1 24), .ref (ω.2.1 25), .ref (ω.2.1 26), .ref (ω.2.1 27), .ref (ω.2.1 28), .int (Int32.ofInt (f 8)), .int (Int32.ofInt (f 9)), .int (Int32.ofInt (f 10))]
theorem fo_4_at : ∀ ω f, xcell ω 22 f = .inr (4, fo_4 ω f) := fun _ _ => rfl
theorem inT4 : ∀ w ∈ wsX40, w ∈ xT := fun w h => List.mem_filter.mpr ⟨inX4 w h, List.all_eq_true.mp (show wsX40.all goodWord = true by decide +kernel) w h⟩
def fo_6 (ω : XW) (f : Int → Int) : List Value := [.ref (ω.2.1 2), .ref (ω.2.1 13), .ref (ω.2.1 22), .ref (ω.2.1 30), .ref (ω.2.1 31), .ref (ω.2.1 32), .ref (ω.2.1 33), .ref (ω.2.1 34), .ref (ω.2.1 35), .ref (ω.2.1 36), .ref (ω.2.1 37), .int (Int32.ofInt (f 11)), .ref (ω.2.1 38)]
theorem fo_6_at : ∀ ω f, xcell ω 29 f = .inr (6, fo_6 ω f) := fun _ _ => rfl
theorem inT6 : ∀ w ∈ wsX60, w ∈ xT := fun w h => List.mem_filter.mpr ⟨inX6 w h, List.all_eq_true.mp (show wsX60.all goodWord = true by decide +kernel) w h⟩
def fo_2 (ω : XW) (f : Int → Int) : List Value := [.ref (ω.2.1 13), .ref (ω.2.1 22), .ref (ω.2.1 40), .ref (ω.2.1 41)]
theorem fo_2_at : ∀ ω f, xcell ω 39 f = .inr (2, fo_2 ω f) := fun _ _ => rfl
theorem inT2 : ∀ w ∈ wsX20, w ∈ xT := fun w h => List.mem_filter.mpr ⟨inX2 w h, List.all_eq_true.mp (show wsX20.all goodWord = true by decide +kernel) w h⟩
def fo_0 (ω : XW) (f : Int → Int) : List Value := [.ref (ω.2.1 2), .ref (ω.2.1 13), .ref (ω.2.1 68), .int (Int32.ofInt (f 3)), .int (Int32.ofInt (f 4)), .int (Int32.ofInt (f 5)), .int (Int32.ofInt (f 6)), .int (Int32.ofInt (f 7))]
theorem fo_0_at : ∀ ω f, xcell ω 67 f = .inr (0, fo_0 ω f) := fun _ _ => rfl
theorem inT0 : ∀ w ∈ wsX00, w ∈ xT := fun w h => List.mem_filter.mpr ⟨inX0 w h, List.all_eq_true.mp (show wsX00.all goodWord = true by decide +kernel) w h⟩
def fo_1 (ω : XW) (f : Int → Int) : List Value := [.ref (ω.2.1 70), .ref (ω.2.1 71), .ref (ω.2.1 72), .int (Int32.ofInt (f 3)), .int (Int32.ofInt (f 4))]
theorem fo_1_at : ∀ ω f, xcell ω 69 f = .inr (1, fo_1 ω f) := fun _ _ => rfl
theorem inT1 : ∀ w ∈ wsX10, w ∈ xT := fun w h => List.mem_filter.mpr ⟨inX1 w h, List.all_eq_true.mp (show wsX10.all goodWord = true by decide +kernel) w h⟩
def fo_5 (ω : XW) (f : Int → Int) : List Value := [.ref (ω.2.1 74), .ref (ω.2.1 79), .ref (ω.2.1 80), .int (Int32.ofInt (f 3))]
theorem fo_5_at : ∀ ω f, xcell ω 73 f = .inr (5, fo_5 ω f) := fun _ _ => rfl
theorem inT5 : ∀ w ∈ wsX50, w ∈ xT := fun w h => List.mem_filter.mpr ⟨inX5 w h, List.all_eq_true.mp (show wsX50.all goodWord = true by decide +kernel) w h⟩
def fo_9 (ω : XW) (f : Int → Int) : List Value := [.ref (ω.2.1 82), .ref (ω.2.1 83), .ref (ω.2.1 84), .ref (ω.2.1 85), .int (Int32.ofInt (f 4)), .int (Int32.ofInt (f 5)), .ref (ω.2.1 86), .int (Int32.ofInt (f 7)), .ref (ω.2.1 87), .ref (ω.2.1 88), .ref (ω.2.1 89), .int (Int32.ofInt (f 11)), .ref (ω.2.1 90), .ref (ω.2.1 91), .ref (ω.2.1 92), .ref (ω.2.1 93), .ref (ω.2.1 94), .ref (ω.2.1 95), .int (Int32.ofInt (f 18)), .int (Int32.ofInt (f 19)), .ref (ω.2.1 96), .ref (ω.2.1 97), .ref (ω.2.1 98), .ref (ω.2.1 99), .ref (ω.2.1 100), .ref (ω.2.1 101), .ref (ω.2.1 102), .ref (ω.2.1 103), .int (Int32.ofInt (f 28)), .int (Int32.ofInt (f 29)), .ref (ω.2.1 104), .int (Int32.ofInt (f 31)), .int (Int32.ofInt (f 32)), .int (Int32.ofInt (f 33)), .ref (ω.2.1 105), .ref (ω.2.1 106), .ref (ω.2.1 107), .ref (ω.2.1 108), .ref (ω.2.1 109), .ref (ω.2.1 110), .ref (ω.2.1 111), .ref (ω.2.1 112), .ref (ω.2.1 113), .ref (ω.2.1 114), .ref (ω.2.1 115), .int (Int32.ofInt (f 45)), .ref (ω.2.1 116), .ref (ω.2.1 117), .int (Int32.ofInt (f 48)), .ref (ω.2.1 118), .int (Int32.ofInt (f 50)), .int (Int32.ofInt (f 51)), .ref (ω.2.1 119)]
theorem fo_9_at : ∀ ω f, xcell ω 81 f = .inr (9, fo_9 ω f) := fun _ _ => rfl
theorem inT9 : ∀ w ∈ wsX90, w ∈ xT := fun w h => List.mem_filter.mpr ⟨inX9 w h, List.all_eq_true.mp (show wsX90.all goodWord = true by decide +kernel) w h⟩
theorem fr_RX8_10 {θ : XΘ} {cc : ByteArray} {nn : Nat} {rm : Nat × Nat} {rc : Option FieldType} (h : Fx θ RX8 cc nn rm rc) {Γ : XG} {pc : Nat} (dd : decode cc pc = .ok (.getfield 10, 3)) {L : XL} {t : XT} {M : XM} {z : Int} (k : GG θ Γ (pc + 3) L ((2 + 4, 0) :: t) M) : GG θ Γ pc L ((0 + 4, z) :: t) M := GG.getf h (κ := 2 + 4) (j := 0) (ci := 8) (N := 9) (C := RX8) (T := TX8) (ref := "MostSold") (fs := fo_8) (fun _ => 0) (by decide) rfl fo_8_at (fun _ _ => rfl) (fun _ _ => trivial) (by decide) (xT_in 404 (by decide +kernel) (by decide +kernel)) rfl inT8 dd k
theorem fr_RX8_19 {θ : XΘ} {cc : ByteArray} {nn : Nat} {rm : Nat × Nat} {rc : Option FieldType} (h : Fx θ RX8 cc nn rm rc) {Γ : XG} {pc : Nat} (dd : decode cc pc = .ok (.getfield 19, 3)) {L : XL} {t : XT} {M : XM} {z : Int} (k : GG θ Γ (pc + 3) L ((13 + 4, 0) :: t) M) : GG θ Γ pc L ((0 + 4, z) :: t) M := GG.getf h (κ := 13 + 4) (j := 1) (ci := 8) (N := 9) (C := RX8) (T := TX8) (ref := "MostSold") (fs := fo_8) (fun _ => 0) (by decide) rfl fo_8_at (fun _ _ => rfl) (fun _ _ => trivial) (by decide) (xT_in 405 (by decide +kernel) (by decide +kernel)) rfl inT8 dd k
theorem fr_RX8_26 {θ : XΘ} {cc : ByteArray} {nn : Nat} {rm : Nat × Nat} {rc : Option FieldType} (h : Fx θ RX8 cc nn rm rc) {Γ : XG} {pc : Nat} (dd : decode cc pc = .ok (.getfield 26, 3)) {L : XL} {t : XT} {M : XM} {z : Int} (k : GG θ Γ (pc + 3) L ((22 + 4, 0) :: t) M) : GG θ Γ pc L ((0 + 4, z) :: t) M := GG.getf h (κ := 22 + 4) (j := 2) (ci := 8) (N := 9) (C := RX8) (T := TX8) (ref := "MostSold") (fs := fo_8) (fun _ => 0) (by decide) rfl fo_8_at (fun _ _ => rfl) (fun _ _ => trivial) (by decide) (xT_in 406 (by decide +kernel) (by decide +kernel)) rfl inT8 dd k
theorem fr_RX8_35 {θ : XΘ} {cc : ByteArray} {nn : Nat} {rm : Nat × Nat} {rc : Option FieldType} (h : Fx θ RX8 cc nn rm rc) {Γ : XG} {pc : Nat} (dd : decode cc pc = .ok (.getfield 35, 3)) {L : XL} {t : XT} {M : XM} {z : Int} (k : GG θ Γ (pc + 3) L ((29 + 4, 0) :: t) M) : GG θ Γ pc L ((0 + 4, z) :: t) M := GG.getf h (κ := 29 + 4) (j := 3) (ci := 8) (N := 9) (C := RX8) (T := TX8) (ref := "MostSold") (fs := fo_8) (fun _ => 0) (by decide) rfl fo_8_at (fun _ _ => rfl) (fun _ _ => trivial) (by decide) (xT_in 407 (by decide +kernel) (by decide +kernel)) rfl inT8 dd k
theorem fr_RX8_44 {θ : XΘ} {cc : ByteArray} {nn : Nat} {rm : Nat × Nat} {rc : Option FieldType} (h : Fx θ RX8 cc nn rm rc) {Γ : XG} {pc : Nat} (dd : decode cc pc = .ok (.getfield 44, 3)) {L : XL} {t : XT} {M : XM} {z : Int} (k : GG θ Γ (pc + 3) L ((39 + 4, 0) :: t) M) : GG θ Γ pc L ((0 + 4, z) :: t) M := GG.getf h (κ := 39 + 4) (j := 4) (ci := 8) (N := 9) (C := RX8) (T := TX8) (ref := "MostSold") (fs := fo_8) (fun _ => 0) (by decide) rfl fo_8_at (fun _ _ => rfl) (fun _ _ => trivial) (by decide) (xT_in 408 (by decide +kernel) (by decide +kernel)) rfl inT8 dd k
theorem fr_RX8_53 {θ : XΘ} {cc : ByteArray} {nn : Nat} {rm : Nat × Nat} {rc : Option FieldType} (h : Fx θ RX8 cc nn rm rc) {Γ : XG} {pc : Nat} (dd : decode cc pc = .ok (.getfield 53, 3)) {L : XL} {t : XT} {M : XM} {z : Int} (k : GG θ Γ (pc + 3) L ((67 + 4, 0) :: t) M) : GG θ Γ pc L ((0 + 4, z) :: t) M := GG.getf h (κ := 67 + 4) (j := 5) (ci := 8) (N := 9) (C := RX8) (T := TX8) (ref := "MostSold") (fs := fo_8) (fun _ => 0) (by decide) rfl fo_8_at (fun _ _ => rfl) (fun _ _ => trivial) (by decide) (xT_in 409 (by decide +kernel) (by decide +kernel)) rfl inT8 dd k
theorem fr_RX8_60 {θ : XΘ} {cc : ByteArray} {nn : Nat} {rm : Nat × Nat} {rc : Option FieldType} (h : Fx θ RX8 cc nn rm rc) {Γ : XG} {pc : Nat} (dd : decode cc pc = .ok (.getfield 60, 3)) {L : XL} {t : XT} {M : XM} {z : Int} (k : GG θ Γ (pc + 3) L ((69 + 4, 0) :: t) M) : GG θ Γ pc L ((0 + 4, z) :: t) M := GG.getf h (κ := 69 + 4) (j := 6) (ci := 8) (N := 9) (C := RX8) (T := TX8) (ref := "MostSold") (fs := fo_8) (fun _ => 0) (by decide) rfl fo_8_at (fun _ _ => rfl) (fun _ _ => trivial) (by decide) (xT_in 410 (by decide +kernel) (by decide +kernel)) rfl inT8 dd k
theorem fr_RX8_67 {θ : XΘ} {cc : ByteArray} {nn : Nat} {rm : Nat × Nat} {rc : Option FieldType} (h : Fx θ RX8 cc nn rm rc) {Γ : XG} {pc : Nat} (dd : decode cc pc = .ok (.getfield 67, 3)) {L : XL} {t : XT} {M : XM} {z : Int} (k : GG θ Γ (pc + 3) L ((73 + 4, 0) :: t) M) : GG θ Γ pc L ((0 + 4, z) :: t) M := GG.getf h (κ := 73 + 4) (j := 7) (ci := 8) (N := 9) (C := RX8) (T := TX8) (ref := "MostSold") (fs := fo_8) (fun _ => 0) (by decide) rfl fo_8_at (fun _ _ => rfl) (fun _ _ => trivial) (by decide) (xT_in 411 (by decide +kernel) (by decide +kernel)) rfl inT8 dd k
theorem fr_RX8_71 {θ : XΘ} {cc : ByteArray} {nn : Nat} {rm : Nat × Nat} {rc : Option FieldType} (h : Fx θ RX8 cc nn rm rc) {Γ : XG} {pc : Nat} (dd : decode cc pc = .ok (.getfield 71, 3)) {L : XL} {t : XT} {M : XM} {z : Int} (k : GG θ Γ (pc + 3) L ((1 + 4, 0) :: t) M) : GG θ Γ pc L ((0 + 4, z) :: t) M := GG.getf h (κ := 1 + 4) (j := 8) (ci := 8) (N := 9) (C := RX8) (T := TX8) (ref := "MostSold") (fs := fo_8) (fun _ => 0) (by decide) rfl fo_8_at (fun _ _ => rfl) (fun _ _ => trivial) (by decide) (xT_in 412 (by decide +kernel) (by decide +kernel)) rfl inT8 dd k
theorem fr_RX8_111 {θ : XΘ} {cc : ByteArray} {nn : Nat} {rm : Nat × Nat} {rc : Option FieldType} (h : Fx θ RX8 cc nn rm rc) {Γ : XG} {pc : Nat} (dd : decode cc pc = .ok (.getfield 111, 3)) {L : XL} {t : XT} {M : XM} {z : Int} (k : GG θ Γ (pc + 3) L ((32 + 4, 0) :: t) M) : GG θ Γ pc L ((29 + 4, z) :: t) M := GG.getf h (κ := 32 + 4) (j := 5) (ci := 6) (N := 13) (C := RX6) (T := TX6) (ref := "MostSold$Tally") (fs := fo_6) (fun _ => 0) (by decide) rfl fo_6_at (fun _ _ => rfl) (fun _ _ => trivial) (by decide) (xT_in 263 (by decide +kernel) (by decide +kernel)) rfl inT6 dd k
theorem fr_RX8_119 {θ : XΘ} {cc : ByteArray} {nn : Nat} {rm : Nat × Nat} {rc : Option FieldType} (h : Fx θ RX8 cc nn rm rc) {Γ : XG} {pc : Nat} (dd : decode cc pc = .ok (.getfield 119, 3)) {L : XL} {t : XT} {M : XM} {z : Int} (k : GG θ Γ (pc + 3) L ((11 + 4, 0) :: t) M) : GG θ Γ pc L ((2 + 4, z) :: t) M := GG.getf h (κ := 11 + 4) (j := 11) (ci := 7) (N := 14) (C := RX7) (T := TX7) (ref := "MostSold$Trade") (fs := fo_7) (fun _ => 0) (by decide) rfl fo_7_at (fun _ _ => rfl) (fun _ _ => trivial) (by decide) (xT_in 102 (by decide +kernel) (by decide +kernel)) rfl inT7 dd k
theorem fr_RX8_136 {θ : XΘ} {cc : ByteArray} {nn : Nat} {rm : Nat × Nat} {rc : Option FieldType} (h : Fx θ RX8 cc nn rm rc) {Γ : XG} {pc : Nat} (dd : decode cc pc = .ok (.getfield 136, 3)) {L : XL} {t : XT} {M : XM} {z : Int} (k : GG θ Γ (pc + 3) L ((74 + 4, 0) :: t) M) : GG θ Γ pc L ((73 + 4, z) :: t) M := GG.getf h (κ := 74 + 4) (j := 0) (ci := 5) (N := 4) (C := RX5) (T := TX5) (ref := "MostSold$Sheets") (fs := fo_5) (fun _ => 0) (by decide) rfl fo_5_at (fun _ _ => rfl) (fun _ _ => trivial) (by decide) (xT_in 388 (by decide +kernel) (by decide +kernel)) rfl inT5 dd k
theorem fr_RX8_140 {θ : XΘ} {cc : ByteArray} {nn : Nat} {rm : Nat × Nat} {rc : Option FieldType} (h : Fx θ RX8 cc nn rm rc) {Γ : XG} {pc : Nat} (dd : decode cc pc = .ok (.getfield 140, 3)) {L : XL} {t : XT} {M : XM} {z : Int} (k : GG θ Γ (pc + 3) L ((79 + 4, 0) :: t) M) : GG θ Γ pc L ((73 + 4, z) :: t) M := GG.getf h (κ := 79 + 4) (j := 1) (ci := 5) (N := 4) (C := RX5) (T := TX5) (ref := "MostSold$Sheets") (fs := fo_5) (fun _ => 0) (by decide) rfl fo_5_at (fun _ _ => rfl) (fun _ _ => trivial) (by decide) (xT_in 390 (by decide +kernel) (by decide +kernel)) rfl inT5 dd k
theorem fr_RX8_146 {θ : XΘ} {cc : ByteArray} {nn : Nat} {rm : Nat × Nat} {rc : Option FieldType} (h : Fx θ RX8 cc nn rm rc) {Γ : XG} {pc : Nat} (dd : decode cc pc = .ok (.getfield 146, 3)) {L : XL} {t : XT} {M : XM} {z : Int} (k : GG θ Γ (pc + 3) L ((14 + 4, 0) :: t) M) : GG θ Γ pc L ((13 + 4, z) :: t) M := GG.getf h (κ := 14 + 4) (j := 3) (ci := 3) (N := 11) (C := RX3) (T := TX3) (ref := "MostSold$Ledger") (fs := fo_3) (fun _ => 0) (by decide) rfl fo_3_at (fun _ _ => rfl) (fun _ _ => trivial) (by decide) (xT_in 156 (by decide +kernel) (by decide +kernel)) rfl inT3 dd k
theorem fr_RX8_149 {θ : XΘ} {cc : ByteArray} {nn : Nat} {rm : Nat × Nat} {rc : Option FieldType} (h : Fx θ RX8 cc nn rm rc) {Γ : XG} {pc : Nat} (dd : decode cc pc = .ok (.getfield 149, 3)) {L : XL} {t : XT} {M : XM} {z : Int} (k : GG θ Γ (pc + 3) L ((15 + 4, 0) :: t) M) : GG θ Γ pc L ((13 + 4, z) :: t) M := GG.getf h (κ := 15 + 4) (j := 4) (ci := 3) (N := 11) (C := RX3) (T := TX3) (ref := "MostSold$Ledger") (fs := fo_3) (fun _ => 0) (by decide) rfl fo_3_at (fun _ _ => rfl) (fun _ _ => trivial) (by decide) (xT_in 160 (by decide +kernel) (by decide +kernel)) rfl inT3 dd k
theorem fr_RX8_152 {θ : XΘ} {cc : ByteArray} {nn : Nat} {rm : Nat × Nat} {rc : Option FieldType} (h : Fx θ RX8 cc nn rm rc) {Γ : XG} {pc : Nat} (dd : decode cc pc = .ok (.getfield 152, 3)) {L : XL} {t : XT} {M : XM} {z : Int} (k : GG θ Γ (pc + 3) L ((16 + 4, 0) :: t) M) : GG θ Γ pc L ((13 + 4, z) :: t) M := GG.getf h (κ := 16 + 4) (j := 5) (ci := 3) (N := 11) (C := RX3) (T := TX3) (ref := "MostSold$Ledger") (fs := fo_3) (fun _ => 0) (by decide) rfl fo_3_at (fun _ _ => rfl) (fun _ _ => trivial) (by decide) (xT_in 165 (by decide +kernel) (by decide +kernel)) rfl inT3 dd k
theorem fr_RX8_155 {θ : XΘ} {cc : ByteArray} {nn : Nat} {rm : Nat × Nat} {rc : Option FieldType} (h : Fx θ RX8 cc nn rm rc) {Γ : XG} {pc : Nat} (dd : decode cc pc = .ok (.getfield 155, 3)) {L : XL} {t : XT} {M : XM} {z : Int} (k : GG θ Γ (pc + 3) L ((17 + 4, 0) :: t) M) : GG θ Γ pc L ((13 + 4, z) :: t) M := GG.getf h (κ := 17 + 4) (j := 6) (ci := 3) (N := 11) (C := RX3) (T := TX3) (ref := "MostSold$Ledger") (fs := fo_3) (fun _ => 0) (by decide) rfl fo_3_at (fun _ _ => rfl) (fun _ _ => trivial) (by decide) (xT_in 168 (by decide +kernel) (by decide +kernel)) rfl inT3 dd k
theorem fr_RX8_158 {θ : XΘ} {cc : ByteArray} {nn : Nat} {rm : Nat × Nat} {rc : Option FieldType} (h : Fx θ RX8 cc nn rm rc) {Γ : XG} {pc : Nat} (dd : decode cc pc = .ok (.getfield 158, 3)) {L : XL} {t : XT} {M : XM} {z : Int} (k : GG θ Γ (pc + 3) L ((18 + 4, 0) :: t) M) : GG θ Γ pc L ((13 + 4, z) :: t) M := GG.getf h (κ := 18 + 4) (j := 7) (ci := 3) (N := 11) (C := RX3) (T := TX3) (ref := "MostSold$Ledger") (fs := fo_3) (fun _ => 0) (by decide) rfl fo_3_at (fun _ _ => rfl) (fun _ _ => trivial) (by decide) (xT_in 172 (by decide +kernel) (by decide +kernel)) rfl inT3 dd k
theorem fr_RX8_161 {θ : XΘ} {cc : ByteArray} {nn : Nat} {rm : Nat × Nat} {rc : Option FieldType} (h : Fx θ RX8 cc nn rm rc) {Γ : XG} {pc : Nat} (dd : decode cc pc = .ok (.getfield 161, 3)) {L : XL} {t : XT} {M : XM} {z : Int} (k : GG θ Γ (pc + 3) L ((19 + 4, 0) :: t) M) : GG θ Γ pc L ((13 + 4, z) :: t) M := GG.getf h (κ := 19 + 4) (j := 8) (ci := 3) (N := 11) (C := RX3) (T := TX3) (ref := "MostSold$Ledger") (fs := fo_3) (fun _ => 0) (by decide) rfl fo_3_at (fun _ _ => rfl) (fun _ _ => trivial) (by decide) (xT_in 177 (by decide +kernel) (by decide +kernel)) rfl inT3 dd k
theorem fr_RX8_164 {θ : XΘ} {cc : ByteArray} {nn : Nat} {rm : Nat × Nat} {rc : Option FieldType} (h : Fx θ RX8 cc nn rm rc) {Γ : XG} {pc : Nat} (dd : decode cc pc = .ok (.getfield 164, 3)) {L : XL} {t : XT} {M : XM} {z : Int} (k : GG θ Γ (pc + 3) L ((20 + 4, 0) :: t) M) : GG θ Γ pc L ((13 + 4, z) :: t) M := GG.getf h (κ := 20 + 4) (j := 9) (ci := 3) (N := 11) (C := RX3) (T := TX3) (ref := "MostSold$Ledger") (fs := fo_3) (fun _ => 0) (by decide) rfl fo_3_at (fun _ _ => rfl) (fun _ _ => trivial) (by decide) (xT_in 179 (by decide +kernel) (by decide +kernel)) rfl inT3 dd k
theorem fr_RX8_167 {θ : XΘ} {cc : ByteArray} {nn : Nat} {rm : Nat × Nat} {rc : Option FieldType} (h : Fx θ RX8 cc nn rm rc) {Γ : XG} {pc : Nat} (dd : decode cc pc = .ok (.getfield 167, 3)) {L : XL} {t : XT} {M : XM} {z : Int} (k : GG θ Γ (pc + 3) L ((21 + 4, 0) :: t) M) : GG θ Γ pc L ((13 + 4, z) :: t) M := GG.getf h (κ := 21 + 4) (j := 10) (ci := 3) (N := 11) (C := RX3) (T := TX3) (ref := "MostSold$Ledger") (fs := fo_3) (fun _ => 0) (by decide) rfl fo_3_at (fun _ _ => rfl) (fun _ _ => trivial) (by decide) (xT_in 181 (by decide +kernel) (by decide +kernel)) rfl inT3 dd k
theorem fr_RX8_173 {θ : XΘ} {cc : ByteArray} {nn : Nat} {rm : Nat × Nat} {rc : Option FieldType} (h : Fx θ RX8 cc nn rm rc) {Γ : XG} {pc : Nat} (dd : decode cc pc = .ok (.getfield 173, 3)) {L : XL} {t : XT} {M : XM} {z : Int} (k : GG θ Γ (pc + 3) L ((0, M 13 1) :: t) M) : GG θ Γ pc L ((13 + 4, z) :: t) M := GG.getf h (κ := 0) (j := 1) (ci := 3) (N := 11) (C := RX3) (T := TX3) (ref := "MostSold$Ledger") (fs := fo_3) (fun f => f 1) (by decide) rfl fo_3_at (fun _ _ => rfl) (fun M hM => xwM32 hM rfl 1) (by decide) (xT_in 149 (by decide +kernel) (by decide +kernel)) rfl inT3 dd k
theorem fr_RX8_186 {θ : XΘ} {cc : ByteArray} {nn : Nat} {rm : Nat × Nat} {rc : Option FieldType} (h : Fx θ RX8 cc nn rm rc) {Γ : XG} {pc : Nat} (dd : decode cc pc = .ok (.getfield 186, 3)) {L : XL} {t : XT} {M : XM} {z : Int} (k : GG θ Γ (pc + 3) L ((0, M 22 2) :: t) M) : GG θ Γ pc L ((22 + 4, z) :: t) M := GG.getf h (κ := 0) (j := 2) (ci := 4) (N := 11) (C := RX4) (T := TX4) (ref := "MostSold$Rules") (fs := fo_4) (fun f => f 2) (by decide) rfl fo_4_at (fun _ _ => rfl) (fun M hM => xwM32 hM rfl 2) (by decide) (xT_in 215 (by decide +kernel) (by decide +kernel)) rfl inT4 dd k
theorem fr_RX8_195 {θ : XΘ} {cc : ByteArray} {nn : Nat} {rm : Nat × Nat} {rc : Option FieldType} (h : Fx θ RX8 cc nn rm rc) {Γ : XG} {pc : Nat} (dd : decode cc pc = .ok (.getfield 195, 3)) {L : XL} {t : XT} {M : XM} {z : Int} (k : GG θ Γ (pc + 3) L ((24 + 4, 0) :: t) M) : GG θ Γ pc L ((22 + 4, z) :: t) M := GG.getf h (κ := 24 + 4) (j := 3) (ci := 4) (N := 11) (C := RX4) (T := TX4) (ref := "MostSold$Rules") (fs := fo_4) (fun _ => 0) (by decide) rfl fo_4_at (fun _ _ => rfl) (fun _ _ => trivial) (by decide) (xT_in 219 (by decide +kernel) (by decide +kernel)) rfl inT4 dd k
theorem fr_RX8_198 {θ : XΘ} {cc : ByteArray} {nn : Nat} {rm : Nat × Nat} {rc : Option FieldType} (h : Fx θ RX8 cc nn rm rc) {Γ : XG} {pc : Nat} (dd : decode cc pc = .ok (.getfield 198, 3)) {L : XL} {t : XT} {M : XM} {z : Int} (k : GG θ Γ (pc + 3) L ((25 + 4, 0) :: t) M) : GG θ Γ pc L ((22 + 4, z) :: t) M := GG.getf h (κ := 25 + 4) (j := 4) (ci := 4) (N := 11) (C := RX4) (T := TX4) (ref := "MostSold$Rules") (fs := fo_4) (fun _ => 0) (by decide) rfl fo_4_at (fun _ _ => rfl) (fun _ _ => trivial) (by decide) (xT_in 221 (by decide +kernel) (by decide +kernel)) rfl inT4 dd k
theorem fr_RX8_217 {θ : XΘ} {cc : ByteArray} {nn : Nat} {rm : Nat × Nat} {rc : Option FieldType} (h : Fx θ RX8 cc nn rm rc) {Γ : XG} {pc : Nat} (dd : decode cc pc = .ok (.getfield 217, 3)) {L : XL} {t : XT} {M : XM} {z : Int} (k : GG θ Γ (pc + 3) L ((36 + 4, 0) :: t) M) : GG θ Γ pc L ((29 + 4, z) :: t) M := GG.getf h (κ := 36 + 4) (j := 9) (ci := 6) (N := 13) (C := RX6) (T := TX6) (ref := "MostSold$Tally") (fs := fo_6) (fun _ => 0) (by decide) rfl fo_6_at (fun _ _ => rfl) (fun _ _ => trivial) (by decide) (xT_in 268 (by decide +kernel) (by decide +kernel)) rfl inT6 dd k
theorem fr_RX8_241 {θ : XΘ} {cc : ByteArray} {nn : Nat} {rm : Nat × Nat} {rc : Option FieldType} (h : Fx θ RX8 cc nn rm rc) {Γ : XG} {pc : Nat} (dd : decode cc pc = .ok (.getfield 241, 3)) {L : XL} {t : XT} {M : XM} {z : Int} (k : GG θ Γ (pc + 3) L ((38 + 4, 0) :: t) M) : GG θ Γ pc L ((29 + 4, z) :: t) M := GG.getf h (κ := 38 + 4) (j := 12) (ci := 6) (N := 13) (C := RX6) (T := TX6) (ref := "MostSold$Tally") (fs := fo_6) (fun _ => 0) (by decide) rfl fo_6_at (fun _ _ => rfl) (fun _ _ => trivial) (by decide) (xT_in 274 (by decide +kernel) (by decide +kernel)) rfl inT6 dd k
theorem fr_RX8_244 {θ : XΘ} {cc : ByteArray} {nn : Nat} {rm : Nat × Nat} {rc : Option FieldType} (h : Fx θ RX8 cc nn rm rc) {Γ : XG} {pc : Nat} (dd : decode cc pc = .ok (.getfield 244, 3)) {L : XL} {t : XT} {M : XM} {z : Int} (k : GG θ Γ (pc + 3) L ((0, M 29 11) :: t) M) : GG θ Γ pc L ((29 + 4, z) :: t) M := GG.getf h (κ := 0) (j := 11) (ci := 6) (N := 13) (C := RX6) (T := TX6) (ref := "MostSold$Tally") (fs := fo_6) (fun f => f 11) (by decide) rfl fo_6_at (fun _ _ => rfl) (fun M hM => xwM32 hM rfl 11) (by decide) (xT_in 272 (by decide +kernel) (by decide +kernel)) rfl inT6 dd k
theorem fr_RX8_247 {θ : XΘ} {cc : ByteArray} {nn : Nat} {rm : Nat × Nat} {rc : Option FieldType} (h : Fx θ RX8 cc nn rm rc) {Γ : XG} {pc : Nat} (dd : decode cc pc = .ok (.getfield 247, 3)) {L : XL} {t : XT} {M : XM} {z : Int} (k : GG θ Γ (pc + 3) L ((37 + 4, 0) :: t) M) : GG θ Γ pc L ((29 + 4, z) :: t) M := GG.getf h (κ := 37 + 4) (j := 10) (ci := 6) (N := 13) (C := RX6) (T := TX6) (ref := "MostSold$Tally") (fs := fo_6) (fun _ => 0) (by decide) rfl fo_6_at (fun _ _ => rfl) (fun _ _ => trivial) (by decide) (xT_in 270 (by decide +kernel) (by decide +kernel)) rfl inT6 dd k
theorem fr_RX8_250 {θ : XΘ} {cc : ByteArray} {nn : Nat} {rm : Nat × Nat} {rc : Option FieldType} (h : Fx θ RX8 cc nn rm rc) {Γ : XG} {pc : Nat} (dd : decode cc pc = .ok (.getfield 250, 3)) {L : XL} {t : XT} {M : XM} {z : Int} (k : GG θ Γ (pc + 3) L ((0, M 2 6) :: t) M) : GG θ Γ pc L ((2 + 4, z) :: t) M := GG.getf h (κ := 0) (j := 6) (ci := 7) (N := 14) (C := RX7) (T := TX7) (ref := "MostSold$Trade") (fs := fo_7) (fun f => f 6) (by decide) rfl fo_7_at (fun _ _ => rfl) (fun M hM => xwM32 hM rfl 6) (by decide) (xT_in 94 (by decide +kernel) (by decide +kernel)) rfl inT7 dd k
theorem fr_RX8_258 {θ : XΘ} {cc : ByteArray} {nn : Nat} {rm : Nat × Nat} {rc : Option FieldType} (h : Fx θ RX8 cc nn rm rc) {Γ : XG} {pc : Nat} (dd : decode cc pc = .ok (.getfield 258, 3)) {L : XL} {t : XT} {M : XM} {z : Int} (k : GG θ Γ (pc + 3) L ((40 + 4, 0) :: t) M) : GG θ Γ pc L ((39 + 4, z) :: t) M := GG.getf h (κ := 40 + 4) (j := 2) (ci := 2) (N := 4) (C := RX2) (T := TX2) (ref := "MostSold$Habits") (fs := fo_2) (fun _ => 0) (by decide) rfl fo_2_at (fun _ _ => rfl) (fun _ _ => trivial) (by decide) (xT_in 314 (by decide +kernel) (by decide +kernel)) rfl inT2 dd k
theorem fr_RX8_275 {θ : XΘ} {cc : ByteArray} {nn : Nat} {rm : Nat × Nat} {rc : Option FieldType} (h : Fx θ RX8 cc nn rm rc) {Γ : XG} {pc : Nat} (dd : decode cc pc = .ok (.getfield 275, 3)) {L : XL} {t : XT} {M : XM} {z : Int} (k : GG θ Γ (pc + 3) L ((0, M 67 5) :: t) M) : GG θ Γ pc L ((67 + 4, z) :: t) M := GG.getf h (κ := 0) (j := 5) (ci := 0) (N := 8) (C := RX0) (T := TX0) (ref := "MostSold$Doubts") (fs := fo_0) (fun f => f 5) (by decide) rfl fo_0_at (fun _ _ => rfl) (fun M hM => xwM32 hM rfl 5) (by decide) (xT_in 337 (by decide +kernel) (by decide +kernel)) rfl inT0 dd k
theorem fr_RX8_278 {θ : XΘ} {cc : ByteArray} {nn : Nat} {rm : Nat × Nat} {rc : Option FieldType} (h : Fx θ RX8 cc nn rm rc) {Γ : XG} {pc : Nat} (dd : decode cc pc = .ok (.getfield 278, 3)) {L : XL} {t : XT} {M : XM} {z : Int} (k : GG θ Γ (pc + 3) L ((0, M 67 6) :: t) M) : GG θ Γ pc L ((67 + 4, z) :: t) M := GG.getf h (κ := 0) (j := 6) (ci := 0) (N := 8) (C := RX0) (T := TX0) (ref := "MostSold$Doubts") (fs := fo_0) (fun f => f 6) (by decide) rfl fo_0_at (fun _ _ => rfl) (fun M hM => xwM32 hM rfl 6) (by decide) (xT_in 339 (by decide +kernel) (by decide +kernel)) rfl inT0 dd k
theorem fr_RX8_323 {θ : XΘ} {cc : ByteArray} {nn : Nat} {rm : Nat × Nat} {rc : Option FieldType} (h : Fx θ RX8 cc nn rm rc) {Γ : XG} {pc : Nat} (dd : decode cc pc = .ok (.getfield 323, 3)) {L : XL} {t : XT} {M : XM} {z : Int} (k : GG θ Γ (pc + 3) L ((80 + 4, 0) :: t) M) : GG θ Γ pc L ((73 + 4, z) :: t) M := GG.getf h (κ := 80 + 4) (j := 2) (ci := 5) (N := 4) (C := RX5) (T := TX5) (ref := "MostSold$Sheets") (fs := fo_5) (fun _ => 0) (by decide) rfl fo_5_at (fun _ _ => rfl) (fun _ _ => trivial) (by decide) (xT_in 392 (by decide +kernel) (by decide +kernel)) rfl inT5 dd k
theorem fr_RX8_338 {θ : XΘ} {cc : ByteArray} {nn : Nat} {rm : Nat × Nat} {rc : Option FieldType} (h : Fx θ RX8 cc nn rm rc) {Γ : XG} {pc : Nat} (dd : decode cc pc = .ok (.getfield 338, 3)) {L : XL} {t : XT} {M : XM} {z : Int} (k : GG θ Γ (pc + 3) L ((0, M 2 0) :: t) M) : GG θ Γ pc L ((2 + 4, z) :: t) M := GG.getf h (κ := 0) (j := 0) (ci := 7) (N := 14) (C := RX7) (T := TX7) (ref := "MostSold$Trade") (fs := fo_7) (fun f => f 0) (by decide) rfl fo_7_at (fun _ _ => rfl) (fun M hM => xwM32 hM rfl 0) (by decide) (xT_in 78 (by decide +kernel) (by decide +kernel)) rfl inT7 dd k
theorem fr_RX8_341 {θ : XΘ} {cc : ByteArray} {nn : Nat} {rm : Nat × Nat} {rc : Option FieldType} (h : Fx θ RX8 cc nn rm rc) {Γ : XG} {pc : Nat} (dd : decode cc pc = .ok (.getfield 341, 3)) {L : XL} {t : XT} {M : XM} {z : Int} (k : GG θ Γ (pc + 3) L ((0, M 2 2) :: t) M) : GG θ Γ pc L ((2 + 4, z) :: t) M := GG.getf h (κ := 0) (j := 2) (ci := 7) (N := 14) (C := RX7) (T := TX7) (ref := "MostSold$Trade") (fs := fo_7) (fun f => f 2) (by decide) rfl fo_7_at (fun _ _ => rfl) (fun M hM => xwM32 hM rfl 2) (by decide) (xT_in 84 (by decide +kernel) (by decide +kernel)) rfl inT7 dd k
theorem fr_RX8_344 {θ : XΘ} {cc : ByteArray} {nn : Nat} {rm : Nat × Nat} {rc : Option FieldType} (h : Fx θ RX8 cc nn rm rc) {Γ : XG} {pc : Nat} (dd : decode cc pc = .ok (.getfield 344, 3)) {L : XL} {t : XT} {M : XM} {z : Int} (k : GG θ Γ (pc + 3) L ((0, M 13 0) :: t) M) : GG θ Γ pc L ((13 + 4, z) :: t) M := GG.getf h (κ := 0) (j := 0) (ci := 3) (N := 11) (C := RX3) (T := TX3) (ref := "MostSold$Ledger") (fs := fo_3) (fun f => f 0) (by decide) rfl fo_3_at (fun _ _ => rfl) (fun M hM => xwM32 hM rfl 0) (by decide) (xT_in 146 (by decide +kernel) (by decide +kernel)) rfl inT3 dd k
theorem fr_RX8_350 {θ : XΘ} {cc : ByteArray} {nn : Nat} {rm : Nat × Nat} {rc : Option FieldType} (h : Fx θ RX8 cc nn rm rc) {Γ : XG} {pc : Nat} (dd : decode cc pc = .ok (.getfield 350, 3)) {L : XL} {t : XT} {M : XM} {z : Int} (k : GG θ Γ (pc + 3) L ((0, M 22 1) :: t) M) : GG θ Γ pc L ((22 + 4, z) :: t) M := GG.getf h (κ := 0) (j := 1) (ci := 4) (N := 11) (C := RX4) (T := TX4) (ref := "MostSold$Rules") (fs := fo_4) (fun f => f 1) (by decide) rfl fo_4_at (fun _ _ => rfl) (fun M hM => xwM32 hM rfl 1) (by decide) (xT_in 213 (by decide +kernel) (by decide +kernel)) rfl inT4 dd k
theorem fr_RX8_353 {θ : XΘ} {cc : ByteArray} {nn : Nat} {rm : Nat × Nat} {rc : Option FieldType} (h : Fx θ RX8 cc nn rm rc) {Γ : XG} {pc : Nat} (dd : decode cc pc = .ok (.getfield 353, 3)) {L : XL} {t : XT} {M : XM} {z : Int} (k : GG θ Γ (pc + 3) L ((0, M 2 12) :: t) M) : GG θ Γ pc L ((2 + 4, z) :: t) M := GG.getf h (κ := 0) (j := 12) (ci := 7) (N := 14) (C := RX7) (T := TX7) (ref := "MostSold$Trade") (fs := fo_7) (fun f => f 12) (by decide) rfl fo_7_at (fun _ _ => rfl) (fun M hM => xwM32 hM rfl 12) (by decide) (xT_in 104 (by decide +kernel) (by decide +kernel)) rfl inT7 dd k
theorem fr_RX8_356 {θ : XΘ} {cc : ByteArray} {nn : Nat} {rm : Nat × Nat} {rc : Option FieldType} (h : Fx θ RX8 cc nn rm rc) {Γ : XG} {pc : Nat} (dd : decode cc pc = .ok (.getfield 356, 3)) {L : XL} {t : XT} {M : XM} {z : Int} (k : GG θ Γ (pc + 3) L ((0, M 73 3) :: t) M) : GG θ Γ pc L ((73 + 4, z) :: t) M := GG.getf h (κ := 0) (j := 3) (ci := 5) (N := 4) (C := RX5) (T := TX5) (ref := "MostSold$Sheets") (fs := fo_5) (fun f => f 3) (by decide) rfl fo_5_at (fun _ _ => rfl) (fun M hM => xwM32 hM rfl 3) (by decide) (xT_in 394 (by decide +kernel) (by decide +kernel)) rfl inT5 dd k
theorem fr_RX0_9 {θ : XΘ} {cc : ByteArray} {nn : Nat} {rm : Nat × Nat} {rc : Option FieldType} (h : Fx θ RX0 cc nn rm rc) {Γ : XG} {pc : Nat} (dd : decode cc pc = .ok (.getfield 9, 3)) {L : XL} {t : XT} {M : XM} {z : Int} (k : GG θ Γ (pc + 3) L ((2 + 4, 0) :: t) M) : GG θ Γ pc L ((67 + 4, z) :: t) M := GG.getf h (κ := 2 + 4) (j := 0) (ci := 0) (N := 8) (C := RX0) (T := TX0) (ref := "MostSold$Doubts") (fs := fo_0) (fun _ => 0) (by decide) rfl fo_0_at (fun _ _ => rfl) (fun _ _ => trivial) (by decide) (xT_in 331 (by decide +kernel) (by decide +kernel)) rfl inT0 dd k
theorem fr_RX0_15 {θ : XΘ} {cc : ByteArray} {nn : Nat} {rm : Nat × Nat} {rc : Option FieldType} (h : Fx θ RX0 cc nn rm rc) {Γ : XG} {pc : Nat} (dd : decode cc pc = .ok (.getfield 15, 3)) {L : XL} {t : XT} {M : XM} {z : Int} (k : GG θ Γ (pc + 3) L ((13 + 4, 0) :: t) M) : GG θ Γ pc L ((67 + 4, z) :: t) M := GG.getf h (κ := 13 + 4) (j := 1) (ci := 0) (N := 8) (C := RX0) (T := TX0) (ref := "MostSold$Doubts") (fs := fo_0) (fun _ => 0) (by decide) rfl fo_0_at (fun _ _ => rfl) (fun _ _ => trivial) (by decide) (xT_in 332 (by decide +kernel) (by decide +kernel)) rfl inT0 dd k
theorem fr_RX0_19 {θ : XΘ} {cc : ByteArray} {nn : Nat} {rm : Nat × Nat} {rc : Option FieldType} (h : Fx θ RX0 cc nn rm rc) {Γ : XG} {pc : Nat} (dd : decode cc pc = .ok (.getfield 19, 3)) {L : XL} {t : XT} {M : XM} {z : Int} (k : GG θ Γ (pc + 3) L ((68 + 4, 0) :: t) M) : GG θ Γ pc L ((67 + 4, z) :: t) M := GG.getf h (κ := 68 + 4) (j := 2) (ci := 0) (N := 8) (C := RX0) (T := TX0) (ref := "MostSold$Doubts") (fs := fo_0) (fun _ => 0) (by decide) rfl fo_0_at (fun _ _ => rfl) (fun _ _ => trivial) (by decide) (xT_in 333 (by decide +kernel) (by decide +kernel)) rfl inT0 dd k
theorem fr_RX0_23 {θ : XΘ} {cc : ByteArray} {nn : Nat} {rm : Nat × Nat} {rc : Option FieldType} (h : Fx θ RX0 cc nn rm rc) {Γ : XG} {pc : Nat} (dd : decode cc pc = .ok (.getfield 23, 3)) {L : XL} {t : XT} {M : XM} {z : Int} (k : GG θ Γ (pc + 3) L ((0, M 67 5) :: t) M) : GG θ Γ pc L ((67 + 4, z) :: t) M := GG.getf h (κ := 0) (j := 5) (ci := 0) (N := 8) (C := RX0) (T := TX0) (ref := "MostSold$Doubts") (fs := fo_0) (fun f => f 5) (by decide) rfl fo_0_at (fun _ _ => rfl) (fun M hM => xwM32 hM rfl 5) (by decide) (xT_in 336 (by decide +kernel) (by decide +kernel)) rfl inT0 dd k
theorem fr_RX0_27 {θ : XΘ} {cc : ByteArray} {nn : Nat} {rm : Nat × Nat} {rc : Option FieldType} (h : Fx θ RX0 cc nn rm rc) {Γ : XG} {pc : Nat} (dd : decode cc pc = .ok (.getfield 27, 3)) {L : XL} {t : XT} {M : XM} {z : Int} (k : GG θ Γ (pc + 3) L ((0, M 67 3) :: t) M) : GG θ Γ pc L ((67 + 4, z) :: t) M := GG.getf h (κ := 0) (j := 3) (ci := 0) (N := 8) (C := RX0) (T := TX0) (ref := "MostSold$Doubts") (fs := fo_0) (fun f => f 3) (by decide) rfl fo_0_at (fun _ _ => rfl) (fun M hM => xwM32 hM rfl 3) (by decide) (xT_in 334 (by decide +kernel) (by decide +kernel)) rfl inT0 dd k
theorem fr_RX0_30 {θ : XΘ} {cc : ByteArray} {nn : Nat} {rm : Nat × Nat} {rc : Option FieldType} (h : Fx θ RX0 cc nn rm rc) {Γ : XG} {pc : Nat} (dd : decode cc pc = .ok (.getfield 30, 3)) {L : XL} {t : XT} {M : XM} {z : Int} (k : GG θ Γ (pc + 3) L ((0, M 13 0) :: t) M) : GG θ Γ pc L ((13 + 4, z) :: t) M := GG.getf h (κ := 0) (j := 0) (ci := 3) (N := 11) (C := RX3) (T := TX3) (ref := "MostSold$Ledger") (fs := fo_3) (fun f => f 0) (by decide) rfl fo_3_at (fun _ _ => rfl) (fun M hM => xwM32 hM rfl 0) (by decide) (xT_in 143 (by decide +kernel) (by decide +kernel)) rfl inT3 dd k
theorem fr_RX0_35 {θ : XΘ} {cc : ByteArray} {nn : Nat} {rm : Nat × Nat} {rc : Option FieldType} (h : Fx θ RX0 cc nn rm rc) {Γ : XG} {pc : Nat} (dd : decode cc pc = .ok (.getfield 35, 3)) {L : XL} {t : XT} {M : XM} {z : Int} (k : GG θ Γ (pc + 3) L ((15 + 4, 0) :: t) M) : GG θ Γ pc L ((13 + 4, z) :: t) M := GG.getf h (κ := 15 + 4) (j := 4) (ci := 3) (N := 11) (C := RX3) (T := TX3) (ref := "MostSold$Ledger") (fs := fo_3) (fun _ => 0) (by decide) rfl fo_3_at (fun _ _ => rfl) (fun _ _ => trivial) (by decide) (xT_in 158 (by decide +kernel) (by decide +kernel)) rfl inT3 dd k
theorem fr_RX0_45 {θ : XΘ} {cc : ByteArray} {nn : Nat} {rm : Nat × Nat} {rc : Option FieldType} (h : Fx θ RX0 cc nn rm rc) {Γ : XG} {pc : Nat} (dd : decode cc pc = .ok (.getfield 45, 3)) {L : XL} {t : XT} {M : XM} {z : Int} (k : GG θ Γ (pc + 3) L ((18 + 4, 0) :: t) M) : GG θ Γ pc L ((13 + 4, z) :: t) M := GG.getf h (κ := 18 + 4) (j := 7) (ci := 3) (N := 11) (C := RX3) (T := TX3) (ref := "MostSold$Ledger") (fs := fo_3) (fun _ => 0) (by decide) rfl fo_3_at (fun _ _ => rfl) (fun _ _ => trivial) (by decide) (xT_in 170 (by decide +kernel) (by decide +kernel)) rfl inT3 dd k
theorem fr_RX0_48 {θ : XΘ} {cc : ByteArray} {nn : Nat} {rm : Nat × Nat} {rc : Option FieldType} (h : Fx θ RX0 cc nn rm rc) {Γ : XG} {pc : Nat} (dd : decode cc pc = .ok (.getfield 48, 3)) {L : XL} {t : XT} {M : XM} {z : Int} (k : GG θ Γ (pc + 3) L ((6 + 4, 0) :: t) M) : GG θ Γ pc L ((2 + 4, z) :: t) M := GG.getf h (κ := 6 + 4) (j := 5) (ci := 7) (N := 14) (C := RX7) (T := TX7) (ref := "MostSold$Trade") (fs := fo_7) (fun _ => 0) (by decide) rfl fo_7_at (fun _ _ => rfl) (fun _ _ => trivial) (by decide) (xT_in 91 (by decide +kernel) (by decide +kernel)) rfl inT7 dd k
theorem fr_RX0_53 {θ : XΘ} {cc : ByteArray} {nn : Nat} {rm : Nat × Nat} {rc : Option FieldType} (h : Fx θ RX0 cc nn rm rc) {Γ : XG} {pc : Nat} (dd : decode cc pc = .ok (.getfield 53, 3)) {L : XL} {t : XT} {M : XM} {z : Int} (k : GG θ Γ (pc + 3) L ((0, M 67 4) :: t) M) : GG θ Γ pc L ((67 + 4, z) :: t) M := GG.getf h (κ := 0) (j := 4) (ci := 0) (N := 8) (C := RX0) (T := TX0) (ref := "MostSold$Doubts") (fs := fo_0) (fun f => f 4) (by decide) rfl fo_0_at (fun _ _ => rfl) (fun M hM => xwM32 hM rfl 4) (by decide) (xT_in 335 (by decide +kernel) (by decide +kernel)) rfl inT0 dd k
theorem fr_RX0_59 {θ : XΘ} {cc : ByteArray} {nn : Nat} {rm : Nat × Nat} {rc : Option FieldType} (h : Fx θ RX0 cc nn rm rc) {Γ : XG} {pc : Nat} (dd : decode cc pc = .ok (.getfield 59, 3)) {L : XL} {t : XT} {M : XM} {z : Int} (k : GG θ Γ (pc + 3) L ((19 + 4, 0) :: t) M) : GG θ Γ pc L ((13 + 4, z) :: t) M := GG.getf h (κ := 19 + 4) (j := 8) (ci := 3) (N := 11) (C := RX3) (T := TX3) (ref := "MostSold$Ledger") (fs := fo_3) (fun _ => 0) (by decide) rfl fo_3_at (fun _ _ => rfl) (fun _ _ => trivial) (by decide) (xT_in 175 (by decide +kernel) (by decide +kernel)) rfl inT3 dd k
theorem fr_RX0_65 {θ : XΘ} {cc : ByteArray} {nn : Nat} {rm : Nat × Nat} {rc : Option FieldType} (h : Fx θ RX0 cc nn rm rc) {Γ : XG} {pc : Nat} (dd : decode cc pc = .ok (.getfield 65, 3)) {L : XL} {t : XT} {M : XM} {z : Int} (k : GG θ Γ (pc + 3) L ((16 + 4, 0) :: t) M) : GG θ Γ pc L ((13 + 4, z) :: t) M := GG.getf h (κ := 16 + 4) (j := 5) (ci := 3) (N := 11) (C := RX3) (T := TX3) (ref := "MostSold$Ledger") (fs := fo_3) (fun _ => 0) (by decide) rfl fo_3_at (fun _ _ => rfl) (fun _ _ => trivial) (by decide) (xT_in 164 (by decide +kernel) (by decide +kernel)) rfl inT3 dd k
theorem fr_RX0_68 {θ : XΘ} {cc : ByteArray} {nn : Nat} {rm : Nat × Nat} {rc : Option FieldType} (h : Fx θ RX0 cc nn rm rc) {Γ : XG} {pc : Nat} (dd : decode cc pc = .ok (.getfield 68, 3)) {L : XL} {t : XT} {M : XM} {z : Int} (k : GG θ Γ (pc + 3) L ((4 + 4, 0) :: t) M) : GG θ Γ pc L ((2 + 4, z) :: t) M := GG.getf h (κ := 4 + 4) (j := 3) (ci := 7) (N := 14) (C := RX7) (T := TX7) (ref := "MostSold$Trade") (fs := fo_7) (fun _ => 0) (by decide) rfl fo_7_at (fun _ _ => rfl) (fun _ _ => trivial) (by decide) (xT_in 86 (by decide +kernel) (by decide +kernel)) rfl inT7 dd k
theorem fr_RX0_71 {θ : XΘ} {cc : ByteArray} {nn : Nat} {rm : Nat × Nat} {rc : Option FieldType} (h : Fx θ RX0 cc nn rm rc) {Γ : XG} {pc : Nat} (dd : decode cc pc = .ok (.getfield 71, 3)) {L : XL} {t : XT} {M : XM} {z : Int} (k : GG θ Γ (pc + 3) L ((14 + 4, 0) :: t) M) : GG θ Γ pc L ((13 + 4, z) :: t) M := GG.getf h (κ := 14 + 4) (j := 3) (ci := 3) (N := 11) (C := RX3) (T := TX3) (ref := "MostSold$Ledger") (fs := fo_3) (fun _ => 0) (by decide) rfl fo_3_at (fun _ _ => rfl) (fun _ _ => trivial) (by decide) (xT_in 155 (by decide +kernel) (by decide +kernel)) rfl inT3 dd k
theorem fr_RX0_78 {θ : XΘ} {cc : ByteArray} {nn : Nat} {rm : Nat × Nat} {rc : Option FieldType} (h : Fx θ RX0 cc nn rm rc) {Γ : XG} {pc : Nat} (dd : decode cc pc = .ok (.getfield 78, 3)) {L : XL} {t : XT} {M : XM} {z : Int} (k : GG θ Γ (pc + 3) L ((3 + 4, 0) :: t) M) : GG θ Γ pc L ((2 + 4, z) :: t) M := GG.getf h (κ := 3 + 4) (j := 1) (ci := 7) (N := 14) (C := RX7) (T := TX7) (ref := "MostSold$Trade") (fs := fo_7) (fun _ => 0) (by decide) rfl fo_7_at (fun _ _ => rfl) (fun _ _ => trivial) (by decide) (xT_in 80 (by decide +kernel) (by decide +kernel)) rfl inT7 dd k
theorem fr_RX0_81 {θ : XΘ} {cc : ByteArray} {nn : Nat} {rm : Nat × Nat} {rc : Option FieldType} (h : Fx θ RX0 cc nn rm rc) {Γ : XG} {pc : Nat} (dd : decode cc pc = .ok (.getfield 81, 3)) {L : XL} {t : XT} {M : XM} {z : Int} (k : GG θ Γ (pc + 3) L ((0, M 67 6) :: t) M) : GG θ Γ pc L ((67 + 4, z) :: t) M := GG.getf h (κ := 0) (j := 6) (ci := 0) (N := 8) (C := RX0) (T := TX0) (ref := "MostSold$Doubts") (fs := fo_0) (fun f => f 6) (by decide) rfl fo_0_at (fun _ _ => rfl) (fun M hM => xwM32 hM rfl 6) (by decide) (xT_in 338 (by decide +kernel) (by decide +kernel)) rfl inT0 dd k
theorem fr_RX0_84 {θ : XΘ} {cc : ByteArray} {nn : Nat} {rm : Nat × Nat} {rc : Option FieldType} (h : Fx θ RX0 cc nn rm rc) {Γ : XG} {pc : Nat} (dd : decode cc pc = .ok (.getfield 84, 3)) {L : XL} {t : XT} {M : XM} {z : Int} (k : GG θ Γ (pc + 3) L ((0, M 67 7) :: t) M) : GG θ Γ pc L ((67 + 4, z) :: t) M := GG.getf h (κ := 0) (j := 7) (ci := 0) (N := 8) (C := RX0) (T := TX0) (ref := "MostSold$Doubts") (fs := fo_0) (fun f => f 7) (by decide) rfl fo_0_at (fun _ _ => rfl) (fun M hM => xwM32 hM rfl 7) (by decide) (xT_in 340 (by decide +kernel) (by decide +kernel)) rfl inT0 dd k
theorem fr_RX1_9 {θ : XΘ} {cc : ByteArray} {nn : Nat} {rm : Nat × Nat} {rc : Option FieldType} (h : Fx θ RX1 cc nn rm rc) {Γ : XG} {pc : Nat} (dd : decode cc pc = .ok (.getfield 9, 3)) {L : XL} {t : XT} {M : XM} {z : Int} (k : GG θ Γ (pc + 3) L ((70 + 4, 0) :: t) M) : GG θ Γ pc L ((69 + 4, z) :: t) M := GG.getf h (κ := 70 + 4) (j := 0) (ci := 1) (N := 5) (C := RX1) (T := TX1) (ref := "MostSold$Errand") (fs := fo_1) (fun _ => 0) (by decide) rfl fo_1_at (fun _ _ => rfl) (fun _ _ => trivial) (by decide) (xT_in 364 (by decide +kernel) (by decide +kernel)) rfl inT1 dd k
theorem fr_RX1_15 {θ : XΘ} {cc : ByteArray} {nn : Nat} {rm : Nat × Nat} {rc : Option FieldType} (h : Fx θ RX1 cc nn rm rc) {Γ : XG} {pc : Nat} (dd : decode cc pc = .ok (.getfield 15, 3)) {L : XL} {t : XT} {M : XM} {z : Int} (k : GG θ Γ (pc + 3) L ((71 + 4, 0) :: t) M) : GG θ Γ pc L ((69 + 4, z) :: t) M := GG.getf h (κ := 71 + 4) (j := 1) (ci := 1) (N := 5) (C := RX1) (T := TX1) (ref := "MostSold$Errand") (fs := fo_1) (fun _ => 0) (by decide) rfl fo_1_at (fun _ _ => rfl) (fun _ _ => trivial) (by decide) (xT_in 365 (by decide +kernel) (by decide +kernel)) rfl inT1 dd k
theorem fr_RX1_19 {θ : XΘ} {cc : ByteArray} {nn : Nat} {rm : Nat × Nat} {rc : Option FieldType} (h : Fx θ RX1 cc nn rm rc) {Γ : XG} {pc : Nat} (dd : decode cc pc = .ok (.getfield 19, 3)) {L : XL} {t : XT} {M : XM} {z : Int} (k : GG θ Γ (pc + 3) L ((72 + 4, 0) :: t) M) : GG θ Γ pc L ((69 + 4, z) :: t) M := GG.getf h (κ := 72 + 4) (j := 2) (ci := 1) (N := 5) (C := RX1) (T := TX1) (ref := "MostSold$Errand") (fs := fo_1) (fun _ => 0) (by decide) rfl fo_1_at (fun _ _ => rfl) (fun _ _ => trivial) (by decide) (xT_in 366 (by decide +kernel) (by decide +kernel)) rfl inT1 dd k
theorem fr_RX1_22 {θ : XΘ} {cc : ByteArray} {nn : Nat} {rm : Nat × Nat} {rc : Option FieldType} (h : Fx θ RX1 cc nn rm rc) {Γ : XG} {pc : Nat} (dd : decode cc pc = .ok (.getfield 22, 3)) {L : XL} {t : XT} {M : XM} {z : Int} (k : GG θ Γ (pc + 3) L ((0, M 69 3) :: t) M) : GG θ Γ pc L ((69 + 4, z) :: t) M := GG.getf h (κ := 0) (j := 3) (ci := 1) (N := 5) (C := RX1) (T := TX1) (ref := "MostSold$Errand") (fs := fo_1) (fun f => f 3) (by decide) rfl fo_1_at (fun _ _ => rfl) (fun M hM => xwM32 hM rfl 3) (by decide) (xT_in 367 (by decide +kernel) (by decide +kernel)) rfl inT1 dd k
theorem fr_RX1_26 {θ : XΘ} {cc : ByteArray} {nn : Nat} {rm : Nat × Nat} {rc : Option FieldType} (h : Fx θ RX1 cc nn rm rc) {Γ : XG} {pc : Nat} (dd : decode cc pc = .ok (.getfield 26, 3)) {L : XL} {t : XT} {M : XM} {z : Int} (k : GG θ Γ (pc + 3) L ((0, M 69 4) :: t) M) : GG θ Γ pc L ((69 + 4, z) :: t) M := GG.getf h (κ := 0) (j := 4) (ci := 1) (N := 5) (C := RX1) (T := TX1) (ref := "MostSold$Errand") (fs := fo_1) (fun f => f 4) (by decide) rfl fo_1_at (fun _ _ => rfl) (fun M hM => xwM32 hM rfl 4) (by decide) (xT_in 368 (by decide +kernel) (by decide +kernel)) rfl inT1 dd k
theorem fr_RX2_9 {θ : XΘ} {cc : ByteArray} {nn : Nat} {rm : Nat × Nat} {rc : Option FieldType} (h : Fx θ RX2 cc nn rm rc) {Γ : XG} {pc : Nat} (dd : decode cc pc = .ok (.getfield 9, 3)) {L : XL} {t : XT} {M : XM} {z : Int} (k : GG θ Γ (pc + 3) L ((13 + 4, 0) :: t) M) : GG θ Γ pc L ((39 + 4, z) :: t) M := GG.getf h (κ := 13 + 4) (j := 0) (ci := 2) (N := 4) (C := RX2) (T := TX2) (ref := "MostSold$Habits") (fs := fo_2) (fun _ => 0) (by decide) rfl fo_2_at (fun _ _ => rfl) (fun _ _ => trivial) (by decide) (xT_in 311 (by decide +kernel) (by decide +kernel)) rfl inT2 dd k
theorem fr_RX2_15 {θ : XΘ} {cc : ByteArray} {nn : Nat} {rm : Nat × Nat} {rc : Option FieldType} (h : Fx θ RX2 cc nn rm rc) {Γ : XG} {pc : Nat} (dd : decode cc pc = .ok (.getfield 15, 3)) {L : XL} {t : XT} {M : XM} {z : Int} (k : GG θ Γ (pc + 3) L ((22 + 4, 0) :: t) M) : GG θ Γ pc L ((39 + 4, z) :: t) M := GG.getf h (κ := 22 + 4) (j := 1) (ci := 2) (N := 4) (C := RX2) (T := TX2) (ref := "MostSold$Habits") (fs := fo_2) (fun _ => 0) (by decide) rfl fo_2_at (fun _ _ => rfl) (fun _ _ => trivial) (by decide) (xT_in 312 (by decide +kernel) (by decide +kernel)) rfl inT2 dd k
theorem fr_RX2_19 {θ : XΘ} {cc : ByteArray} {nn : Nat} {rm : Nat × Nat} {rc : Option FieldType} (h : Fx θ RX2 cc nn rm rc) {Γ : XG} {pc : Nat} (dd : decode cc pc = .ok (.getfield 19, 3)) {L : XL} {t : XT} {M : XM} {z : Int} (k : GG θ Γ (pc + 3) L ((40 + 4, 0) :: t) M) : GG θ Γ pc L ((39 + 4, z) :: t) M := GG.getf h (κ := 40 + 4) (j := 2) (ci := 2) (N := 4) (C := RX2) (T := TX2) (ref := "MostSold$Habits") (fs := fo_2) (fun _ => 0) (by decide) rfl fo_2_at (fun _ _ => rfl) (fun _ _ => trivial) (by decide) (xT_in 313 (by decide +kernel) (by decide +kernel)) rfl inT2 dd k
theorem fr_RX2_25 {θ : XΘ} {cc : ByteArray} {nn : Nat} {rm : Nat × Nat} {rc : Option FieldType} (h : Fx θ RX2 cc nn rm rc) {Γ : XG} {pc : Nat} (dd : decode cc pc = .ok (.getfield 25, 3)) {L : XL} {t : XT} {M : XM} {z : Int} (k : GG θ Γ (pc + 3) L ((41 + 4, 0) :: t) M) : GG θ Γ pc L ((39 + 4, z) :: t) M := GG.getf h (κ := 41 + 4) (j := 3) (ci := 2) (N := 4) (C := RX2) (T := TX2) (ref := "MostSold$Habits") (fs := fo_2) (fun _ => 0) (by decide) rfl fo_2_at (fun _ _ => rfl) (fun _ _ => trivial) (by decide) (xT_in 315 (by decide +kernel) (by decide +kernel)) rfl inT2 dd k
theorem fr_RX2_34 {θ : XΘ} {cc : ByteArray} {nn : Nat} {rm : Nat × Nat} {rc : Option FieldType} (h : Fx θ RX2 cc nn rm rc) {Γ : XG} {pc : Nat} (dd : decode cc pc = .ok (.getfield 34, 3)) {L : XL} {t : XT} {M : XM} {z : Int} (k : GG θ Γ (pc + 3) L ((0, M 13 0) :: t) M) : GG θ Γ pc L ((13 + 4, z) :: t) M := GG.getf h (κ := 0) (j := 0) (ci := 3) (N := 11) (C := RX3) (T := TX3) (ref := "MostSold$Ledger") (fs := fo_3) (fun f => f 0) (by decide) rfl fo_3_at (fun _ _ => rfl) (fun M hM => xwM32 hM rfl 0) (by decide) (xT_in 144 (by decide +kernel) (by decide +kernel)) rfl inT3 dd k
theorem fr_RX2_40 {θ : XΘ} {cc : ByteArray} {nn : Nat} {rm : Nat × Nat} {rc : Option FieldType} (h : Fx θ RX2 cc nn rm rc) {Γ : XG} {pc : Nat} (dd : decode cc pc = .ok (.getfield 40, 3)) {L : XL} {t : XT} {M : XM} {z : Int} (k : GG θ Γ (pc + 3) L ((16 + 4, 0) :: t) M) : GG θ Γ pc L ((13 + 4, z) :: t) M := GG.getf h (κ := 16 + 4) (j := 5) (ci := 3) (N := 11) (C := RX3) (T := TX3) (ref := "MostSold$Ledger") (fs := fo_3) (fun _ => 0) (by decide) rfl fo_3_at (fun _ _ => rfl) (fun _ _ => trivial) (by decide) (xT_in 162 (by decide +kernel) (by decide +kernel)) rfl inT3 dd k
theorem fr_RX2_43 {θ : XΘ} {cc : ByteArray} {nn : Nat} {rm : Nat × Nat} {rc : Option FieldType} (h : Fx θ RX2 cc nn rm rc) {Γ : XG} {pc : Nat} (dd : decode cc pc = .ok (.getfield 43, 3)) {L : XL} {t : XT} {M : XM} {z : Int} (k : GG θ Γ (pc + 3) L ((19 + 4, 0) :: t) M) : GG θ Γ pc L ((13 + 4, z) :: t) M := GG.getf h (κ := 19 + 4) (j := 8) (ci := 3) (N := 11) (C := RX3) (T := TX3) (ref := "MostSold$Ledger") (fs := fo_3) (fun _ => 0) (by decide) rfl fo_3_at (fun _ _ => rfl) (fun _ _ => trivial) (by decide) (xT_in 174 (by decide +kernel) (by decide +kernel)) rfl inT3 dd k
theorem fr_RX2_50 {θ : XΘ} {cc : ByteArray} {nn : Nat} {rm : Nat × Nat} {rc : Option FieldType} (h : Fx θ RX2 cc nn rm rc) {Γ : XG} {pc : Nat} (dd : decode cc pc = .ok (.getfield 50, 3)) {L : XL} {t : XT} {M : XM} {z : Int} (k : GG θ Γ (pc + 3) L ((14 + 4, 0) :: t) M) : GG θ Γ pc L ((13 + 4, z) :: t) M := GG.getf h (κ := 14 + 4) (j := 3) (ci := 3) (N := 11) (C := RX3) (T := TX3) (ref := "MostSold$Ledger") (fs := fo_3) (fun _ => 0) (by decide) rfl fo_3_at (fun _ _ => rfl) (fun _ _ => trivial) (by decide) (xT_in 153 (by decide +kernel) (by decide +kernel)) rfl inT3 dd k
theorem fr_RX2_53 {θ : XΘ} {cc : ByteArray} {nn : Nat} {rm : Nat × Nat} {rc : Option FieldType} (h : Fx θ RX2 cc nn rm rc) {Γ : XG} {pc : Nat} (dd : decode cc pc = .ok (.getfield 53, 3)) {L : XL} {t : XT} {M : XM} {z : Int} (k : GG θ Γ (pc + 3) L ((17 + 4, 0) :: t) M) : GG θ Γ pc L ((13 + 4, z) :: t) M := GG.getf h (κ := 17 + 4) (j := 6) (ci := 3) (N := 11) (C := RX3) (T := TX3) (ref := "MostSold$Ledger") (fs := fo_3) (fun _ => 0) (by decide) rfl fo_3_at (fun _ _ => rfl) (fun _ _ => trivial) (by decide) (xT_in 167 (by decide +kernel) (by decide +kernel)) rfl inT3 dd k
theorem fr_RX3_9 {θ : XΘ} {cc : ByteArray} {nn : Nat} {rm : Nat × Nat} {rc : Option FieldType} (h : Fx θ RX3 cc nn rm rc) {Γ : XG} {pc : Nat} (dd : decode cc pc = .ok (.getfield 9, 3)) {L : XL} {t : XT} {M : XM} {z : Int} (k : GG θ Γ (pc + 3) L ((0, M 13 1) :: t) M) : GG θ Γ pc L ((13 + 4, z) :: t) M := GG.getf h (κ := 0) (j := 1) (ci := 3) (N := 11) (C := RX3) (T := TX3) (ref := "MostSold$Ledger") (fs := fo_3) (fun f => f 1) (by decide) rfl fo_3_at (fun _ _ => rfl) (fun M hM => xwM32 hM rfl 1) (by decide) (xT_in 147 (by decide +kernel) (by decide +kernel)) rfl inT3 dd k
theorem fr_RX3_15 {θ : XΘ} {cc : ByteArray} {nn : Nat} {rm : Nat × Nat} {rc : Option FieldType} (h : Fx θ RX3 cc nn rm rc) {Γ : XG} {pc : Nat} (dd : decode cc pc = .ok (.getfield 15, 3)) {L : XL} {t : XT} {M : XM} {z : Int} (k : GG θ Γ (pc + 3) L ((0, M 13 2) :: t) M) : GG θ Γ pc L ((13 + 4, z) :: t) M := GG.getf h (κ := 0) (j := 2) (ci := 3) (N := 11) (C := RX3) (T := TX3) (ref := "MostSold$Ledger") (fs := fo_3) (fun f => f 2) (by decide) rfl fo_3_at (fun _ _ => rfl) (fun M hM => xwM32 hM rfl 2) (by decide) (xT_in 150 (by decide +kernel) (by decide +kernel)) rfl inT3 dd k
theorem fr_RX3_18 {θ : XΘ} {cc : ByteArray} {nn : Nat} {rm : Nat × Nat} {rc : Option FieldType} (h : Fx θ RX3 cc nn rm rc) {Γ : XG} {pc : Nat} (dd : decode cc pc = .ok (.getfield 18, 3)) {L : XL} {t : XT} {M : XM} {z : Int} (k : GG θ Γ (pc + 3) L ((14 + 4, 0) :: t) M) : GG θ Γ pc L ((13 + 4, z) :: t) M := GG.getf h (κ := 14 + 4) (j := 3) (ci := 3) (N := 11) (C := RX3) (T := TX3) (ref := "MostSold$Ledger") (fs := fo_3) (fun _ => 0) (by decide) rfl fo_3_at (fun _ _ => rfl) (fun _ _ => trivial) (by decide) (xT_in 152 (by decide +kernel) (by decide +kernel)) rfl inT3 dd k
theorem fr_RX3_22 {θ : XΘ} {cc : ByteArray} {nn : Nat} {rm : Nat × Nat} {rc : Option FieldType} (h : Fx θ RX3 cc nn rm rc) {Γ : XG} {pc : Nat} (dd : decode cc pc = .ok (.getfield 22, 3)) {L : XL} {t : XT} {M : XM} {z : Int} (k : GG θ Γ (pc + 3) L ((15 + 4, 0) :: t) M) : GG θ Γ pc L ((13 + 4, z) :: t) M := GG.getf h (κ := 15 + 4) (j := 4) (ci := 3) (N := 11) (C := RX3) (T := TX3) (ref := "MostSold$Ledger") (fs := fo_3) (fun _ => 0) (by decide) rfl fo_3_at (fun _ _ => rfl) (fun _ _ => trivial) (by decide) (xT_in 157 (by decide +kernel) (by decide +kernel)) rfl inT3 dd k
theorem fr_RX3_25 {θ : XΘ} {cc : ByteArray} {nn : Nat} {rm : Nat × Nat} {rc : Option FieldType} (h : Fx θ RX3 cc nn rm rc) {Γ : XG} {pc : Nat} (dd : decode cc pc = .ok (.getfield 25, 3)) {L : XL} {t : XT} {M : XM} {z : Int} (k : GG θ Γ (pc + 3) L ((16 + 4, 0) :: t) M) : GG θ Γ pc L ((13 + 4, z) :: t) M := GG.getf h (κ := 16 + 4) (j := 5) (ci := 3) (N := 11) (C := RX3) (T := TX3) (ref := "MostSold$Ledger") (fs := fo_3) (fun _ => 0) (by decide) rfl fo_3_at (fun _ _ => rfl) (fun _ _ => trivial) (by decide) (xT_in 161 (by decide +kernel) (by decide +kernel)) rfl inT3 dd k
theorem fr_RX3_28 {θ : XΘ} {cc : ByteArray} {nn : Nat} {rm : Nat × Nat} {rc : Option FieldType} (h : Fx θ RX3 cc nn rm rc) {Γ : XG} {pc : Nat} (dd : decode cc pc = .ok (.getfield 28, 3)) {L : XL} {t : XT} {M : XM} {z : Int} (k : GG θ Γ (pc + 3) L ((17 + 4, 0) :: t) M) : GG θ Γ pc L ((13 + 4, z) :: t) M := GG.getf h (κ := 17 + 4) (j := 6) (ci := 3) (N := 11) (C := RX3) (T := TX3) (ref := "MostSold$Ledger") (fs := fo_3) (fun _ => 0) (by decide) rfl fo_3_at (fun _ _ => rfl) (fun _ _ => trivial) (by decide) (xT_in 166 (by decide +kernel) (by decide +kernel)) rfl inT3 dd k
theorem fr_RX3_31 {θ : XΘ} {cc : ByteArray} {nn : Nat} {rm : Nat × Nat} {rc : Option FieldType} (h : Fx θ RX3 cc nn rm rc) {Γ : XG} {pc : Nat} (dd : decode cc pc = .ok (.getfield 31, 3)) {L : XL} {t : XT} {M : XM} {z : Int} (k : GG θ Γ (pc + 3) L ((18 + 4, 0) :: t) M) : GG θ Γ pc L ((13 + 4, z) :: t) M := GG.getf h (κ := 18 + 4) (j := 7) (ci := 3) (N := 11) (C := RX3) (T := TX3) (ref := "MostSold$Ledger") (fs := fo_3) (fun _ => 0) (by decide) rfl fo_3_at (fun _ _ => rfl) (fun _ _ => trivial) (by decide) (xT_in 169 (by decide +kernel) (by decide +kernel)) rfl inT3 dd k
theorem fr_RX3_34 {θ : XΘ} {cc : ByteArray} {nn : Nat} {rm : Nat × Nat} {rc : Option FieldType} (h : Fx θ RX3 cc nn rm rc) {Γ : XG} {pc : Nat} (dd : decode cc pc = .ok (.getfield 34, 3)) {L : XL} {t : XT} {M : XM} {z : Int} (k : GG θ Γ (pc + 3) L ((19 + 4, 0) :: t) M) : GG θ Γ pc L ((13 + 4, z) :: t) M := GG.getf h (κ := 19 + 4) (j := 8) (ci := 3) (N := 11) (C := RX3) (T := TX3) (ref := "MostSold$Ledger") (fs := fo_3) (fun _ => 0) (by decide) rfl fo_3_at (fun _ _ => rfl) (fun _ _ => trivial) (by decide) (xT_in 173 (by decide +kernel) (by decide +kernel)) rfl inT3 dd k
theorem fr_RX3_37 {θ : XΘ} {cc : ByteArray} {nn : Nat} {rm : Nat × Nat} {rc : Option FieldType} (h : Fx θ RX3 cc nn rm rc) {Γ : XG} {pc : Nat} (dd : decode cc pc = .ok (.getfield 37, 3)) {L : XL} {t : XT} {M : XM} {z : Int} (k : GG θ Γ (pc + 3) L ((20 + 4, 0) :: t) M) : GG θ Γ pc L ((13 + 4, z) :: t) M := GG.getf h (κ := 20 + 4) (j := 9) (ci := 3) (N := 11) (C := RX3) (T := TX3) (ref := "MostSold$Ledger") (fs := fo_3) (fun _ => 0) (by decide) rfl fo_3_at (fun _ _ => rfl) (fun _ _ => trivial) (by decide) (xT_in 178 (by decide +kernel) (by decide +kernel)) rfl inT3 dd k
theorem fr_RX3_40 {θ : XΘ} {cc : ByteArray} {nn : Nat} {rm : Nat × Nat} {rc : Option FieldType} (h : Fx θ RX3 cc nn rm rc) {Γ : XG} {pc : Nat} (dd : decode cc pc = .ok (.getfield 40, 3)) {L : XL} {t : XT} {M : XM} {z : Int} (k : GG θ Γ (pc + 3) L ((21 + 4, 0) :: t) M) : GG θ Γ pc L ((13 + 4, z) :: t) M := GG.getf h (κ := 21 + 4) (j := 10) (ci := 3) (N := 11) (C := RX3) (T := TX3) (ref := "MostSold$Ledger") (fs := fo_3) (fun _ => 0) (by decide) rfl fo_3_at (fun _ _ => rfl) (fun _ _ => trivial) (by decide) (xT_in 180 (by decide +kernel) (by decide +kernel)) rfl inT3 dd k
theorem fr_RX3_43 {θ : XΘ} {cc : ByteArray} {nn : Nat} {rm : Nat × Nat} {rc : Option FieldType} (h : Fx θ RX3 cc nn rm rc) {Γ : XG} {pc : Nat} (dd : decode cc pc = .ok (.getfield 43, 3)) {L : XL} {t : XT} {M : XM} {z : Int} (k : GG θ Γ (pc + 3) L ((0, M 13 0) :: t) M) : GG θ Γ pc L ((13 + 4, z) :: t) M := GG.getf h (κ := 0) (j := 0) (ci := 3) (N := 11) (C := RX3) (T := TX3) (ref := "MostSold$Ledger") (fs := fo_3) (fun f => f 0) (by decide) rfl fo_3_at (fun _ _ => rfl) (fun M hM => xwM32 hM rfl 0) (by decide) (xT_in 142 (by decide +kernel) (by decide +kernel)) rfl inT3 dd k
theorem fr_RX3_54 {θ : XΘ} {cc : ByteArray} {nn : Nat} {rm : Nat × Nat} {rc : Option FieldType} (h : Fx θ RX3 cc nn rm rc) {Γ : XG} {pc : Nat} (dd : decode cc pc = .ok (.getfield 54, 3)) {L : XL} {t : XT} {M : XM} {z : Int} (k : GG θ Γ (pc + 3) L ((24 + 4, 0) :: t) M) : GG θ Γ pc L ((22 + 4, z) :: t) M := GG.getf h (κ := 24 + 4) (j := 3) (ci := 4) (N := 11) (C := RX4) (T := TX4) (ref := "MostSold$Rules") (fs := fo_4) (fun _ => 0) (by decide) rfl fo_4_at (fun _ _ => rfl) (fun _ _ => trivial) (by decide) (xT_in 218 (by decide +kernel) (by decide +kernel)) rfl inT4 dd k
theorem fr_RX4_11 {θ : XΘ} {cc : ByteArray} {nn : Nat} {rm : Nat × Nat} {rc : Option FieldType} (h : Fx θ RX4 cc nn rm rc) {Γ : XG} {pc : Nat} (dd : decode cc pc = .ok (.getfield 11, 3)) {L : XL} {t : XT} {M : XM} {z : Int} (k : GG θ Γ (pc + 3) L ((23 + 4, 0) :: t) M) : GG θ Γ pc L ((22 + 4, z) :: t) M := GG.getf h (κ := 23 + 4) (j := 0) (ci := 4) (N := 11) (C := RX4) (T := TX4) (ref := "MostSold$Rules") (fs := fo_4) (fun _ => 0) (by decide) rfl fo_4_at (fun _ _ => rfl) (fun _ _ => trivial) (by decide) (xT_in 211 (by decide +kernel) (by decide +kernel)) rfl inT4 dd k
theorem fr_RX4_15 {θ : XΘ} {cc : ByteArray} {nn : Nat} {rm : Nat × Nat} {rc : Option FieldType} (h : Fx θ RX4 cc nn rm rc) {Γ : XG} {pc : Nat} (dd : decode cc pc = .ok (.getfield 15, 3)) {L : XL} {t : XT} {M : XM} {z : Int} (k : GG θ Γ (pc + 3) L ((24 + 4, 0) :: t) M) : GG θ Γ pc L ((22 + 4, z) :: t) M := GG.getf h (κ := 24 + 4) (j := 3) (ci := 4) (N := 11) (C := RX4) (T := TX4) (ref := "MostSold$Rules") (fs := fo_4) (fun _ => 0) (by decide) rfl fo_4_at (fun _ _ => rfl) (fun _ _ => trivial) (by decide) (xT_in 216 (by decide +kernel) (by decide +kernel)) rfl inT4 dd k
theorem fr_RX4_18 {θ : XΘ} {cc : ByteArray} {nn : Nat} {rm : Nat × Nat} {rc : Option FieldType} (h : Fx θ RX4 cc nn rm rc) {Γ : XG} {pc : Nat} (dd : decode cc pc = .ok (.getfield 18, 3)) {L : XL} {t : XT} {M : XM} {z : Int} (k : GG θ Γ (pc + 3) L ((25 + 4, 0) :: t) M) : GG θ Γ pc L ((22 + 4, z) :: t) M := GG.getf h (κ := 25 + 4) (j := 4) (ci := 4) (N := 11) (C := RX4) (T := TX4) (ref := "MostSold$Rules") (fs := fo_4) (fun _ => 0) (by decide) rfl fo_4_at (fun _ _ => rfl) (fun _ _ => trivial) (by decide) (xT_in 220 (by decide +kernel) (by decide +kernel)) rfl inT4 dd k
theorem fr_RX4_21 {θ : XΘ} {cc : ByteArray} {nn : Nat} {rm : Nat × Nat} {rc : Option FieldType} (h : Fx θ RX4 cc nn rm rc) {Γ : XG} {pc : Nat} (dd : decode cc pc = .ok (.getfield 21, 3)) {L : XL} {t : XT} {M : XM} {z : Int} (k : GG θ Γ (pc + 3) L ((26 + 4, 0) :: t) M) : GG θ Γ pc L ((22 + 4, z) :: t) M := GG.getf h (κ := 26 + 4) (j := 5) (ci := 4) (N := 11) (C := RX4) (T := TX4) (ref := "MostSold$Rules") (fs := fo_4) (fun _ => 0) (by decide) rfl fo_4_at (fun _ _ => rfl) (fun _ _ => trivial) (by decide) (xT_in 222 (by decide +kernel) (by decide +kernel)) rfl inT4 dd k
theorem fr_RX4_24 {θ : XΘ} {cc : ByteArray} {nn : Nat} {rm : Nat × Nat} {rc : Option FieldType} (h : Fx θ RX4 cc nn rm rc) {Γ : XG} {pc : Nat} (dd : decode cc pc = .ok (.getfield 24, 3)) {L : XL} {t : XT} {M : XM} {z : Int} (k : GG θ Γ (pc + 3) L ((27 + 4, 0) :: t) M) : GG θ Γ pc L ((22 + 4, z) :: t) M := GG.getf h (κ := 27 + 4) (j := 6) (ci := 4) (N := 11) (C := RX4) (T := TX4) (ref := "MostSold$Rules") (fs := fo_4) (fun _ => 0) (by decide) rfl fo_4_at (fun _ _ => rfl) (fun _ _ => trivial) (by decide) (xT_in 223 (by decide +kernel) (by decide +kernel)) rfl inT4 dd k
theorem fr_RX4_27 {θ : XΘ} {cc : ByteArray} {nn : Nat} {rm : Nat × Nat} {rc : Option FieldType} (h : Fx θ RX4 cc nn rm rc) {Γ : XG} {pc : Nat} (dd : decode cc pc = .ok (.getfield 27, 3)) {L : XL} {t : XT} {M : XM} {z : Int} (k : GG θ Γ (pc + 3) L ((28 + 4, 0) :: t) M) : GG θ Γ pc L ((22 + 4, z) :: t) M := GG.getf h (κ := 28 + 4) (j := 7) (ci := 4) (N := 11) (C := RX4) (T := TX4) (ref := "MostSold$Rules") (fs := fo_4) (fun _ => 0) (by decide) rfl fo_4_at (fun _ _ => rfl) (fun _ _ => trivial) (by decide) (xT_in 224 (by decide +kernel) (by decide +kernel)) rfl inT4 dd k
theorem fr_RX4_30 {θ : XΘ} {cc : ByteArray} {nn : Nat} {rm : Nat × Nat} {rc : Option FieldType} (h : Fx θ RX4 cc nn rm rc) {Γ : XG} {pc : Nat} (dd : decode cc pc = .ok (.getfield 30, 3)) {L : XL} {t : XT} {M : XM} {z : Int} (k : GG θ Γ (pc + 3) L ((0, M 22 1) :: t) M) : GG θ Γ pc L ((22 + 4, z) :: t) M := GG.getf h (κ := 0) (j := 1) (ci := 4) (N := 11) (C := RX4) (T := TX4) (ref := "MostSold$Rules") (fs := fo_4) (fun f => f 1) (by decide) rfl fo_4_at (fun _ _ => rfl) (fun M hM => xwM32 hM rfl 1) (by decide) (xT_in 212 (by decide +kernel) (by decide +kernel)) rfl inT4 dd k
theorem fr_RX4_37 {θ : XΘ} {cc : ByteArray} {nn : Nat} {rm : Nat × Nat} {rc : Option FieldType} (h : Fx θ RX4 cc nn rm rc) {Γ : XG} {pc : Nat} (dd : decode cc pc = .ok (.getfield 37, 3)) {L : XL} {t : XT} {M : XM} {z : Int} (k : GG θ Γ (pc + 3) L ((0, M 22 2) :: t) M) : GG θ Γ pc L ((22 + 4, z) :: t) M := GG.getf h (κ := 0) (j := 2) (ci := 4) (N := 11) (C := RX4) (T := TX4) (ref := "MostSold$Rules") (fs := fo_4) (fun f => f 2) (by decide) rfl fo_4_at (fun _ _ => rfl) (fun M hM => xwM32 hM rfl 2) (by decide) (xT_in 214 (by decide +kernel) (by decide +kernel)) rfl inT4 dd k
theorem fr_RX4_40 {θ : XΘ} {cc : ByteArray} {nn : Nat} {rm : Nat × Nat} {rc : Option FieldType} (h : Fx θ RX4 cc nn rm rc) {Γ : XG} {pc : Nat} (dd : decode cc pc = .ok (.getfield 40, 3)) {L : XL} {t : XT} {M : XM} {z : Int} (k : GG θ Γ (pc + 3) L ((0, M 22 8) :: t) M) : GG θ Γ pc L ((22 + 4, z) :: t) M := GG.getf h (κ := 0) (j := 8) (ci := 4) (N := 11) (C := RX4) (T := TX4) (ref := "MostSold$Rules") (fs := fo_4) (fun f => f 8) (by decide) rfl fo_4_at (fun _ _ => rfl) (fun M hM => xwM32 hM rfl 8) (by decide) (xT_in 225 (by decide +kernel) (by decide +kernel)) rfl inT4 dd k
theorem fr_RX4_43 {θ : XΘ} {cc : ByteArray} {nn : Nat} {rm : Nat × Nat} {rc : Option FieldType} (h : Fx θ RX4 cc nn rm rc) {Γ : XG} {pc : Nat} (dd : decode cc pc = .ok (.getfield 43, 3)) {L : XL} {t : XT} {M : XM} {z : Int} (k : GG θ Γ (pc + 3) L ((0, M 22 9) :: t) M) : GG θ Γ pc L ((22 + 4, z) :: t) M := GG.getf h (κ := 0) (j := 9) (ci := 4) (N := 11) (C := RX4) (T := TX4) (ref := "MostSold$Rules") (fs := fo_4) (fun f => f 9) (by decide) rfl fo_4_at (fun _ _ => rfl) (fun M hM => xwM32 hM rfl 9) (by decide) (xT_in 226 (by decide +kernel) (by decide +kernel)) rfl inT4 dd k
theorem fr_RX4_49 {θ : XΘ} {cc : ByteArray} {nn : Nat} {rm : Nat × Nat} {rc : Option FieldType} (h : Fx θ RX4 cc nn rm rc) {Γ : XG} {pc : Nat} (dd : decode cc pc = .ok (.getfield 49, 3)) {L : XL} {t : XT} {M : XM} {z : Int} (k : GG θ Γ (pc + 3) L ((0, M 22 10) :: t) M) : GG θ Γ pc L ((22 + 4, z) :: t) M := GG.getf h (κ := 0) (j := 10) (ci := 4) (N := 11) (C := RX4) (T := TX4) (ref := "MostSold$Rules") (fs := fo_4) (fun f => f 10) (by decide) rfl fo_4_at (fun _ _ => rfl) (fun M hM => xwM32 hM rfl 10) (by decide) (xT_in 227 (by decide +kernel) (by decide +kernel)) rfl inT4 dd k
theorem fr_RX5_13 {θ : XΘ} {cc : ByteArray} {nn : Nat} {rm : Nat × Nat} {rc : Option FieldType} (h : Fx θ RX5 cc nn rm rc) {Γ : XG} {pc : Nat} (dd : decode cc pc = .ok (.getfield 13, 3)) {L : XL} {t : XT} {M : XM} {z : Int} (k : GG θ Γ (pc + 3) L ((74 + 4, 0) :: t) M) : GG θ Γ pc L ((73 + 4, z) :: t) M := GG.getf h (κ := 74 + 4) (j := 0) (ci := 5) (N := 4) (C := RX5) (T := TX5) (ref := "MostSold$Sheets") (fs := fo_5) (fun _ => 0) (by decide) rfl fo_5_at (fun _ _ => rfl) (fun _ _ => trivial) (by decide) (xT_in 387 (by decide +kernel) (by decide +kernel)) rfl inT5 dd k
theorem fr_RX5_16 {θ : XΘ} {cc : ByteArray} {nn : Nat} {rm : Nat × Nat} {rc : Option FieldType} (h : Fx θ RX5 cc nn rm rc) {Γ : XG} {pc : Nat} (dd : decode cc pc = .ok (.getfield 16, 3)) {L : XL} {t : XT} {M : XM} {z : Int} (k : GG θ Γ (pc + 3) L ((79 + 4, 0) :: t) M) : GG θ Γ pc L ((73 + 4, z) :: t) M := GG.getf h (κ := 79 + 4) (j := 1) (ci := 5) (N := 4) (C := RX5) (T := TX5) (ref := "MostSold$Sheets") (fs := fo_5) (fun _ => 0) (by decide) rfl fo_5_at (fun _ _ => rfl) (fun _ _ => trivial) (by decide) (xT_in 389 (by decide +kernel) (by decide +kernel)) rfl inT5 dd k
theorem fr_RX5_20 {θ : XΘ} {cc : ByteArray} {nn : Nat} {rm : Nat × Nat} {rc : Option FieldType} (h : Fx θ RX5 cc nn rm rc) {Γ : XG} {pc : Nat} (dd : decode cc pc = .ok (.getfield 20, 3)) {L : XL} {t : XT} {M : XM} {z : Int} (k : GG θ Γ (pc + 3) L ((80 + 4, 0) :: t) M) : GG θ Γ pc L ((73 + 4, z) :: t) M := GG.getf h (κ := 80 + 4) (j := 2) (ci := 5) (N := 4) (C := RX5) (T := TX5) (ref := "MostSold$Sheets") (fs := fo_5) (fun _ => 0) (by decide) rfl fo_5_at (fun _ _ => rfl) (fun _ _ => trivial) (by decide) (xT_in 391 (by decide +kernel) (by decide +kernel)) rfl inT5 dd k
theorem fr_RX6_9 {θ : XΘ} {cc : ByteArray} {nn : Nat} {rm : Nat × Nat} {rc : Option FieldType} (h : Fx θ RX6 cc nn rm rc) {Γ : XG} {pc : Nat} (dd : decode cc pc = .ok (.getfield 9, 3)) {L : XL} {t : XT} {M : XM} {z : Int} (k : GG θ Γ (pc + 3) L ((2 + 4, 0) :: t) M) : GG θ Γ pc L ((29 + 4, z) :: t) M := GG.getf h (κ := 2 + 4) (j := 0) (ci := 6) (N := 13) (C := RX6) (T := TX6) (ref := "MostSold$Tally") (fs := fo_6) (fun _ => 0) (by decide) rfl fo_6_at (fun _ _ => rfl) (fun _ _ => trivial) (by decide) (xT_in 257 (by decide +kernel) (by decide +kernel)) rfl inT6 dd k
theorem fr_RX6_15 {θ : XΘ} {cc : ByteArray} {nn : Nat} {rm : Nat × Nat} {rc : Option FieldType} (h : Fx θ RX6 cc nn rm rc) {Γ : XG} {pc : Nat} (dd : decode cc pc = .ok (.getfield 15, 3)) {L : XL} {t : XT} {M : XM} {z : Int} (k : GG θ Γ (pc + 3) L ((13 + 4, 0) :: t) M) : GG θ Γ pc L ((29 + 4, z) :: t) M := GG.getf h (κ := 13 + 4) (j := 1) (ci := 6) (N := 13) (C := RX6) (T := TX6) (ref := "MostSold$Tally") (fs := fo_6) (fun _ => 0) (by decide) rfl fo_6_at (fun _ _ => rfl) (fun _ _ => trivial) (by decide) (xT_in 258 (by decide +kernel) (by decide +kernel)) rfl inT6 dd k
theorem fr_RX6_19 {θ : XΘ} {cc : ByteArray} {nn : Nat} {rm : Nat × Nat} {rc : Option FieldType} (h : Fx θ RX6 cc nn rm rc) {Γ : XG} {pc : Nat} (dd : decode cc pc = .ok (.getfield 19, 3)) {L : XL} {t : XT} {M : XM} {z : Int} (k : GG θ Γ (pc + 3) L ((22 + 4, 0) :: t) M) : GG θ Γ pc L ((29 + 4, z) :: t) M := GG.getf h (κ := 22 + 4) (j := 2) (ci := 6) (N := 13) (C := RX6) (T := TX6) (ref := "MostSold$Tally") (fs := fo_6) (fun _ => 0) (by decide) rfl fo_6_at (fun _ _ => rfl) (fun _ _ => trivial) (by decide) (xT_in 259 (by decide +kernel) (by decide +kernel)) rfl inT6 dd k
theorem fr_RX6_23 {θ : XΘ} {cc : ByteArray} {nn : Nat} {rm : Nat × Nat} {rc : Option FieldType} (h : Fx θ RX6 cc nn rm rc) {Γ : XG} {pc : Nat} (dd : decode cc pc = .ok (.getfield 23, 3)) {L : XL} {t : XT} {M : XM} {z : Int} (k : GG θ Γ (pc + 3) L ((30 + 4, 0) :: t) M) : GG θ Γ pc L ((29 + 4, z) :: t) M := GG.getf h (κ := 30 + 4) (j := 3) (ci := 6) (N := 13) (C := RX6) (T := TX6) (ref := "MostSold$Tally") (fs := fo_6) (fun _ => 0) (by decide) rfl fo_6_at (fun _ _ => rfl) (fun _ _ => trivial) (by decide) (xT_in 260 (by decide +kernel) (by decide +kernel)) rfl inT6 dd k
theorem fr_RX6_27 {θ : XΘ} {cc : ByteArray} {nn : Nat} {rm : Nat × Nat} {rc : Option FieldType} (h : Fx θ RX6 cc nn rm rc) {Γ : XG} {pc : Nat} (dd : decode cc pc = .ok (.getfield 27, 3)) {L : XL} {t : XT} {M : XM} {z : Int} (k : GG θ Γ (pc + 3) L ((31 + 4, 0) :: t) M) : GG θ Γ pc L ((29 + 4, z) :: t) M := GG.getf h (κ := 31 + 4) (j := 4) (ci := 6) (N := 13) (C := RX6) (T := TX6) (ref := "MostSold$Tally") (fs := fo_6) (fun _ => 0) (by decide) rfl fo_6_at (fun _ _ => rfl) (fun _ _ => trivial) (by decide) (xT_in 261 (by decide +kernel) (by decide +kernel)) rfl inT6 dd k
theorem fr_RX6_30 {θ : XΘ} {cc : ByteArray} {nn : Nat} {rm : Nat × Nat} {rc : Option FieldType} (h : Fx θ RX6 cc nn rm rc) {Γ : XG} {pc : Nat} (dd : decode cc pc = .ok (.getfield 30, 3)) {L : XL} {t : XT} {M : XM} {z : Int} (k : GG θ Γ (pc + 3) L ((32 + 4, 0) :: t) M) : GG θ Γ pc L ((29 + 4, z) :: t) M := GG.getf h (κ := 32 + 4) (j := 5) (ci := 6) (N := 13) (C := RX6) (T := TX6) (ref := "MostSold$Tally") (fs := fo_6) (fun _ => 0) (by decide) rfl fo_6_at (fun _ _ => rfl) (fun _ _ => trivial) (by decide) (xT_in 262 (by decide +kernel) (by decide +kernel)) rfl inT6 dd k
theorem fr_RX6_33 {θ : XΘ} {cc : ByteArray} {nn : Nat} {rm : Nat × Nat} {rc : Option FieldType} (h : Fx θ RX6 cc nn rm rc) {Γ : XG} {pc : Nat} (dd : decode cc pc = .ok (.getfield 33, 3)) {L : XL} {t : XT} {M : XM} {z : Int} (k : GG θ Γ (pc + 3) L ((33 + 4, 0) :: t) M) : GG θ Γ pc L ((29 + 4, z) :: t) M := GG.getf h (κ := 33 + 4) (j := 6) (ci := 6) (N := 13) (C := RX6) (T := TX6) (ref := "MostSold$Tally") (fs := fo_6) (fun _ => 0) (by decide) rfl fo_6_at (fun _ _ => rfl) (fun _ _ => trivial) (by decide) (xT_in 264 (by decide +kernel) (by decide +kernel)) rfl inT6 dd k
theorem fr_RX6_37 {θ : XΘ} {cc : ByteArray} {nn : Nat} {rm : Nat × Nat} {rc : Option FieldType} (h : Fx θ RX6 cc nn rm rc) {Γ : XG} {pc : Nat} (dd : decode cc pc = .ok (.getfield 37, 3)) {L : XL} {t : XT} {M : XM} {z : Int} (k : GG θ Γ (pc + 3) L ((34 + 4, 0) :: t) M) : GG θ Γ pc L ((29 + 4, z) :: t) M := GG.getf h (κ := 34 + 4) (j := 7) (ci := 6) (N := 13) (C := RX6) (T := TX6) (ref := "MostSold$Tally") (fs := fo_6) (fun _ => 0) (by decide) rfl fo_6_at (fun _ _ => rfl) (fun _ _ => trivial) (by decide) (xT_in 265 (by decide +kernel) (by decide +kernel)) rfl inT6 dd k
theorem fr_RX6_40 {θ : XΘ} {cc : ByteArray} {nn : Nat} {rm : Nat × Nat} {rc : Option FieldType} (h : Fx θ RX6 cc nn rm rc) {Γ : XG} {pc : Nat} (dd : decode cc pc = .ok (.getfield 40, 3)) {L : XL} {t : XT} {M : XM} {z : Int} (k : GG θ Γ (pc + 3) L ((35 + 4, 0) :: t) M) : GG θ Γ pc L ((29 + 4, z) :: t) M := GG.getf h (κ := 35 + 4) (j := 8) (ci := 6) (N := 13) (C := RX6) (T := TX6) (ref := "MostSold$Tally") (fs := fo_6) (fun _ => 0) (by decide) rfl fo_6_at (fun _ _ => rfl) (fun _ _ => trivial) (by decide) (xT_in 266 (by decide +kernel) (by decide +kernel)) rfl inT6 dd k
theorem fr_RX6_43 {θ : XΘ} {cc : ByteArray} {nn : Nat} {rm : Nat × Nat} {rc : Option FieldType} (h : Fx θ RX6 cc nn rm rc) {Γ : XG} {pc : Nat} (dd : decode cc pc = .ok (.getfield 43, 3)) {L : XL} {t : XT} {M : XM} {z : Int} (k : GG θ Γ (pc + 3) L ((36 + 4, 0) :: t) M) : GG θ Γ pc L ((29 + 4, z) :: t) M := GG.getf h (κ := 36 + 4) (j := 9) (ci := 6) (N := 13) (C := RX6) (T := TX6) (ref := "MostSold$Tally") (fs := fo_6) (fun _ => 0) (by decide) rfl fo_6_at (fun _ _ => rfl) (fun _ _ => trivial) (by decide) (xT_in 267 (by decide +kernel) (by decide +kernel)) rfl inT6 dd k
theorem fr_RX6_46 {θ : XΘ} {cc : ByteArray} {nn : Nat} {rm : Nat × Nat} {rc : Option FieldType} (h : Fx θ RX6 cc nn rm rc) {Γ : XG} {pc : Nat} (dd : decode cc pc = .ok (.getfield 46, 3)) {L : XL} {t : XT} {M : XM} {z : Int} (k : GG θ Γ (pc + 3) L ((37 + 4, 0) :: t) M) : GG θ Γ pc L ((29 + 4, z) :: t) M := GG.getf h (κ := 37 + 4) (j := 10) (ci := 6) (N := 13) (C := RX6) (T := TX6) (ref := "MostSold$Tally") (fs := fo_6) (fun _ => 0) (by decide) rfl fo_6_at (fun _ _ => rfl) (fun _ _ => trivial) (by decide) (xT_in 269 (by decide +kernel) (by decide +kernel)) rfl inT6 dd k
theorem fr_RX6_49 {θ : XΘ} {cc : ByteArray} {nn : Nat} {rm : Nat × Nat} {rc : Option FieldType} (h : Fx θ RX6 cc nn rm rc) {Γ : XG} {pc : Nat} (dd : decode cc pc = .ok (.getfield 49, 3)) {L : XL} {t : XT} {M : XM} {z : Int} (k : GG θ Γ (pc + 3) L ((38 + 4, 0) :: t) M) : GG θ Γ pc L ((29 + 4, z) :: t) M := GG.getf h (κ := 38 + 4) (j := 12) (ci := 6) (N := 13) (C := RX6) (T := TX6) (ref := "MostSold$Tally") (fs := fo_6) (fun _ => 0) (by decide) rfl fo_6_at (fun _ _ => rfl) (fun _ _ => trivial) (by decide) (xT_in 273 (by decide +kernel) (by decide +kernel)) rfl inT6 dd k
theorem fr_RX6_68 {θ : XΘ} {cc : ByteArray} {nn : Nat} {rm : Nat × Nat} {rc : Option FieldType} (h : Fx θ RX6 cc nn rm rc) {Γ : XG} {pc : Nat} (dd : decode cc pc = .ok (.getfield 68, 3)) {L : XL} {t : XT} {M : XM} {z : Int} (k : GG θ Γ (pc + 3) L ((0, M 2 6) :: t) M) : GG θ Γ pc L ((2 + 4, z) :: t) M := GG.getf h (κ := 0) (j := 6) (ci := 7) (N := 14) (C := RX7) (T := TX7) (ref := "MostSold$Trade") (fs := fo_7) (fun f => f 6) (by decide) rfl fo_7_at (fun _ _ => rfl) (fun M hM => xwM32 hM rfl 6) (by decide) (xT_in 92 (by decide +kernel) (by decide +kernel)) rfl inT7 dd k
theorem fr_RX6_74 {θ : XΘ} {cc : ByteArray} {nn : Nat} {rm : Nat × Nat} {rc : Option FieldType} (h : Fx θ RX6 cc nn rm rc) {Γ : XG} {pc : Nat} (dd : decode cc pc = .ok (.getfield 74, 3)) {L : XL} {t : XT} {M : XM} {z : Int} (k : GG θ Γ (pc + 3) L ((0, M 13 1) :: t) M) : GG θ Γ pc L ((13 + 4, z) :: t) M := GG.getf h (κ := 0) (j := 1) (ci := 3) (N := 11) (C := RX3) (T := TX3) (ref := "MostSold$Ledger") (fs := fo_3) (fun f => f 1) (by decide) rfl fo_3_at (fun _ _ => rfl) (fun M hM => xwM32 hM rfl 1) (by decide) (xT_in 148 (by decide +kernel) (by decide +kernel)) rfl inT3 dd k
theorem fr_RX6_83 {θ : XΘ} {cc : ByteArray} {nn : Nat} {rm : Nat × Nat} {rc : Option FieldType} (h : Fx θ RX6 cc nn rm rc) {Γ : XG} {pc : Nat} (dd : decode cc pc = .ok (.getfield 83, 3)) {L : XL} {t : XT} {M : XM} {z : Int} (k : GG θ Γ (pc + 3) L ((0, M 13 0) :: t) M) : GG θ Γ pc L ((13 + 4, z) :: t) M := GG.getf h (κ := 0) (j := 0) (ci := 3) (N := 11) (C := RX3) (T := TX3) (ref := "MostSold$Ledger") (fs := fo_3) (fun f => f 0) (by decide) rfl fo_3_at (fun _ _ => rfl) (fun M hM => xwM32 hM rfl 0) (by decide) (xT_in 145 (by decide +kernel) (by decide +kernel)) rfl inT3 dd k
theorem fr_RX6_86 {θ : XΘ} {cc : ByteArray} {nn : Nat} {rm : Nat × Nat} {rc : Option FieldType} (h : Fx θ RX6 cc nn rm rc) {Γ : XG} {pc : Nat} (dd : decode cc pc = .ok (.getfield 86, 3)) {L : XL} {t : XT} {M : XM} {z : Int} (k : GG θ Γ (pc + 3) L ((16 + 4, 0) :: t) M) : GG θ Γ pc L ((13 + 4, z) :: t) M := GG.getf h (κ := 16 + 4) (j := 5) (ci := 3) (N := 11) (C := RX3) (T := TX3) (ref := "MostSold$Ledger") (fs := fo_3) (fun _ => 0) (by decide) rfl fo_3_at (fun _ _ => rfl) (fun _ _ => trivial) (by decide) (xT_in 163 (by decide +kernel) (by decide +kernel)) rfl inT3 dd k
theorem fr_RX6_93 {θ : XΘ} {cc : ByteArray} {nn : Nat} {rm : Nat × Nat} {rc : Option FieldType} (h : Fx θ RX6 cc nn rm rc) {Γ : XG} {pc : Nat} (dd : decode cc pc = .ok (.getfield 93, 3)) {L : XL} {t : XT} {M : XM} {z : Int} (k : GG θ Γ (pc + 3) L ((14 + 4, 0) :: t) M) : GG θ Γ pc L ((13 + 4, z) :: t) M := GG.getf h (κ := 14 + 4) (j := 3) (ci := 3) (N := 11) (C := RX3) (T := TX3) (ref := "MostSold$Ledger") (fs := fo_3) (fun _ => 0) (by decide) rfl fo_3_at (fun _ _ => rfl) (fun _ _ => trivial) (by decide) (xT_in 154 (by decide +kernel) (by decide +kernel)) rfl inT3 dd k
theorem fr_RX6_107 {θ : XΘ} {cc : ByteArray} {nn : Nat} {rm : Nat × Nat} {rc : Option FieldType} (h : Fx θ RX6 cc nn rm rc) {Γ : XG} {pc : Nat} (dd : decode cc pc = .ok (.getfield 107, 3)) {L : XL} {t : XT} {M : XM} {z : Int} (k : GG θ Γ (pc + 3) L ((15 + 4, 0) :: t) M) : GG θ Γ pc L ((13 + 4, z) :: t) M := GG.getf h (κ := 15 + 4) (j := 4) (ci := 3) (N := 11) (C := RX3) (T := TX3) (ref := "MostSold$Ledger") (fs := fo_3) (fun _ => 0) (by decide) rfl fo_3_at (fun _ _ => rfl) (fun _ _ => trivial) (by decide) (xT_in 159 (by decide +kernel) (by decide +kernel)) rfl inT3 dd k
theorem fr_RX6_110 {θ : XΘ} {cc : ByteArray} {nn : Nat} {rm : Nat × Nat} {rc : Option FieldType} (h : Fx θ RX6 cc nn rm rc) {Γ : XG} {pc : Nat} (dd : decode cc pc = .ok (.getfield 110, 3)) {L : XL} {t : XT} {M : XM} {z : Int} (k : GG θ Γ (pc + 3) L ((19 + 4, 0) :: t) M) : GG θ Γ pc L ((13 + 4, z) :: t) M := GG.getf h (κ := 19 + 4) (j := 8) (ci := 3) (N := 11) (C := RX3) (T := TX3) (ref := "MostSold$Ledger") (fs := fo_3) (fun _ => 0) (by decide) rfl fo_3_at (fun _ _ => rfl) (fun _ _ => trivial) (by decide) (xT_in 176 (by decide +kernel) (by decide +kernel)) rfl inT3 dd k
theorem fr_RX6_113 {θ : XΘ} {cc : ByteArray} {nn : Nat} {rm : Nat × Nat} {rc : Option FieldType} (h : Fx θ RX6 cc nn rm rc) {Γ : XG} {pc : Nat} (dd : decode cc pc = .ok (.getfield 113, 3)) {L : XL} {t : XT} {M : XM} {z : Int} (k : GG θ Γ (pc + 3) L ((18 + 4, 0) :: t) M) : GG θ Γ pc L ((13 + 4, z) :: t) M := GG.getf h (κ := 18 + 4) (j := 7) (ci := 3) (N := 11) (C := RX3) (T := TX3) (ref := "MostSold$Ledger") (fs := fo_3) (fun _ => 0) (by decide) rfl fo_3_at (fun _ _ => rfl) (fun _ _ => trivial) (by decide) (xT_in 171 (by decide +kernel) (by decide +kernel)) rfl inT3 dd k
theorem fr_RX6_116 {θ : XΘ} {cc : ByteArray} {nn : Nat} {rm : Nat × Nat} {rc : Option FieldType} (h : Fx θ RX6 cc nn rm rc) {Γ : XG} {pc : Nat} (dd : decode cc pc = .ok (.getfield 116, 3)) {L : XL} {t : XT} {M : XM} {z : Int} (k : GG θ Γ (pc + 3) L ((24 + 4, 0) :: t) M) : GG θ Γ pc L ((22 + 4, z) :: t) M := GG.getf h (κ := 24 + 4) (j := 3) (ci := 4) (N := 11) (C := RX4) (T := TX4) (ref := "MostSold$Rules") (fs := fo_4) (fun _ => 0) (by decide) rfl fo_4_at (fun _ _ => rfl) (fun _ _ => trivial) (by decide) (xT_in 217 (by decide +kernel) (by decide +kernel)) rfl inT4 dd k
theorem fr_RX6_119 {θ : XΘ} {cc : ByteArray} {nn : Nat} {rm : Nat × Nat} {rc : Option FieldType} (h : Fx θ RX6 cc nn rm rc) {Γ : XG} {pc : Nat} (dd : decode cc pc = .ok (.getfield 119, 3)) {L : XL} {t : XT} {M : XM} {z : Int} (k : GG θ Γ (pc + 3) L ((5 + 4, 0) :: t) M) : GG θ Γ pc L ((2 + 4, z) :: t) M := GG.getf h (κ := 5 + 4) (j := 4) (ci := 7) (N := 14) (C := RX7) (T := TX7) (ref := "MostSold$Trade") (fs := fo_7) (fun _ => 0) (by decide) rfl fo_7_at (fun _ _ => rfl) (fun _ _ => trivial) (by decide) (xT_in 89 (by decide +kernel) (by decide +kernel)) rfl inT7 dd k
theorem fr_RX6_122 {θ : XΘ} {cc : ByteArray} {nn : Nat} {rm : Nat × Nat} {rc : Option FieldType} (h : Fx θ RX6 cc nn rm rc) {Γ : XG} {pc : Nat} (dd : decode cc pc = .ok (.getfield 122, 3)) {L : XL} {t : XT} {M : XM} {z : Int} (k : GG θ Γ (pc + 3) L ((7 + 4, 0) :: t) M) : GG θ Γ pc L ((2 + 4, z) :: t) M := GG.getf h (κ := 7 + 4) (j := 7) (ci := 7) (N := 14) (C := RX7) (T := TX7) (ref := "MostSold$Trade") (fs := fo_7) (fun _ => 0) (by decide) rfl fo_7_at (fun _ _ => rfl) (fun _ _ => trivial) (by decide) (xT_in 96 (by decide +kernel) (by decide +kernel)) rfl inT7 dd k
theorem fr_RX6_131 {θ : XΘ} {cc : ByteArray} {nn : Nat} {rm : Nat × Nat} {rc : Option FieldType} (h : Fx θ RX6 cc nn rm rc) {Γ : XG} {pc : Nat} (dd : decode cc pc = .ok (.getfield 131, 3)) {L : XL} {t : XT} {M : XM} {z : Int} (k : GG θ Γ (pc + 3) L ((8 + 4, 0) :: t) M) : GG θ Γ pc L ((2 + 4, z) :: t) M := GG.getf h (κ := 8 + 4) (j := 8) (ci := 7) (N := 14) (C := RX7) (T := TX7) (ref := "MostSold$Trade") (fs := fo_7) (fun _ => 0) (by decide) rfl fo_7_at (fun _ _ => rfl) (fun _ _ => trivial) (by decide) (xT_in 98 (by decide +kernel) (by decide +kernel)) rfl inT7 dd k
theorem fr_RX6_137 {θ : XΘ} {cc : ByteArray} {nn : Nat} {rm : Nat × Nat} {rc : Option FieldType} (h : Fx θ RX6 cc nn rm rc) {Γ : XG} {pc : Nat} (dd : decode cc pc = .ok (.getfield 137, 3)) {L : XL} {t : XT} {M : XM} {z : Int} (k : GG θ Γ (pc + 3) L ((0, M 2 0) :: t) M) : GG θ Γ pc L ((2 + 4, z) :: t) M := GG.getf h (κ := 0) (j := 0) (ci := 7) (N := 14) (C := RX7) (T := TX7) (ref := "MostSold$Trade") (fs := fo_7) (fun f => f 0) (by decide) rfl fo_7_at (fun _ _ => rfl) (fun M hM => xwM32 hM rfl 0) (by decide) (xT_in 77 (by decide +kernel) (by decide +kernel)) rfl inT7 dd k
theorem fr_RX6_148 {θ : XΘ} {cc : ByteArray} {nn : Nat} {rm : Nat × Nat} {rc : Option FieldType} (h : Fx θ RX6 cc nn rm rc) {Γ : XG} {pc : Nat} (dd : decode cc pc = .ok (.getfield 148, 3)) {L : XL} {t : XT} {M : XM} {z : Int} (k : GG θ Γ (pc + 3) L ((0, M 2 2) :: t) M) : GG θ Γ pc L ((2 + 4, z) :: t) M := GG.getf h (κ := 0) (j := 2) (ci := 7) (N := 14) (C := RX7) (T := TX7) (ref := "MostSold$Trade") (fs := fo_7) (fun f => f 2) (by decide) rfl fo_7_at (fun _ _ => rfl) (fun M hM => xwM32 hM rfl 2) (by decide) (xT_in 83 (by decide +kernel) (by decide +kernel)) rfl inT7 dd k
theorem fr_RX6_151 {θ : XΘ} {cc : ByteArray} {nn : Nat} {rm : Nat × Nat} {rc : Option FieldType} (h : Fx θ RX6 cc nn rm rc) {Γ : XG} {pc : Nat} (dd : decode cc pc = .ok (.getfield 151, 3)) {L : XL} {t : XT} {M : XM} {z : Int} (k : GG θ Γ (pc + 3) L ((4 + 4, 0) :: t) M) : GG θ Γ pc L ((2 + 4, z) :: t) M := GG.getf h (κ := 4 + 4) (j := 3) (ci := 7) (N := 14) (C := RX7) (T := TX7) (ref := "MostSold$Trade") (fs := fo_7) (fun _ => 0) (by decide) rfl fo_7_at (fun _ _ => rfl) (fun _ _ => trivial) (by decide) (xT_in 87 (by decide +kernel) (by decide +kernel)) rfl inT7 dd k
theorem fr_RX6_164 {θ : XΘ} {cc : ByteArray} {nn : Nat} {rm : Nat × Nat} {rc : Option FieldType} (h : Fx θ RX6 cc nn rm rc) {Γ : XG} {pc : Nat} (dd : decode cc pc = .ok (.getfield 164, 3)) {L : XL} {t : XT} {M : XM} {z : Int} (k : GG θ Γ (pc + 3) L ((0, M 29 11) :: t) M) : GG θ Γ pc L ((29 + 4, z) :: t) M := GG.getf h (κ := 0) (j := 11) (ci := 6) (N := 13) (C := RX6) (T := TX6) (ref := "MostSold$Tally") (fs := fo_6) (fun f => f 11) (by decide) rfl fo_6_at (fun _ _ => rfl) (fun M hM => xwM32 hM rfl 11) (by decide) (xT_in 271 (by decide +kernel) (by decide +kernel)) rfl inT6 dd k
theorem fr_RX6_167 {θ : XΘ} {cc : ByteArray} {nn : Nat} {rm : Nat × Nat} {rc : Option FieldType} (h : Fx θ RX6 cc nn rm rc) {Γ : XG} {pc : Nat} (dd : decode cc pc = .ok (.getfield 167, 3)) {L : XL} {t : XT} {M : XM} {z : Int} (k : GG θ Γ (pc + 3) L ((3 + 4, 0) :: t) M) : GG θ Γ pc L ((2 + 4, z) :: t) M := GG.getf h (κ := 3 + 4) (j := 1) (ci := 7) (N := 14) (C := RX7) (T := TX7) (ref := "MostSold$Trade") (fs := fo_7) (fun _ => 0) (by decide) rfl fo_7_at (fun _ _ => rfl) (fun _ _ => trivial) (by decide) (xT_in 81 (by decide +kernel) (by decide +kernel)) rfl inT7 dd k
theorem fr_RX7_9 {θ : XΘ} {cc : ByteArray} {nn : Nat} {rm : Nat × Nat} {rc : Option FieldType} (h : Fx θ RX7 cc nn rm rc) {Γ : XG} {pc : Nat} (dd : decode cc pc = .ok (.getfield 9, 3)) {L : XL} {t : XT} {M : XM} {z : Int} (k : GG θ Γ (pc + 3) L ((3 + 4, 0) :: t) M) : GG θ Γ pc L ((2 + 4, z) :: t) M := GG.getf h (κ := 3 + 4) (j := 1) (ci := 7) (N := 14) (C := RX7) (T := TX7) (ref := "MostSold$Trade") (fs := fo_7) (fun _ => 0) (by decide) rfl fo_7_at (fun _ _ => rfl) (fun _ _ => trivial) (by decide) (xT_in 79 (by decide +kernel) (by decide +kernel)) rfl inT7 dd k
theorem fr_RX7_15 {θ : XΘ} {cc : ByteArray} {nn : Nat} {rm : Nat × Nat} {rc : Option FieldType} (h : Fx θ RX7 cc nn rm rc) {Γ : XG} {pc : Nat} (dd : decode cc pc = .ok (.getfield 15, 3)) {L : XL} {t : XT} {M : XM} {z : Int} (k : GG θ Γ (pc + 3) L ((4 + 4, 0) :: t) M) : GG θ Γ pc L ((2 + 4, z) :: t) M := GG.getf h (κ := 4 + 4) (j := 3) (ci := 7) (N := 14) (C := RX7) (T := TX7) (ref := "MostSold$Trade") (fs := fo_7) (fun _ => 0) (by decide) rfl fo_7_at (fun _ _ => rfl) (fun _ _ => trivial) (by decide) (xT_in 85 (by decide +kernel) (by decide +kernel)) rfl inT7 dd k
theorem fr_RX7_18 {θ : XΘ} {cc : ByteArray} {nn : Nat} {rm : Nat × Nat} {rc : Option FieldType} (h : Fx θ RX7 cc nn rm rc) {Γ : XG} {pc : Nat} (dd : decode cc pc = .ok (.getfield 18, 3)) {L : XL} {t : XT} {M : XM} {z : Int} (k : GG θ Γ (pc + 3) L ((5 + 4, 0) :: t) M) : GG θ Γ pc L ((2 + 4, z) :: t) M := GG.getf h (κ := 5 + 4) (j := 4) (ci := 7) (N := 14) (C := RX7) (T := TX7) (ref := "MostSold$Trade") (fs := fo_7) (fun _ => 0) (by decide) rfl fo_7_at (fun _ _ => rfl) (fun _ _ => trivial) (by decide) (xT_in 88 (by decide +kernel) (by decide +kernel)) rfl inT7 dd k
theorem fr_RX7_21 {θ : XΘ} {cc : ByteArray} {nn : Nat} {rm : Nat × Nat} {rc : Option FieldType} (h : Fx θ RX7 cc nn rm rc) {Γ : XG} {pc : Nat} (dd : decode cc pc = .ok (.getfield 21, 3)) {L : XL} {t : XT} {M : XM} {z : Int} (k : GG θ Γ (pc + 3) L ((6 + 4, 0) :: t) M) : GG θ Γ pc L ((2 + 4, z) :: t) M := GG.getf h (κ := 6 + 4) (j := 5) (ci := 7) (N := 14) (C := RX7) (T := TX7) (ref := "MostSold$Trade") (fs := fo_7) (fun _ => 0) (by decide) rfl fo_7_at (fun _ _ => rfl) (fun _ _ => trivial) (by decide) (xT_in 90 (by decide +kernel) (by decide +kernel)) rfl inT7 dd k
theorem fr_RX7_24 {θ : XΘ} {cc : ByteArray} {nn : Nat} {rm : Nat × Nat} {rc : Option FieldType} (h : Fx θ RX7 cc nn rm rc) {Γ : XG} {pc : Nat} (dd : decode cc pc = .ok (.getfield 24, 3)) {L : XL} {t : XT} {M : XM} {z : Int} (k : GG θ Γ (pc + 3) L ((7 + 4, 0) :: t) M) : GG θ Γ pc L ((2 + 4, z) :: t) M := GG.getf h (κ := 7 + 4) (j := 7) (ci := 7) (N := 14) (C := RX7) (T := TX7) (ref := "MostSold$Trade") (fs := fo_7) (fun _ => 0) (by decide) rfl fo_7_at (fun _ _ => rfl) (fun _ _ => trivial) (by decide) (xT_in 95 (by decide +kernel) (by decide +kernel)) rfl inT7 dd k
theorem fr_RX7_27 {θ : XΘ} {cc : ByteArray} {nn : Nat} {rm : Nat × Nat} {rc : Option FieldType} (h : Fx θ RX7 cc nn rm rc) {Γ : XG} {pc : Nat} (dd : decode cc pc = .ok (.getfield 27, 3)) {L : XL} {t : XT} {M : XM} {z : Int} (k : GG θ Γ (pc + 3) L ((8 + 4, 0) :: t) M) : GG θ Γ pc L ((2 + 4, z) :: t) M := GG.getf h (κ := 8 + 4) (j := 8) (ci := 7) (N := 14) (C := RX7) (T := TX7) (ref := "MostSold$Trade") (fs := fo_7) (fun _ => 0) (by decide) rfl fo_7_at (fun _ _ => rfl) (fun _ _ => trivial) (by decide) (xT_in 97 (by decide +kernel) (by decide +kernel)) rfl inT7 dd k
theorem fr_RX7_30 {θ : XΘ} {cc : ByteArray} {nn : Nat} {rm : Nat × Nat} {rc : Option FieldType} (h : Fx θ RX7 cc nn rm rc) {Γ : XG} {pc : Nat} (dd : decode cc pc = .ok (.getfield 30, 3)) {L : XL} {t : XT} {M : XM} {z : Int} (k : GG θ Γ (pc + 3) L ((9 + 4, 0) :: t) M) : GG θ Γ pc L ((2 + 4, z) :: t) M := GG.getf h (κ := 9 + 4) (j := 9) (ci := 7) (N := 14) (C := RX7) (T := TX7) (ref := "MostSold$Trade") (fs := fo_7) (fun _ => 0) (by decide) rfl fo_7_at (fun _ _ => rfl) (fun _ _ => trivial) (by decide) (xT_in 99 (by decide +kernel) (by decide +kernel)) rfl inT7 dd k
theorem fr_RX7_33 {θ : XΘ} {cc : ByteArray} {nn : Nat} {rm : Nat × Nat} {rc : Option FieldType} (h : Fx θ RX7 cc nn rm rc) {Γ : XG} {pc : Nat} (dd : decode cc pc = .ok (.getfield 33, 3)) {L : XL} {t : XT} {M : XM} {z : Int} (k : GG θ Γ (pc + 3) L ((10 + 4, 0) :: t) M) : GG θ Γ pc L ((2 + 4, z) :: t) M := GG.getf h (κ := 10 + 4) (j := 10) (ci := 7) (N := 14) (C := RX7) (T := TX7) (ref := "MostSold$Trade") (fs := fo_7) (fun _ => 0) (by decide) rfl fo_7_at (fun _ _ => rfl) (fun _ _ => trivial) (by decide) (xT_in 100 (by decide +kernel) (by decide +kernel)) rfl inT7 dd k
theorem fr_RX7_36 {θ : XΘ} {cc : ByteArray} {nn : Nat} {rm : Nat × Nat} {rc : Option FieldType} (h : Fx θ RX7 cc nn rm rc) {Γ : XG} {pc : Nat} (dd : decode cc pc = .ok (.getfield 36, 3)) {L : XL} {t : XT} {M : XM} {z : Int} (k : GG θ Γ (pc + 3) L ((11 + 4, 0) :: t) M) : GG θ Γ pc L ((2 + 4, z) :: t) M := GG.getf h (κ := 11 + 4) (j := 11) (ci := 7) (N := 14) (C := RX7) (T := TX7) (ref := "MostSold$Trade") (fs := fo_7) (fun _ => 0) (by decide) rfl fo_7_at (fun _ _ => rfl) (fun _ _ => trivial) (by decide) (xT_in 101 (by decide +kernel) (by decide +kernel)) rfl inT7 dd k
theorem fr_RX7_39 {θ : XΘ} {cc : ByteArray} {nn : Nat} {rm : Nat × Nat} {rc : Option FieldType} (h : Fx θ RX7 cc nn rm rc) {Γ : XG} {pc : Nat} (dd : decode cc pc = .ok (.getfield 39, 3)) {L : XL} {t : XT} {M : XM} {z : Int} (k : GG θ Γ (pc + 3) L ((12 + 4, 0) :: t) M) : GG θ Γ pc L ((2 + 4, z) :: t) M := GG.getf h (κ := 12 + 4) (j := 13) (ci := 7) (N := 14) (C := RX7) (T := TX7) (ref := "MostSold$Trade") (fs := fo_7) (fun _ => 0) (by decide) rfl fo_7_at (fun _ _ => rfl) (fun _ _ => trivial) (by decide) (xT_in 105 (by decide +kernel) (by decide +kernel)) rfl inT7 dd k
theorem fr_RX7_42 {θ : XΘ} {cc : ByteArray} {nn : Nat} {rm : Nat × Nat} {rc : Option FieldType} (h : Fx θ RX7 cc nn rm rc) {Γ : XG} {pc : Nat} (dd : decode cc pc = .ok (.getfield 42, 3)) {L : XL} {t : XT} {M : XM} {z : Int} (k : GG θ Γ (pc + 3) L ((0, M 2 0) :: t) M) : GG θ Γ pc L ((2 + 4, z) :: t) M := GG.getf h (κ := 0) (j := 0) (ci := 7) (N := 14) (C := RX7) (T := TX7) (ref := "MostSold$Trade") (fs := fo_7) (fun f => f 0) (by decide) rfl fo_7_at (fun _ _ => rfl) (fun M hM => xwM32 hM rfl 0) (by decide) (xT_in 76 (by decide +kernel) (by decide +kernel)) rfl inT7 dd k
theorem fr_RX7_50 {θ : XΘ} {cc : ByteArray} {nn : Nat} {rm : Nat × Nat} {rc : Option FieldType} (h : Fx θ RX7 cc nn rm rc) {Γ : XG} {pc : Nat} (dd : decode cc pc = .ok (.getfield 50, 3)) {L : XL} {t : XT} {M : XM} {z : Int} (k : GG θ Γ (pc + 3) L ((0, M 2 2) :: t) M) : GG θ Γ pc L ((2 + 4, z) :: t) M := GG.getf h (κ := 0) (j := 2) (ci := 7) (N := 14) (C := RX7) (T := TX7) (ref := "MostSold$Trade") (fs := fo_7) (fun f => f 2) (by decide) rfl fo_7_at (fun _ _ => rfl) (fun M hM => xwM32 hM rfl 2) (by decide) (xT_in 82 (by decide +kernel) (by decide +kernel)) rfl inT7 dd k
theorem fr_RX7_53 {θ : XΘ} {cc : ByteArray} {nn : Nat} {rm : Nat × Nat} {rc : Option FieldType} (h : Fx θ RX7 cc nn rm rc) {Γ : XG} {pc : Nat} (dd : decode cc pc = .ok (.getfield 53, 3)) {L : XL} {t : XT} {M : XM} {z : Int} (k : GG θ Γ (pc + 3) L ((0, M 2 6) :: t) M) : GG θ Γ pc L ((2 + 4, z) :: t) M := GG.getf h (κ := 0) (j := 6) (ci := 7) (N := 14) (C := RX7) (T := TX7) (ref := "MostSold$Trade") (fs := fo_7) (fun f => f 6) (by decide) rfl fo_7_at (fun _ _ => rfl) (fun M hM => xwM32 hM rfl 6) (by decide) (xT_in 93 (by decide +kernel) (by decide +kernel)) rfl inT7 dd k
theorem fr_RX7_56 {θ : XΘ} {cc : ByteArray} {nn : Nat} {rm : Nat × Nat} {rc : Option FieldType} (h : Fx θ RX7 cc nn rm rc) {Γ : XG} {pc : Nat} (dd : decode cc pc = .ok (.getfield 56, 3)) {L : XL} {t : XT} {M : XM} {z : Int} (k : GG θ Γ (pc + 3) L ((0, M 2 12) :: t) M) : GG θ Γ pc L ((2 + 4, z) :: t) M := GG.getf h (κ := 0) (j := 12) (ci := 7) (N := 14) (C := RX7) (T := TX7) (ref := "MostSold$Trade") (fs := fo_7) (fun f => f 12) (by decide) rfl fo_7_at (fun _ _ => rfl) (fun M hM => xwM32 hM rfl 12) (by decide) (xT_in 103 (by decide +kernel) (by decide +kernel)) rfl inT7 dd k
theorem fr_RX9_7 {θ : XΘ} {cc : ByteArray} {nn : Nat} {rm : Nat × Nat} {rc : Option FieldType} (h : Fx θ RX9 cc nn rm rc) {Γ : XG} {pc : Nat} (dd : decode cc pc = .ok (.getfield 7, 3)) {L : XL} {t : XT} {M : XM} {z : Int} (k : GG θ Γ (pc + 3) L ((82 + 4, 0) :: t) M) : GG θ Γ pc L ((81 + 4, z) :: t) M := GG.getf h (κ := 82 + 4) (j := 0) (ci := 9) (N := 53) (C := RX9) (T := TX9) (ref := "MostSoldModel") (fs := fo_9) (fun _ => 0) (by decide) rfl fo_9_at (fun _ _ => rfl) (fun _ _ => trivial) (by decide) (xT_in 906 (by decide +kernel) (by decide +kernel)) rfl inT9 dd k
theorem fr_RX9_13 {θ : XΘ} {cc : ByteArray} {nn : Nat} {rm : Nat × Nat} {rc : Option FieldType} (h : Fx θ RX9 cc nn rm rc) {Γ : XG} {pc : Nat} (dd : decode cc pc = .ok (.getfield 13, 3)) {L : XL} {t : XT} {M : XM} {z : Int} (k : GG θ Γ (pc + 3) L ((83 + 4, 0) :: t) M) : GG θ Γ pc L ((81 + 4, z) :: t) M := GG.getf h (κ := 83 + 4) (j := 1) (ci := 9) (N := 53) (C := RX9) (T := TX9) (ref := "MostSoldModel") (fs := fo_9) (fun _ => 0) (by decide) rfl fo_9_at (fun _ _ => rfl) (fun _ _ => trivial) (by decide) (xT_in 907 (by decide +kernel) (by decide +kernel)) rfl inT9 dd k
theorem fr_RX9_16 {θ : XΘ} {cc : ByteArray} {nn : Nat} {rm : Nat × Nat} {rc : Option FieldType} (h : Fx θ RX9 cc nn rm rc) {Γ : XG} {pc : Nat} (dd : decode cc pc = .ok (.getfield 16, 3)) {L : XL} {t : XT} {M : XM} {z : Int} (k : GG θ Γ (pc + 3) L ((84 + 4, 0) :: t) M) : GG θ Γ pc L ((81 + 4, z) :: t) M := GG.getf h (κ := 84 + 4) (j := 2) (ci := 9) (N := 53) (C := RX9) (T := TX9) (ref := "MostSoldModel") (fs := fo_9) (fun _ => 0) (by decide) rfl fo_9_at (fun _ _ => rfl) (fun _ _ => trivial) (by decide) (xT_in 908 (by decide +kernel) (by decide +kernel)) rfl inT9 dd k
theorem fr_RX9_20 {θ : XΘ} {cc : ByteArray} {nn : Nat} {rm : Nat × Nat} {rc : Option FieldType} (h : Fx θ RX9 cc nn rm rc) {Γ : XG} {pc : Nat} (dd : decode cc pc = .ok (.getfield 20, 3)) {L : XL} {t : XT} {M : XM} {z : Int} (k : GG θ Γ (pc + 3) L ((85 + 4, 0) :: t) M) : GG θ Γ pc L ((81 + 4, z) :: t) M := GG.getf h (κ := 85 + 4) (j := 3) (ci := 9) (N := 53) (C := RX9) (T := TX9) (ref := "MostSoldModel") (fs := fo_9) (fun _ => 0) (by decide) rfl fo_9_at (fun _ _ => rfl) (fun _ _ => trivial) (by decide) (xT_in 909 (by decide +kernel) (by decide +kernel)) rfl inT9 dd k
theorem fr_RX9_23 {θ : XΘ} {cc : ByteArray} {nn : Nat} {rm : Nat × Nat} {rc : Option FieldType} (h : Fx θ RX9 cc nn rm rc) {Γ : XG} {pc : Nat} (dd : decode cc pc = .ok (.getfield 23, 3)) {L : XL} {t : XT} {M : XM} {z : Int} (k : GG θ Γ (pc + 3) L ((86 + 4, 0) :: t) M) : GG θ Γ pc L ((81 + 4, z) :: t) M := GG.getf h (κ := 86 + 4) (j := 6) (ci := 9) (N := 53) (C := RX9) (T := TX9) (ref := "MostSoldModel") (fs := fo_9) (fun _ => 0) (by decide) rfl fo_9_at (fun _ _ => rfl) (fun _ _ => trivial) (by decide) (xT_in 912 (by decide +kernel) (by decide +kernel)) rfl inT9 dd k
theorem fr_RX9_26 {θ : XΘ} {cc : ByteArray} {nn : Nat} {rm : Nat × Nat} {rc : Option FieldType} (h : Fx θ RX9 cc nn rm rc) {Γ : XG} {pc : Nat} (dd : decode cc pc = .ok (.getfield 26, 3)) {L : XL} {t : XT} {M : XM} {z : Int} (k : GG θ Γ (pc + 3) L ((87 + 4, 0) :: t) M) : GG θ Γ pc L ((81 + 4, z) :: t) M := GG.getf h (κ := 87 + 4) (j := 8) (ci := 9) (N := 53) (C := RX9) (T := TX9) (ref := "MostSoldModel") (fs := fo_9) (fun _ => 0) (by decide) rfl fo_9_at (fun _ _ => rfl) (fun _ _ => trivial) (by decide) (xT_in 914 (by decide +kernel) (by decide +kernel)) rfl inT9 dd k
theorem fr_RX9_29 {θ : XΘ} {cc : ByteArray} {nn : Nat} {rm : Nat × Nat} {rc : Option FieldType} (h : Fx θ RX9 cc nn rm rc) {Γ : XG} {pc : Nat} (dd : decode cc pc = .ok (.getfield 29, 3)) {L : XL} {t : XT} {M : XM} {z : Int} (k : GG θ Γ (pc + 3) L ((88 + 4, 0) :: t) M) : GG θ Γ pc L ((81 + 4, z) :: t) M := GG.getf h (κ := 88 + 4) (j := 9) (ci := 9) (N := 53) (C := RX9) (T := TX9) (ref := "MostSoldModel") (fs := fo_9) (fun _ => 0) (by decide) rfl fo_9_at (fun _ _ => rfl) (fun _ _ => trivial) (by decide) (xT_in 915 (by decide +kernel) (by decide +kernel)) rfl inT9 dd k
theorem fr_RX9_32 {θ : XΘ} {cc : ByteArray} {nn : Nat} {rm : Nat × Nat} {rc : Option FieldType} (h : Fx θ RX9 cc nn rm rc) {Γ : XG} {pc : Nat} (dd : decode cc pc = .ok (.getfield 32, 3)) {L : XL} {t : XT} {M : XM} {z : Int} (k : GG θ Γ (pc + 3) L ((89 + 4, 0) :: t) M) : GG θ Γ pc L ((81 + 4, z) :: t) M := GG.getf h (κ := 89 + 4) (j := 10) (ci := 9) (N := 53) (C := RX9) (T := TX9) (ref := "MostSoldModel") (fs := fo_9) (fun _ => 0) (by decide) rfl fo_9_at (fun _ _ => rfl) (fun _ _ => trivial) (by decide) (xT_in 916 (by decide +kernel) (by decide +kernel)) rfl inT9 dd k
theorem fr_RX9_35 {θ : XΘ} {cc : ByteArray} {nn : Nat} {rm : Nat × Nat} {rc : Option FieldType} (h : Fx θ RX9 cc nn rm rc) {Γ : XG} {pc : Nat} (dd : decode cc pc = .ok (.getfield 35, 3)) {L : XL} {t : XT} {M : XM} {z : Int} (k : GG θ Γ (pc + 3) L ((90 + 4, 0) :: t) M) : GG θ Γ pc L ((81 + 4, z) :: t) M := GG.getf h (κ := 90 + 4) (j := 12) (ci := 9) (N := 53) (C := RX9) (T := TX9) (ref := "MostSoldModel") (fs := fo_9) (fun _ => 0) (by decide) rfl fo_9_at (fun _ _ => rfl) (fun _ _ => trivial) (by decide) (xT_in 918 (by decide +kernel) (by decide +kernel)) rfl inT9 dd k
theorem fr_RX9_38 {θ : XΘ} {cc : ByteArray} {nn : Nat} {rm : Nat × Nat} {rc : Option FieldType} (h : Fx θ RX9 cc nn rm rc) {Γ : XG} {pc : Nat} (dd : decode cc pc = .ok (.getfield 38, 3)) {L : XL} {t : XT} {M : XM} {z : Int} (k : GG θ Γ (pc + 3) L ((91 + 4, 0) :: t) M) : GG θ Γ pc L ((81 + 4, z) :: t) M := GG.getf h (κ := 91 + 4) (j := 13) (ci := 9) (N := 53) (C := RX9) (T := TX9) (ref := "MostSoldModel") (fs := fo_9) (fun _ => 0) (by decide) rfl fo_9_at (fun _ _ => rfl) (fun _ _ => trivial) (by decide) (xT_in 919 (by decide +kernel) (by decide +kernel)) rfl inT9 dd k
theorem fr_RX9_41 {θ : XΘ} {cc : ByteArray} {nn : Nat} {rm : Nat × Nat} {rc : Option FieldType} (h : Fx θ RX9 cc nn rm rc) {Γ : XG} {pc : Nat} (dd : decode cc pc = .ok (.getfield 41, 3)) {L : XL} {t : XT} {M : XM} {z : Int} (k : GG θ Γ (pc + 3) L ((92 + 4, 0) :: t) M) : GG θ Γ pc L ((81 + 4, z) :: t) M := GG.getf h (κ := 92 + 4) (j := 14) (ci := 9) (N := 53) (C := RX9) (T := TX9) (ref := "MostSoldModel") (fs := fo_9) (fun _ => 0) (by decide) rfl fo_9_at (fun _ _ => rfl) (fun _ _ => trivial) (by decide) (xT_in 920 (by decide +kernel) (by decide +kernel)) rfl inT9 dd k
theorem fr_RX9_44 {θ : XΘ} {cc : ByteArray} {nn : Nat} {rm : Nat × Nat} {rc : Option FieldType} (h : Fx θ RX9 cc nn rm rc) {Γ : XG} {pc : Nat} (dd : decode cc pc = .ok (.getfield 44, 3)) {L : XL} {t : XT} {M : XM} {z : Int} (k : GG θ Γ (pc + 3) L ((93 + 4, 0) :: t) M) : GG θ Γ pc L ((81 + 4, z) :: t) M := GG.getf h (κ := 93 + 4) (j := 15) (ci := 9) (N := 53) (C := RX9) (T := TX9) (ref := "MostSoldModel") (fs := fo_9) (fun _ => 0) (by decide) rfl fo_9_at (fun _ _ => rfl) (fun _ _ => trivial) (by decide) (xT_in 921 (by decide +kernel) (by decide +kernel)) rfl inT9 dd k
theorem fr_RX9_47 {θ : XΘ} {cc : ByteArray} {nn : Nat} {rm : Nat × Nat} {rc : Option FieldType} (h : Fx θ RX9 cc nn rm rc) {Γ : XG} {pc : Nat} (dd : decode cc pc = .ok (.getfield 47, 3)) {L : XL} {t : XT} {M : XM} {z : Int} (k : GG θ Γ (pc + 3) L ((94 + 4, 0) :: t) M) : GG θ Γ pc L ((81 + 4, z) :: t) M := GG.getf h (κ := 94 + 4) (j := 16) (ci := 9) (N := 53) (C := RX9) (T := TX9) (ref := "MostSoldModel") (fs := fo_9) (fun _ => 0) (by decide) rfl fo_9_at (fun _ _ => rfl) (fun _ _ => trivial) (by decide) (xT_in 922 (by decide +kernel) (by decide +kernel)) rfl inT9 dd k
theorem fr_RX9_50 {θ : XΘ} {cc : ByteArray} {nn : Nat} {rm : Nat × Nat} {rc : Option FieldType} (h : Fx θ RX9 cc nn rm rc) {Γ : XG} {pc : Nat} (dd : decode cc pc = .ok (.getfield 50, 3)) {L : XL} {t : XT} {M : XM} {z : Int} (k : GG θ Γ (pc + 3) L ((95 + 4, 0) :: t) M) : GG θ Γ pc L ((81 + 4, z) :: t) M := GG.getf h (κ := 95 + 4) (j := 17) (ci := 9) (N := 53) (C := RX9) (T := TX9) (ref := "MostSoldModel") (fs := fo_9) (fun _ => 0) (by decide) rfl fo_9_at (fun _ _ => rfl) (fun _ _ => trivial) (by decide) (xT_in 923 (by decide +kernel) (by decide +kernel)) rfl inT9 dd k
theorem fr_RX9_53 {θ : XΘ} {cc : ByteArray} {nn : Nat} {rm : Nat × Nat} {rc : Option FieldType} (h : Fx θ RX9 cc nn rm rc) {Γ : XG} {pc : Nat} (dd : decode cc pc = .ok (.getfield 53, 3)) {L : XL} {t : XT} {M : XM} {z : Int} (k : GG θ Γ (pc + 3) L ((0, M 81 18) :: t) M) : GG θ Γ pc L ((81 + 4, z) :: t) M := GG.getf h (κ := 0) (j := 18) (ci := 9) (N := 53) (C := RX9) (T := TX9) (ref := "MostSoldModel") (fs := fo_9) (fun f => f 18) (by decide) rfl fo_9_at (fun _ _ => rfl) (fun M hM => xwM32 hM rfl 18) (by decide) (xT_in 924 (by decide +kernel) (by decide +kernel)) rfl inT9 dd k
theorem fr_RX9_57 {θ : XΘ} {cc : ByteArray} {nn : Nat} {rm : Nat × Nat} {rc : Option FieldType} (h : Fx θ RX9 cc nn rm rc) {Γ : XG} {pc : Nat} (dd : decode cc pc = .ok (.getfield 57, 3)) {L : XL} {t : XT} {M : XM} {z : Int} (k : GG θ Γ (pc + 3) L ((96 + 4, 0) :: t) M) : GG θ Γ pc L ((81 + 4, z) :: t) M := GG.getf h (κ := 96 + 4) (j := 20) (ci := 9) (N := 53) (C := RX9) (T := TX9) (ref := "MostSoldModel") (fs := fo_9) (fun _ => 0) (by decide) rfl fo_9_at (fun _ _ => rfl) (fun _ _ => trivial) (by decide) (xT_in 926 (by decide +kernel) (by decide +kernel)) rfl inT9 dd k
theorem fr_RX9_60 {θ : XΘ} {cc : ByteArray} {nn : Nat} {rm : Nat × Nat} {rc : Option FieldType} (h : Fx θ RX9 cc nn rm rc) {Γ : XG} {pc : Nat} (dd : decode cc pc = .ok (.getfield 60, 3)) {L : XL} {t : XT} {M : XM} {z : Int} (k : GG θ Γ (pc + 3) L ((97 + 4, 0) :: t) M) : GG θ Γ pc L ((81 + 4, z) :: t) M := GG.getf h (κ := 97 + 4) (j := 21) (ci := 9) (N := 53) (C := RX9) (T := TX9) (ref := "MostSoldModel") (fs := fo_9) (fun _ => 0) (by decide) rfl fo_9_at (fun _ _ => rfl) (fun _ _ => trivial) (by decide) (xT_in 927 (by decide +kernel) (by decide +kernel)) rfl inT9 dd k
theorem fr_RX9_63 {θ : XΘ} {cc : ByteArray} {nn : Nat} {rm : Nat × Nat} {rc : Option FieldType} (h : Fx θ RX9 cc nn rm rc) {Γ : XG} {pc : Nat} (dd : decode cc pc = .ok (.getfield 63, 3)) {L : XL} {t : XT} {M : XM} {z : Int} (k : GG θ Γ (pc + 3) L ((98 + 4, 0) :: t) M) : GG θ Γ pc L ((81 + 4, z) :: t) M := GG.getf h (κ := 98 + 4) (j := 22) (ci := 9) (N := 53) (C := RX9) (T := TX9) (ref := "MostSoldModel") (fs := fo_9) (fun _ => 0) (by decide) rfl fo_9_at (fun _ _ => rfl) (fun _ _ => trivial) (by decide) (xT_in 928 (by decide +kernel) (by decide +kernel)) rfl inT9 dd k
theorem fr_RX9_66 {θ : XΘ} {cc : ByteArray} {nn : Nat} {rm : Nat × Nat} {rc : Option FieldType} (h : Fx θ RX9 cc nn rm rc) {Γ : XG} {pc : Nat} (dd : decode cc pc = .ok (.getfield 66, 3)) {L : XL} {t : XT} {M : XM} {z : Int} (k : GG θ Γ (pc + 3) L ((99 + 4, 0) :: t) M) : GG θ Γ pc L ((81 + 4, z) :: t) M := GG.getf h (κ := 99 + 4) (j := 23) (ci := 9) (N := 53) (C := RX9) (T := TX9) (ref := "MostSoldModel") (fs := fo_9) (fun _ => 0) (by decide) rfl fo_9_at (fun _ _ => rfl) (fun _ _ => trivial) (by decide) (xT_in 929 (by decide +kernel) (by decide +kernel)) rfl inT9 dd k
theorem fr_RX9_69 {θ : XΘ} {cc : ByteArray} {nn : Nat} {rm : Nat × Nat} {rc : Option FieldType} (h : Fx θ RX9 cc nn rm rc) {Γ : XG} {pc : Nat} (dd : decode cc pc = .ok (.getfield 69, 3)) {L : XL} {t : XT} {M : XM} {z : Int} (k : GG θ Γ (pc + 3) L ((100 + 4, 0) :: t) M) : GG θ Γ pc L ((81 + 4, z) :: t) M := GG.getf h (κ := 100 + 4) (j := 24) (ci := 9) (N := 53) (C := RX9) (T := TX9) (ref := "MostSoldModel") (fs := fo_9) (fun _ => 0) (by decide) rfl fo_9_at (fun _ _ => rfl) (fun _ _ => trivial) (by decide) (xT_in 930 (by decide +kernel) (by decide +kernel)) rfl inT9 dd k
theorem fr_RX9_72 {θ : XΘ} {cc : ByteArray} {nn : Nat} {rm : Nat × Nat} {rc : Option FieldType} (h : Fx θ RX9 cc nn rm rc) {Γ : XG} {pc : Nat} (dd : decode cc pc = .ok (.getfield 72, 3)) {L : XL} {t : XT} {M : XM} {z : Int} (k : GG θ Γ (pc + 3) L ((101 + 4, 0) :: t) M) : GG θ Γ pc L ((81 + 4, z) :: t) M := GG.getf h (κ := 101 + 4) (j := 25) (ci := 9) (N := 53) (C := RX9) (T := TX9) (ref := "MostSoldModel") (fs := fo_9) (fun _ => 0) (by decide) rfl fo_9_at (fun _ _ => rfl) (fun _ _ => trivial) (by decide) (xT_in 931 (by decide +kernel) (by decide +kernel)) rfl inT9 dd k
theorem fr_RX9_75 {θ : XΘ} {cc : ByteArray} {nn : Nat} {rm : Nat × Nat} {rc : Option FieldType} (h : Fx θ RX9 cc nn rm rc) {Γ : XG} {pc : Nat} (dd : decode cc pc = .ok (.getfield 75, 3)) {L : XL} {t : XT} {M : XM} {z : Int} (k : GG θ Γ (pc + 3) L ((102 + 4, 0) :: t) M) : GG θ Γ pc L ((81 + 4, z) :: t) M := GG.getf h (κ := 102 + 4) (j := 26) (ci := 9) (N := 53) (C := RX9) (T := TX9) (ref := "MostSoldModel") (fs := fo_9) (fun _ => 0) (by decide) rfl fo_9_at (fun _ _ => rfl) (fun _ _ => trivial) (by decide) (xT_in 932 (by decide +kernel) (by decide +kernel)) rfl inT9 dd k
theorem fr_RX9_78 {θ : XΘ} {cc : ByteArray} {nn : Nat} {rm : Nat × Nat} {rc : Option FieldType} (h : Fx θ RX9 cc nn rm rc) {Γ : XG} {pc : Nat} (dd : decode cc pc = .ok (.getfield 78, 3)) {L : XL} {t : XT} {M : XM} {z : Int} (k : GG θ Γ (pc + 3) L ((103 + 4, 0) :: t) M) : GG θ Γ pc L ((81 + 4, z) :: t) M := GG.getf h (κ := 103 + 4) (j := 27) (ci := 9) (N := 53) (C := RX9) (T := TX9) (ref := "MostSoldModel") (fs := fo_9) (fun _ => 0) (by decide) rfl fo_9_at (fun _ _ => rfl) (fun _ _ => trivial) (by decide) (xT_in 933 (by decide +kernel) (by decide +kernel)) rfl inT9 dd k
theorem fr_RX9_81 {θ : XΘ} {cc : ByteArray} {nn : Nat} {rm : Nat × Nat} {rc : Option FieldType} (h : Fx θ RX9 cc nn rm rc) {Γ : XG} {pc : Nat} (dd : decode cc pc = .ok (.getfield 81, 3)) {L : XL} {t : XT} {M : XM} {z : Int} (k : GG θ Γ (pc + 3) L ((0, M 81 28) :: t) M) : GG θ Γ pc L ((81 + 4, z) :: t) M := GG.getf h (κ := 0) (j := 28) (ci := 9) (N := 53) (C := RX9) (T := TX9) (ref := "MostSoldModel") (fs := fo_9) (fun f => f 28) (by decide) rfl fo_9_at (fun _ _ => rfl) (fun M hM => xwM32 hM rfl 28) (by decide) (xT_in 934 (by decide +kernel) (by decide +kernel)) rfl inT9 dd k
theorem fr_RX9_84 {θ : XΘ} {cc : ByteArray} {nn : Nat} {rm : Nat × Nat} {rc : Option FieldType} (h : Fx θ RX9 cc nn rm rc) {Γ : XG} {pc : Nat} (dd : decode cc pc = .ok (.getfield 84, 3)) {L : XL} {t : XT} {M : XM} {z : Int} (k : GG θ Γ (pc + 3) L ((0, M 81 29) :: t) M) : GG θ Γ pc L ((81 + 4, z) :: t) M := GG.getf h (κ := 0) (j := 29) (ci := 9) (N := 53) (C := RX9) (T := TX9) (ref := "MostSoldModel") (fs := fo_9) (fun f => f 29) (by decide) rfl fo_9_at (fun _ _ => rfl) (fun M hM => xwM32 hM rfl 29) (by decide) (xT_in 935 (by decide +kernel) (by decide +kernel)) rfl inT9 dd k
theorem fr_RX9_87 {θ : XΘ} {cc : ByteArray} {nn : Nat} {rm : Nat × Nat} {rc : Option FieldType} (h : Fx θ RX9 cc nn rm rc) {Γ : XG} {pc : Nat} (dd : decode cc pc = .ok (.getfield 87, 3)) {L : XL} {t : XT} {M : XM} {z : Int} (k : GG θ Γ (pc + 3) L ((104 + 4, 0) :: t) M) : GG θ Γ pc L ((81 + 4, z) :: t) M := GG.getf h (κ := 104 + 4) (j := 30) (ci := 9) (N := 53) (C := RX9) (T := TX9) (ref := "MostSoldModel") (fs := fo_9) (fun _ => 0) (by decide) rfl fo_9_at (fun _ _ => rfl) (fun _ _ => trivial) (by decide) (xT_in 936 (by decide +kernel) (by decide +kernel)) rfl inT9 dd k
theorem fr_RX9_90 {θ : XΘ} {cc : ByteArray} {nn : Nat} {rm : Nat × Nat} {rc : Option FieldType} (h : Fx θ RX9 cc nn rm rc) {Γ : XG} {pc : Nat} (dd : decode cc pc = .ok (.getfield 90, 3)) {L : XL} {t : XT} {M : XM} {z : Int} (k : GG θ Γ (pc + 3) L ((105 + 4, 0) :: t) M) : GG θ Γ pc L ((81 + 4, z) :: t) M := GG.getf h (κ := 105 + 4) (j := 34) (ci := 9) (N := 53) (C := RX9) (T := TX9) (ref := "MostSoldModel") (fs := fo_9) (fun _ => 0) (by decide) rfl fo_9_at (fun _ _ => rfl) (fun _ _ => trivial) (by decide) (xT_in 940 (by decide +kernel) (by decide +kernel)) rfl inT9 dd k
theorem fr_RX9_93 {θ : XΘ} {cc : ByteArray} {nn : Nat} {rm : Nat × Nat} {rc : Option FieldType} (h : Fx θ RX9 cc nn rm rc) {Γ : XG} {pc : Nat} (dd : decode cc pc = .ok (.getfield 93, 3)) {L : XL} {t : XT} {M : XM} {z : Int} (k : GG θ Γ (pc + 3) L ((106 + 4, 0) :: t) M) : GG θ Γ pc L ((81 + 4, z) :: t) M := GG.getf h (κ := 106 + 4) (j := 35) (ci := 9) (N := 53) (C := RX9) (T := TX9) (ref := "MostSoldModel") (fs := fo_9) (fun _ => 0) (by decide) rfl fo_9_at (fun _ _ => rfl) (fun _ _ => trivial) (by decide) (xT_in 941 (by decide +kernel) (by decide +kernel)) rfl inT9 dd k
theorem fr_RX9_96 {θ : XΘ} {cc : ByteArray} {nn : Nat} {rm : Nat × Nat} {rc : Option FieldType} (h : Fx θ RX9 cc nn rm rc) {Γ : XG} {pc : Nat} (dd : decode cc pc = .ok (.getfield 96, 3)) {L : XL} {t : XT} {M : XM} {z : Int} (k : GG θ Γ (pc + 3) L ((107 + 4, 0) :: t) M) : GG θ Γ pc L ((81 + 4, z) :: t) M := GG.getf h (κ := 107 + 4) (j := 36) (ci := 9) (N := 53) (C := RX9) (T := TX9) (ref := "MostSoldModel") (fs := fo_9) (fun _ => 0) (by decide) rfl fo_9_at (fun _ _ => rfl) (fun _ _ => trivial) (by decide) (xT_in 942 (by decide +kernel) (by decide +kernel)) rfl inT9 dd k
theorem fr_RX9_99 {θ : XΘ} {cc : ByteArray} {nn : Nat} {rm : Nat × Nat} {rc : Option FieldType} (h : Fx θ RX9 cc nn rm rc) {Γ : XG} {pc : Nat} (dd : decode cc pc = .ok (.getfield 99, 3)) {L : XL} {t : XT} {M : XM} {z : Int} (k : GG θ Γ (pc + 3) L ((108 + 4, 0) :: t) M) : GG θ Γ pc L ((81 + 4, z) :: t) M := GG.getf h (κ := 108 + 4) (j := 37) (ci := 9) (N := 53) (C := RX9) (T := TX9) (ref := "MostSoldModel") (fs := fo_9) (fun _ => 0) (by decide) rfl fo_9_at (fun _ _ => rfl) (fun _ _ => trivial) (by decide) (xT_in 943 (by decide +kernel) (by decide +kernel)) rfl inT9 dd k
theorem fr_RX9_102 {θ : XΘ} {cc : ByteArray} {nn : Nat} {rm : Nat × Nat} {rc : Option FieldType} (h : Fx θ RX9 cc nn rm rc) {Γ : XG} {pc : Nat} (dd : decode cc pc = .ok (.getfield 102, 3)) {L : XL} {t : XT} {M : XM} {z : Int} (k : GG θ Γ (pc + 3) L ((109 + 4, 0) :: t) M) : GG θ Γ pc L ((81 + 4, z) :: t) M := GG.getf h (κ := 109 + 4) (j := 38) (ci := 9) (N := 53) (C := RX9) (T := TX9) (ref := "MostSoldModel") (fs := fo_9) (fun _ => 0) (by decide) rfl fo_9_at (fun _ _ => rfl) (fun _ _ => trivial) (by decide) (xT_in 944 (by decide +kernel) (by decide +kernel)) rfl inT9 dd k
theorem fr_RX9_105 {θ : XΘ} {cc : ByteArray} {nn : Nat} {rm : Nat × Nat} {rc : Option FieldType} (h : Fx θ RX9 cc nn rm rc) {Γ : XG} {pc : Nat} (dd : decode cc pc = .ok (.getfield 105, 3)) {L : XL} {t : XT} {M : XM} {z : Int} (k : GG θ Γ (pc + 3) L ((110 + 4, 0) :: t) M) : GG θ Γ pc L ((81 + 4, z) :: t) M := GG.getf h (κ := 110 + 4) (j := 39) (ci := 9) (N := 53) (C := RX9) (T := TX9) (ref := "MostSoldModel") (fs := fo_9) (fun _ => 0) (by decide) rfl fo_9_at (fun _ _ => rfl) (fun _ _ => trivial) (by decide) (xT_in 945 (by decide +kernel) (by decide +kernel)) rfl inT9 dd k
theorem fr_RX9_108 {θ : XΘ} {cc : ByteArray} {nn : Nat} {rm : Nat × Nat} {rc : Option FieldType} (h : Fx θ RX9 cc nn rm rc) {Γ : XG} {pc : Nat} (dd : decode cc pc = .ok (.getfield 108, 3)) {L : XL} {t : XT} {M : XM} {z : Int} (k : GG θ Γ (pc + 3) L ((111 + 4, 0) :: t) M) : GG θ Γ pc L ((81 + 4, z) :: t) M := GG.getf h (κ := 111 + 4) (j := 40) (ci := 9) (N := 53) (C := RX9) (T := TX9) (ref := "MostSoldModel") (fs := fo_9) (fun _ => 0) (by decide) rfl fo_9_at (fun _ _ => rfl) (fun _ _ => trivial) (by decide) (xT_in 946 (by decide +kernel) (by decide +kernel)) rfl inT9 dd k
theorem fr_RX9_111 {θ : XΘ} {cc : ByteArray} {nn : Nat} {rm : Nat × Nat} {rc : Option FieldType} (h : Fx θ RX9 cc nn rm rc) {Γ : XG} {pc : Nat} (dd : decode cc pc = .ok (.getfield 111, 3)) {L : XL} {t : XT} {M : XM} {z : Int} (k : GG θ Γ (pc + 3) L ((112 + 4, 0) :: t) M) : GG θ Γ pc L ((81 + 4, z) :: t) M := GG.getf h (κ := 112 + 4) (j := 41) (ci := 9) (N := 53) (C := RX9) (T := TX9) (ref := "MostSoldModel") (fs := fo_9) (fun _ => 0) (by decide) rfl fo_9_at (fun _ _ => rfl) (fun _ _ => trivial) (by decide) (xT_in 947 (by decide +kernel) (by decide +kernel)) rfl inT9 dd k
theorem fr_RX9_114 {θ : XΘ} {cc : ByteArray} {nn : Nat} {rm : Nat × Nat} {rc : Option FieldType} (h : Fx θ RX9 cc nn rm rc) {Γ : XG} {pc : Nat} (dd : decode cc pc = .ok (.getfield 114, 3)) {L : XL} {t : XT} {M : XM} {z : Int} (k : GG θ Γ (pc + 3) L ((113 + 4, 0) :: t) M) : GG θ Γ pc L ((81 + 4, z) :: t) M := GG.getf h (κ := 113 + 4) (j := 42) (ci := 9) (N := 53) (C := RX9) (T := TX9) (ref := "MostSoldModel") (fs := fo_9) (fun _ => 0) (by decide) rfl fo_9_at (fun _ _ => rfl) (fun _ _ => trivial) (by decide) (xT_in 948 (by decide +kernel) (by decide +kernel)) rfl inT9 dd k
theorem fr_RX9_117 {θ : XΘ} {cc : ByteArray} {nn : Nat} {rm : Nat × Nat} {rc : Option FieldType} (h : Fx θ RX9 cc nn rm rc) {Γ : XG} {pc : Nat} (dd : decode cc pc = .ok (.getfield 117, 3)) {L : XL} {t : XT} {M : XM} {z : Int} (k : GG θ Γ (pc + 3) L ((114 + 4, 0) :: t) M) : GG θ Γ pc L ((81 + 4, z) :: t) M := GG.getf h (κ := 114 + 4) (j := 43) (ci := 9) (N := 53) (C := RX9) (T := TX9) (ref := "MostSoldModel") (fs := fo_9) (fun _ => 0) (by decide) rfl fo_9_at (fun _ _ => rfl) (fun _ _ => trivial) (by decide) (xT_in 949 (by decide +kernel) (by decide +kernel)) rfl inT9 dd k
theorem fr_RX9_120 {θ : XΘ} {cc : ByteArray} {nn : Nat} {rm : Nat × Nat} {rc : Option FieldType} (h : Fx θ RX9 cc nn rm rc) {Γ : XG} {pc : Nat} (dd : decode cc pc = .ok (.getfield 120, 3)) {L : XL} {t : XT} {M : XM} {z : Int} (k : GG θ Γ (pc + 3) L ((115 + 4, 0) :: t) M) : GG θ Γ pc L ((81 + 4, z) :: t) M := GG.getf h (κ := 115 + 4) (j := 44) (ci := 9) (N := 53) (C := RX9) (T := TX9) (ref := "MostSoldModel") (fs := fo_9) (fun _ => 0) (by decide) rfl fo_9_at (fun _ _ => rfl) (fun _ _ => trivial) (by decide) (xT_in 950 (by decide +kernel) (by decide +kernel)) rfl inT9 dd k
theorem fr_RX9_123 {θ : XΘ} {cc : ByteArray} {nn : Nat} {rm : Nat × Nat} {rc : Option FieldType} (h : Fx θ RX9 cc nn rm rc) {Γ : XG} {pc : Nat} (dd : decode cc pc = .ok (.getfield 123, 3)) {L : XL} {t : XT} {M : XM} {z : Int} (k : GG θ Γ (pc + 3) L ((116 + 4, 0) :: t) M) : GG θ Γ pc L ((81 + 4, z) :: t) M := GG.getf h (κ := 116 + 4) (j := 46) (ci := 9) (N := 53) (C := RX9) (T := TX9) (ref := "MostSoldModel") (fs := fo_9) (fun _ => 0) (by decide) rfl fo_9_at (fun _ _ => rfl) (fun _ _ => trivial) (by decide) (xT_in 952 (by decide +kernel) (by decide +kernel)) rfl inT9 dd k
theorem fr_RX9_126 {θ : XΘ} {cc : ByteArray} {nn : Nat} {rm : Nat × Nat} {rc : Option FieldType} (h : Fx θ RX9 cc nn rm rc) {Γ : XG} {pc : Nat} (dd : decode cc pc = .ok (.getfield 126, 3)) {L : XL} {t : XT} {M : XM} {z : Int} (k : GG θ Γ (pc + 3) L ((117 + 4, 0) :: t) M) : GG θ Γ pc L ((81 + 4, z) :: t) M := GG.getf h (κ := 117 + 4) (j := 47) (ci := 9) (N := 53) (C := RX9) (T := TX9) (ref := "MostSoldModel") (fs := fo_9) (fun _ => 0) (by decide) rfl fo_9_at (fun _ _ => rfl) (fun _ _ => trivial) (by decide) (xT_in 953 (by decide +kernel) (by decide +kernel)) rfl inT9 dd k
theorem fr_RX9_129 {θ : XΘ} {cc : ByteArray} {nn : Nat} {rm : Nat × Nat} {rc : Option FieldType} (h : Fx θ RX9 cc nn rm rc) {Γ : XG} {pc : Nat} (dd : decode cc pc = .ok (.getfield 129, 3)) {L : XL} {t : XT} {M : XM} {z : Int} (k : GG θ Γ (pc + 3) L ((118 + 4, 0) :: t) M) : GG θ Γ pc L ((81 + 4, z) :: t) M := GG.getf h (κ := 118 + 4) (j := 49) (ci := 9) (N := 53) (C := RX9) (T := TX9) (ref := "MostSoldModel") (fs := fo_9) (fun _ => 0) (by decide) rfl fo_9_at (fun _ _ => rfl) (fun _ _ => trivial) (by decide) (xT_in 955 (by decide +kernel) (by decide +kernel)) rfl inT9 dd k
theorem fr_RX9_132 {θ : XΘ} {cc : ByteArray} {nn : Nat} {rm : Nat × Nat} {rc : Option FieldType} (h : Fx θ RX9 cc nn rm rc) {Γ : XG} {pc : Nat} (dd : decode cc pc = .ok (.getfield 132, 3)) {L : XL} {t : XT} {M : XM} {z : Int} (k : GG θ Γ (pc + 3) L ((119 + 4, 0) :: t) M) : GG θ Γ pc L ((81 + 4, z) :: t) M := GG.getf h (κ := 119 + 4) (j := 52) (ci := 9) (N := 53) (C := RX9) (T := TX9) (ref := "MostSoldModel") (fs := fo_9) (fun _ => 0) (by decide) rfl fo_9_at (fun _ _ => rfl) (fun _ _ => trivial) (by decide) (xT_in 958 (by decide +kernel) (by decide +kernel)) rfl inT9 dd k
theorem fr_RX9_137 {θ : XΘ} {cc : ByteArray} {nn : Nat} {rm : Nat × Nat} {rc : Option FieldType} (h : Fx θ RX9 cc nn rm rc) {Γ : XG} {pc : Nat} (dd : decode cc pc = .ok (.getfield 137, 3)) {L : XL} {t : XT} {M : XM} {z : Int} (k : GG θ Γ (pc + 3) L ((0, M 81 4) :: t) M) : GG θ Γ pc L ((81 + 4, z) :: t) M := GG.getf h (κ := 0) (j := 4) (ci := 9) (N := 53) (C := RX9) (T := TX9) (ref := "MostSoldModel") (fs := fo_9) (fun f => f 4) (by decide) rfl fo_9_at (fun _ _ => rfl) (fun M hM => xwM32 hM rfl 4) (by decide) (xT_in 910 (by decide +kernel) (by decide +kernel)) rfl inT9 dd k
theorem fr_RX9_164 {θ : XΘ} {cc : ByteArray} {nn : Nat} {rm : Nat × Nat} {rc : Option FieldType} (h : Fx θ RX9 cc nn rm rc) {Γ : XG} {pc : Nat} (dd : decode cc pc = .ok (.getfield 164, 3)) {L : XL} {t : XT} {M : XM} {z : Int} (k : GG θ Γ (pc + 3) L ((0, M 81 5) :: t) M) : GG θ Γ pc L ((81 + 4, z) :: t) M := GG.getf h (κ := 0) (j := 5) (ci := 9) (N := 53) (C := RX9) (T := TX9) (ref := "MostSoldModel") (fs := fo_9) (fun f => f 5) (by decide) rfl fo_9_at (fun _ _ => rfl) (fun M hM => xwM32 hM rfl 5) (by decide) (xT_in 911 (by decide +kernel) (by decide +kernel)) rfl inT9 dd k
theorem fr_RX9_167 {θ : XΘ} {cc : ByteArray} {nn : Nat} {rm : Nat × Nat} {rc : Option FieldType} (h : Fx θ RX9 cc nn rm rc) {Γ : XG} {pc : Nat} (dd : decode cc pc = .ok (.getfield 167, 3)) {L : XL} {t : XT} {M : XM} {z : Int} (k : GG θ Γ (pc + 3) L ((0, M 81 7) :: t) M) : GG θ Γ pc L ((81 + 4, z) :: t) M := GG.getf h (κ := 0) (j := 7) (ci := 9) (N := 53) (C := RX9) (T := TX9) (ref := "MostSoldModel") (fs := fo_9) (fun f => f 7) (by decide) rfl fo_9_at (fun _ _ => rfl) (fun M hM => xwM32 hM rfl 7) (by decide) (xT_in 913 (by decide +kernel) (by decide +kernel)) rfl inT9 dd k
theorem fr_RX9_170 {θ : XΘ} {cc : ByteArray} {nn : Nat} {rm : Nat × Nat} {rc : Option FieldType} (h : Fx θ RX9 cc nn rm rc) {Γ : XG} {pc : Nat} (dd : decode cc pc = .ok (.getfield 170, 3)) {L : XL} {t : XT} {M : XM} {z : Int} (k : GG θ Γ (pc + 3) L ((0, M 81 11) :: t) M) : GG θ Γ pc L ((81 + 4, z) :: t) M := GG.getf h (κ := 0) (j := 11) (ci := 9) (N := 53) (C := RX9) (T := TX9) (ref := "MostSoldModel") (fs := fo_9) (fun f => f 11) (by decide) rfl fo_9_at (fun _ _ => rfl) (fun M hM => xwM32 hM rfl 11) (by decide) (xT_in 917 (by decide +kernel) (by decide +kernel)) rfl inT9 dd k
theorem fr_RX9_196 {θ : XΘ} {cc : ByteArray} {nn : Nat} {rm : Nat × Nat} {rc : Option FieldType} (h : Fx θ RX9 cc nn rm rc) {Γ : XG} {pc : Nat} (dd : decode cc pc = .ok (.getfield 196, 3)) {L : XL} {t : XT} {M : XM} {z : Int} (k : GG θ Γ (pc + 3) L ((0, M 81 19) :: t) M) : GG θ Γ pc L ((81 + 4, z) :: t) M := GG.getf h (κ := 0) (j := 19) (ci := 9) (N := 53) (C := RX9) (T := TX9) (ref := "MostSoldModel") (fs := fo_9) (fun f => f 19) (by decide) rfl fo_9_at (fun _ _ => rfl) (fun M hM => xwM32 hM rfl 19) (by decide) (xT_in 925 (by decide +kernel) (by decide +kernel)) rfl inT9 dd k
theorem fr_RX9_230 {θ : XΘ} {cc : ByteArray} {nn : Nat} {rm : Nat × Nat} {rc : Option FieldType} (h : Fx θ RX9 cc nn rm rc) {Γ : XG} {pc : Nat} (dd : decode cc pc = .ok (.getfield 230, 3)) {L : XL} {t : XT} {M : XM} {z : Int} (k : GG θ Γ (pc + 3) L ((0, M 81 31) :: t) M) : GG θ Γ pc L ((81 + 4, z) :: t) M := GG.getf h (κ := 0) (j := 31) (ci := 9) (N := 53) (C := RX9) (T := TX9) (ref := "MostSoldModel") (fs := fo_9) (fun f => f 31) (by decide) rfl fo_9_at (fun _ _ => rfl) (fun M hM => xwM32 hM rfl 31) (by decide) (xT_in 937 (by decide +kernel) (by decide +kernel)) rfl inT9 dd k
theorem fr_RX9_233 {θ : XΘ} {cc : ByteArray} {nn : Nat} {rm : Nat × Nat} {rc : Option FieldType} (h : Fx θ RX9 cc nn rm rc) {Γ : XG} {pc : Nat} (dd : decode cc pc = .ok (.getfield 233, 3)) {L : XL} {t : XT} {M : XM} {z : Int} (k : GG θ Γ (pc + 3) L ((0, M 81 32) :: t) M) : GG θ Γ pc L ((81 + 4, z) :: t) M := GG.getf h (κ := 0) (j := 32) (ci := 9) (N := 53) (C := RX9) (T := TX9) (ref := "MostSoldModel") (fs := fo_9) (fun f => f 32) (by decide) rfl fo_9_at (fun _ _ => rfl) (fun M hM => xwM32 hM rfl 32) (by decide) (xT_in 938 (by decide +kernel) (by decide +kernel)) rfl inT9 dd k
theorem fr_RX9_252 {θ : XΘ} {cc : ByteArray} {nn : Nat} {rm : Nat × Nat} {rc : Option FieldType} (h : Fx θ RX9 cc nn rm rc) {Γ : XG} {pc : Nat} (dd : decode cc pc = .ok (.getfield 252, 3)) {L : XL} {t : XT} {M : XM} {z : Int} (k : GG θ Γ (pc + 3) L ((0, M 81 33) :: t) M) : GG θ Γ pc L ((81 + 4, z) :: t) M := GG.getf h (κ := 0) (j := 33) (ci := 9) (N := 53) (C := RX9) (T := TX9) (ref := "MostSoldModel") (fs := fo_9) (fun f => f 33) (by decide) rfl fo_9_at (fun _ _ => rfl) (fun M hM => xwM32 hM rfl 33) (by decide) (xT_in 939 (by decide +kernel) (by decide +kernel)) rfl inT9 dd k
theorem fr_RX9_298 {θ : XΘ} {cc : ByteArray} {nn : Nat} {rm : Nat × Nat} {rc : Option FieldType} (h : Fx θ RX9 cc nn rm rc) {Γ : XG} {pc : Nat} (dd : decode cc pc = .ok (.getfield 298, 3)) {L : XL} {t : XT} {M : XM} {z : Int} (k : GG θ Γ (pc + 3) L ((0, M 81 45) :: t) M) : GG θ Γ pc L ((81 + 4, z) :: t) M := GG.getf h (κ := 0) (j := 45) (ci := 9) (N := 53) (C := RX9) (T := TX9) (ref := "MostSoldModel") (fs := fo_9) (fun f => f 45) (by decide) rfl fo_9_at (fun _ _ => rfl) (fun M hM => xwM32 hM rfl 45) (by decide) (xT_in 951 (by decide +kernel) (by decide +kernel)) rfl inT9 dd k
theorem fr_RX9_321 {θ : XΘ} {cc : ByteArray} {nn : Nat} {rm : Nat × Nat} {rc : Option FieldType} (h : Fx θ RX9 cc nn rm rc) {Γ : XG} {pc : Nat} (dd : decode cc pc = .ok (.getfield 321, 3)) {L : XL} {t : XT} {M : XM} {z : Int} (k : GG θ Γ (pc + 3) L ((0, M 81 48) :: t) M) : GG θ Γ pc L ((81 + 4, z) :: t) M := GG.getf h (κ := 0) (j := 48) (ci := 9) (N := 53) (C := RX9) (T := TX9) (ref := "MostSoldModel") (fs := fo_9) (fun f => f 48) (by decide) rfl fo_9_at (fun _ _ => rfl) (fun M hM => xwM32 hM rfl 48) (by decide) (xT_in 954 (by decide +kernel) (by decide +kernel)) rfl inT9 dd k
theorem fr_RX9_324 {θ : XΘ} {cc : ByteArray} {nn : Nat} {rm : Nat × Nat} {rc : Option FieldType} (h : Fx θ RX9 cc nn rm rc) {Γ : XG} {pc : Nat} (dd : decode cc pc = .ok (.getfield 324, 3)) {L : XL} {t : XT} {M : XM} {z : Int} (k : GG θ Γ (pc + 3) L ((0, M 81 50) :: t) M) : GG θ Γ pc L ((81 + 4, z) :: t) M := GG.getf h (κ := 0) (j := 50) (ci := 9) (N := 53) (C := RX9) (T := TX9) (ref := "MostSoldModel") (fs := fo_9) (fun f => f 50) (by decide) rfl fo_9_at (fun _ _ => rfl) (fun M hM => xwM32 hM rfl 50) (by decide) (xT_in 956 (by decide +kernel) (by decide +kernel)) rfl inT9 dd k
theorem fr_RX9_333 {θ : XΘ} {cc : ByteArray} {nn : Nat} {rm : Nat × Nat} {rc : Option FieldType} (h : Fx θ RX9 cc nn rm rc) {Γ : XG} {pc : Nat} (dd : decode cc pc = .ok (.getfield 333, 3)) {L : XL} {t : XT} {M : XM} {z : Int} (k : GG θ Γ (pc + 3) L ((0, M 81 51) :: t) M) : GG θ Γ pc L ((81 + 4, z) :: t) M := GG.getf h (κ := 0) (j := 51) (ci := 9) (N := 53) (C := RX9) (T := TX9) (ref := "MostSoldModel") (fs := fo_9) (fun f => f 51) (by decide) rfl fo_9_at (fun _ _ => rfl) (fun M hM => xwM32 hM rfl 51) (by decide) (xT_in 957 (by decide +kernel) (by decide +kernel)) rfl inT9 dd k
theorem fw_RX8_173 {θ : XΘ} {cc : ByteArray} {nn : Nat} {rm : Nat × Nat} {rc : Option FieldType} (h : Fx θ RX8 cc nn rm rc) {Γ : XG} {pc : Nat} (dd : decode cc pc = .ok (.putfield 173, 3)) {L : XL} {t : XT} {M : XM} {z v : Int} (k : GG θ Γ (pc + 3) L t (st M 13 1 v)) : GG θ Γ pc L ((0, v) :: (13 + 4, z) :: t) M := GG.putf h (j := 1) (ci := 3) (N := 11) (C := RX3) (T := TX3) (ref := "MostSold$Ledger") (fs := fo_3) (by decide) rfl rfl fo_3_at (fun _ _ _ => rfl) (fun _ _ => Nat.le_of_ble_eq_true rfl) (by decide) (xT_in 149 (by decide +kernel) (by decide +kernel)) rfl rfl tyX3 tyX3_ok rfl nmX3 inT3 dd k
theorem fw_RX8_376 {θ : XΘ} {cc : ByteArray} {nn : Nat} {rm : Nat × Nat} {rc : Option FieldType} (h : Fx θ RX8 cc nn rm rc) {Γ : XG} {pc : Nat} (dd : decode cc pc = .ok (.putfield 376, 3)) {L : XL} {t : XT} {M : XM} {z v : Int} (k : GG θ Γ (pc + 3) L t (st M 13 2 v)) : GG θ Γ pc L ((0, v) :: (13 + 4, z) :: t) M := GG.putf h (j := 2) (ci := 3) (N := 11) (C := RX3) (T := TX3) (ref := "MostSold$Ledger") (fs := fo_3) (by decide) rfl rfl fo_3_at (fun _ _ _ => rfl) (fun _ _ => Nat.le_of_ble_eq_true rfl) (by decide) (xT_in 151 (by decide +kernel) (by decide +kernel)) rfl rfl tyX3 tyX3_ok rfl nmX3 inT3 dd k
theorem fw_RX0_23 {θ : XΘ} {cc : ByteArray} {nn : Nat} {rm : Nat × Nat} {rc : Option FieldType} (h : Fx θ RX0 cc nn rm rc) {Γ : XG} {pc : Nat} (dd : decode cc pc = .ok (.putfield 23, 3)) {L : XL} {t : XT} {M : XM} {z v : Int} (k : GG θ Γ (pc + 3) L t (st M 67 5 v)) : GG θ Γ pc L ((0, v) :: (67 + 4, z) :: t) M := GG.putf h (j := 5) (ci := 0) (N := 8) (C := RX0) (T := TX0) (ref := "MostSold$Doubts") (fs := fo_0) (by decide) rfl rfl fo_0_at (fun _ _ _ => rfl) (fun _ _ => Nat.le_of_ble_eq_true rfl) (by decide) (xT_in 336 (by decide +kernel) (by decide +kernel)) rfl rfl tyX0 tyX0_ok rfl nmX0 inT0 dd k
theorem fw_RX0_27 {θ : XΘ} {cc : ByteArray} {nn : Nat} {rm : Nat × Nat} {rc : Option FieldType} (h : Fx θ RX0 cc nn rm rc) {Γ : XG} {pc : Nat} (dd : decode cc pc = .ok (.putfield 27, 3)) {L : XL} {t : XT} {M : XM} {z v : Int} (k : GG θ Γ (pc + 3) L t (st M 67 3 v)) : GG θ Γ pc L ((0, v) :: (67 + 4, z) :: t) M := GG.putf h (j := 3) (ci := 0) (N := 8) (C := RX0) (T := TX0) (ref := "MostSold$Doubts") (fs := fo_0) (by decide) rfl rfl fo_0_at (fun _ _ _ => rfl) (fun _ _ => Nat.le_of_ble_eq_true rfl) (by decide) (xT_in 334 (by decide +kernel) (by decide +kernel)) rfl rfl tyX0 tyX0_ok rfl nmX0 inT0 dd k
theorem fw_RX0_53 {θ : XΘ} {cc : ByteArray} {nn : Nat} {rm : Nat × Nat} {rc : Option FieldType} (h : Fx θ RX0 cc nn rm rc) {Γ : XG} {pc : Nat} (dd : decode cc pc = .ok (.putfield 53, 3)) {L : XL} {t : XT} {M : XM} {z v : Int} (k : GG θ Γ (pc + 3) L t (st M 67 4 v)) : GG θ Γ pc L ((0, v) :: (67 + 4, z) :: t) M := GG.putf h (j := 4) (ci := 0) (N := 8) (C := RX0) (T := TX0) (ref := "MostSold$Doubts") (fs := fo_0) (by decide) rfl rfl fo_0_at (fun _ _ _ => rfl) (fun _ _ => Nat.le_of_ble_eq_true rfl) (by decide) (xT_in 335 (by decide +kernel) (by decide +kernel)) rfl rfl tyX0 tyX0_ok rfl nmX0 inT0 dd k
theorem fw_RX0_81 {θ : XΘ} {cc : ByteArray} {nn : Nat} {rm : Nat × Nat} {rc : Option FieldType} (h : Fx θ RX0 cc nn rm rc) {Γ : XG} {pc : Nat} (dd : decode cc pc = .ok (.putfield 81, 3)) {L : XL} {t : XT} {M : XM} {z v : Int} (k : GG θ Γ (pc + 3) L t (st M 67 6 v)) : GG θ Γ pc L ((0, v) :: (67 + 4, z) :: t) M := GG.putf h (j := 6) (ci := 0) (N := 8) (C := RX0) (T := TX0) (ref := "MostSold$Doubts") (fs := fo_0) (by decide) rfl rfl fo_0_at (fun _ _ _ => rfl) (fun _ _ => Nat.le_of_ble_eq_true rfl) (by decide) (xT_in 338 (by decide +kernel) (by decide +kernel)) rfl rfl tyX0 tyX0_ok rfl nmX0 inT0 dd k
theorem fw_RX0_84 {θ : XΘ} {cc : ByteArray} {nn : Nat} {rm : Nat × Nat} {rc : Option FieldType} (h : Fx θ RX0 cc nn rm rc) {Γ : XG} {pc : Nat} (dd : decode cc pc = .ok (.putfield 84, 3)) {L : XL} {t : XT} {M : XM} {z v : Int} (k : GG θ Γ (pc + 3) L t (st M 67 7 v)) : GG θ Γ pc L ((0, v) :: (67 + 4, z) :: t) M := GG.putf h (j := 7) (ci := 0) (N := 8) (C := RX0) (T := TX0) (ref := "MostSold$Doubts") (fs := fo_0) (by decide) rfl rfl fo_0_at (fun _ _ _ => rfl) (fun _ _ => Nat.le_of_ble_eq_true rfl) (by decide) (xT_in 340 (by decide +kernel) (by decide +kernel)) rfl rfl tyX0 tyX0_ok rfl nmX0 inT0 dd k
theorem fw_RX1_22 {θ : XΘ} {cc : ByteArray} {nn : Nat} {rm : Nat × Nat} {rc : Option FieldType} (h : Fx θ RX1 cc nn rm rc) {Γ : XG} {pc : Nat} (dd : decode cc pc = .ok (.putfield 22, 3)) {L : XL} {t : XT} {M : XM} {z v : Int} (k : GG θ Γ (pc + 3) L t (st M 69 3 v)) : GG θ Γ pc L ((0, v) :: (69 + 4, z) :: t) M := GG.putf h (j := 3) (ci := 1) (N := 5) (C := RX1) (T := TX1) (ref := "MostSold$Errand") (fs := fo_1) (by decide) rfl rfl fo_1_at (fun _ _ _ => rfl) (fun _ _ => Nat.le_of_ble_eq_true rfl) (by decide) (xT_in 367 (by decide +kernel) (by decide +kernel)) rfl rfl tyX1 tyX1_ok rfl nmX1 inT1 dd k
theorem fw_RX1_26 {θ : XΘ} {cc : ByteArray} {nn : Nat} {rm : Nat × Nat} {rc : Option FieldType} (h : Fx θ RX1 cc nn rm rc) {Γ : XG} {pc : Nat} (dd : decode cc pc = .ok (.putfield 26, 3)) {L : XL} {t : XT} {M : XM} {z v : Int} (k : GG θ Γ (pc + 3) L t (st M 69 4 v)) : GG θ Γ pc L ((0, v) :: (69 + 4, z) :: t) M := GG.putf h (j := 4) (ci := 1) (N := 5) (C := RX1) (T := TX1) (ref := "MostSold$Errand") (fs := fo_1) (by decide) rfl rfl fo_1_at (fun _ _ _ => rfl) (fun _ _ => Nat.le_of_ble_eq_true rfl) (by decide) (xT_in 368 (by decide +kernel) (by decide +kernel)) rfl rfl tyX1 tyX1_ok rfl nmX1 inT1 dd k
theorem fw_RX3_43 {θ : XΘ} {cc : ByteArray} {nn : Nat} {rm : Nat × Nat} {rc : Option FieldType} (h : Fx θ RX3 cc nn rm rc) {Γ : XG} {pc : Nat} (dd : decode cc pc = .ok (.putfield 43, 3)) {L : XL} {t : XT} {M : XM} {z v : Int} (k : GG θ Γ (pc + 3) L t (st M 13 0 v)) : GG θ Γ pc L ((0, v) :: (13 + 4, z) :: t) M := GG.putf h (j := 0) (ci := 3) (N := 11) (C := RX3) (T := TX3) (ref := "MostSold$Ledger") (fs := fo_3) (by decide) rfl rfl fo_3_at (fun _ _ _ => rfl) (fun _ _ => Nat.le_of_ble_eq_true rfl) (by decide) (xT_in 142 (by decide +kernel) (by decide +kernel)) rfl rfl tyX3 tyX3_ok rfl nmX3 inT3 dd k
theorem fw_RX4_30 {θ : XΘ} {cc : ByteArray} {nn : Nat} {rm : Nat × Nat} {rc : Option FieldType} (h : Fx θ RX4 cc nn rm rc) {Γ : XG} {pc : Nat} (dd : decode cc pc = .ok (.putfield 30, 3)) {L : XL} {t : XT} {M : XM} {z v : Int} (k : GG θ Γ (pc + 3) L t (st M 22 1 v)) : GG θ Γ pc L ((0, v) :: (22 + 4, z) :: t) M := GG.putf h (j := 1) (ci := 4) (N := 11) (C := RX4) (T := TX4) (ref := "MostSold$Rules") (fs := fo_4) (by decide) rfl rfl fo_4_at (fun _ _ _ => rfl) (fun _ _ => Nat.le_of_ble_eq_true rfl) (by decide) (xT_in 212 (by decide +kernel) (by decide +kernel)) rfl rfl tyX4 tyX4_ok rfl nmX4 inT4 dd k
theorem fw_RX4_37 {θ : XΘ} {cc : ByteArray} {nn : Nat} {rm : Nat × Nat} {rc : Option FieldType} (h : Fx θ RX4 cc nn rm rc) {Γ : XG} {pc : Nat} (dd : decode cc pc = .ok (.putfield 37, 3)) {L : XL} {t : XT} {M : XM} {z v : Int} (k : GG θ Γ (pc + 3) L t (st M 22 2 v)) : GG θ Γ pc L ((0, v) :: (22 + 4, z) :: t) M := GG.putf h (j := 2) (ci := 4) (N := 11) (C := RX4) (T := TX4) (ref := "MostSold$Rules") (fs := fo_4) (by decide) rfl rfl fo_4_at (fun _ _ _ => rfl) (fun _ _ => Nat.le_of_ble_eq_true rfl) (by decide) (xT_in 214 (by decide +kernel) (by decide +kernel)) rfl rfl tyX4 tyX4_ok rfl nmX4 inT4 dd k
theorem fw_RX4_40 {θ : XΘ} {cc : ByteArray} {nn : Nat} {rm : Nat × Nat} {rc : Option FieldType} (h : Fx θ RX4 cc nn rm rc) {Γ : XG} {pc : Nat} (dd : decode cc pc = .ok (.putfield 40, 3)) {L : XL} {t : XT} {M : XM} {z v : Int} (k : GG θ Γ (pc + 3) L t (st M 22 8 v)) : GG θ Γ pc L ((0, v) :: (22 + 4, z) :: t) M := GG.putf h (j := 8) (ci := 4) (N := 11) (C := RX4) (T := TX4) (ref := "MostSold$Rules") (fs := fo_4) (by decide) rfl rfl fo_4_at (fun _ _ _ => rfl) (fun _ _ => Nat.le_of_ble_eq_true rfl) (by decide) (xT_in 225 (by decide +kernel) (by decide +kernel)) rfl rfl tyX4 tyX4_ok rfl nmX4 inT4 dd k
theorem fw_RX4_43 {θ : XΘ} {cc : ByteArray} {nn : Nat} {rm : Nat × Nat} {rc : Option FieldType} (h : Fx θ RX4 cc nn rm rc) {Γ : XG} {pc : Nat} (dd : decode cc pc = .ok (.putfield 43, 3)) {L : XL} {t : XT} {M : XM} {z v : Int} (k : GG θ Γ (pc + 3) L t (st M 22 9 v)) : GG θ Γ pc L ((0, v) :: (22 + 4, z) :: t) M := GG.putf h (j := 9) (ci := 4) (N := 11) (C := RX4) (T := TX4) (ref := "MostSold$Rules") (fs := fo_4) (by decide) rfl rfl fo_4_at (fun _ _ _ => rfl) (fun _ _ => Nat.le_of_ble_eq_true rfl) (by decide) (xT_in 226 (by decide +kernel) (by decide +kernel)) rfl rfl tyX4 tyX4_ok rfl nmX4 inT4 dd k
theorem fw_RX4_49 {θ : XΘ} {cc : ByteArray} {nn : Nat} {rm : Nat × Nat} {rc : Option FieldType} (h : Fx θ RX4 cc nn rm rc) {Γ : XG} {pc : Nat} (dd : decode cc pc = .ok (.putfield 49, 3)) {L : XL} {t : XT} {M : XM} {z v : Int} (k : GG θ Γ (pc + 3) L t (st M 22 10 v)) : GG θ Γ pc L ((0, v) :: (22 + 4, z) :: t) M := GG.putf h (j := 10) (ci := 4) (N := 11) (C := RX4) (T := TX4) (ref := "MostSold$Rules") (fs := fo_4) (by decide) rfl rfl fo_4_at (fun _ _ _ => rfl) (fun _ _ => Nat.le_of_ble_eq_true rfl) (by decide) (xT_in 227 (by decide +kernel) (by decide +kernel)) rfl rfl tyX4 tyX4_ok rfl nmX4 inT4 dd k
theorem fw_RX5_29 {θ : XΘ} {cc : ByteArray} {nn : Nat} {rm : Nat × Nat} {rc : Option FieldType} (h : Fx θ RX5 cc nn rm rc) {Γ : XG} {pc : Nat} (dd : decode cc pc = .ok (.putfield 29, 3)) {L : XL} {t : XT} {M : XM} {z v : Int} (k : GG θ Γ (pc + 3) L t (st M 73 3 v)) : GG θ Γ pc L ((0, v) :: (73 + 4, z) :: t) M := GG.putf h (j := 3) (ci := 5) (N := 4) (C := RX5) (T := TX5) (ref := "MostSold$Sheets") (fs := fo_5) (by decide) rfl rfl fo_5_at (fun _ _ _ => rfl) (fun _ _ => Nat.le_of_ble_eq_true rfl) (by decide) (xT_in 393 (by decide +kernel) (by decide +kernel)) rfl rfl tyX5 tyX5_ok rfl nmX5 inT5 dd k
theorem fw_RX6_164 {θ : XΘ} {cc : ByteArray} {nn : Nat} {rm : Nat × Nat} {rc : Option FieldType} (h : Fx θ RX6 cc nn rm rc) {Γ : XG} {pc : Nat} (dd : decode cc pc = .ok (.putfield 164, 3)) {L : XL} {t : XT} {M : XM} {z v : Int} (k : GG θ Γ (pc + 3) L t (st M 29 11 v)) : GG θ Γ pc L ((0, v) :: (29 + 4, z) :: t) M := GG.putf h (j := 11) (ci := 6) (N := 13) (C := RX6) (T := TX6) (ref := "MostSold$Tally") (fs := fo_6) (by decide) rfl rfl fo_6_at (fun _ _ _ => rfl) (fun _ _ => Nat.le_of_ble_eq_true rfl) (by decide) (xT_in 271 (by decide +kernel) (by decide +kernel)) rfl rfl tyX6 tyX6_ok rfl nmX6 inT6 dd k
theorem fw_RX7_42 {θ : XΘ} {cc : ByteArray} {nn : Nat} {rm : Nat × Nat} {rc : Option FieldType} (h : Fx θ RX7 cc nn rm rc) {Γ : XG} {pc : Nat} (dd : decode cc pc = .ok (.putfield 42, 3)) {L : XL} {t : XT} {M : XM} {z v : Int} (k : GG θ Γ (pc + 3) L t (st M 2 0 v)) : GG θ Γ pc L ((0, v) :: (2 + 4, z) :: t) M := GG.putf h (j := 0) (ci := 7) (N := 14) (C := RX7) (T := TX7) (ref := "MostSold$Trade") (fs := fo_7) (by decide) rfl rfl fo_7_at (fun _ _ _ => rfl) (fun _ _ => Nat.le_of_ble_eq_true rfl) (by decide) (xT_in 76 (by decide +kernel) (by decide +kernel)) rfl rfl tyX7 tyX7_ok rfl nmX7 inT7 dd k
theorem fw_RX7_50 {θ : XΘ} {cc : ByteArray} {nn : Nat} {rm : Nat × Nat} {rc : Option FieldType} (h : Fx θ RX7 cc nn rm rc) {Γ : XG} {pc : Nat} (dd : decode cc pc = .ok (.putfield 50, 3)) {L : XL} {t : XT} {M : XM} {z v : Int} (k : GG θ Γ (pc + 3) L t (st M 2 2 v)) : GG θ Γ pc L ((0, v) :: (2 + 4, z) :: t) M := GG.putf h (j := 2) (ci := 7) (N := 14) (C := RX7) (T := TX7) (ref := "MostSold$Trade") (fs := fo_7) (by decide) rfl rfl fo_7_at (fun _ _ _ => rfl) (fun _ _ => Nat.le_of_ble_eq_true rfl) (by decide) (xT_in 82 (by decide +kernel) (by decide +kernel)) rfl rfl tyX7 tyX7_ok rfl nmX7 inT7 dd k
theorem fw_RX7_53 {θ : XΘ} {cc : ByteArray} {nn : Nat} {rm : Nat × Nat} {rc : Option FieldType} (h : Fx θ RX7 cc nn rm rc) {Γ : XG} {pc : Nat} (dd : decode cc pc = .ok (.putfield 53, 3)) {L : XL} {t : XT} {M : XM} {z v : Int} (k : GG θ Γ (pc + 3) L t (st M 2 6 v)) : GG θ Γ pc L ((0, v) :: (2 + 4, z) :: t) M := GG.putf h (j := 6) (ci := 7) (N := 14) (C := RX7) (T := TX7) (ref := "MostSold$Trade") (fs := fo_7) (by decide) rfl rfl fo_7_at (fun _ _ _ => rfl) (fun _ _ => Nat.le_of_ble_eq_true rfl) (by decide) (xT_in 93 (by decide +kernel) (by decide +kernel)) rfl rfl tyX7 tyX7_ok rfl nmX7 inT7 dd k
theorem fw_RX7_56 {θ : XΘ} {cc : ByteArray} {nn : Nat} {rm : Nat × Nat} {rc : Option FieldType} (h : Fx θ RX7 cc nn rm rc) {Γ : XG} {pc : Nat} (dd : decode cc pc = .ok (.putfield 56, 3)) {L : XL} {t : XT} {M : XM} {z v : Int} (k : GG θ Γ (pc + 3) L t (st M 2 12 v)) : GG θ Γ pc L ((0, v) :: (2 + 4, z) :: t) M := GG.putf h (j := 12) (ci := 7) (N := 14) (C := RX7) (T := TX7) (ref := "MostSold$Trade") (fs := fo_7) (by decide) rfl rfl fo_7_at (fun _ _ _ => rfl) (fun _ _ => Nat.le_of_ble_eq_true rfl) (by decide) (xT_in 103 (by decide +kernel) (by decide +kernel)) rfl rfl tyX7 tyX7_ok rfl nmX7 inT7 dd k
theorem fw_RX9_53 {θ : XΘ} {cc : ByteArray} {nn : Nat} {rm : Nat × Nat} {rc : Option FieldType} (h : Fx θ RX9 cc nn rm rc) {Γ : XG} {pc : Nat} (dd : decode cc pc = .ok (.putfield 53, 3)) {L : XL} {t : XT} {M : XM} {z v : Int} (k : GG θ Γ (pc + 3) L t (st M 81 18 v)) : GG θ Γ pc L ((0, v) :: (81 + 4, z) :: t) M := GG.putf h (j := 18) (ci := 9) (N := 53) (C := RX9) (T := TX9) (ref := "MostSoldModel") (fs := fo_9) (by decide) rfl rfl fo_9_at (fun _ _ _ => rfl) (fun _ _ => Nat.le_of_ble_eq_true rfl) (by decide) (xT_in 924 (by decide +kernel) (by decide +kernel)) rfl rfl tyX9 tyX9_ok rfl nmX9 inT9 dd k
theorem fw_RX9_81 {θ : XΘ} {cc : ByteArray} {nn : Nat} {rm : Nat × Nat} {rc : Option FieldType} (h : Fx θ RX9 cc nn rm rc) {Γ : XG} {pc : Nat} (dd : decode cc pc = .ok (.putfield 81, 3)) {L : XL} {t : XT} {M : XM} {z v : Int} (k : GG θ Γ (pc + 3) L t (st M 81 28 v)) : GG θ Γ pc L ((0, v) :: (81 + 4, z) :: t) M := GG.putf h (j := 28) (ci := 9) (N := 53) (C := RX9) (T := TX9) (ref := "MostSoldModel") (fs := fo_9) (by decide) rfl rfl fo_9_at (fun _ _ _ => rfl) (fun _ _ => Nat.le_of_ble_eq_true rfl) (by decide) (xT_in 934 (by decide +kernel) (by decide +kernel)) rfl rfl tyX9 tyX9_ok rfl nmX9 inT9 dd k
theorem fw_RX9_84 {θ : XΘ} {cc : ByteArray} {nn : Nat} {rm : Nat × Nat} {rc : Option FieldType} (h : Fx θ RX9 cc nn rm rc) {Γ : XG} {pc : Nat} (dd : decode cc pc = .ok (.putfield 84, 3)) {L : XL} {t : XT} {M : XM} {z v : Int} (k : GG θ Γ (pc + 3) L t (st M 81 29 v)) : GG θ Γ pc L ((0, v) :: (81 + 4, z) :: t) M := GG.putf h (j := 29) (ci := 9) (N := 53) (C := RX9) (T := TX9) (ref := "MostSoldModel") (fs := fo_9) (by decide) rfl rfl fo_9_at (fun _ _ _ => rfl) (fun _ _ => Nat.le_of_ble_eq_true rfl) (by decide) (xT_in 935 (by decide +kernel) (by decide +kernel)) rfl rfl tyX9 tyX9_ok rfl nmX9 inT9 dd k
theorem fw_RX9_137 {θ : XΘ} {cc : ByteArray} {nn : Nat} {rm : Nat × Nat} {rc : Option FieldType} (h : Fx θ RX9 cc nn rm rc) {Γ : XG} {pc : Nat} (dd : decode cc pc = .ok (.putfield 137, 3)) {L : XL} {t : XT} {M : XM} {z v : Int} (k : GG θ Γ (pc + 3) L t (st M 81 4 v)) : GG θ Γ pc L ((0, v) :: (81 + 4, z) :: t) M := GG.putf h (j := 4) (ci := 9) (N := 53) (C := RX9) (T := TX9) (ref := "MostSoldModel") (fs := fo_9) (by decide) rfl rfl fo_9_at (fun _ _ _ => rfl) (fun _ _ => Nat.le_of_ble_eq_true rfl) (by decide) (xT_in 910 (by decide +kernel) (by decide +kernel)) rfl rfl tyX9 tyX9_ok rfl nmX9 inT9 dd k
theorem fw_RX9_164 {θ : XΘ} {cc : ByteArray} {nn : Nat} {rm : Nat × Nat} {rc : Option FieldType} (h : Fx θ RX9 cc nn rm rc) {Γ : XG} {pc : Nat} (dd : decode cc pc = .ok (.putfield 164, 3)) {L : XL} {t : XT} {M : XM} {z v : Int} (k : GG θ Γ (pc + 3) L t (st M 81 5 v)) : GG θ Γ pc L ((0, v) :: (81 + 4, z) :: t) M := GG.putf h (j := 5) (ci := 9) (N := 53) (C := RX9) (T := TX9) (ref := "MostSoldModel") (fs := fo_9) (by decide) rfl rfl fo_9_at (fun _ _ _ => rfl) (fun _ _ => Nat.le_of_ble_eq_true rfl) (by decide) (xT_in 911 (by decide +kernel) (by decide +kernel)) rfl rfl tyX9 tyX9_ok rfl nmX9 inT9 dd k
theorem fw_RX9_167 {θ : XΘ} {cc : ByteArray} {nn : Nat} {rm : Nat × Nat} {rc : Option FieldType} (h : Fx θ RX9 cc nn rm rc) {Γ : XG} {pc : Nat} (dd : decode cc pc = .ok (.putfield 167, 3)) {L : XL} {t : XT} {M : XM} {z v : Int} (k : GG θ Γ (pc + 3) L t (st M 81 7 v)) : GG θ Γ pc L ((0, v) :: (81 + 4, z) :: t) M := GG.putf h (j := 7) (ci := 9) (N := 53) (C := RX9) (T := TX9) (ref := "MostSoldModel") (fs := fo_9) (by decide) rfl rfl fo_9_at (fun _ _ _ => rfl) (fun _ _ => Nat.le_of_ble_eq_true rfl) (by decide) (xT_in 913 (by decide +kernel) (by decide +kernel)) rfl rfl tyX9 tyX9_ok rfl nmX9 inT9 dd k
theorem fw_RX9_170 {θ : XΘ} {cc : ByteArray} {nn : Nat} {rm : Nat × Nat} {rc : Option FieldType} (h : Fx θ RX9 cc nn rm rc) {Γ : XG} {pc : Nat} (dd : decode cc pc = .ok (.putfield 170, 3)) {L : XL} {t : XT} {M : XM} {z v : Int} (k : GG θ Γ (pc + 3) L t (st M 81 11 v)) : GG θ Γ pc L ((0, v) :: (81 + 4, z) :: t) M := GG.putf h (j := 11) (ci := 9) (N := 53) (C := RX9) (T := TX9) (ref := "MostSoldModel") (fs := fo_9) (by decide) rfl rfl fo_9_at (fun _ _ _ => rfl) (fun _ _ => Nat.le_of_ble_eq_true rfl) (by decide) (xT_in 917 (by decide +kernel) (by decide +kernel)) rfl rfl tyX9 tyX9_ok rfl nmX9 inT9 dd k
theorem fw_RX9_196 {θ : XΘ} {cc : ByteArray} {nn : Nat} {rm : Nat × Nat} {rc : Option FieldType} (h : Fx θ RX9 cc nn rm rc) {Γ : XG} {pc : Nat} (dd : decode cc pc = .ok (.putfield 196, 3)) {L : XL} {t : XT} {M : XM} {z v : Int} (k : GG θ Γ (pc + 3) L t (st M 81 19 v)) : GG θ Γ pc L ((0, v) :: (81 + 4, z) :: t) M := GG.putf h (j := 19) (ci := 9) (N := 53) (C := RX9) (T := TX9) (ref := "MostSoldModel") (fs := fo_9) (by decide) rfl rfl fo_9_at (fun _ _ _ => rfl) (fun _ _ => Nat.le_of_ble_eq_true rfl) (by decide) (xT_in 925 (by decide +kernel) (by decide +kernel)) rfl rfl tyX9 tyX9_ok rfl nmX9 inT9 dd k
theorem fw_RX9_230 {θ : XΘ} {cc : ByteArray} {nn : Nat} {rm : Nat × Nat} {rc : Option FieldType} (h : Fx θ RX9 cc nn rm rc) {Γ : XG} {pc : Nat} (dd : decode cc pc = .ok (.putfield 230, 3)) {L : XL} {t : XT} {M : XM} {z v : Int} (k : GG θ Γ (pc + 3) L t (st M 81 31 v)) : GG θ Γ pc L ((0, v) :: (81 + 4, z) :: t) M := GG.putf h (j := 31) (ci := 9) (N := 53) (C := RX9) (T := TX9) (ref := "MostSoldModel") (fs := fo_9) (by decide) rfl rfl fo_9_at (fun _ _ _ => rfl) (fun _ _ => Nat.le_of_ble_eq_true rfl) (by decide) (xT_in 937 (by decide +kernel) (by decide +kernel)) rfl rfl tyX9 tyX9_ok rfl nmX9 inT9 dd k
theorem fw_RX9_233 {θ : XΘ} {cc : ByteArray} {nn : Nat} {rm : Nat × Nat} {rc : Option FieldType} (h : Fx θ RX9 cc nn rm rc) {Γ : XG} {pc : Nat} (dd : decode cc pc = .ok (.putfield 233, 3)) {L : XL} {t : XT} {M : XM} {z v : Int} (k : GG θ Γ (pc + 3) L t (st M 81 32 v)) : GG θ Γ pc L ((0, v) :: (81 + 4, z) :: t) M := GG.putf h (j := 32) (ci := 9) (N := 53) (C := RX9) (T := TX9) (ref := "MostSoldModel") (fs := fo_9) (by decide) rfl rfl fo_9_at (fun _ _ _ => rfl) (fun _ _ => Nat.le_of_ble_eq_true rfl) (by decide) (xT_in 938 (by decide +kernel) (by decide +kernel)) rfl rfl tyX9 tyX9_ok rfl nmX9 inT9 dd k
theorem fw_RX9_252 {θ : XΘ} {cc : ByteArray} {nn : Nat} {rm : Nat × Nat} {rc : Option FieldType} (h : Fx θ RX9 cc nn rm rc) {Γ : XG} {pc : Nat} (dd : decode cc pc = .ok (.putfield 252, 3)) {L : XL} {t : XT} {M : XM} {z v : Int} (k : GG θ Γ (pc + 3) L t (st M 81 33 v)) : GG θ Γ pc L ((0, v) :: (81 + 4, z) :: t) M := GG.putf h (j := 33) (ci := 9) (N := 53) (C := RX9) (T := TX9) (ref := "MostSoldModel") (fs := fo_9) (by decide) rfl rfl fo_9_at (fun _ _ _ => rfl) (fun _ _ => Nat.le_of_ble_eq_true rfl) (by decide) (xT_in 939 (by decide +kernel) (by decide +kernel)) rfl rfl tyX9 tyX9_ok rfl nmX9 inT9 dd k
theorem fw_RX9_298 {θ : XΘ} {cc : ByteArray} {nn : Nat} {rm : Nat × Nat} {rc : Option FieldType} (h : Fx θ RX9 cc nn rm rc) {Γ : XG} {pc : Nat} (dd : decode cc pc = .ok (.putfield 298, 3)) {L : XL} {t : XT} {M : XM} {z v : Int} (k : GG θ Γ (pc + 3) L t (st M 81 45 v)) : GG θ Γ pc L ((0, v) :: (81 + 4, z) :: t) M := GG.putf h (j := 45) (ci := 9) (N := 53) (C := RX9) (T := TX9) (ref := "MostSoldModel") (fs := fo_9) (by decide) rfl rfl fo_9_at (fun _ _ _ => rfl) (fun _ _ => Nat.le_of_ble_eq_true rfl) (by decide) (xT_in 951 (by decide +kernel) (by decide +kernel)) rfl rfl tyX9 tyX9_ok rfl nmX9 inT9 dd k
theorem fw_RX9_321 {θ : XΘ} {cc : ByteArray} {nn : Nat} {rm : Nat × Nat} {rc : Option FieldType} (h : Fx θ RX9 cc nn rm rc) {Γ : XG} {pc : Nat} (dd : decode cc pc = .ok (.putfield 321, 3)) {L : XL} {t : XT} {M : XM} {z v : Int} (k : GG θ Γ (pc + 3) L t (st M 81 48 v)) : GG θ Γ pc L ((0, v) :: (81 + 4, z) :: t) M := GG.putf h (j := 48) (ci := 9) (N := 53) (C := RX9) (T := TX9) (ref := "MostSoldModel") (fs := fo_9) (by decide) rfl rfl fo_9_at (fun _ _ _ => rfl) (fun _ _ => Nat.le_of_ble_eq_true rfl) (by decide) (xT_in 954 (by decide +kernel) (by decide +kernel)) rfl rfl tyX9 tyX9_ok rfl nmX9 inT9 dd k
theorem fw_RX9_324 {θ : XΘ} {cc : ByteArray} {nn : Nat} {rm : Nat × Nat} {rc : Option FieldType} (h : Fx θ RX9 cc nn rm rc) {Γ : XG} {pc : Nat} (dd : decode cc pc = .ok (.putfield 324, 3)) {L : XL} {t : XT} {M : XM} {z v : Int} (k : GG θ Γ (pc + 3) L t (st M 81 50 v)) : GG θ Γ pc L ((0, v) :: (81 + 4, z) :: t) M := GG.putf h (j := 50) (ci := 9) (N := 53) (C := RX9) (T := TX9) (ref := "MostSoldModel") (fs := fo_9) (by decide) rfl rfl fo_9_at (fun _ _ _ => rfl) (fun _ _ => Nat.le_of_ble_eq_true rfl) (by decide) (xT_in 956 (by decide +kernel) (by decide +kernel)) rfl rfl tyX9 tyX9_ok rfl nmX9 inT9 dd k
theorem fw_RX9_333 {θ : XΘ} {cc : ByteArray} {nn : Nat} {rm : Nat × Nat} {rc : Option FieldType} (h : Fx θ RX9 cc nn rm rc) {Γ : XG} {pc : Nat} (dd : decode cc pc = .ok (.putfield 333, 3)) {L : XL} {t : XT} {M : XM} {z v : Int} (k : GG θ Γ (pc + 3) L t (st M 81 51 v)) : GG θ Γ pc L ((0, v) :: (81 + 4, z) :: t) M := GG.putf h (j := 51) (ci := 9) (N := 53) (C := RX9) (T := TX9) (ref := "MostSoldModel") (fs := fo_9) (by decide) rfl rfl fo_9_at (fun _ _ _ => rfl) (fun _ _ => Nat.le_of_ble_eq_true rfl) (by decide) (xT_in 957 (by decide +kernel) (by decide +kernel)) rfl rfl tyX9 tyX9_ok rfl nmX9 inT9 dd k
theorem ml_RX8_75 : Cond.methodLink RX8 75 yX8_isWeek ∈ xT := xT_in 436 (by decide +kernel) (by decide +kernel)
theorem ml_RX8_79 : Cond.methodLink RX8 79 yX7_addTitle ∈ xT := xT_in 443 (by decide +kernel) (by decide +kernel)
theorem ml_RX8_83 : Cond.methodLink RX8 83 yX7_isTitle ∈ xT := xT_in 451 (by decide +kernel) (by decide +kernel)
theorem ml_RX8_88 : Cond.methodLink RX8 88 yX8_within ∈ xT := xT_in 440 (by decide +kernel) (by decide +kernel)
theorem ml_RX8_94 : Cond.methodLink RX8 94 yX7_addThing ∈ xT := xT_in 458 (by decide +kernel) (by decide +kernel)
theorem ml_RX8_100 : Cond.methodLink RX8 100 yX7_addShop ∈ xT := xT_in 467 (by decide +kernel) (by decide +kernel)
theorem ml_RX8_104 : Cond.methodLink RX8 104 yX7_isShop ∈ xT := xT_in 475 (by decide +kernel) (by decide +kernel)
theorem ml_RX8_107 : Cond.methodLink RX8 107 yX6_gather ∈ xT := xT_in 479 (by decide +kernel) (by decide +kernel)
theorem ml_RX8_114 : Cond.methodLink RX8 114 yX7_sayEmpty ∈ xT := xT_in 515 (by decide +kernel) (by decide +kernel)
theorem ml_RX8_122 : Cond.methodLink RX8 122 yX8_enter ∈ xT := xT_in 528 (by decide +kernel) (by decide +kernel)
theorem ml_RX8_126 : Cond.methodLink RX8 126 yX5_isNumber ∈ xT := xT_in 546 (by decide +kernel) (by decide +kernel)
theorem ml_RX8_130 : Cond.methodLink RX8 130 yX5_isLost ∈ xT := xT_in 551 (by decide +kernel) (by decide +kernel)
theorem ml_RX8_133 : Cond.methodLink RX8 133 yX5_found ∈ xT := xT_in 555 (by decide +kernel) (by decide +kernel)
theorem ml_RX8_143 : Cond.methodLink RX8 143 yX3_isSale ∈ xT := xT_in 563 (by decide +kernel) (by decide +kernel)
theorem ml_RX8_170 : Cond.methodLink RX8 170 yX3_isKnown ∈ xT := xT_in 567 (by decide +kernel) (by decide +kernel)
theorem ml_RX8_179 : Cond.methodLink RX8 179 yX4_append ∈ xT := xT_in 585 (by decide +kernel) (by decide +kernel)
theorem ml_RX8_182 : Cond.methodLink RX8 182 yX4_clear ∈ xT := xT_in 619 (by decide +kernel) (by decide +kernel)
theorem ml_RX8_191 : Cond.methodLink RX8 191 yX4_bindTo ∈ xT := xT_in 632 (by decide +kernel) (by decide +kernel)
theorem ml_RX8_201 : Cond.methodLink RX8 201 yX7_isThing ∈ xT := xT_in 532 (by decide +kernel) (by decide +kernel)
theorem ml_RX8_208 : Cond.methodLink RX8 208 yX6_amountAt ∈ xT := xT_in 642 (by decide +kernel) (by decide +kernel)
theorem ml_RX8_214 : Cond.methodLink RX8 214 yX6_weigh ∈ xT := xT_in 651 (by decide +kernel) (by decide +kernel)
theorem ml_RX8_221 : Cond.methodLink RX8 221 yX6_toldOf ∈ xT := xT_in 673 (by decide +kernel) (by decide +kernel)
theorem ml_RX8_229 : Cond.methodLink RX8 229 Lib.MathLoose.min_long.x ∈ xT := xT_in 680 (by decide +kernel) (by decide +kernel)
theorem ml_RX8_235 : Cond.methodLink RX8 235 Lib.MathLoose.max_long.x ∈ xT := xT_in 683 (by decide +kernel) (by decide +kernel)
theorem ml_RX8_238 : Cond.methodLink RX8 238 yX6_makeList ∈ xT := xT_in 690 (by decide +kernel) (by decide +kernel)
theorem ml_RX8_253 : Cond.methodLink RX8 253 yX6_rank ∈ xT := xT_in 724 (by decide +kernel) (by decide +kernel)
theorem ml_RX8_256 : Cond.methodLink RX8 256 yX2_gather ∈ xT := xT_in 729 (by decide +kernel) (by decide +kernel)
theorem ml_RX8_261 : Cond.methodLink RX8 261 yJ6_bitCount_0f7a4 ∈ xT := xT_in 735 (by decide +kernel) (by decide +kernel)
theorem ml_RX8_266 : Cond.methodLink RX8 266 yX2_chance ∈ xT := xT_in 741 (by decide +kernel) (by decide +kernel)
theorem ml_RX8_269 : Cond.methodLink RX8 269 yX2_oddPair ∈ xT := xT_in 751 (by decide +kernel) (by decide +kernel)
theorem ml_RX8_272 : Cond.methodLink RX8 272 yX0_examine ∈ xT := xT_in 760 (by decide +kernel) (by decide +kernel)
theorem ml_RX8_281 : Cond.methodLink RX8 281 yX0_isDoubted ∈ xT := xT_in 783 (by decide +kernel) (by decide +kernel)
theorem ml_RX8_284 : Cond.methodLink RX8 284 yX8_refused ∈ xT := xT_in 791 (by decide +kernel) (by decide +kernel)
theorem ml_RX8_287 : Cond.methodLink RX8 287 yX8_bearsOn ∈ xT := xT_in 794 (by decide +kernel) (by decide +kernel)
theorem ml_RX8_291 : Cond.methodLink RX8 291 yX8_changesList ∈ xT := xT_in 798 (by decide +kernel) (by decide +kernel)
theorem ml_RX8_294 : Cond.methodLink RX8 294 yX6_worthOf ∈ xT := xT_in 806 (by decide +kernel) (by decide +kernel)
theorem ml_RX8_299 : Cond.methodLink RX8 299 yX1_start ∈ xT := xT_in 816 (by decide +kernel) (by decide +kernel)
theorem ml_RX8_302 : Cond.methodLink RX8 302 yX1_offer ∈ xT := xT_in 820 (by decide +kernel) (by decide +kernel)
theorem ml_RX8_306 : Cond.methodLink RX8 306 yX1_choose ∈ xT := xT_in 824 (by decide +kernel) (by decide +kernel)
theorem ml_RX8_309 : Cond.methodLink RX8 309 yX5_isMould ∈ xT := xT_in 836 (by decide +kernel) (by decide +kernel)
theorem ml_RX8_312 : Cond.methodLink RX8 312 yX5_renew ∈ xT := xT_in 839 (by decide +kernel) (by decide +kernel)
theorem ml_RX8_316 : Cond.methodLink RX8 316 yX5_check ∈ xT := xT_in 851 (by decide +kernel) (by decide +kernel)
theorem ml_RX8_319 : Cond.methodLink RX8 319 yX5_store ∈ xT := xT_in 856 (by decide +kernel) (by decide +kernel)
theorem ml_RX8_326 : Cond.methodLink RX8 326 yX5_hasRange ∈ xT := xT_in 871 (by decide +kernel) (by decide +kernel)
theorem ml_RX8_330 : Cond.methodLink RX8 330 arraycopyName ∈ xT := xT_in 875 (by decide +kernel) (by decide +kernel)
theorem ml_RX8_336 : Cond.methodLink RX8 336 Lib.Math.min.name ∈ xT := xT_in 882 (by decide +kernel) (by decide +kernel)
theorem ml_RX8_347 : Cond.methodLink RX8 347 yX3_countKnown ∈ xT := xT_in 889 (by decide +kernel) (by decide +kernel)
theorem ml_RX8_363 : Cond.methodLink RX8 363 yX8_count ∈ xT := xT_in 899 (by decide +kernel) (by decide +kernel)
theorem ml_RX8_372 : Cond.methodLink RX8 372 yX3_add ∈ xT := xT_in 538 (by decide +kernel) (by decide +kernel)
theorem ml_RX0_38 : Cond.methodLink RX0 38 yX0_isClaim ∈ xT := xT_in 764 (by decide +kernel) (by decide +kernel)
theorem ml_RX0_42 : Cond.methodLink RX0 42 yX0_isUntimely ∈ xT := xT_in 769 (by decide +kernel) (by decide +kernel)
theorem ml_RX0_56 : Cond.methodLink RX0 56 yX0_chooseFewest ∈ xT := xT_in 774 (by decide +kernel) (by decide +kernel)
theorem ml_RX0_62 : Cond.methodLink RX0 62 yX3_isKnown ∈ xT := xT_in 768 (by decide +kernel) (by decide +kernel)
theorem ml_RX0_74 : Cond.methodLink RX0 74 yX7_isOpen ∈ xT := xT_in 773 (by decide +kernel) (by decide +kernel)
theorem ml_RX0_87 : Cond.methodLink RX0 87 yJ6_bitCount_0f7a4 ∈ xT := xT_in 778 (by decide +kernel) (by decide +kernel)
theorem ml_RX1_29 : Cond.methodLink RX1 29 yX1_shopBits ∈ xT := xT_in 828 (by decide +kernel) (by decide +kernel)
theorem ml_RX2_28 : Cond.methodLink RX2 28 yX4_bindTo ∈ xT := xT_in 733 (by decide +kernel) (by decide +kernel)
theorem ml_RX2_46 : Cond.methodLink RX2 46 yX3_doesCount ∈ xT := xT_in 734 (by decide +kernel) (by decide +kernel)
theorem ml_RX2_56 : Cond.methodLink RX2 56 yJ6_bitCount_0f7a4 ∈ xT := xT_in 745 (by decide +kernel) (by decide +kernel)
theorem ml_RX2_64 : Cond.methodLink RX2 64 yX2_chance ∈ xT := xT_in 755 (by decide +kernel) (by decide +kernel)
theorem ml_RX3_46 : Cond.methodLinkNest RX3 46 yX8_within "MostSold" ∈ xNest := by simp [xNest]
theorem ml_RX3_50 : Cond.methodLink RX3 50 yX3_isKnown ∈ xT := xT_in 501 (by decide +kernel) (by decide +kernel)
theorem ml_RX4_34 : Cond.methodLink RX4 34 yX4_parseLast ∈ xT := xT_in 589 (by decide +kernel) (by decide +kernel)
theorem ml_RX4_52 : Cond.methodLink RX4 52 yX4_parsePart ∈ xT := xT_in 593 (by decide +kernel) (by decide +kernel)
theorem ml_RX4_56 : Cond.methodLink RX4 56 yX4_byteAt ∈ xT := xT_in 597 (by decide +kernel) (by decide +kernel)
theorem ml_RX4_60 : Cond.methodLink RX4 60 yX4_itemOfLetter ∈ xT := xT_in 601 (by decide +kernel) (by decide +kernel)
theorem ml_RX4_65 : Cond.methodLinkNest RX4 65 yX8_within "MostSold" ∈ xNest := by simp [xNest]
theorem ml_RX4_69 : Cond.methodLink RX4 69 yX4_parseNumber ∈ xT := xT_in 606 (by decide +kernel) (by decide +kernel)
theorem ml_RX4_78 : Cond.methodLinkNest RX4 78 yX8_isWeek "MostSold" ∈ xNest := by simp [xNest]
theorem ml_RX5_25 : Cond.methodLinkNest RX5 25 yX8_within "MostSold" ∈ xNest := by simp [xNest]
theorem ml_RX5_33 : Cond.methodLink RX5 33 yX5_isLost ∈ xT := xT_in 855 (by decide +kernel) (by decide +kernel)
theorem ml_RX5_37 : Cond.methodLink RX5 37 yX5_lowestBits ∈ xT := xT_in 860 (by decide +kernel) (by decide +kernel)
theorem ml_RX6_52 : Cond.methodLink RX6 52 yX6_gather ∈ xT := xT_in 694 (by decide +kernel) (by decide +kernel)
theorem ml_RX6_56 : Cond.methodLink RX6 56 yX6_weigh ∈ xT := xT_in 695 (by decide +kernel) (by decide +kernel)
theorem ml_RX6_60 : Cond.methodLink RX6 60 yX6_rank ∈ xT := xT_in 696 (by decide +kernel) (by decide +kernel)
theorem ml_RX6_63 : Cond.methodLink RX6 63 yX4_bindTo ∈ xT := xT_in 483 (by decide +kernel) (by decide +kernel)
theorem ml_RX6_79 : Cond.methodLink RX6 79 yX7_saidEmpty ∈ xT := xT_in 489 (by decide +kernel) (by decide +kernel)
theorem ml_RX6_89 : Cond.methodLink RX6 89 yX3_isKnown ∈ xT := xT_in 493 (by decide +kernel) (by decide +kernel)
theorem ml_RX6_96 : Cond.methodLink RX6 96 yX3_doesCount ∈ xT := xT_in 497 (by decide +kernel) (by decide +kernel)
theorem ml_RX6_100 : Cond.methodLink RX6 100 yX6_takeIn ∈ xT := xT_in 503 (by decide +kernel) (by decide +kernel)
theorem ml_RX6_103 : Cond.methodLink RX6 103 yX7_isOpen ∈ xT := xT_in 507 (by decide +kernel) (by decide +kernel)
theorem ml_RX6_125 : Cond.methodLink RX6 125 yX6_amountAt ∈ xT := xT_in 663 (by decide +kernel) (by decide +kernel)
theorem ml_RX6_134 : Cond.methodLink RX6 134 yX6_weighShop ∈ xT := xT_in 655 (by decide +kernel) (by decide +kernel)
theorem ml_RX6_140 : Cond.methodLink RX6 140 yX6_toldOf ∈ xT := xT_in 665 (by decide +kernel) (by decide +kernel)
theorem ml_RX6_144 : Cond.methodLink RX6 144 yX6_shareOfTold ∈ xT := xT_in 669 (by decide +kernel) (by decide +kernel)
theorem ml_RX6_154 : Cond.methodLink RX6 154 yX6_hundredthsAt ∈ xT := xT_in 659 (by decide +kernel) (by decide +kernel)
theorem ml_RX6_158 : Cond.methodLink RX6 158 Lib.MathLoose.max_long.x ∈ xT := xT_in 810 (by decide +kernel) (by decide +kernel)
theorem ml_RX6_170 : Cond.methodLink RX6 170 yX6_insert ∈ xT := xT_in 700 (by decide +kernel) (by decide +kernel)
theorem ml_RX6_173 : Cond.methodLink RX6 173 yX6_sharesPlace ∈ xT := xT_in 708 (by decide +kernel) (by decide +kernel)
theorem ml_RX6_176 : Cond.methodLink RX6 176 yX6_isAhead ∈ xT := xT_in 704 (by decide +kernel) (by decide +kernel)
theorem ml_RX7_46 : Cond.methodLinkNest RX7 46 yX8_within "MostSold" ∈ xNest := by simp [xNest]
theorem ml_RX9_142 : Cond.methodLink RX9 142 yX9_in ∈ xT := xT_in 1074 (by decide +kernel) (by decide +kernel)
theorem ml_RX9_146 : Cond.methodLink RX9 146 yX9_isSheet ∈ xT := xT_in 1070 (by decide +kernel) (by decide +kernel)
theorem ml_RX9_150 : Cond.methodLink RX9 150 yX9_met ∈ xT := xT_in 1077 (by decide +kernel) (by decide +kernel)
theorem ml_RX9_154 : Cond.methodLink RX9 154 yX9_lacks ∈ xT := xT_in 1089 (by decide +kernel) (by decide +kernel)
theorem ml_RX9_158 : Cond.methodLink RX9 158 yX9_cut ∈ xT := xT_in 1093 (by decide +kernel) (by decide +kernel)
theorem ml_RX9_173 : Cond.methodLink RX9 173 yX9_isWeek ∈ xT := xT_in 1109 (by decide +kernel) (by decide +kernel)
theorem ml_RX9_177 : Cond.methodLink RX9 177 yX9_isTitle ∈ xT := xT_in 1117 (by decide +kernel) (by decide +kernel)
theorem ml_RX9_184 : Cond.methodLink RX9 184 yX9_isShop ∈ xT := xT_in 1131 (by decide +kernel) (by decide +kernel)
theorem ml_RX9_189 : Cond.methodLink RX9 189 yX9_isThing ∈ xT := xT_in 1148 (by decide +kernel) (by decide +kernel)
theorem ml_RX9_199 : Cond.methodLink RX9 199 yX9_isSale ∈ xT := xT_in 1144 (by decide +kernel) (by decide +kernel)
theorem ml_RX9_203 : Cond.methodLink RX9 203 yX9_adds ∈ xT := xT_in 1154 (by decide +kernel) (by decide +kernel)
theorem ml_RX9_207 : Cond.methodLink RX9 207 yX9_item ∈ xT := xT_in 1162 (by decide +kernel) (by decide +kernel)
theorem ml_RX9_211 : Cond.methodLink RX9 211 yX9_hasSale ∈ xT := xT_in 1170 (by decide +kernel) (by decide +kernel)
theorem ml_RX9_214 : Cond.methodLink RX9 214 yX9_isKnown ∈ xT := xT_in 1174 (by decide +kernel) (by decide +kernel)
theorem ml_RX9_217 : Cond.methodLink RX9 217 yX9_isOpen ∈ xT := xT_in 1198 (by decide +kernel) (by decide +kernel)
theorem ml_RX9_221 : Cond.methodLink RX9 221 yX9_speaks ∈ xT := xT_in 1202 (by decide +kernel) (by decide +kernel)
theorem ml_RX9_224 : Cond.methodLink RX9 224 yX9_statusOf ∈ xT := xT_in 1194 (by decide +kernel) (by decide +kernel)
theorem ml_RX9_240 : Cond.methodLink RX9 240 yX9_itemOf ∈ xT := xT_in 1227 (by decide +kernel) (by decide +kernel)
theorem ml_RX9_243 : Cond.methodLink RX9 243 yX9_number ∈ xT := xT_in 1230 (by decide +kernel) (by decide +kernel)
theorem ml_RX9_246 : Cond.methodLink RX9 246 yX9_must ∈ xT := xT_in 1236 (by decide +kernel) (by decide +kernel)
theorem ml_RX9_249 : Cond.methodLink RX9 249 yX9_mostOf ∈ xT := xT_in 1240 (by decide +kernel) (by decide +kernel)
theorem ml_RX9_255 : Cond.methodLink RX9 255 yX9_readsPart ∈ xT := xT_in 1223 (by decide +kernel) (by decide +kernel)
theorem ml_RX9_259 : Cond.methodLink RX9 259 yX9_reads ∈ xT := xT_in 1219 (by decide +kernel) (by decide +kernel)
theorem ml_RX9_263 : Cond.methodLink RX9 263 yX9_partIn ∈ xT := xT_in 1255 (by decide +kernel) (by decide +kernel)
theorem ml_RX9_272 : Cond.methodLink RX9 272 yX9_isItem ∈ xT := xT_in 1247 (by decide +kernel) (by decide +kernel)
theorem ml_RX9_275 : Cond.methodLink RX9 275 yX9_says ∈ xT := xT_in 1251 (by decide +kernel) (by decide +kernel)
theorem ml_RX9_278 : Cond.methodLink RX9 278 yX9_counts ∈ xT := xT_in 1273 (by decide +kernel) (by decide +kernel)
theorem ml_RX9_281 : Cond.methodLink RX9 281 yX9_findAmounts ∈ xT := xT_in 1269 (by decide +kernel) (by decide +kernel)
theorem ml_RX9_287 : Cond.methodLink RX9 287 yX9_findSums ∈ xT := xT_in 1282 (by decide +kernel) (by decide +kernel)
theorem ml_RX9_290 : Cond.methodLink RX9 290 yX9_sumOf ∈ xT := xT_in 1286 (by decide +kernel) (by decide +kernel)
theorem ml_RX9_301 : Cond.methodLink RX9 301 yX9_ahead ∈ xT := xT_in 1304 (by decide +kernel) (by decide +kernel)
theorem ml_RX9_305 : Cond.methodLink RX9 305 yX9_findList ∈ xT := xT_in 1300 (by decide +kernel) (by decide +kernel)
theorem ml_RX9_308 : Cond.methodLink RX9 308 yX9_ways ∈ xT := xT_in 1334 (by decide +kernel) (by decide +kernel)
theorem ml_RX9_312 : Cond.methodLink RX9 312 yX9_hoursOf ∈ xT := xT_in 1324 (by decide +kernel) (by decide +kernel)
theorem ml_RX9_315 : Cond.methodLink RX9 315 yX9_ones ∈ xT := xT_in 1328 (by decide +kernel) (by decide +kernel)
theorem ml_RX9_318 : Cond.methodLink RX9 318 yX9_chanceOf ∈ xT := xT_in 1331 (by decide +kernel) (by decide +kernel)
theorem ml_RX9_327 : Cond.methodLink RX9 327 yX9_isGiven ∈ xT := xT_in 1349 (by decide +kernel) (by decide +kernel)
theorem ml_RX9_330 : Cond.methodLink RX9 330 yX9_isNever ∈ xT := xT_in 1353 (by decide +kernel) (by decide +kernel)
theorem ml_RX9_336 : Cond.methodLink RX9 336 yX9_findDoubts ∈ xT := xT_in 1345 (by decide +kernel) (by decide +kernel)
theorem ml_RX9_339 : Cond.methodLink RX9 339 yX9_no ∈ xT := xT_in 1365 (by decide +kernel) (by decide +kernel)
theorem ml_RX9_342 : Cond.methodLink RX9 342 yX9_worthOf ∈ xT := xT_in 1372 (by decide +kernel) (by decide +kernel)
theorem ml_RX9_351 : Cond.methodLink RX9 351 yX9_count ∈ xT := xT_in 1395 (by decide +kernel) (by decide +kernel)
theorem kc_RX8_86 : Cond.constantLong RX8 86 (3 : Int64) ∈ xT := xT_in 456 (by decide +kernel) (by decide +kernel)
theorem kc_RX8_92 : Cond.constantLong RX8 92 (1000000 : Int64) ∈ xT := xT_in 457 (by decide +kernel) (by decide +kernel)
theorem kc_RX8_98 : Cond.constantLong RX8 98 (100 : Int64) ∈ xT := xT_in 466 (by decide +kernel) (by decide +kernel)
theorem kc_RX8_117 : Cond.constantLong RX8 117 (1000 : Int64) ∈ xT := xT_in 523 (by decide +kernel) (by decide +kernel)
theorem kc_RX8_177 : Cond.constantLong RX8 177 (255 : Int64) ∈ xT := xT_in 584 (by decide +kernel) (by decide +kernel)
theorem kc_RX8_189 : Cond.constantLong RX8 189 (14 : Int64) ∈ xT := xT_in 631 (by decide +kernel) (by decide +kernel)
theorem kc_RX8_206 : Cond.constantLong RX8 206 (-9223372036854775808 : Int64) ∈ xT := xT_in 641 (by decide +kernel) (by decide +kernel)
theorem kc_RX8_212 : Cond.constantLong RX8 212 (2 : Int64) ∈ xT := xT_in 650 (by decide +kernel) (by decide +kernel)
theorem kc_RX8_225 : Cond.constantLong RX8 225 (10000 : Int64) ∈ xT := xT_in 678 (by decide +kernel) (by decide +kernel)
theorem kc_RX8_227 : Cond.constantLong RX8 227 (-1000000 : Int64) ∈ xT := xT_in 679 (by decide +kernel) (by decide +kernel)
theorem kc_RX8_297 : Cond.constantLong RX8 297 (16000 : Int64) ∈ xT := xT_in 815 (by decide +kernel) (by decide +kernel)
theorem kc_RX8_359 : Cond.constantLong RX8 359 (17 : Int64) ∈ xT := xT_in 897 (by decide +kernel) (by decide +kernel)
theorem kc_RX8_361 : Cond.constantLong RX8 361 (31 : Int64) ∈ xT := xT_in 898 (by decide +kernel) (by decide +kernel)
theorem kc_RX8_366 : Cond.constantLong RX8 366 (51 : Int64) ∈ xT := xT_in 439 (by decide +kernel) (by decide +kernel)
theorem kc_RX8_368 : Cond.constantLong RX8 368 (167 : Int64) ∈ xT := xT_in 536 (by decide +kernel) (by decide +kernel)
theorem kc_RX8_370 : Cond.constantLong RX8 370 (100000 : Int64) ∈ xT := xT_in 537 (by decide +kernel) (by decide +kernel)
theorem kc_RX2_62 : Cond.constantLong RX2 62 (1000000 : Int64) ∈ xT := xT_in 746 (by decide +kernel) (by decide +kernel)
theorem kc_RX4_63 : Cond.constantLong RX4 63 (3 : Int64) ∈ xT := xT_in 604 (by decide +kernel) (by decide +kernel)
theorem kc_RX5_23 : Cond.constantLong RX5 23 (3 : Int64) ∈ xT := xT_in 549 (by decide +kernel) (by decide +kernel)
theorem kc_RX6_129 : Cond.constantLong RX6 129 (100 : Int64) ∈ xT := xT_in 664 (by decide +kernel) (by decide +kernel)
theorem kc_RX9_135 : Cond.constantLong RX9 135 (-9223372036854775808 : Int64) ∈ xT := xT_in 1100 (by decide +kernel) (by decide +kernel)
theorem kc_RX9_140 : Cond.constantLong RX9 140 (3 : Int64) ∈ xT := xT_in 1073 (by decide +kernel) (by decide +kernel)
theorem kc_RX9_162 : Cond.constantLong RX9 162 (51 : Int64) ∈ xT := xT_in 1112 (by decide +kernel) (by decide +kernel)
theorem kc_RX9_180 : Cond.constantLong RX9 180 (1000000 : Int64) ∈ xT := xT_in 1121 (by decide +kernel) (by decide +kernel)
theorem kc_RX9_182 : Cond.constantLong RX9 182 (100 : Int64) ∈ xT := xT_in 1126 (by decide +kernel) (by decide +kernel)
theorem kc_RX9_187 : Cond.constantLong RX9 187 (1000 : Int64) ∈ xT := xT_in 1139 (by decide +kernel) (by decide +kernel)
theorem kc_RX9_192 : Cond.constantLong RX9 192 (167 : Int64) ∈ xT := xT_in 1152 (by decide +kernel) (by decide +kernel)
theorem kc_RX9_194 : Cond.constantLong RX9 194 (100000 : Int64) ∈ xT := xT_in 1153 (by decide +kernel) (by decide +kernel)
theorem kc_RX9_228 : Cond.constantLong RX9 228 (255 : Int64) ∈ xT := xT_in 1210 (by decide +kernel) (by decide +kernel)
theorem kc_RX9_236 : Cond.constantLong RX9 236 (48 : Int64) ∈ xT := xT_in 1234 (by decide +kernel) (by decide +kernel)
theorem kc_RX9_238 : Cond.constantLong RX9 238 (57 : Int64) ∈ xT := xT_in 1235 (by decide +kernel) (by decide +kernel)
theorem kc_RX9_266 : Cond.constantLong RX9 266 (6 : Int64) ∈ xT := xT_in 1259 (by decide +kernel) (by decide +kernel)
theorem kc_RX9_268 : Cond.constantLong RX9 268 (13 : Int64) ∈ xT := xT_in 1260 (by decide +kernel) (by decide +kernel)
theorem kc_RX9_270 : Cond.constantLong RX9 270 (14 : Int64) ∈ xT := xT_in 1250 (by decide +kernel) (by decide +kernel)
theorem kc_RX9_285 : Cond.constantLong RX9 285 (2 : Int64) ∈ xT := xT_in 1281 (by decide +kernel) (by decide +kernel)
theorem kc_RX9_294 : Cond.constantLong RX9 294 (10000 : Int64) ∈ xT := xT_in 1294 (by decide +kernel) (by decide +kernel)
theorem kc_RX9_296 : Cond.constantLong RX9 296 (-1000000 : Int64) ∈ xT := xT_in 1295 (by decide +kernel) (by decide +kernel)
theorem kc_RX9_345 : Cond.constantLong RX9 345 (16000 : Int64) ∈ xT := xT_in 1380 (by decide +kernel) (by decide +kernel)
theorem kc_RX9_347 : Cond.constantLong RX9 347 (17 : Int64) ∈ xT := xT_in 1393 (by decide +kernel) (by decide +kernel)
theorem kc_RX9_349 : Cond.constantLong RX9 349 (31 : Int64) ∈ xT := xT_in 1394 (by decide +kernel) (by decide +kernel)
theorem kc_RJ6_265 : Cond.constant RJ6 265 (1431655765 : Int32) ∈ xT := xT_in 738 (by decide +kernel) (by decide +kernel)
theorem kc_RJ6_266 : Cond.constant RJ6 266 (858993459 : Int32) ∈ xT := xT_in 739 (by decide +kernel) (by decide +kernel)
theorem kc_RJ6_267 : Cond.constant RJ6 267 (252645135 : Int32) ∈ xT := xT_in 740 (by decide +kernel) (by decide +kernel)
theorem fs_RX4_46 : Cond.fieldLink RX4 46 "MostSold$Rules" "USUAL" "[I" ∈ xT := xT_in 487 (by decide +kernel) (by decide +kernel)
theorem fs_RX4_72 : Cond.fieldLink RX4 72 "MostSold$Rules" "LEAST" "[I" ∈ xT := xT_in 610 (by decide +kernel) (by decide +kernel)
theorem fs_RX4_75 : Cond.fieldLink RX4 75 "MostSold$Rules" "MOST" "[I" ∈ xT := xT_in 612 (by decide +kernel) (by decide +kernel)
theorem cq_M_bearsOn : xCV yX8_bearsOn cX8_bearsOn 4 (some .boolean) 0 2 := ⟨8, (RX8, TX8, 9), fo_8, by decide, rfl, rfl, fo_8_at, xT_in 796 (by decide +kernel) (by decide +kernel), xT_in 15 (by decide +kernel) (by decide +kernel), xT_in 797 (by decide +kernel) (by decide +kernel), xT_in 49 (by decide +kernel) (by decide +kernel), by decide +kernel, by decide +kernel⟩
theorem cq_M_changesList : xCV yX8_changesList cX8_changesList 4 (some .boolean) 0 2 := ⟨8, (RX8, TX8, 9), fo_8, by decide, rfl, rfl, fo_8_at, xT_in 800 (by decide +kernel) (by decide +kernel), xT_in 16 (by decide +kernel) (by decide +kernel), xT_in 801 (by decide +kernel) (by decide +kernel), xT_in 49 (by decide +kernel) (by decide +kernel), by decide +kernel, by decide +kernel⟩
theorem cq_M_count : xCV yX8_count cX8_count 2 (some .int) 0 1 := ⟨8, (RX8, TX8, 9), fo_8, by decide, rfl, rfl, fo_8_at, xT_in 886 (by decide +kernel) (by decide +kernel), xT_in 887 (by decide +kernel) (by decide +kernel), xT_in 888 (by decide +kernel) (by decide +kernel), xT_in 49 (by decide +kernel) (by decide +kernel), by decide +kernel, by decide +kernel⟩
theorem cq_M_enter : xCV yX8_enter cX8_enter 15 (some .int) 0 7 := ⟨8, (RX8, TX8, 9), fo_8, by decide, rfl, rfl, fo_8_at, xT_in 530 (by decide +kernel) (by decide +kernel), xT_in 1 (by decide +kernel) (by decide +kernel), xT_in 531 (by decide +kernel) (by decide +kernel), xT_in 49 (by decide +kernel) (by decide +kernel), by decide +kernel, by decide +kernel⟩
theorem cq_Doubts_chooseFewest : xCV yX0_chooseFewest cX0_chooseFewest 7 none 67 0 := ⟨0, (RX0, TX0, 8), fo_0, by decide, rfl, rfl, fo_0_at, xT_in 776 (by decide +kernel) (by decide +kernel), xT_in 14 (by decide +kernel) (by decide +kernel), xT_in 777 (by decide +kernel) (by decide +kernel), xT_in 55 (by decide +kernel) (by decide +kernel), by decide +kernel, by decide +kernel⟩
theorem cq_Doubts_examine : xCV yX0_examine cX0_examine 4 (some .boolean) 67 1 := ⟨0, (RX0, TX0, 8), fo_0, by decide, rfl, rfl, fo_0_at, xT_in 761 (by decide +kernel) (by decide +kernel), xT_in 762 (by decide +kernel) (by decide +kernel), xT_in 763 (by decide +kernel) (by decide +kernel), xT_in 55 (by decide +kernel) (by decide +kernel), by decide +kernel, by decide +kernel⟩
theorem cq_Doubts_isClaim : xCV yX0_isClaim cX0_isClaim 3 (some .boolean) 67 1 := ⟨0, (RX0, TX0, 8), fo_0, by decide, rfl, rfl, fo_0_at, xT_in 766 (by decide +kernel) (by decide +kernel), xT_in 12 (by decide +kernel) (by decide +kernel), xT_in 767 (by decide +kernel) (by decide +kernel), xT_in 55 (by decide +kernel) (by decide +kernel), by decide +kernel, by decide +kernel⟩
theorem cq_Doubts_isDoubted : xCV yX0_isDoubted cX0_isDoubted 3 (some .boolean) 67 1 := ⟨0, (RX0, TX0, 8), fo_0, by decide, rfl, rfl, fo_0_at, xT_in 784 (by decide +kernel) (by decide +kernel), xT_in 785 (by decide +kernel) (by decide +kernel), xT_in 786 (by decide +kernel) (by decide +kernel), xT_in 55 (by decide +kernel) (by decide +kernel), by decide +kernel, by decide +kernel⟩
theorem cq_Doubts_isUntimely : xCV yX0_isUntimely cX0_isUntimely 4 (some .boolean) 67 1 := ⟨0, (RX0, TX0, 8), fo_0, by decide, rfl, rfl, fo_0_at, xT_in 771 (by decide +kernel) (by decide +kernel), xT_in 13 (by decide +kernel) (by decide +kernel), xT_in 772 (by decide +kernel) (by decide +kernel), xT_in 55 (by decide +kernel) (by decide +kernel), by decide +kernel, by decide +kernel⟩
theorem cq_Errand_choose : xCV yX1_choose cX1_choose 12 (some .int) 69 0 := ⟨1, (RX1, TX1, 5), fo_1, by decide, rfl, rfl, fo_1_at, xT_in 825 (by decide +kernel) (by decide +kernel), xT_in 826 (by decide +kernel) (by decide +kernel), xT_in 827 (by decide +kernel) (by decide +kernel), xT_in 56 (by decide +kernel) (by decide +kernel), by decide +kernel, by decide +kernel⟩
theorem cq_Errand_offer : xCV yX1_offer cX1_offer 5 none 69 3 := ⟨1, (RX1, TX1, 5), fo_1, by decide, rfl, rfl, fo_1_at, xT_in 821 (by decide +kernel) (by decide +kernel), xT_in 822 (by decide +kernel) (by decide +kernel), xT_in 823 (by decide +kernel) (by decide +kernel), xT_in 56 (by decide +kernel) (by decide +kernel), by decide +kernel, by decide +kernel⟩
theorem cq_Errand_shopBits : xCV yX1_shopBits cX1_shopBits 4 (some .int) 69 1 := ⟨1, (RX1, TX1, 5), fo_1, by decide, rfl, rfl, fo_1_at, xT_in 830 (by decide +kernel) (by decide +kernel), xT_in 17 (by decide +kernel) (by decide +kernel), xT_in 831 (by decide +kernel) (by decide +kernel), xT_in 56 (by decide +kernel) (by decide +kernel), by decide +kernel, by decide +kernel⟩
theorem cq_Errand_start : xCV yX1_start cX1_start 2 none 69 1 := ⟨1, (RX1, TX1, 5), fo_1, by decide, rfl, rfl, fo_1_at, xT_in 817 (by decide +kernel) (by decide +kernel), xT_in 818 (by decide +kernel) (by decide +kernel), xT_in 819 (by decide +kernel) (by decide +kernel), xT_in 56 (by decide +kernel) (by decide +kernel), by decide +kernel, by decide +kernel⟩
theorem cq_Habits_chance : xCV yX2_chance cX2_chance 10 (some .int) 39 2 := ⟨2, (RX2, TX2, 4), fo_2, by decide, rfl, rfl, fo_2_at, xT_in 742 (by decide +kernel) (by decide +kernel), xT_in 743 (by decide +kernel) (by decide +kernel), xT_in 744 (by decide +kernel) (by decide +kernel), xT_in 54 (by decide +kernel) (by decide +kernel), by decide +kernel, by decide +kernel⟩
theorem cq_Habits_gather : xCV yX2_gather cX2_gather 4 none 39 1 := ⟨2, (RX2, TX2, 4), fo_2, by decide, rfl, rfl, fo_2_at, xT_in 730 (by decide +kernel) (by decide +kernel), xT_in 731 (by decide +kernel) (by decide +kernel), xT_in 732 (by decide +kernel) (by decide +kernel), xT_in 54 (by decide +kernel) (by decide +kernel), by decide +kernel, by decide +kernel⟩
theorem cq_Habits_oddPair : xCV yX2_oddPair cX2_oddPair 7 (some .int) 39 1 := ⟨2, (RX2, TX2, 4), fo_2, by decide, rfl, rfl, fo_2_at, xT_in 752 (by decide +kernel) (by decide +kernel), xT_in 753 (by decide +kernel) (by decide +kernel), xT_in 754 (by decide +kernel) (by decide +kernel), xT_in 54 (by decide +kernel) (by decide +kernel), by decide +kernel, by decide +kernel⟩
theorem cq_Ledger_add : xCV yX3_add cX3_add 8 (some .int) 13 7 := ⟨3, (RX3, TX3, 11), fo_3, by decide, rfl, rfl, fo_3_at, xT_in 539 (by decide +kernel) (by decide +kernel), xT_in 540 (by decide +kernel) (by decide +kernel), xT_in 541 (by decide +kernel) (by decide +kernel), xT_in 51 (by decide +kernel) (by decide +kernel), by decide +kernel, by decide +kernel⟩
theorem cq_Ledger_countKnown : xCV yX3_countKnown cX3_countKnown 3 (some .int) 13 0 := ⟨3, (RX3, TX3, 11), fo_3, by decide, rfl, rfl, fo_3_at, xT_in 890 (by decide +kernel) (by decide +kernel), xT_in 891 (by decide +kernel) (by decide +kernel), xT_in 892 (by decide +kernel) (by decide +kernel), xT_in 51 (by decide +kernel) (by decide +kernel), by decide +kernel, by decide +kernel⟩
theorem cq_Ledger_doesCount : xCV yX3_doesCount cX3_doesCount 3 (some .boolean) 13 2 := ⟨3, (RX3, TX3, 11), fo_3, by decide, rfl, rfl, fo_3_at, xT_in 498 (by decide +kernel) (by decide +kernel), xT_in 499 (by decide +kernel) (by decide +kernel), xT_in 500 (by decide +kernel) (by decide +kernel), xT_in 51 (by decide +kernel) (by decide +kernel), by decide +kernel, by decide +kernel⟩
theorem cq_Ledger_isKnown : xCV yX3_isKnown cX3_isKnown 2 (some .boolean) 13 1 := ⟨3, (RX3, TX3, 11), fo_3, by decide, rfl, rfl, fo_3_at, xT_in 494 (by decide +kernel) (by decide +kernel), xT_in 495 (by decide +kernel) (by decide +kernel), xT_in 496 (by decide +kernel) (by decide +kernel), xT_in 51 (by decide +kernel) (by decide +kernel), by decide +kernel, by decide +kernel⟩
theorem cq_Ledger_isSale : xCV yX3_isSale cX3_isSale 2 (some .boolean) 13 1 := ⟨3, (RX3, TX3, 11), fo_3, by decide, rfl, rfl, fo_3_at, xT_in 564 (by decide +kernel) (by decide +kernel), xT_in 565 (by decide +kernel) (by decide +kernel), xT_in 566 (by decide +kernel) (by decide +kernel), xT_in 51 (by decide +kernel) (by decide +kernel), by decide +kernel, by decide +kernel⟩
theorem cq_Rules_append : xCV yX4_append cX4_append 2 (some .int) 22 1 := ⟨4, (RX4, TX4, 11), fo_4, by decide, rfl, rfl, fo_4_at, xT_in 586 (by decide +kernel) (by decide +kernel), xT_in 587 (by decide +kernel) (by decide +kernel), xT_in 588 (by decide +kernel) (by decide +kernel), xT_in 52 (by decide +kernel) (by decide +kernel), by decide +kernel, by decide +kernel⟩
theorem cq_Rules_bindTo : xCV yX4_bindTo cX4_bindTo 3 none 22 1 := ⟨4, (RX4, TX4, 11), fo_4, by decide, rfl, rfl, fo_4_at, xT_in 484 (by decide +kernel) (by decide +kernel), xT_in 485 (by decide +kernel) (by decide +kernel), xT_in 486 (by decide +kernel) (by decide +kernel), xT_in 52 (by decide +kernel) (by decide +kernel), by decide +kernel, by decide +kernel⟩
theorem cq_Rules_byteAt : xCV yX4_byteAt cX4_byteAt 2 (some .int) 22 1 := ⟨4, (RX4, TX4, 11), fo_4, by decide, rfl, rfl, fo_4_at, xT_in 599 (by decide +kernel) (by decide +kernel), xT_in 4 (by decide +kernel) (by decide +kernel), xT_in 600 (by decide +kernel) (by decide +kernel), xT_in 52 (by decide +kernel) (by decide +kernel), by decide +kernel, by decide +kernel⟩
theorem cq_Rules_clear : xCV yX4_clear cX4_clear 2 (some .int) 22 0 := ⟨4, (RX4, TX4, 11), fo_4, by decide, rfl, rfl, fo_4_at, xT_in 620 (by decide +kernel) (by decide +kernel), xT_in 621 (by decide +kernel) (by decide +kernel), xT_in 622 (by decide +kernel) (by decide +kernel), xT_in 52 (by decide +kernel) (by decide +kernel), by decide +kernel, by decide +kernel⟩
theorem cq_Rules_parseLast : xCV yX4_parseLast cX4_parseLast 1 none 22 0 := ⟨4, (RX4, TX4, 11), fo_4, by decide, rfl, rfl, fo_4_at, xT_in 591 (by decide +kernel) (by decide +kernel), xT_in 2 (by decide +kernel) (by decide +kernel), xT_in 592 (by decide +kernel) (by decide +kernel), xT_in 52 (by decide +kernel) (by decide +kernel), by decide +kernel, by decide +kernel⟩
theorem cq_Rules_parseNumber : xCV yX4_parseNumber cX4_parseNumber 5 (some .int) 22 1 := ⟨4, (RX4, TX4, 11), fo_4, by decide, rfl, rfl, fo_4_at, xT_in 608 (by decide +kernel) (by decide +kernel), xT_in 5 (by decide +kernel) (by decide +kernel), xT_in 609 (by decide +kernel) (by decide +kernel), xT_in 52 (by decide +kernel) (by decide +kernel), by decide +kernel, by decide +kernel⟩
theorem cq_Rules_parsePart : xCV yX4_parsePart cX4_parsePart 5 (some .int) 22 0 := ⟨4, (RX4, TX4, 11), fo_4, by decide, rfl, rfl, fo_4_at, xT_in 595 (by decide +kernel) (by decide +kernel), xT_in 3 (by decide +kernel) (by decide +kernel), xT_in 596 (by decide +kernel) (by decide +kernel), xT_in 52 (by decide +kernel) (by decide +kernel), by decide +kernel, by decide +kernel⟩
theorem cq_Sheets_check : xCV yX5_check cX5_check 4 (some .int) 73 3 := ⟨5, (RX5, TX5, 4), fo_5, by decide, rfl, rfl, fo_5_at, xT_in 852 (by decide +kernel) (by decide +kernel), xT_in 853 (by decide +kernel) (by decide +kernel), xT_in 854 (by decide +kernel) (by decide +kernel), xT_in 57 (by decide +kernel) (by decide +kernel), by decide +kernel, by decide +kernel⟩
theorem cq_Sheets_found : xCV yX5_found cX5_found 2 (some .int) 73 1 := ⟨5, (RX5, TX5, 4), fo_5, by decide, rfl, rfl, fo_5_at, xT_in 556 (by decide +kernel) (by decide +kernel), xT_in 557 (by decide +kernel) (by decide +kernel), xT_in 558 (by decide +kernel) (by decide +kernel), xT_in 57 (by decide +kernel) (by decide +kernel), by decide +kernel, by decide +kernel⟩
theorem cq_Sheets_hasRange : xCV yX5_hasRange cX5_hasRange 4 (some .boolean) 73 3 := ⟨5, (RX5, TX5, 4), fo_5, by decide, rfl, rfl, fo_5_at, xT_in 872 (by decide +kernel) (by decide +kernel), xT_in 873 (by decide +kernel) (by decide +kernel), xT_in 874 (by decide +kernel) (by decide +kernel), xT_in 57 (by decide +kernel) (by decide +kernel), by decide +kernel, by decide +kernel⟩
theorem cq_Sheets_isLost : xCV yX5_isLost cX5_isLost 2 (some .boolean) 73 1 := ⟨5, (RX5, TX5, 4), fo_5, by decide, rfl, rfl, fo_5_at, xT_in 552 (by decide +kernel) (by decide +kernel), xT_in 553 (by decide +kernel) (by decide +kernel), xT_in 554 (by decide +kernel) (by decide +kernel), xT_in 57 (by decide +kernel) (by decide +kernel), by decide +kernel, by decide +kernel⟩
theorem cq_Sheets_renew : xCV yX5_renew cX5_renew 5 none 73 3 := ⟨5, (RX5, TX5, 4), fo_5, by decide, rfl, rfl, fo_5_at, xT_in 840 (by decide +kernel) (by decide +kernel), xT_in 841 (by decide +kernel) (by decide +kernel), xT_in 842 (by decide +kernel) (by decide +kernel), xT_in 57 (by decide +kernel) (by decide +kernel), by decide +kernel, by decide +kernel⟩
theorem cq_Sheets_store : xCV yX5_store cX5_store 5 none 73 3 := ⟨5, (RX5, TX5, 4), fo_5, by decide, rfl, rfl, fo_5_at, xT_in 857 (by decide +kernel) (by decide +kernel), xT_in 858 (by decide +kernel) (by decide +kernel), xT_in 859 (by decide +kernel) (by decide +kernel), xT_in 57 (by decide +kernel) (by decide +kernel), by decide +kernel, by decide +kernel⟩
theorem cq_Tally_amountAt : xCV yX6_amountAt cX6_amountAt 6 (some .int) 29 2 := ⟨6, (RX6, TX6, 13), fo_6, by decide, rfl, rfl, fo_6_at, xT_in 643 (by decide +kernel) (by decide +kernel), xT_in 644 (by decide +kernel) (by decide +kernel), xT_in 645 (by decide +kernel) (by decide +kernel), xT_in 53 (by decide +kernel) (by decide +kernel), by decide +kernel, by decide +kernel⟩
theorem cq_Tally_gather : xCV yX6_gather cX6_gather 4 none 29 2 := ⟨6, (RX6, TX6, 13), fo_6, by decide, rfl, rfl, fo_6_at, xT_in 480 (by decide +kernel) (by decide +kernel), xT_in 481 (by decide +kernel) (by decide +kernel), xT_in 482 (by decide +kernel) (by decide +kernel), xT_in 53 (by decide +kernel) (by decide +kernel), by decide +kernel, by decide +kernel⟩
theorem cq_Tally_hundredthsAt : xCV yX6_hundredthsAt cX6_hundredthsAt 7 (some .long) 29 2 := ⟨6, (RX6, TX6, 13), fo_6, by decide, rfl, rfl, fo_6_at, xT_in 661 (by decide +kernel) (by decide +kernel), xT_in 7 (by decide +kernel) (by decide +kernel), xT_in 662 (by decide +kernel) (by decide +kernel), xT_in 53 (by decide +kernel) (by decide +kernel), by decide +kernel, by decide +kernel⟩
theorem cq_Tally_insert : xCV yX6_insert cX6_insert 3 none 29 1 := ⟨6, (RX6, TX6, 13), fo_6, by decide, rfl, rfl, fo_6_at, xT_in 702 (by decide +kernel) (by decide +kernel), xT_in 9 (by decide +kernel) (by decide +kernel), xT_in 703 (by decide +kernel) (by decide +kernel), xT_in 53 (by decide +kernel) (by decide +kernel), by decide +kernel, by decide +kernel⟩
theorem cq_Tally_isAhead : xCV yX6_isAhead cX6_isAhead 3 (some .boolean) 29 2 := ⟨6, (RX6, TX6, 13), fo_6, by decide, rfl, rfl, fo_6_at, xT_in 706 (by decide +kernel) (by decide +kernel), xT_in 10 (by decide +kernel) (by decide +kernel), xT_in 707 (by decide +kernel) (by decide +kernel), xT_in 53 (by decide +kernel) (by decide +kernel), by decide +kernel, by decide +kernel⟩
theorem cq_Tally_makeList : xCV yX6_makeList cX6_makeList 3 none 29 2 := ⟨6, (RX6, TX6, 13), fo_6, by decide, rfl, rfl, fo_6_at, xT_in 691 (by decide +kernel) (by decide +kernel), xT_in 692 (by decide +kernel) (by decide +kernel), xT_in 693 (by decide +kernel) (by decide +kernel), xT_in 53 (by decide +kernel) (by decide +kernel), by decide +kernel, by decide +kernel⟩
theorem cq_Tally_rank : xCV yX6_rank cX6_rank 3 none 29 1 := ⟨6, (RX6, TX6, 13), fo_6, by decide, rfl, rfl, fo_6_at, xT_in 697 (by decide +kernel) (by decide +kernel), xT_in 698 (by decide +kernel) (by decide +kernel), xT_in 699 (by decide +kernel) (by decide +kernel), xT_in 53 (by decide +kernel) (by decide +kernel), by decide +kernel, by decide +kernel⟩
theorem cq_Tally_shareOfTold : xCV yX6_shareOfTold cX6_shareOfTold 4 (some .long) 29 3 := ⟨6, (RX6, TX6, 13), fo_6, by decide, rfl, rfl, fo_6_at, xT_in 671 (by decide +kernel) (by decide +kernel), xT_in 8 (by decide +kernel) (by decide +kernel), xT_in 672 (by decide +kernel) (by decide +kernel), xT_in 53 (by decide +kernel) (by decide +kernel), by decide +kernel, by decide +kernel⟩
theorem cq_Tally_sharesPlace : xCV yX6_sharesPlace cX6_sharesPlace 2 (some .boolean) 29 1 := ⟨6, (RX6, TX6, 13), fo_6, by decide, rfl, rfl, fo_6_at, xT_in 710 (by decide +kernel) (by decide +kernel), xT_in 11 (by decide +kernel) (by decide +kernel), xT_in 711 (by decide +kernel) (by decide +kernel), xT_in 53 (by decide +kernel) (by decide +kernel), by decide +kernel, by decide +kernel⟩
theorem cq_Tally_takeIn : xCV yX6_takeIn cX6_takeIn 7 none 29 2 := ⟨6, (RX6, TX6, 13), fo_6, by decide, rfl, rfl, fo_6_at, xT_in 505 (by decide +kernel) (by decide +kernel), xT_in 0 (by decide +kernel) (by decide +kernel), xT_in 506 (by decide +kernel) (by decide +kernel), xT_in 53 (by decide +kernel) (by decide +kernel), by decide +kernel, by decide +kernel⟩
theorem cq_Tally_toldOf : xCV yX6_toldOf cX6_toldOf 5 (some .long) 29 1 := ⟨6, (RX6, TX6, 13), fo_6, by decide, rfl, rfl, fo_6_at, xT_in 666 (by decide +kernel) (by decide +kernel), xT_in 667 (by decide +kernel) (by decide +kernel), xT_in 668 (by decide +kernel) (by decide +kernel), xT_in 53 (by decide +kernel) (by decide +kernel), by decide +kernel, by decide +kernel⟩
theorem cq_Tally_weigh : xCV yX6_weigh cX6_weigh 4 none 29 1 := ⟨6, (RX6, TX6, 13), fo_6, by decide, rfl, rfl, fo_6_at, xT_in 652 (by decide +kernel) (by decide +kernel), xT_in 653 (by decide +kernel) (by decide +kernel), xT_in 654 (by decide +kernel) (by decide +kernel), xT_in 53 (by decide +kernel) (by decide +kernel), by decide +kernel, by decide +kernel⟩
theorem cq_Tally_weighShop : xCV yX6_weighShop cX6_weighShop 4 none 29 2 := ⟨6, (RX6, TX6, 13), fo_6, by decide, rfl, rfl, fo_6_at, xT_in 657 (by decide +kernel) (by decide +kernel), xT_in 6 (by decide +kernel) (by decide +kernel), xT_in 658 (by decide +kernel) (by decide +kernel), xT_in 53 (by decide +kernel) (by decide +kernel), by decide +kernel, by decide +kernel⟩
theorem cq_Tally_worthOf : xCV yX6_worthOf cX6_worthOf 5 (some .long) 29 1 := ⟨6, (RX6, TX6, 13), fo_6, by decide, rfl, rfl, fo_6_at, xT_in 807 (by decide +kernel) (by decide +kernel), xT_in 808 (by decide +kernel) (by decide +kernel), xT_in 809 (by decide +kernel) (by decide +kernel), xT_in 53 (by decide +kernel) (by decide +kernel), by decide +kernel, by decide +kernel⟩
theorem cq_Trade_addShop : xCV yX7_addShop cX7_addShop 5 (some .int) 2 4 := ⟨7, (RX7, TX7, 14), fo_7, by decide, rfl, rfl, fo_7_at, xT_in 468 (by decide +kernel) (by decide +kernel), xT_in 469 (by decide +kernel) (by decide +kernel), xT_in 470 (by decide +kernel) (by decide +kernel), xT_in 50 (by decide +kernel) (by decide +kernel), by decide +kernel, by decide +kernel⟩
theorem cq_Trade_addThing : xCV yX7_addThing cX7_addThing 4 (some .int) 2 3 := ⟨7, (RX7, TX7, 14), fo_7, by decide, rfl, rfl, fo_7_at, xT_in 459 (by decide +kernel) (by decide +kernel), xT_in 460 (by decide +kernel) (by decide +kernel), xT_in 461 (by decide +kernel) (by decide +kernel), xT_in 50 (by decide +kernel) (by decide +kernel), by decide +kernel, by decide +kernel⟩
theorem cq_Trade_addTitle : xCV yX7_addTitle cX7_addTitle 2 (some .int) 2 1 := ⟨7, (RX7, TX7, 14), fo_7, by decide, rfl, rfl, fo_7_at, xT_in 444 (by decide +kernel) (by decide +kernel), xT_in 445 (by decide +kernel) (by decide +kernel), xT_in 446 (by decide +kernel) (by decide +kernel), xT_in 50 (by decide +kernel) (by decide +kernel), by decide +kernel, by decide +kernel⟩
theorem cq_Trade_isOpen : xCV yX7_isOpen cX7_isOpen 3 (some .boolean) 2 2 := ⟨7, (RX7, TX7, 14), fo_7, by decide, rfl, rfl, fo_7_at, xT_in 508 (by decide +kernel) (by decide +kernel), xT_in 509 (by decide +kernel) (by decide +kernel), xT_in 510 (by decide +kernel) (by decide +kernel), xT_in 50 (by decide +kernel) (by decide +kernel), by decide +kernel, by decide +kernel⟩
theorem cq_Trade_isShop : xCV yX7_isShop cX7_isShop 3 (some .boolean) 2 1 := ⟨7, (RX7, TX7, 14), fo_7, by decide, rfl, rfl, fo_7_at, xT_in 476 (by decide +kernel) (by decide +kernel), xT_in 477 (by decide +kernel) (by decide +kernel), xT_in 478 (by decide +kernel) (by decide +kernel), xT_in 50 (by decide +kernel) (by decide +kernel), by decide +kernel, by decide +kernel⟩
theorem cq_Trade_isThing : xCV yX7_isThing cX7_isThing 3 (some .boolean) 2 1 := ⟨7, (RX7, TX7, 14), fo_7, by decide, rfl, rfl, fo_7_at, xT_in 533 (by decide +kernel) (by decide +kernel), xT_in 534 (by decide +kernel) (by decide +kernel), xT_in 535 (by decide +kernel) (by decide +kernel), xT_in 50 (by decide +kernel) (by decide +kernel), by decide +kernel, by decide +kernel⟩
theorem cq_Trade_isTitle : xCV yX7_isTitle cX7_isTitle 3 (some .boolean) 2 1 := ⟨7, (RX7, TX7, 14), fo_7, by decide, rfl, rfl, fo_7_at, xT_in 452 (by decide +kernel) (by decide +kernel), xT_in 453 (by decide +kernel) (by decide +kernel), xT_in 454 (by decide +kernel) (by decide +kernel), xT_in 50 (by decide +kernel) (by decide +kernel), by decide +kernel, by decide +kernel⟩
theorem cq_Trade_saidEmpty : xCV yX7_saidEmpty cX7_saidEmpty 5 (some .boolean) 2 3 := ⟨7, (RX7, TX7, 14), fo_7, by decide, rfl, rfl, fo_7_at, xT_in 490 (by decide +kernel) (by decide +kernel), xT_in 491 (by decide +kernel) (by decide +kernel), xT_in 492 (by decide +kernel) (by decide +kernel), xT_in 50 (by decide +kernel) (by decide +kernel), by decide +kernel, by decide +kernel⟩
theorem cq_Trade_sayEmpty : xCV yX7_sayEmpty cX7_sayEmpty 6 (some .int) 2 3 := ⟨7, (RX7, TX7, 14), fo_7, by decide, rfl, rfl, fo_7_at, xT_in 516 (by decide +kernel) (by decide +kernel), xT_in 517 (by decide +kernel) (by decide +kernel), xT_in 518 (by decide +kernel) (by decide +kernel), xT_in 50 (by decide +kernel) (by decide +kernel), by decide +kernel, by decide +kernel⟩
theorem cq_R_adds : xCV yX9_adds cX9_adds 8 (some .int) 81 7 := ⟨9, (RX9, TX9, 53), fo_9, by decide, rfl, rfl, fo_9_at, xT_in 1156 (by decide +kernel) (by decide +kernel), xT_in 24 (by decide +kernel) (by decide +kernel), xT_in 1157 (by decide +kernel) (by decide +kernel), xT_in 58 (by decide +kernel) (by decide +kernel), by decide +kernel, by decide +kernel⟩
theorem cq_R_ahead : xCV yX9_ahead cX9_ahead 4 (some .boolean) 81 3 := ⟨9, (RX9, TX9, 53), fo_9, by decide, rfl, rfl, fo_9_at, xT_in 1306 (by decide +kernel) (by decide +kernel), xT_in 42 (by decide +kernel) (by decide +kernel), xT_in 1307 (by decide +kernel) (by decide +kernel), xT_in 58 (by decide +kernel) (by decide +kernel), by decide +kernel, by decide +kernel⟩
theorem cq_R_count : xCV yX9_count cX9_count 4 (some .int) 81 1 := ⟨9, (RX9, TX9, 53), fo_9, by decide, rfl, rfl, fo_9_at, xT_in 1386 (by decide +kernel) (by decide +kernel), xT_in 1387 (by decide +kernel) (by decide +kernel), xT_in 1388 (by decide +kernel) (by decide +kernel), xT_in 58 (by decide +kernel) (by decide +kernel), by decide +kernel, by decide +kernel⟩
theorem cq_R_counts : xCV yX9_counts cX9_counts 3 (some .boolean) 81 2 := ⟨9, (RX9, TX9, 53), fo_9, by decide, rfl, rfl, fo_9_at, xT_in 1275 (by decide +kernel) (by decide +kernel), xT_in 38 (by decide +kernel) (by decide +kernel), xT_in 1276 (by decide +kernel) (by decide +kernel), xT_in 58 (by decide +kernel) (by decide +kernel), by decide +kernel, by decide +kernel⟩
theorem cq_R_findAmounts : xCV yX9_findAmounts cX9_findAmounts 8 none 81 2 := ⟨9, (RX9, TX9, 53), fo_9, by decide, rfl, rfl, fo_9_at, xT_in 1271 (by decide +kernel) (by decide +kernel), xT_in 37 (by decide +kernel) (by decide +kernel), xT_in 1272 (by decide +kernel) (by decide +kernel), xT_in 58 (by decide +kernel) (by decide +kernel), by decide +kernel, by decide +kernel⟩
theorem cq_R_findDoubts : xCV yX9_findDoubts cX9_findDoubts 8 (some .boolean) 81 1 := ⟨9, (RX9, TX9, 53), fo_9, by decide, rfl, rfl, fo_9_at, xT_in 1347 (by decide +kernel) (by decide +kernel), xT_in 44 (by decide +kernel) (by decide +kernel), xT_in 1348 (by decide +kernel) (by decide +kernel), xT_in 58 (by decide +kernel) (by decide +kernel), by decide +kernel, by decide +kernel⟩
theorem cq_R_findList : xCV yX9_findList cX9_findList 6 none 81 2 := ⟨9, (RX9, TX9, 53), fo_9, by decide, rfl, rfl, fo_9_at, xT_in 1302 (by decide +kernel) (by decide +kernel), xT_in 41 (by decide +kernel) (by decide +kernel), xT_in 1303 (by decide +kernel) (by decide +kernel), xT_in 58 (by decide +kernel) (by decide +kernel), by decide +kernel, by decide +kernel⟩
theorem cq_R_findSums : xCV yX9_findSums cX9_findSums 7 none 81 2 := ⟨9, (RX9, TX9, 53), fo_9, by decide, rfl, rfl, fo_9_at, xT_in 1284 (by decide +kernel) (by decide +kernel), xT_in 39 (by decide +kernel) (by decide +kernel), xT_in 1285 (by decide +kernel) (by decide +kernel), xT_in 58 (by decide +kernel) (by decide +kernel), by decide +kernel, by decide +kernel⟩
theorem cq_R_hasSale : xCV yX9_hasSale cX9_hasSale 2 (some .boolean) 81 1 := ⟨9, (RX9, TX9, 53), fo_9, by decide, rfl, rfl, fo_9_at, xT_in 1172 (by decide +kernel) (by decide +kernel), xT_in 26 (by decide +kernel) (by decide +kernel), xT_in 1173 (by decide +kernel) (by decide +kernel), xT_in 58 (by decide +kernel) (by decide +kernel), by decide +kernel, by decide +kernel⟩
theorem cq_R_hoursOf : xCV yX9_hoursOf cX9_hoursOf 5 (some .int) 81 2 := ⟨9, (RX9, TX9, 53), fo_9, by decide, rfl, rfl, fo_9_at, xT_in 1326 (by decide +kernel) (by decide +kernel), xT_in 43 (by decide +kernel) (by decide +kernel), xT_in 1327 (by decide +kernel) (by decide +kernel), xT_in 58 (by decide +kernel) (by decide +kernel), by decide +kernel, by decide +kernel⟩
theorem cq_R_isGiven : xCV yX9_isGiven cX9_isGiven 3 (some .boolean) 81 2 := ⟨9, (RX9, TX9, 53), fo_9, by decide, rfl, rfl, fo_9_at, xT_in 1351 (by decide +kernel) (by decide +kernel), xT_in 45 (by decide +kernel) (by decide +kernel), xT_in 1352 (by decide +kernel) (by decide +kernel), xT_in 58 (by decide +kernel) (by decide +kernel), by decide +kernel, by decide +kernel⟩
theorem cq_R_isKnown : xCV yX9_isKnown cX9_isKnown 2 (some .boolean) 81 1 := ⟨9, (RX9, TX9, 53), fo_9, by decide, rfl, rfl, fo_9_at, xT_in 1176 (by decide +kernel) (by decide +kernel), xT_in 27 (by decide +kernel) (by decide +kernel), xT_in 1177 (by decide +kernel) (by decide +kernel), xT_in 58 (by decide +kernel) (by decide +kernel), by decide +kernel, by decide +kernel⟩
theorem cq_R_isNever : xCV yX9_isNever cX9_isNever 2 (some .boolean) 81 1 := ⟨9, (RX9, TX9, 53), fo_9, by decide, rfl, rfl, fo_9_at, xT_in 1355 (by decide +kernel) (by decide +kernel), xT_in 46 (by decide +kernel) (by decide +kernel), xT_in 1356 (by decide +kernel) (by decide +kernel), xT_in 58 (by decide +kernel) (by decide +kernel), by decide +kernel, by decide +kernel⟩
theorem cq_R_isOpen : xCV yX9_isOpen cX9_isOpen 3 (some .boolean) 81 2 := ⟨9, (RX9, TX9, 53), fo_9, by decide, rfl, rfl, fo_9_at, xT_in 1200 (by decide +kernel) (by decide +kernel), xT_in 29 (by decide +kernel) (by decide +kernel), xT_in 1201 (by decide +kernel) (by decide +kernel), xT_in 58 (by decide +kernel) (by decide +kernel), by decide +kernel, by decide +kernel⟩
theorem cq_R_isSale : xCV yX9_isSale cX9_isSale 15 (some .boolean) 81 7 := ⟨9, (RX9, TX9, 53), fo_9, by decide, rfl, rfl, fo_9_at, xT_in 1146 (by decide +kernel) (by decide +kernel), xT_in 22 (by decide +kernel) (by decide +kernel), xT_in 1147 (by decide +kernel) (by decide +kernel), xT_in 58 (by decide +kernel) (by decide +kernel), by decide +kernel, by decide +kernel⟩
theorem cq_R_isShop : xCV yX9_isShop cX9_isShop 3 (some .boolean) 81 1 := ⟨9, (RX9, TX9, 53), fo_9, by decide, rfl, rfl, fo_9_at, xT_in 1133 (by decide +kernel) (by decide +kernel), xT_in 21 (by decide +kernel) (by decide +kernel), xT_in 1134 (by decide +kernel) (by decide +kernel), xT_in 58 (by decide +kernel) (by decide +kernel), by decide +kernel, by decide +kernel⟩
theorem cq_R_isThing : xCV yX9_isThing cX9_isThing 3 (some .boolean) 81 1 := ⟨9, (RX9, TX9, 53), fo_9, by decide, rfl, rfl, fo_9_at, xT_in 1150 (by decide +kernel) (by decide +kernel), xT_in 23 (by decide +kernel) (by decide +kernel), xT_in 1151 (by decide +kernel) (by decide +kernel), xT_in 58 (by decide +kernel) (by decide +kernel), by decide +kernel, by decide +kernel⟩
theorem cq_R_isTitle : xCV yX9_isTitle cX9_isTitle 2 (some .boolean) 81 1 := ⟨9, (RX9, TX9, 53), fo_9, by decide, rfl, rfl, fo_9_at, xT_in 1119 (by decide +kernel) (by decide +kernel), xT_in 20 (by decide +kernel) (by decide +kernel), xT_in 1120 (by decide +kernel) (by decide +kernel), xT_in 58 (by decide +kernel) (by decide +kernel), by decide +kernel, by decide +kernel⟩
theorem cq_R_item : xCV yX9_item cX9_item 4 (some .long) 81 3 := ⟨9, (RX9, TX9, 53), fo_9, by decide, rfl, rfl, fo_9_at, xT_in 1164 (by decide +kernel) (by decide +kernel), xT_in 25 (by decide +kernel) (by decide +kernel), xT_in 1165 (by decide +kernel) (by decide +kernel), xT_in 58 (by decide +kernel) (by decide +kernel), by decide +kernel, by decide +kernel⟩
theorem cq_R_lacks : xCV yX9_lacks cX9_lacks 4 (some .int) 81 3 := ⟨9, (RX9, TX9, 53), fo_9, by decide, rfl, rfl, fo_9_at, xT_in 1091 (by decide +kernel) (by decide +kernel), xT_in 19 (by decide +kernel) (by decide +kernel), xT_in 1092 (by decide +kernel) (by decide +kernel), xT_in 58 (by decide +kernel) (by decide +kernel), by decide +kernel, by decide +kernel⟩
theorem cq_R_met : xCV yX9_met cX9_met 2 (some .int) 81 1 := ⟨9, (RX9, TX9, 53), fo_9, by decide, rfl, rfl, fo_9_at, xT_in 1079 (by decide +kernel) (by decide +kernel), xT_in 18 (by decide +kernel) (by decide +kernel), xT_in 1080 (by decide +kernel) (by decide +kernel), xT_in 58 (by decide +kernel) (by decide +kernel), by decide +kernel, by decide +kernel⟩
theorem cq_R_must : xCV yX9_must cX9_must 3 (some .boolean) 81 1 := ⟨9, (RX9, TX9, 53), fo_9, by decide, rfl, rfl, fo_9_at, xT_in 1238 (by decide +kernel) (by decide +kernel), xT_in 34 (by decide +kernel) (by decide +kernel), xT_in 1239 (by decide +kernel) (by decide +kernel), xT_in 58 (by decide +kernel) (by decide +kernel), by decide +kernel, by decide +kernel⟩
theorem cq_R_number : xCV yX9_number cX9_number 6 (some .int) 81 3 := ⟨9, (RX9, TX9, 53), fo_9, by decide, rfl, rfl, fo_9_at, xT_in 1232 (by decide +kernel) (by decide +kernel), xT_in 33 (by decide +kernel) (by decide +kernel), xT_in 1233 (by decide +kernel) (by decide +kernel), xT_in 58 (by decide +kernel) (by decide +kernel), by decide +kernel, by decide +kernel⟩
theorem cq_R_partIn : xCV yX9_partIn cX9_partIn 5 (some .int) 81 2 := ⟨9, (RX9, TX9, 53), fo_9, by decide, rfl, rfl, fo_9_at, xT_in 1257 (by decide +kernel) (by decide +kernel), xT_in 36 (by decide +kernel) (by decide +kernel), xT_in 1258 (by decide +kernel) (by decide +kernel), xT_in 58 (by decide +kernel) (by decide +kernel), by decide +kernel, by decide +kernel⟩
theorem cq_R_reads : xCV yX9_reads cX9_reads 2 (some .int) 81 0 := ⟨9, (RX9, TX9, 53), fo_9, by decide, rfl, rfl, fo_9_at, xT_in 1221 (by decide +kernel) (by decide +kernel), xT_in 31 (by decide +kernel) (by decide +kernel), xT_in 1222 (by decide +kernel) (by decide +kernel), xT_in 58 (by decide +kernel) (by decide +kernel), by decide +kernel, by decide +kernel⟩
theorem cq_R_readsPart : xCV yX9_readsPart cX9_readsPart 4 (some .boolean) 81 0 := ⟨9, (RX9, TX9, 53), fo_9, by decide, rfl, rfl, fo_9_at, xT_in 1225 (by decide +kernel) (by decide +kernel), xT_in 32 (by decide +kernel) (by decide +kernel), xT_in 1226 (by decide +kernel) (by decide +kernel), xT_in 58 (by decide +kernel) (by decide +kernel), by decide +kernel, by decide +kernel⟩
theorem cq_R_says : xCV yX9_says cX9_says 4 (some .int) 81 2 := ⟨9, (RX9, TX9, 53), fo_9, by decide, rfl, rfl, fo_9_at, xT_in 1253 (by decide +kernel) (by decide +kernel), xT_in 35 (by decide +kernel) (by decide +kernel), xT_in 1254 (by decide +kernel) (by decide +kernel), xT_in 58 (by decide +kernel) (by decide +kernel), by decide +kernel, by decide +kernel⟩
theorem cq_R_speaks : xCV yX9_speaks cX9_speaks 6 (some .boolean) 81 2 := ⟨9, (RX9, TX9, 53), fo_9, by decide, rfl, rfl, fo_9_at, xT_in 1204 (by decide +kernel) (by decide +kernel), xT_in 30 (by decide +kernel) (by decide +kernel), xT_in 1205 (by decide +kernel) (by decide +kernel), xT_in 58 (by decide +kernel) (by decide +kernel), by decide +kernel, by decide +kernel⟩
theorem cq_R_statusOf : xCV yX9_statusOf cX9_statusOf 3 (some .int) 81 2 := ⟨9, (RX9, TX9, 53), fo_9, by decide, rfl, rfl, fo_9_at, xT_in 1196 (by decide +kernel) (by decide +kernel), xT_in 28 (by decide +kernel) (by decide +kernel), xT_in 1197 (by decide +kernel) (by decide +kernel), xT_in 58 (by decide +kernel) (by decide +kernel), by decide +kernel, by decide +kernel⟩
theorem cq_R_sumOf : xCV yX9_sumOf cX9_sumOf 2 (some .long) 81 1 := ⟨9, (RX9, TX9, 53), fo_9, by decide, rfl, rfl, fo_9_at, xT_in 1288 (by decide +kernel) (by decide +kernel), xT_in 40 (by decide +kernel) (by decide +kernel), xT_in 1289 (by decide +kernel) (by decide +kernel), xT_in 58 (by decide +kernel) (by decide +kernel), by decide +kernel, by decide +kernel⟩
theorem cq_R_worthOf : xCV yX9_worthOf cX9_worthOf 8 (some .long) 81 1 := ⟨9, (RX9, TX9, 53), fo_9, by decide, rfl, rfl, fo_9_at, xT_in 1374 (by decide +kernel) (by decide +kernel), xT_in 47 (by decide +kernel) (by decide +kernel), xT_in 1375 (by decide +kernel) (by decide +kernel), xT_in 58 (by decide +kernel) (by decide +kernel), by decide +kernel, by decide +kernel⟩
theorem cq_M_isWeek : xCS yX8_isWeek cX8_isWeek 2 (some .boolean) 1 := ⟨xT_in 437 (by decide +kernel) (by decide +kernel), xT_in 438 (by decide +kernel) (by decide +kernel), xT_in 49 (by decide +kernel) (by decide +kernel), by decide +kernel, by decide +kernel⟩
theorem cq_M_refused : xCS yX8_refused cX8_refused 1 (some .long) 1 := ⟨xT_in 792 (by decide +kernel) (by decide +kernel), xT_in 793 (by decide +kernel) (by decide +kernel), xT_in 49 (by decide +kernel) (by decide +kernel), by decide +kernel, by decide +kernel⟩
theorem cq_M_within : xCS yX8_within cX8_within 6 (some .boolean) 3 := ⟨xT_in 441 (by decide +kernel) (by decide +kernel), xT_in 442 (by decide +kernel) (by decide +kernel), xT_in 49 (by decide +kernel) (by decide +kernel), by decide +kernel, by decide +kernel⟩
theorem cq_Rules_itemOfLetter : xCS yX4_itemOfLetter cX4_itemOfLetter 1 (some .int) 1 := ⟨xT_in 602 (by decide +kernel) (by decide +kernel), xT_in 603 (by decide +kernel) (by decide +kernel), xT_in 52 (by decide +kernel) (by decide +kernel), by decide +kernel, by decide +kernel⟩
theorem cq_Sheets_isMould : xCS yX5_isMould cX5_isMould 1 (some .boolean) 1 := ⟨xT_in 837 (by decide +kernel) (by decide +kernel), xT_in 838 (by decide +kernel) (by decide +kernel), xT_in 57 (by decide +kernel) (by decide +kernel), by decide +kernel, by decide +kernel⟩
theorem cq_Sheets_isNumber : xCS yX5_isNumber cX5_isNumber 1 (some .boolean) 1 := ⟨xT_in 547 (by decide +kernel) (by decide +kernel), xT_in 548 (by decide +kernel) (by decide +kernel), xT_in 57 (by decide +kernel) (by decide +kernel), by decide +kernel, by decide +kernel⟩
theorem cq_Sheets_lowestBits : xCS yX5_lowestBits cX5_lowestBits 3 (some .long) 2 := ⟨xT_in 861 (by decide +kernel) (by decide +kernel), xT_in 862 (by decide +kernel) (by decide +kernel), xT_in 57 (by decide +kernel) (by decide +kernel), by decide +kernel, by decide +kernel⟩
theorem cq_R_chanceOf : xCS yX9_chanceOf cX9_chanceOf 6 (some .int) 3 := ⟨xT_in 1332 (by decide +kernel) (by decide +kernel), xT_in 1333 (by decide +kernel) (by decide +kernel), xT_in 58 (by decide +kernel) (by decide +kernel), by decide +kernel, by decide +kernel⟩
theorem cq_R_cut : xCS yX9_cut cX9_cut 3 (some .long) 2 := ⟨xT_in 1094 (by decide +kernel) (by decide +kernel), xT_in 1095 (by decide +kernel) (by decide +kernel), xT_in 58 (by decide +kernel) (by decide +kernel), by decide +kernel, by decide +kernel⟩
theorem cq_R_in : xCS yX9_in cX9_in 6 (some .boolean) 3 := ⟨xT_in 1075 (by decide +kernel) (by decide +kernel), xT_in 1076 (by decide +kernel) (by decide +kernel), xT_in 58 (by decide +kernel) (by decide +kernel), by decide +kernel, by decide +kernel⟩
theorem cq_R_isItem : xCS yX9_isItem cX9_isItem 1 (some .boolean) 1 := ⟨xT_in 1248 (by decide +kernel) (by decide +kernel), xT_in 1249 (by decide +kernel) (by decide +kernel), xT_in 58 (by decide +kernel) (by decide +kernel), by decide +kernel, by decide +kernel⟩
theorem cq_R_isSheet : xCS yX9_isSheet cX9_isSheet 1 (some .boolean) 1 := ⟨xT_in 1071 (by decide +kernel) (by decide +kernel), xT_in 1072 (by decide +kernel) (by decide +kernel), xT_in 58 (by decide +kernel) (by decide +kernel), by decide +kernel, by decide +kernel⟩
theorem cq_R_isWeek : xCS yX9_isWeek cX9_isWeek 2 (some .boolean) 1 := ⟨xT_in 1110 (by decide +kernel) (by decide +kernel), xT_in 1111 (by decide +kernel) (by decide +kernel), xT_in 58 (by decide +kernel) (by decide +kernel), by decide +kernel, by decide +kernel⟩
theorem cq_R_itemOf : xCS yX9_itemOf cX9_itemOf 1 (some .int) 1 := ⟨xT_in 1228 (by decide +kernel) (by decide +kernel), xT_in 1229 (by decide +kernel) (by decide +kernel), xT_in 58 (by decide +kernel) (by decide +kernel), by decide +kernel, by decide +kernel⟩
theorem cq_R_mostOf : xCS yX9_mostOf cX9_mostOf 1 (some .int) 1 := ⟨xT_in 1241 (by decide +kernel) (by decide +kernel), xT_in 1242 (by decide +kernel) (by decide +kernel), xT_in 58 (by decide +kernel) (by decide +kernel), by decide +kernel, by decide +kernel⟩
theorem cq_R_no : xCS yX9_no cX9_no 1 (some .long) 1 := ⟨xT_in 1366 (by decide +kernel) (by decide +kernel), xT_in 1367 (by decide +kernel) (by decide +kernel), xT_in 58 (by decide +kernel) (by decide +kernel), by decide +kernel, by decide +kernel⟩
theorem cq_R_ones : xCS yX9_ones cX9_ones 3 (some .int) 1 := ⟨xT_in 1329 (by decide +kernel) (by decide +kernel), xT_in 1330 (by decide +kernel) (by decide +kernel), xT_in 58 (by decide +kernel) (by decide +kernel), by decide +kernel, by decide +kernel⟩
theorem cq_R_ways : xCS yX9_ways cX9_ways 5 (some .long) 2 := ⟨xT_in 1335 (by decide +kernel) (by decide +kernel), xT_in 1336 (by decide +kernel) (by decide +kernel), xT_in 58 (by decide +kernel) (by decide +kernel), by decide +kernel, by decide +kernel⟩
theorem cq_JI_bitCount : xCS yJ6_bitCount_0f7a4 cJ6_bitCount_0f7a4 1 (some .int) 1 := ⟨xT_in 736 (by decide +kernel) (by decide +kernel), xT_in 737 (by decide +kernel) (by decide +kernel), xT_in 60 (by decide +kernel) (by decide +kernel), by decide +kernel, by decide +kernel⟩
theorem ca_1 : xIarr 1 12 := ⟨by decide, fun _ _ => rfl, rfl, by decide⟩
theorem ca_3 : xIarr 3 12 := ⟨by decide, fun _ _ => rfl, rfl, by decide⟩
theorem ca_4 : xIarr 4 24 := ⟨by decide, fun _ _ => rfl, rfl, by decide⟩
theorem ca_5 : xIarr 5 24 := ⟨by decide, fun _ _ => rfl, rfl, by decide⟩
theorem ca_6 : xIarr 6 24 := ⟨by decide, fun _ _ => rfl, rfl, by decide⟩
theorem ca_7 : xIarr 7 16 := ⟨by decide, fun _ _ => rfl, rfl, by decide⟩
theorem ca_8 : xIarr 8 16 := ⟨by decide, fun _ _ => rfl, rfl, by decide⟩
theorem ca_9 : xIarr 9 16 := ⟨by decide, fun _ _ => rfl, rfl, by decide⟩
theorem ca_10 : xIarr 10 16 := ⟨by decide, fun _ _ => rfl, rfl, by decide⟩
theorem ca_11 : xIarr 11 16 := ⟨by decide, fun _ _ => rfl, rfl, by decide⟩
theorem ca_12 : xIarr 12 832 := ⟨by decide, fun _ _ => rfl, rfl, by decide⟩
theorem ca_14 : xIarr 14 150 := ⟨by decide, fun _ _ => rfl, rfl, by decide⟩
theorem ca_15 : xIarr 15 150 := ⟨by decide, fun _ _ => rfl, rfl, by decide⟩
theorem ca_16 : xIarr 16 150 := ⟨by decide, fun _ _ => rfl, rfl, by decide⟩
theorem ca_17 : xIarr 17 150 := ⟨by decide, fun _ _ => rfl, rfl, by decide⟩
theorem ca_18 : xIarr 18 150 := ⟨by decide, fun _ _ => rfl, rfl, by decide⟩
theorem ca_19 : xIarr 19 150 := ⟨by decide, fun _ _ => rfl, rfl, by decide⟩
theorem ca_20 : xIarr 20 150 := ⟨by decide, fun _ _ => rfl, rfl, by decide⟩
theorem ca_21 : xIarr 21 150 := ⟨by decide, fun _ _ => rfl, rfl, by decide⟩
theorem ca_23 : xIarr 23 200 := ⟨by decide, fun _ _ => rfl, rfl, by decide⟩
theorem ca_24 : xIarr 24 15 := ⟨by decide, fun _ _ => rfl, rfl, by decide⟩
theorem ca_25 : xIarr 25 15 := ⟨by decide, fun _ _ => rfl, rfl, by decide⟩
theorem ca_26 : xIarr 26 50 := ⟨by decide, fun _ _ => rfl, rfl, by decide⟩
theorem ca_27 : xIarr 27 50 := ⟨by decide, fun _ _ => rfl, rfl, by decide⟩
theorem ca_28 : xIarr 28 50 := ⟨by decide, fun _ _ => rfl, rfl, by decide⟩
theorem ca_30 : xIarr 30 384 := ⟨by decide, fun _ _ => rfl, rfl, by decide⟩
theorem ca_31 : xIarr 31 384 := ⟨by decide, fun _ _ => rfl, rfl, by decide⟩
theorem ca_32 : xIarr 32 16 := ⟨by decide, fun _ _ => rfl, rfl, by decide⟩
theorem ca_33 : xJarr 33 48 := ⟨by decide, fun _ _ => rfl, rfl, by decide⟩
theorem ca_34 : xIarr 34 4 := ⟨by decide, fun _ _ => rfl, rfl, by decide⟩
theorem ca_35 : xIarr 35 4 := ⟨by decide, fun _ _ => rfl, rfl, by decide⟩
theorem ca_36 : xJarr 36 12 := ⟨by decide, fun _ _ => rfl, rfl, by decide⟩
theorem ca_37 : xIarr 37 12 := ⟨by decide, fun _ _ => rfl, rfl, by decide⟩
theorem ca_38 : xIarr 38 12 := ⟨by decide, fun _ _ => rfl, rfl, by decide⟩
theorem ca_40 : xIarr 40 16 := ⟨by decide, fun _ _ => rfl, rfl, by decide⟩
theorem ca_41 : xQarr 41 25 42 3 := ⟨by decide, fun _ _ => rfl, by decide, fun _ _ => rfl, fun j h0 h1 => by show _ ∧ _; omega⟩
theorem ca_68 : xIarr 68 12 := ⟨by decide, fun _ _ => rfl, rfl, by decide⟩
theorem ca_70 : xIarr 70 16 := ⟨by decide, fun _ _ => rfl, rfl, by decide⟩
theorem ca_71 : xJarr 71 16 := ⟨by decide, fun _ _ => rfl, rfl, by decide⟩
theorem ca_72 : xIarr 72 16 := ⟨by decide, fun _ _ => rfl, rfl, by decide⟩
theorem ca_74 : xQarr 74 4 75 2 := ⟨by decide, fun _ _ => rfl, by decide, fun _ _ => rfl, fun j h0 h1 => by show _ ∧ _; omega⟩
theorem ca_79 : xIarr 79 4 := ⟨by decide, fun _ _ => rfl, rfl, by decide⟩
theorem ca_80 : xIarr 80 4 := ⟨by decide, fun _ _ => rfl, rfl, by decide⟩
theorem ca_82 : xIarr 82 4 := ⟨by decide, fun _ _ => rfl, rfl, by decide⟩
theorem ca_83 : xIarr 83 4 := ⟨by decide, fun _ _ => rfl, rfl, by decide⟩
theorem ca_84 : xJarr 84 480 := ⟨by decide, fun _ _ => rfl, rfl, by decide⟩
theorem ca_85 : xJarr 85 120 := ⟨by decide, fun _ _ => rfl, rfl, by decide⟩
theorem ca_86 : xIarr 86 12 := ⟨by decide, fun _ _ => rfl, rfl, by decide⟩
theorem ca_87 : xIarr 87 24 := ⟨by decide, fun _ _ => rfl, rfl, by decide⟩
theorem ca_88 : xIarr 88 24 := ⟨by decide, fun _ _ => rfl, rfl, by decide⟩
theorem ca_89 : xIarr 89 24 := ⟨by decide, fun _ _ => rfl, rfl, by decide⟩
theorem ca_90 : xIarr 90 16 := ⟨by decide, fun _ _ => rfl, rfl, by decide⟩
theorem ca_91 : xIarr 91 16 := ⟨by decide, fun _ _ => rfl, rfl, by decide⟩
theorem ca_92 : xIarr 92 16 := ⟨by decide, fun _ _ => rfl, rfl, by decide⟩
theorem ca_93 : xIarr 93 16 := ⟨by decide, fun _ _ => rfl, rfl, by decide⟩
theorem ca_94 : xIarr 94 16 := ⟨by decide, fun _ _ => rfl, rfl, by decide⟩
theorem ca_95 : xIarr 95 832 := ⟨by decide, fun _ _ => rfl, rfl, by decide⟩
theorem ca_96 : xIarr 96 150 := ⟨by decide, fun _ _ => rfl, rfl, by decide⟩
theorem ca_97 : xIarr 97 150 := ⟨by decide, fun _ _ => rfl, rfl, by decide⟩
theorem ca_98 : xIarr 98 150 := ⟨by decide, fun _ _ => rfl, rfl, by decide⟩
theorem ca_99 : xIarr 99 150 := ⟨by decide, fun _ _ => rfl, rfl, by decide⟩
theorem ca_100 : xIarr 100 150 := ⟨by decide, fun _ _ => rfl, rfl, by decide⟩
theorem ca_101 : xIarr 101 150 := ⟨by decide, fun _ _ => rfl, rfl, by decide⟩
theorem ca_102 : xIarr 102 150 := ⟨by decide, fun _ _ => rfl, rfl, by decide⟩
theorem ca_103 : xIarr 103 150 := ⟨by decide, fun _ _ => rfl, rfl, by decide⟩
theorem ca_104 : xIarr 104 200 := ⟨by decide, fun _ _ => rfl, rfl, by decide⟩
theorem ca_105 : xIarr 105 70 := ⟨by decide, fun _ _ => rfl, rfl, by decide⟩
theorem ca_106 : xIarr 106 70 := ⟨by decide, fun _ _ => rfl, rfl, by decide⟩
theorem ca_107 : xIarr 107 70 := ⟨by decide, fun _ _ => rfl, rfl, by decide⟩
theorem ca_108 : xJarr 108 384 := ⟨by decide, fun _ _ => rfl, rfl, by decide⟩
theorem ca_109 : xJarr 109 384 := ⟨by decide, fun _ _ => rfl, rfl, by decide⟩
theorem ca_110 : xIarr 110 4 := ⟨by decide, fun _ _ => rfl, rfl, by decide⟩
theorem ca_111 : xIarr 111 4 := ⟨by decide, fun _ _ => rfl, rfl, by decide⟩
theorem ca_112 : xIarr 112 16 := ⟨by decide, fun _ _ => rfl, rfl, by decide⟩
theorem ca_113 : xJarr 113 12 := ⟨by decide, fun _ _ => rfl, rfl, by decide⟩
theorem ca_114 : xJarr 114 12 := ⟨by decide, fun _ _ => rfl, rfl, by decide⟩
theorem ca_115 : xJarr 115 48 := ⟨by decide, fun _ _ => rfl, rfl, by decide⟩
theorem ca_116 : xIarr 116 12 := ⟨by decide, fun _ _ => rfl, rfl, by decide⟩
theorem ca_117 : xIarr 117 12 := ⟨by decide, fun _ _ => rfl, rfl, by decide⟩
theorem ca_118 : xIarr 118 150 := ⟨by decide, fun _ _ => rfl, rfl, by decide⟩
theorem ca_119 : xIarr 119 12 := ⟨by decide, fun _ _ => rfl, rfl, by decide⟩
theorem jm_mmini : Cond.static Lib.Math.min.name ∈ xT ∧ Cond.initialized "java/lang/Math" ∈ xT ∧ Cond.code Lib.Math.min.name Lib.Math.min.code 2 (some .int) ∈ xT := ⟨xT_in 883 (by decide +kernel) (by decide +kernel), xT_in 59 (by decide +kernel) (by decide +kernel), xT_in 884 (by decide +kernel) (by decide +kernel)⟩
theorem jm_mminl : Cond.static Lib.MathLoose.min_long.x ∈ xT ∧ Cond.initialized "java/lang/Math" ∈ xT ∧ Cond.code Lib.MathLoose.min_long.x Lib.MathLoose.min_long.code 4 (some .long) ∈ xT := ⟨xT_in 681 (by decide +kernel) (by decide +kernel), xT_in 59 (by decide +kernel) (by decide +kernel), xT_in 682 (by decide +kernel) (by decide +kernel)⟩
theorem jm_mmaxl : Cond.static Lib.MathLoose.max_long.x ∈ xT ∧ Cond.initialized "java/lang/Math" ∈ xT ∧ Cond.code Lib.MathLoose.max_long.x Lib.MathLoose.max_long.code 4 (some .long) ∈ xT := ⟨xT_in 684 (by decide +kernel) (by decide +kernel), xT_in 59 (by decide +kernel) (by decide +kernel), xT_in 685 (by decide +kernel) (by decide +kernel)⟩
theorem jm_copy : Cond.native arraycopyName ∈ xT ∧ Cond.static arraycopyName ∈ xT ∧ Cond.initialized "java/lang/System" ∈ xT := ⟨xT_in 877 (by decide +kernel) (by decide +kernel), xT_in 876 (by decide +kernel) (by decide +kernel), xT_in 61 (by decide +kernel) (by decide +kernel)⟩
end
