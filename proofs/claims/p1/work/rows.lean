section
-- ===== PART A: goes FIRST, ahead of the names: the tables' words, and 'selects' of the private methods out of them =====
/-- a private method of a class that the tables say can be made, by its rows of tables_1 -/
def lw_okq (q : MethodName × Nat) : Prop := (q.1.cls ≠ "java/lang/invoke/MethodHandle" ∧ q.1.cls ≠ "java/lang/invoke/VarHandle") ∧ Cond.instantiable q.1.cls q.2 ∈ tables_1 ∧ Cond.privateMethod q.1 ∈ tables_1 ∧ Cond.instanceMethod q.1 ∈ tables_1
theorem lw_p0 : lw_okq (⟨"BidsJudged", "refuse", "(I)I"⟩, 8) := ⟨⟨by decide +kernel, by decide +kernel⟩, List.mem_of_getElem? (i := 18) (by decide +kernel), List.mem_of_getElem? (i := 386) (by decide +kernel), List.mem_of_getElem? (i := 387) (by decide +kernel)⟩
theorem lw_p1 : lw_okq (⟨"BidsJudged", "noBid", "(II)Z"⟩, 8) := ⟨⟨by decide +kernel, by decide +kernel⟩, List.mem_of_getElem? (i := 18) (by decide +kernel), List.mem_of_getElem? (i := 423) (by decide +kernel), List.mem_of_getElem? (i := 424) (by decide +kernel)⟩
theorem lw_p2 : lw_okq (⟨"BidsJudged", "noLot", "(I)Z"⟩, 8) := ⟨⟨by decide +kernel, by decide +kernel⟩, List.mem_of_getElem? (i := 18) (by decide +kernel), List.mem_of_getElem? (i := 430) (by decide +kernel), List.mem_of_getElem? (i := 431) (by decide +kernel)⟩
theorem lw_p3 : lw_okq (⟨"BidsJudged$Book", "countedSum", "(I)I"⟩, 13) := ⟨⟨by decide +kernel, by decide +kernel⟩, List.mem_of_getElem? (i := 26) (by decide +kernel), List.mem_of_getElem? (i := 469) (by decide +kernel), List.mem_of_getElem? (i := 470) (by decide +kernel)⟩
theorem lw_p4 : lw_okq (⟨"BidsJudged$Table", "sumUp", "()V"⟩, 20) := ⟨⟨by decide +kernel, by decide +kernel⟩, List.mem_of_getElem? (i := 141) (by decide +kernel), List.mem_of_getElem? (i := 549) (by decide +kernel), List.mem_of_getElem? (i := 550) (by decide +kernel)⟩
theorem lw_p5 : lw_okq (⟨"BidsJudged$Formula", "readSum", "(I)V"⟩, 9) := ⟨⟨by decide +kernel, by decide +kernel⟩, List.mem_of_getElem? (i := 104) (by decide +kernel), List.mem_of_getElem? (i := 577) (by decide +kernel), List.mem_of_getElem? (i := 578) (by decide +kernel)⟩
theorem lw_p6 : lw_okq (⟨"BidsJudged$Formula", "readTerm", "(I)V"⟩, 9) := ⟨⟨by decide +kernel, by decide +kernel⟩, List.mem_of_getElem? (i := 104) (by decide +kernel), List.mem_of_getElem? (i := 581) (by decide +kernel), List.mem_of_getElem? (i := 582) (by decide +kernel)⟩
theorem lw_p7 : lw_okq (⟨"BidsJudged$Formula", "readUnit", "(I)V"⟩, 9) := ⟨⟨by decide +kernel, by decide +kernel⟩, List.mem_of_getElem? (i := 104) (by decide +kernel), List.mem_of_getElem? (i := 585) (by decide +kernel), List.mem_of_getElem? (i := 586) (by decide +kernel)⟩
theorem lw_p8 : lw_okq (⟨"BidsJudged$Formula", "peek", "()I"⟩, 9) := ⟨⟨by decide +kernel, by decide +kernel⟩, List.mem_of_getElem? (i := 104) (by decide +kernel), List.mem_of_getElem? (i := 589) (by decide +kernel), List.mem_of_getElem? (i := 590) (by decide +kernel)⟩
theorem lw_p9 : lw_okq (⟨"BidsJudged$Formula", "readNumber", "()V"⟩, 9) := ⟨⟨by decide +kernel, by decide +kernel⟩, List.mem_of_getElem? (i := 104) (by decide +kernel), List.mem_of_getElem? (i := 596) (by decide +kernel), List.mem_of_getElem? (i := 597) (by decide +kernel)⟩
theorem lw_p10 : lw_okq (⟨"BidsJudged$Formula", "emit", "(I)V"⟩, 9) := ⟨⟨by decide +kernel, by decide +kernel⟩, List.mem_of_getElem? (i := 104) (by decide +kernel), List.mem_of_getElem? (i := 600) (by decide +kernel), List.mem_of_getElem? (i := 601) (by decide +kernel)⟩
theorem lw_p11 : lw_okq (⟨"BidsJudged$Formula", "readBracket", "(IZ)V"⟩, 9) := ⟨⟨by decide +kernel, by decide +kernel⟩, List.mem_of_getElem? (i := 104) (by decide +kernel), List.mem_of_getElem? (i := 607) (by decide +kernel), List.mem_of_getElem? (i := 608) (by decide +kernel)⟩
theorem lw_p12 : lw_okq (⟨"BidsJudged$Formula", "findFault", "()V"⟩, 9) := ⟨⟨by decide +kernel, by decide +kernel⟩, List.mem_of_getElem? (i := 104) (by decide +kernel), List.mem_of_getElem? (i := 611) (by decide +kernel), List.mem_of_getElem? (i := 612) (by decide +kernel)⟩
theorem lw_p13 : lw_okq (⟨"BidsJudged$Formula", "expect", "(I)V"⟩, 9) := ⟨⟨by decide +kernel, by decide +kernel⟩, List.mem_of_getElem? (i := 104) (by decide +kernel), List.mem_of_getElem? (i := 615) (by decide +kernel), List.mem_of_getElem? (i := 616) (by decide +kernel)⟩
theorem lw_p14 : lw_okq (⟨"BidsJudged", "refuseLong", "(I)J"⟩, 8) := ⟨⟨by decide +kernel, by decide +kernel⟩, List.mem_of_getElem? (i := 18) (by decide +kernel), List.mem_of_getElem? (i := 626) (by decide +kernel), List.mem_of_getElem? (i := 627) (by decide +kernel)⟩
theorem lw_p15 : lw_okq (⟨"BidsJudged$Table", "push", "(JJ)V"⟩, 20) := ⟨⟨by decide +kernel, by decide +kernel⟩, List.mem_of_getElem? (i := 141) (by decide +kernel), List.mem_of_getElem? (i := 635) (by decide +kernel), List.mem_of_getElem? (i := 636) (by decide +kernel)⟩
def lw_privs_1 : List (MethodName × Nat) := [(⟨"BidsJudged", "refuse", "(I)I"⟩, 8), (⟨"BidsJudged", "noBid", "(II)Z"⟩, 8), (⟨"BidsJudged", "noLot", "(I)Z"⟩, 8), (⟨"BidsJudged$Book", "countedSum", "(I)I"⟩, 13), (⟨"BidsJudged$Table", "sumUp", "()V"⟩, 20), (⟨"BidsJudged$Formula", "readSum", "(I)V"⟩, 9), (⟨"BidsJudged$Formula", "readTerm", "(I)V"⟩, 9), (⟨"BidsJudged$Formula", "readUnit", "(I)V"⟩, 9), (⟨"BidsJudged$Formula", "peek", "()I"⟩, 9), (⟨"BidsJudged$Formula", "readNumber", "()V"⟩, 9), (⟨"BidsJudged$Formula", "emit", "(I)V"⟩, 9), (⟨"BidsJudged$Formula", "readBracket", "(IZ)V"⟩, 9), (⟨"BidsJudged$Formula", "findFault", "()V"⟩, 9), (⟨"BidsJudged$Formula", "expect", "(I)V"⟩, 9), (⟨"BidsJudged", "refuseLong", "(I)J"⟩, 8), (⟨"BidsJudged$Table", "push", "(JJ)V"⟩, 20)]
theorem lw_r1 : ∀ q ∈ lw_privs_1, lw_okq q := List.forall_mem_cons.mpr ⟨lw_p0, List.forall_mem_cons.mpr ⟨lw_p1, List.forall_mem_cons.mpr ⟨lw_p2, List.forall_mem_cons.mpr ⟨lw_p3, List.forall_mem_cons.mpr ⟨lw_p4, List.forall_mem_cons.mpr ⟨lw_p5, List.forall_mem_cons.mpr ⟨lw_p6, List.forall_mem_cons.mpr ⟨lw_p7, List.forall_mem_cons.mpr ⟨lw_p8, List.forall_mem_cons.mpr ⟨lw_p9, List.forall_mem_cons.mpr ⟨lw_p10, List.forall_mem_cons.mpr ⟨lw_p11, List.forall_mem_cons.mpr ⟨lw_p12, List.forall_mem_cons.mpr ⟨lw_p13, List.forall_mem_cons.mpr ⟨lw_p14, List.forall_mem_cons.mpr ⟨lw_p15, fun _ h => absurd h List.not_mem_nil⟩⟩⟩⟩⟩⟩⟩⟩⟩⟩⟩⟩⟩⟩⟩⟩
theorem lw_p16 : lw_okq (⟨"BidsJudged$Table", "pushName", "(II)V"⟩, 20) := ⟨⟨by decide +kernel, by decide +kernel⟩, List.mem_of_getElem? (i := 141) (by decide +kernel), List.mem_of_getElem? (i := 640) (by decide +kernel), List.mem_of_getElem? (i := 641) (by decide +kernel)⟩
theorem lw_p17 : lw_okq (⟨"BidsJudged$Table", "operate", "(I)V"⟩, 20) := ⟨⟨by decide +kernel, by decide +kernel⟩, List.mem_of_getElem? (i := 141) (by decide +kernel), List.mem_of_getElem? (i := 644) (by decide +kernel), List.mem_of_getElem? (i := 645) (by decide +kernel)⟩
theorem lw_p18 : lw_okq (⟨"BidsJudged$Table", "insert", "(I)V"⟩, 20) := ⟨⟨by decide +kernel, by decide +kernel⟩, List.mem_of_getElem? (i := 141) (by decide +kernel), List.mem_of_getElem? (i := 657) (by decide +kernel), List.mem_of_getElem? (i := 658) (by decide +kernel)⟩
theorem lw_p19 : lw_okq (⟨"BidsJudged", "noPair", "(III)Z"⟩, 8) := ⟨⟨by decide +kernel, by decide +kernel⟩, List.mem_of_getElem? (i := 18) (by decide +kernel), List.mem_of_getElem? (i := 680) (by decide +kernel), List.mem_of_getElem? (i := 681) (by decide +kernel)⟩
theorem lw_p20 : lw_okq (⟨"BidsJudged", "workPair", "(IIII)V"⟩, 8) := ⟨⟨by decide +kernel, by decide +kernel⟩, List.mem_of_getElem? (i := 18) (by decide +kernel), List.mem_of_getElem? (i := 684) (by decide +kernel), List.mem_of_getElem? (i := 685) (by decide +kernel)⟩
theorem lw_p21 : lw_okq (⟨"BidsJudged", "findBest", "()V"⟩, 8) := ⟨⟨by decide +kernel, by decide +kernel⟩, List.mem_of_getElem? (i := 18) (by decide +kernel), List.mem_of_getElem? (i := 734) (by decide +kernel), List.mem_of_getElem? (i := 735) (by decide +kernel)⟩
theorem lw_p22 : lw_okq (⟨"BidsJudged$Whole", "costOf", "(II)J"⟩, 9) := ⟨⟨by decide +kernel, by decide +kernel⟩, List.mem_of_getElem? (i := 239) (by decide +kernel), List.mem_of_getElem? (i := 755) (by decide +kernel), List.mem_of_getElem? (i := 756) (by decide +kernel)⟩
theorem lw_p23 : lw_okq (⟨"BidsJudged$Whole", "addBidder", "()V"⟩, 9) := ⟨⟨by decide +kernel, by decide +kernel⟩, List.mem_of_getElem? (i := 239) (by decide +kernel), List.mem_of_getElem? (i := 769) (by decide +kernel), List.mem_of_getElem? (i := 770) (by decide +kernel)⟩
theorem lw_p24 : lw_okq (⟨"BidsJudged$Whole", "keep", "(JI)V"⟩, 9) := ⟨⟨by decide +kernel, by decide +kernel⟩, List.mem_of_getElem? (i := 239) (by decide +kernel), List.mem_of_getElem? (i := 778) (by decide +kernel), List.mem_of_getElem? (i := 779) (by decide +kernel)⟩
theorem lw_p25 : lw_okq (⟨"BidsJudged", "makeAnew", "(II)V"⟩, 8) := ⟨⟨by decide +kernel, by decide +kernel⟩, List.mem_of_getElem? (i := 18) (by decide +kernel), List.mem_of_getElem? (i := 824) (by decide +kernel), List.mem_of_getElem? (i := 825) (by decide +kernel)⟩
theorem lw_p26 : lw_okq (⟨"BidsJudged$Framework", "nextWithRoom", "(II)I"⟩, 7) := ⟨⟨by decide +kernel, by decide +kernel⟩, List.mem_of_getElem? (i := 327) (by decide +kernel), List.mem_of_getElem? (i := 919) (by decide +kernel), List.mem_of_getElem? (i := 920) (by decide +kernel)⟩
theorem lw_p27 : lw_okq (⟨"BidsJudged$Framework", "hand", "(I)I"⟩, 7) := ⟨⟨by decide +kernel, by decide +kernel⟩, List.mem_of_getElem? (i := 327) (by decide +kernel), List.mem_of_getElem? (i := 923) (by decide +kernel), List.mem_of_getElem? (i := 924) (by decide +kernel)⟩
theorem lw_p28 : lw_okq (⟨"BidsJudgedModel", "refuse", "(I)I"⟩, 71) := ⟨⟨by decide +kernel, by decide +kernel⟩, List.mem_of_getElem? (i := 951) (by decide +kernel), List.mem_of_getElem? (i := 1175) (by decide +kernel), List.mem_of_getElem? (i := 1176) (by decide +kernel)⟩
theorem lw_p29 : lw_okq (⟨"BidsJudgedModel", "isOpen", "()Z"⟩, 71) := ⟨⟨by decide +kernel, by decide +kernel⟩, List.mem_of_getElem? (i := 951) (by decide +kernel), List.mem_of_getElem? (i := 1187) (by decide +kernel), List.mem_of_getElem? (i := 1188) (by decide +kernel)⟩
theorem lw_p30 : lw_okq (⟨"BidsJudgedModel", "isLot", "(I)Z"⟩, 71) := ⟨⟨by decide +kernel, by decide +kernel⟩, List.mem_of_getElem? (i := 951) (by decide +kernel), List.mem_of_getElem? (i := 1207) (by decide +kernel), List.mem_of_getElem? (i := 1208) (by decide +kernel)⟩
theorem lw_p31 : lw_okq (⟨"BidsJudgedModel", "wrongBid", "(IIIIIII)I"⟩, 71) := ⟨⟨by decide +kernel, by decide +kernel⟩, List.mem_of_getElem? (i := 951) (by decide +kernel), List.mem_of_getElem? (i := 1211) (by decide +kernel), List.mem_of_getElem? (i := 1212) (by decide +kernel)⟩
def lw_privs_2 : List (MethodName × Nat) := [(⟨"BidsJudged$Table", "pushName", "(II)V"⟩, 20), (⟨"BidsJudged$Table", "operate", "(I)V"⟩, 20), (⟨"BidsJudged$Table", "insert", "(I)V"⟩, 20), (⟨"BidsJudged", "noPair", "(III)Z"⟩, 8), (⟨"BidsJudged", "workPair", "(IIII)V"⟩, 8), (⟨"BidsJudged", "findBest", "()V"⟩, 8), (⟨"BidsJudged$Whole", "costOf", "(II)J"⟩, 9), (⟨"BidsJudged$Whole", "addBidder", "()V"⟩, 9), (⟨"BidsJudged$Whole", "keep", "(JI)V"⟩, 9), (⟨"BidsJudged", "makeAnew", "(II)V"⟩, 8), (⟨"BidsJudged$Framework", "nextWithRoom", "(II)I"⟩, 7), (⟨"BidsJudged$Framework", "hand", "(I)I"⟩, 7), (⟨"BidsJudgedModel", "refuse", "(I)I"⟩, 71), (⟨"BidsJudgedModel", "isOpen", "()Z"⟩, 71), (⟨"BidsJudgedModel", "isLot", "(I)Z"⟩, 71), (⟨"BidsJudgedModel", "wrongBid", "(IIIIIII)I"⟩, 71)]
theorem lw_r2 : ∀ q ∈ lw_privs_2, lw_okq q := List.forall_mem_cons.mpr ⟨lw_p16, List.forall_mem_cons.mpr ⟨lw_p17, List.forall_mem_cons.mpr ⟨lw_p18, List.forall_mem_cons.mpr ⟨lw_p19, List.forall_mem_cons.mpr ⟨lw_p20, List.forall_mem_cons.mpr ⟨lw_p21, List.forall_mem_cons.mpr ⟨lw_p22, List.forall_mem_cons.mpr ⟨lw_p23, List.forall_mem_cons.mpr ⟨lw_p24, List.forall_mem_cons.mpr ⟨lw_p25, List.forall_mem_cons.mpr ⟨lw_p26, List.forall_mem_cons.mpr ⟨lw_p27, List.forall_mem_cons.mpr ⟨lw_p28, List.forall_mem_cons.mpr ⟨lw_p29, List.forall_mem_cons.mpr ⟨lw_p30, List.forall_mem_cons.mpr ⟨lw_p31, fun _ h => absurd h List.not_mem_nil⟩⟩⟩⟩⟩⟩⟩⟩⟩⟩⟩⟩⟩⟩⟩⟩
theorem lw_p32 : lw_okq (⟨"BidsJudgedModel", "lacks", "(II)I"⟩, 71) := ⟨⟨by decide +kernel, by decide +kernel⟩, List.mem_of_getElem? (i := 951) (by decide +kernel), List.mem_of_getElem? (i := 1220) (by decide +kernel), List.mem_of_getElem? (i := 1221) (by decide +kernel)⟩
theorem lw_p33 : lw_okq (⟨"BidsJudgedModel", "priceOf", "(I)I"⟩, 71) := ⟨⟨by decide +kernel, by decide +kernel⟩, List.mem_of_getElem? (i := 951) (by decide +kernel), List.mem_of_getElem? (i := 1232) (by decide +kernel), List.mem_of_getElem? (i := 1233) (by decide +kernel)⟩
theorem lw_p34 : lw_okq (⟨"BidsJudgedModel", "itemsOf", "(I)I"⟩, 71) := ⟨⟨by decide +kernel, by decide +kernel⟩, List.mem_of_getElem? (i := 951) (by decide +kernel), List.mem_of_getElem? (i := 1236) (by decide +kernel), List.mem_of_getElem? (i := 1237) (by decide +kernel)⟩
theorem lw_p35 : lw_okq (⟨"BidsJudgedModel", "fails", "(II)I"⟩, 71) := ⟨⟨by decide +kernel, by decide +kernel⟩, List.mem_of_getElem? (i := 951) (by decide +kernel), List.mem_of_getElem? (i := 1249) (by decide +kernel), List.mem_of_getElem? (i := 1250) (by decide +kernel)⟩
theorem lw_p36 : lw_okq (⟨"BidsJudgedModel", "doesStand", "(I)Z"⟩, 71) := ⟨⟨by decide +kernel, by decide +kernel⟩, List.mem_of_getElem? (i := 951) (by decide +kernel), List.mem_of_getElem? (i := 1253) (by decide +kernel), List.mem_of_getElem? (i := 1254) (by decide +kernel)⟩
theorem lw_p37 : lw_okq (⟨"BidsJudgedModel", "isSilent", "(I)Z"⟩, 71) := ⟨⟨by decide +kernel, by decide +kernel⟩, List.mem_of_getElem? (i := 951) (by decide +kernel), List.mem_of_getElem? (i := 1257) (by decide +kernel), List.mem_of_getElem? (i := 1258) (by decide +kernel)⟩
theorem lw_p38 : lw_okq (⟨"BidsJudgedModel", "findQuality", "(II)V"⟩, 71) := ⟨⟨by decide +kernel, by decide +kernel⟩, List.mem_of_getElem? (i := 951) (by decide +kernel), List.mem_of_getElem? (i := 1269) (by decide +kernel), List.mem_of_getElem? (i := 1270) (by decide +kernel)⟩
theorem lw_p39 : lw_okq (⟨"BidsJudgedModel", "isAside", "(III)Z"⟩, 71) := ⟨⟨by decide +kernel, by decide +kernel⟩, List.mem_of_getElem? (i := 951) (by decide +kernel), List.mem_of_getElem? (i := 1273) (by decide +kernel), List.mem_of_getElem? (i := 1274) (by decide +kernel)⟩
theorem lw_p40 : lw_okq (⟨"BidsJudgedModel", "workText", "([II)V"⟩, 71) := ⟨⟨by decide +kernel, by decide +kernel⟩, List.mem_of_getElem? (i := 951) (by decide +kernel), List.mem_of_getElem? (i := 1289) (by decide +kernel), List.mem_of_getElem? (i := 1290) (by decide +kernel)⟩
theorem lw_p41 : lw_okq (⟨"BidsJudgedModel", "readUnit", "([II)Z"⟩, 71) := ⟨⟨by decide +kernel, by decide +kernel⟩, List.mem_of_getElem? (i := 951) (by decide +kernel), List.mem_of_getElem? (i := 1293) (by decide +kernel), List.mem_of_getElem? (i := 1294) (by decide +kernel)⟩
theorem lw_p42 : lw_okq (⟨"BidsJudgedModel", "open", "(I)V"⟩, 71) := ⟨⟨by decide +kernel, by decide +kernel⟩, List.mem_of_getElem? (i := 951) (by decide +kernel), List.mem_of_getElem? (i := 1300) (by decide +kernel), List.mem_of_getElem? (i := 1301) (by decide +kernel)⟩
theorem lw_p43 : lw_okq (⟨"BidsJudgedModel", "push", "(JJ)V"⟩, 71) := ⟨⟨by decide +kernel, by decide +kernel⟩, List.mem_of_getElem? (i := 951) (by decide +kernel), List.mem_of_getElem? (i := 1307) (by decide +kernel), List.mem_of_getElem? (i := 1308) (by decide +kernel)⟩
theorem lw_p44 : lw_okq (⟨"BidsJudgedModel", "readSign", "(I)Z"⟩, 71) := ⟨⟨by decide +kernel, by decide +kernel⟩, List.mem_of_getElem? (i := 951) (by decide +kernel), List.mem_of_getElem? (i := 1316) (by decide +kernel), List.mem_of_getElem? (i := 1317) (by decide +kernel)⟩
theorem lw_p45 : lw_okq (⟨"BidsJudgedModel", "settle", "(Z)V"⟩, 71) := ⟨⟨by decide +kernel, by decide +kernel⟩, List.mem_of_getElem? (i := 951) (by decide +kernel), List.mem_of_getElem? (i := 1320) (by decide +kernel), List.mem_of_getElem? (i := 1321) (by decide +kernel)⟩
theorem lw_p46 : lw_okq (⟨"BidsJudgedModel", "topSign", "()I"⟩, 71) := ⟨⟨by decide +kernel, by decide +kernel⟩, List.mem_of_getElem? (i := 951) (by decide +kernel), List.mem_of_getElem? (i := 1324) (by decide +kernel), List.mem_of_getElem? (i := 1325) (by decide +kernel)⟩
theorem lw_p47 : lw_okq (⟨"BidsJudgedModel", "work", "(I)V"⟩, 71) := ⟨⟨by decide +kernel, by decide +kernel⟩, List.mem_of_getElem? (i := 951) (by decide +kernel), List.mem_of_getElem? (i := 1328) (by decide +kernel), List.mem_of_getElem? (i := 1329) (by decide +kernel)⟩
def lw_privs_3 : List (MethodName × Nat) := [(⟨"BidsJudgedModel", "lacks", "(II)I"⟩, 71), (⟨"BidsJudgedModel", "priceOf", "(I)I"⟩, 71), (⟨"BidsJudgedModel", "itemsOf", "(I)I"⟩, 71), (⟨"BidsJudgedModel", "fails", "(II)I"⟩, 71), (⟨"BidsJudgedModel", "doesStand", "(I)Z"⟩, 71), (⟨"BidsJudgedModel", "isSilent", "(I)Z"⟩, 71), (⟨"BidsJudgedModel", "findQuality", "(II)V"⟩, 71), (⟨"BidsJudgedModel", "isAside", "(III)Z"⟩, 71), (⟨"BidsJudgedModel", "workText", "([II)V"⟩, 71), (⟨"BidsJudgedModel", "readUnit", "([II)Z"⟩, 71), (⟨"BidsJudgedModel", "open", "(I)V"⟩, 71), (⟨"BidsJudgedModel", "push", "(JJ)V"⟩, 71), (⟨"BidsJudgedModel", "readSign", "(I)Z"⟩, 71), (⟨"BidsJudgedModel", "settle", "(Z)V"⟩, 71), (⟨"BidsJudgedModel", "topSign", "()I"⟩, 71), (⟨"BidsJudgedModel", "work", "(I)V"⟩, 71)]
theorem lw_r3 : ∀ q ∈ lw_privs_3, lw_okq q := List.forall_mem_cons.mpr ⟨lw_p32, List.forall_mem_cons.mpr ⟨lw_p33, List.forall_mem_cons.mpr ⟨lw_p34, List.forall_mem_cons.mpr ⟨lw_p35, List.forall_mem_cons.mpr ⟨lw_p36, List.forall_mem_cons.mpr ⟨lw_p37, List.forall_mem_cons.mpr ⟨lw_p38, List.forall_mem_cons.mpr ⟨lw_p39, List.forall_mem_cons.mpr ⟨lw_p40, List.forall_mem_cons.mpr ⟨lw_p41, List.forall_mem_cons.mpr ⟨lw_p42, List.forall_mem_cons.mpr ⟨lw_p43, List.forall_mem_cons.mpr ⟨lw_p44, List.forall_mem_cons.mpr ⟨lw_p45, List.forall_mem_cons.mpr ⟨lw_p46, List.forall_mem_cons.mpr ⟨lw_p47, fun _ h => absurd h List.not_mem_nil⟩⟩⟩⟩⟩⟩⟩⟩⟩⟩⟩⟩⟩⟩⟩⟩
theorem lw_p48 : lw_okq (⟨"BidsJudgedModel", "refuseFar", "(I)J"⟩, 71) := ⟨⟨by decide +kernel, by decide +kernel⟩, List.mem_of_getElem? (i := 951) (by decide +kernel), List.mem_of_getElem? (i := 1338) (by decide +kernel), List.mem_of_getElem? (i := 1339) (by decide +kernel)⟩
theorem lw_p49 : lw_okq (⟨"BidsJudgedModel", "findPoints", "(III)Z"⟩, 71) := ⟨⟨by decide +kernel, by decide +kernel⟩, List.mem_of_getElem? (i := 951) (by decide +kernel), List.mem_of_getElem? (i := 1343) (by decide +kernel), List.mem_of_getElem? (i := 1344) (by decide +kernel)⟩
theorem lw_p50 : lw_okq (⟨"BidsJudgedModel", "findNames", "(III)V"⟩, 71) := ⟨⟨by decide +kernel, by decide +kernel⟩, List.mem_of_getElem? (i := 951) (by decide +kernel), List.mem_of_getElem? (i := 1347) (by decide +kernel), List.mem_of_getElem? (i := 1348) (by decide +kernel)⟩
theorem lw_p51 : lw_okq (⟨"BidsJudgedModel", "findOrder", "(I)V"⟩, 71) := ⟨⟨by decide +kernel, by decide +kernel⟩, List.mem_of_getElem? (i := 951) (by decide +kernel), List.mem_of_getElem? (i := 1355) (by decide +kernel), List.mem_of_getElem? (i := 1356) (by decide +kernel)⟩
theorem lw_p52 : lw_okq (⟨"BidsJudgedModel", "isAhead", "(III)Z"⟩, 71) := ⟨⟨by decide +kernel, by decide +kernel⟩, List.mem_of_getElem? (i := 951) (by decide +kernel), List.mem_of_getElem? (i := 1359) (by decide +kernel), List.mem_of_getElem? (i := 1360) (by decide +kernel)⟩
theorem lw_p53 : lw_okq (⟨"BidsJudgedModel", "isLow", "(I)Z"⟩, 71) := ⟨⟨by decide +kernel, by decide +kernel⟩, List.mem_of_getElem? (i := 951) (by decide +kernel), List.mem_of_getElem? (i := 1375) (by decide +kernel), List.mem_of_getElem? (i := 1376) (by decide +kernel)⟩
theorem lw_p54 : lw_okq (⟨"BidsJudgedModel", "findWhole", "()V"⟩, 71) := ⟨⟨by decide +kernel, by decide +kernel⟩, List.mem_of_getElem? (i := 951) (by decide +kernel), List.mem_of_getElem? (i := 1403) (by decide +kernel), List.mem_of_getElem? (i := 1404) (by decide +kernel)⟩
theorem lw_p55 : lw_okq (⟨"BidsJudgedModel", "tryPicks", "()V"⟩, 71) := ⟨⟨by decide +kernel, by decide +kernel⟩, List.mem_of_getElem? (i := 951) (by decide +kernel), List.mem_of_getElem? (i := 1407) (by decide +kernel), List.mem_of_getElem? (i := 1408) (by decide +kernel)⟩
theorem lw_p56 : lw_okq (⟨"BidsJudgedModel", "valueOf", "(I)I"⟩, 71) := ⟨⟨by decide +kernel, by decide +kernel⟩, List.mem_of_getElem? (i := 951) (by decide +kernel), List.mem_of_getElem? (i := 1411) (by decide +kernel), List.mem_of_getElem? (i := 1412) (by decide +kernel)⟩
theorem lw_p57 : lw_okq (⟨"BidsJudgedModel", "isFirst", "()Z"⟩, 71) := ⟨⟨by decide +kernel, by decide +kernel⟩, List.mem_of_getElem? (i := 951) (by decide +kernel), List.mem_of_getElem? (i := 1416) (by decide +kernel), List.mem_of_getElem? (i := 1417) (by decide +kernel)⟩
theorem lw_p58 : lw_okq (⟨"BidsJudgedModel", "undo", "(II)V"⟩, 71) := ⟨⟨by decide +kernel, by decide +kernel⟩, List.mem_of_getElem? (i := 951) (by decide +kernel), List.mem_of_getElem? (i := 1440) (by decide +kernel), List.mem_of_getElem? (i := 1441) (by decide +kernel)⟩
theorem lw_p59 : lw_okq (⟨"BidsJudgedModel", "holding", "()I"⟩, 71) := ⟨⟨by decide +kernel, by decide +kernel⟩, List.mem_of_getElem? (i := 951) (by decide +kernel), List.mem_of_getElem? (i := 1448) (by decide +kernel), List.mem_of_getElem? (i := 1449) (by decide +kernel)⟩
theorem lw_p60 : lw_okq (⟨"BidsJudgedModel", "wrongTwo", "(III)I"⟩, 71) := ⟨⟨by decide +kernel, by decide +kernel⟩, List.mem_of_getElem? (i := 951) (by decide +kernel), List.mem_of_getElem? (i := 1460) (by decide +kernel), List.mem_of_getElem? (i := 1461) (by decide +kernel)⟩
theorem lw_p61 : lw_okq (⟨"BidsJudgedModel", "likenessBy", "(III)J"⟩, 71) := ⟨⟨by decide +kernel, by decide +kernel⟩, List.mem_of_getElem? (i := 951) (by decide +kernel), List.mem_of_getElem? (i := 1464) (by decide +kernel), List.mem_of_getElem? (i := 1465) (by decide +kernel)⟩
theorem lw_p62 : lw_okq (⟨"BidsJudgedModel", "chanceOf", "(II)I"⟩, 71) := ⟨⟨by decide +kernel, by decide +kernel⟩, List.mem_of_getElem? (i := 951) (by decide +kernel), List.mem_of_getElem? (i := 1475) (by decide +kernel), List.mem_of_getElem? (i := 1476) (by decide +kernel)⟩
theorem lw_p63 : lw_okq (⟨"BidsJudgedModel", "areJoined", "(II)Z"⟩, 71) := ⟨⟨by decide +kernel, by decide +kernel⟩, List.mem_of_getElem? (i := 951) (by decide +kernel), List.mem_of_getElem? (i := 1483) (by decide +kernel), List.mem_of_getElem? (i := 1484) (by decide +kernel)⟩
def lw_privs_4 : List (MethodName × Nat) := [(⟨"BidsJudgedModel", "refuseFar", "(I)J"⟩, 71), (⟨"BidsJudgedModel", "findPoints", "(III)Z"⟩, 71), (⟨"BidsJudgedModel", "findNames", "(III)V"⟩, 71), (⟨"BidsJudgedModel", "findOrder", "(I)V"⟩, 71), (⟨"BidsJudgedModel", "isAhead", "(III)Z"⟩, 71), (⟨"BidsJudgedModel", "isLow", "(I)Z"⟩, 71), (⟨"BidsJudgedModel", "findWhole", "()V"⟩, 71), (⟨"BidsJudgedModel", "tryPicks", "()V"⟩, 71), (⟨"BidsJudgedModel", "valueOf", "(I)I"⟩, 71), (⟨"BidsJudgedModel", "isFirst", "()Z"⟩, 71), (⟨"BidsJudgedModel", "undo", "(II)V"⟩, 71), (⟨"BidsJudgedModel", "holding", "()I"⟩, 71), (⟨"BidsJudgedModel", "wrongTwo", "(III)I"⟩, 71), (⟨"BidsJudgedModel", "likenessBy", "(III)J"⟩, 71), (⟨"BidsJudgedModel", "chanceOf", "(II)I"⟩, 71), (⟨"BidsJudgedModel", "areJoined", "(II)Z"⟩, 71)]
theorem lw_r4 : ∀ q ∈ lw_privs_4, lw_okq q := List.forall_mem_cons.mpr ⟨lw_p48, List.forall_mem_cons.mpr ⟨lw_p49, List.forall_mem_cons.mpr ⟨lw_p50, List.forall_mem_cons.mpr ⟨lw_p51, List.forall_mem_cons.mpr ⟨lw_p52, List.forall_mem_cons.mpr ⟨lw_p53, List.forall_mem_cons.mpr ⟨lw_p54, List.forall_mem_cons.mpr ⟨lw_p55, List.forall_mem_cons.mpr ⟨lw_p56, List.forall_mem_cons.mpr ⟨lw_p57, List.forall_mem_cons.mpr ⟨lw_p58, List.forall_mem_cons.mpr ⟨lw_p59, List.forall_mem_cons.mpr ⟨lw_p60, List.forall_mem_cons.mpr ⟨lw_p61, List.forall_mem_cons.mpr ⟨lw_p62, List.forall_mem_cons.mpr ⟨lw_p63, fun _ h => absurd h List.not_mem_nil⟩⟩⟩⟩⟩⟩⟩⟩⟩⟩⟩⟩⟩⟩⟩⟩
theorem lw_p64 : lw_okq (⟨"BidsJudgedModel", "memberOf", "(I)I"⟩, 71) := ⟨⟨by decide +kernel, by decide +kernel⟩, List.mem_of_getElem? (i := 951) (by decide +kernel), List.mem_of_getElem? (i := 1492) (by decide +kernel), List.mem_of_getElem? (i := 1493) (by decide +kernel)⟩
def lw_privs_5 : List (MethodName × Nat) := [(⟨"BidsJudgedModel", "memberOf", "(I)I"⟩, 71)]
theorem lw_r5 : ∀ q ∈ lw_privs_5, lw_okq q := List.forall_mem_cons.mpr ⟨lw_p64, fun _ h => absurd h List.not_mem_nil⟩
def lw_privs : List (MethodName × Nat) := lw_privs_1 ++ (lw_privs_2 ++ (lw_privs_3 ++ (lw_privs_4 ++ (lw_privs_5))))
def lw_tbl : List Cond := k2_sels lw_privs ++ tables_1
theorem lw_privs_ok : ∀ q ∈ lw_privs, lw_okq q := by
  show ∀ q ∈ lw_privs_1 ++ (lw_privs_2 ++ (lw_privs_3 ++ (lw_privs_4 ++ (lw_privs_5)))), lw_okq q
  exact List.forall_mem_append.mpr ⟨lw_r1, List.forall_mem_append.mpr ⟨lw_r2, List.forall_mem_append.mpr ⟨lw_r3, List.forall_mem_append.mpr ⟨lw_r4, lw_r5⟩⟩⟩⟩
def RX0 : String := "BidsJudged$Award"
def TX0 : u_T := fun k => match k with
  | 0 => ("BidsJudged$Award", "isAwarded", "Z", false)
  | 1 => ("BidsJudged$Award", "isSigned", "Z", false)
  | 2 => ("BidsJudged$Award", "challenges", "I", false)
  | 3 => ("BidsJudged$Award", "winners", "[I", true)
  | 4 => ("BidsJudged$Award", "lotOf", "[I", true)
  | 5 => ("BidsJudged$Award", "stageOf", "[I", true)
  | 6 => ("BidsJudged$Award", "judged", "[Z", true)
  | 7 => ("BidsJudged$Award", "roundOf", "[I", true)
  | 8 => ("BidsJudged$Award", "prices", "[I", true)
  | 9 => ("BidsJudged$Award", "changed", "[J", true)
  | 10 => ("BidsJudged$Award", "round", "I", false)
  | _ => ("BidsJudged$Award", "standstillUntil", "I", false)
def tyX0 : Nat → FieldType := fun k => match k with
  | 0 => .boolean
  | 1 => .boolean
  | 2 => .int
  | 3 => .array .int
  | 4 => .array .int
  | 5 => .array .int
  | 6 => .array .boolean
  | 7 => .array .int
  | 8 => .array .int
  | 9 => .array .long
  | 10 => .int
  | _ => .int
abbrev wsX00 : List Cond := u_ws RX0 TX0 12
theorem nmX0 : ∀ a, a < 12 → ∀ b, b < 12 → a ≠ b → (TX0 a).2.1 ≠ (TX0 b).2.1 := by decide +kernel
theorem tyX0_ok : ∀ k, k < 12 → parseFieldDescriptor (TX0 k).2.2.1 = some (tyX0 k) := by decide +kernel
abbrev cX0_init : ByteArray := prog_2_method_1_code
def yX0_init : MethodName := ⟨RX0, "<init>", "()V"⟩
abbrev cX0_begin : ByteArray := prog_2_method_2_code
def yX0_begin : MethodName := ⟨RX0, "begin", "(I)V"⟩
abbrev cX0_give : ByteArray := prog_2_method_3_code
def yX0_give : MethodName := ⟨RX0, "give", "(III)V"⟩
abbrev cX0_isStandstillOver : ByteArray := prog_2_method_4_code
def yX0_isStandstillOver : MethodName := ⟨RX0, "isStandstillOver", "(I)Z"⟩
abbrev cX0_addChallenge : ByteArray := prog_2_method_5_code
def yX0_addChallenge : MethodName := ⟨RX0, "addChallenge", "(II)I"⟩
abbrev cX0_holds : ByteArray := prog_2_method_6_code
def yX0_holds : MethodName := ⟨RX0, "holds", "(I)Z"⟩
abbrev cX0_countHolding : ByteArray := prog_2_method_7_code
def yX0_countHolding : MethodName := ⟨RX0, "countHolding", "()I"⟩
abbrev cX0_addChange : ByteArray := prog_2_method_8_code
def yX0_addChange : MethodName := ⟨RX0, "addChange", "(III)I"⟩
def RX1 : String := "BidsJudged$Book"
def TX1 : u_T := fun k => match k with
  | 0 => ("BidsJudged$Book", "settings", "[I", true)
  | 1 => ("BidsJudged$Book", "rates", "[I", true)
  | 2 => ("BidsJudged$Book", "there", "[Z", true)
  | 3 => ("BidsJudged$Book", "toldOut", "[Z", true)
  | 4 => ("BidsJudged$Book", "askedUntil", "[I", true)
  | 5 => ("BidsJudged$Book", "items", "[I", true)
  | 6 => ("BidsJudged$Book", "moneys", "[I", true)
  | 7 => ("BidsJudged$Book", "sums", "[I", true)
  | 8 => ("BidsJudged$Book", "options", "[I", true)
  | 9 => ("BidsJudged$Book", "now", "I", false)
  | 10 => ("BidsJudged$Book", "closingAt", "I", false)
  | 11 => ("BidsJudged$Book", "lotCount", "I", false)
  | _ => ("BidsJudged$Book", "late", "I", false)
def tyX1 : Nat → FieldType := fun k => match k with
  | 0 => .array .int
  | 1 => .array .int
  | 2 => .array .boolean
  | 3 => .array .boolean
  | 4 => .array .int
  | 5 => .array .int
  | 6 => .array .int
  | 7 => .array .int
  | 8 => .array .int
  | 9 => .int
  | 10 => .int
  | 11 => .int
  | _ => .int
abbrev wsX10 : List Cond := u_ws RX1 TX1 13
theorem nmX1 : ∀ a, a < 13 → ∀ b, b < 13 → a ≠ b → (TX1 a).2.1 ≠ (TX1 b).2.1 := by decide +kernel
theorem tyX1_ok : ∀ k, k < 13 → parseFieldDescriptor (TX1 k).2.2.1 = some (tyX1 k) := by decide +kernel
abbrev cX1_init : ByteArray := prog_3_method_1_code
def yX1_init : MethodName := ⟨RX1, "<init>", "()V"⟩
abbrev cX1_isOpen : ByteArray := prog_3_method_2_code
def yX1_isOpen : MethodName := ⟨RX1, "isOpen", "()Z"⟩
abbrev cX1_keepLots : ByteArray := prog_3_method_3_code
def yX1_keepLots : MethodName := ⟨RX1, "keepLots", "(I)V"⟩
abbrev cX1_drop : ByteArray := prog_3_method_4_code
def yX1_drop : MethodName := ⟨RX1, "drop", "(I)V"⟩
abbrev cX1_putTerms : ByteArray := prog_3_method_5_code
def yX1_putTerms : MethodName := ⟨RX1, "putTerms", "(IIII)V"⟩
abbrev cX1_putItems : ByteArray := prog_3_method_6_code
def yX1_putItems : MethodName := ⟨RX1, "putItems", "(IIIII)V"⟩
abbrev cX1_itemSum : ByteArray := prog_3_method_7_code
def yX1_itemSum : MethodName := ⟨RX1, "itemSum", "(I)I"⟩
abbrev cX1_priceAt : ByteArray := prog_3_method_8_code
def yX1_priceAt : MethodName := ⟨RX1, "priceAt", "(I)I"⟩
abbrev cX1_countedSum : ByteArray := prog_3_method_9_code
def yX1_countedSum : MethodName := ⟨RX1, "countedSum", "(I)I"⟩
abbrev cX1_isLapsed : ByteArray := prog_3_method_10_code
def yX1_isLapsed : MethodName := ⟨RX1, "isLapsed", "(I)Z"⟩
abbrev cX1_isOutAt : ByteArray := prog_3_method_11_code
def yX1_isOutAt : MethodName := ⟨RX1, "isOutAt", "(I)Z"⟩
abbrev cX1_standsAt : ByteArray := prog_3_method_12_code
def yX1_standsAt : MethodName := ⟨RX1, "standsAt", "(I)Z"⟩
abbrev cX1_clearOut : ByteArray := prog_3_method_13_code
def yX1_clearOut : MethodName := ⟨RX1, "clearOut", "(I)V"⟩
abbrev cX1_clearOuts : ByteArray := prog_3_method_14_code
def yX1_clearOuts : MethodName := ⟨RX1, "clearOuts", "(I)V"⟩
abbrev cX1_isTooLow : ByteArray := prog_3_method_15_code
def yX1_isTooLow : MethodName := ⟨RX1, "isTooLow", "(II)Z"⟩
abbrev cX1_countThere : ByteArray := prog_3_method_16_code
def yX1_countThere : MethodName := ⟨RX1, "countThere", "()I"⟩
abbrev cX1_countStanding : ByteArray := prog_3_method_17_code
def yX1_countStanding : MethodName := ⟨RX1, "countStanding", "()I"⟩
def RX2 : String := "BidsJudged$Formula"
def TX2 : u_T := fun k => match k with
  | 0 => ("BidsJudged$Formula", "codes", "[I", true)
  | 1 => ("BidsJudged$Formula", "size", "I", false)
  | 2 => ("BidsJudged$Formula", "bytes", "I", false)
  | 3 => ("BidsJudged$Formula", "tape", "[I", true)
  | 4 => ("BidsJudged$Formula", "draft", "[I", true)
  | 5 => ("BidsJudged$Formula", "drafted", "I", false)
  | 6 => ("BidsJudged$Formula", "units", "I", false)
  | 7 => ("BidsJudged$Formula", "place", "I", false)
  | _ => ("BidsJudged$Formula", "fault", "I", false)
def tyX2 : Nat → FieldType := fun k => match k with
  | 0 => .array .int
  | 1 => .int
  | 2 => .int
  | 3 => .array .int
  | 4 => .array .int
  | 5 => .int
  | 6 => .int
  | 7 => .int
  | _ => .int
abbrev wsX20 : List Cond := u_ws RX2 TX2 9
theorem nmX2 : ∀ a, a < 9 → ∀ b, b < 9 → a ≠ b → (TX2 a).2.1 ≠ (TX2 b).2.1 := by decide +kernel
theorem tyX2_ok : ∀ k, k < 9 → parseFieldDescriptor (TX2 k).2.2.1 = some (tyX2 k) := by decide +kernel
abbrev cX2_init : ByteArray := prog_4_method_1_code
def yX2_init : MethodName := ⟨RX2, "<init>", "()V"⟩
abbrev cX2_useQuality : ByteArray := prog_4_method_2_code
def yX2_useQuality : MethodName := ⟨RX2, "useQuality", "()V"⟩
abbrev cX2_take : ByteArray := prog_4_method_3_code
def yX2_take : MethodName := ⟨RX2, "take", "(IJ)I"⟩
abbrev cX2_readTape : ByteArray := prog_4_method_4_code
def yX2_readTape : MethodName := ⟨RX2, "readTape", "()I"⟩
abbrev cX2_peek : ByteArray := prog_4_method_5_code
def yX2_peek : MethodName := ⟨RX2, "peek", "()I"⟩
abbrev cX2_findFault : ByteArray := prog_4_method_6_code
def yX2_findFault : MethodName := ⟨RX2, "findFault", "()V"⟩
abbrev cX2_emit : ByteArray := prog_4_method_7_code
def yX2_emit : MethodName := ⟨RX2, "emit", "(I)V"⟩
abbrev cX2_readSum : ByteArray := prog_4_method_8_code
def yX2_readSum : MethodName := ⟨RX2, "readSum", "(I)V"⟩
abbrev cX2_readTerm : ByteArray := prog_4_method_9_code
def yX2_readTerm : MethodName := ⟨RX2, "readTerm", "(I)V"⟩
abbrev cX2_readUnit : ByteArray := prog_4_method_10_code
def yX2_readUnit : MethodName := ⟨RX2, "readUnit", "(I)V"⟩
abbrev cX2_readNumber : ByteArray := prog_4_method_11_code
def yX2_readNumber : MethodName := ⟨RX2, "readNumber", "()V"⟩
abbrev cX2_readBracket : ByteArray := prog_4_method_12_code
def yX2_readBracket : MethodName := ⟨RX2, "readBracket", "(IZ)V"⟩
abbrev cX2_expect : ByteArray := prog_4_method_13_code
def yX2_expect : MethodName := ⟨RX2, "expect", "(I)V"⟩
abbrev cX2_isDigit : ByteArray := prog_4_method_14_code
def yX2_isDigit : MethodName := ⟨RX2, "isDigit", "(I)Z"⟩
abbrev cX2_isName : ByteArray := prog_4_method_15_code
def yX2_isName : MethodName := ⟨RX2, "isName", "(I)Z"⟩
def RX3 : String := "BidsJudged$Fraction"
def TX3 : u_T := fun k => match k with
  | 0 => ("BidsJudged$Fraction", "above", "J", false)
  | 1 => ("BidsJudged$Fraction", "below", "J", false)
  | _ => ("BidsJudged$Fraction", "broken", "Z", false)
def tyX3 : Nat → FieldType := fun k => match k with
  | 0 => .long
  | 1 => .long
  | _ => .boolean
abbrev wsX30 : List Cond := u_ws RX3 TX3 3
theorem nmX3 : ∀ a, a < 3 → ∀ b, b < 3 → a ≠ b → (TX3 a).2.1 ≠ (TX3 b).2.1 := by decide +kernel
theorem tyX3_ok : ∀ k, k < 3 → parseFieldDescriptor (TX3 k).2.2.1 = some (tyX3 k) := by decide +kernel
abbrev cX3_init : ByteArray := prog_5_method_1_code
def yX3_init : MethodName := ⟨RX3, "<init>", "()V"⟩
abbrev cX3_put : ByteArray := prog_5_method_2_code
def yX3_put : MethodName := ⟨RX3, "put", "(JJ)V"⟩
abbrev cX3_commonPart : ByteArray := prog_5_method_3_code
def yX3_commonPart : MethodName := ⟨RX3, "commonPart", "(JJ)J"⟩
def RX4 : String := "BidsJudged$Framework"
def TX4 : u_T := fun k => match k with
  | 0 => ("BidsJudged$Framework", "rooms", "[I", true)
  | 1 => ("BidsJudged$Framework", "holder", "I", false)
  | 2 => ("BidsJudged$Framework", "members", "[I", true)
  | 3 => ("BidsJudged$Framework", "size", "I", false)
  | 4 => ("BidsJudged$Framework", "latest", "I", false)
  | 5 => ("BidsJudged$Framework", "first", "I", false)
  | _ => ("BidsJudged$Framework", "wanted", "I", false)
def tyX4 : Nat → FieldType := fun k => match k with
  | 0 => .array .int
  | 1 => .int
  | 2 => .array .int
  | 3 => .int
  | 4 => .int
  | 5 => .int
  | _ => .int
abbrev wsX40 : List Cond := u_ws RX4 TX4 7
theorem nmX4 : ∀ a, a < 7 → ∀ b, b < 7 → a ≠ b → (TX4 a).2.1 ≠ (TX4 b).2.1 := by decide +kernel
theorem tyX4_ok : ∀ k, k < 7 → parseFieldDescriptor (TX4 k).2.2.1 = some (tyX4 k) := by decide +kernel
abbrev cX4_init : ByteArray := prog_6_method_1_code
def yX4_init : MethodName := ⟨RX4, "<init>", "()V"⟩
abbrev cX4_placeOf : ByteArray := prog_6_method_2_code
def yX4_placeOf : MethodName := ⟨RX4, "placeOf", "(I)I"⟩
abbrev cX4_add : ByteArray := prog_6_method_3_code
def yX4_add : MethodName := ⟨RX4, "add", "(II)I"⟩
abbrev cX4_beginCall : ByteArray := prog_6_method_4_code
def yX4_beginCall : MethodName := ⟨RX4, "beginCall", "(I)I"⟩
abbrev cX4_passOn : ByteArray := prog_6_method_5_code
def yX4_passOn : MethodName := ⟨RX4, "passOn", "()I"⟩
abbrev cX4_nextWithRoom : ByteArray := prog_6_method_6_code
def yX4_nextWithRoom : MethodName := ⟨RX4, "nextWithRoom", "(II)I"⟩
abbrev cX4_hand : ByteArray := prog_6_method_7_code
def yX4_hand : MethodName := ⟨RX4, "hand", "(I)I"⟩
def RX5 : String := "BidsJudged$Notes"
def TX5 : u_T := fun k => match k with
  | 0 => ("BidsJudged$Notes", "marks", "[I", true)
  | 1 => ("BidsJudged$Notes", "barred", "[Z", true)
  | _ => ("BidsJudged$Notes", "silent", "[Z", true)
def tyX5 : Nat → FieldType := fun k => match k with
  | 0 => .array .int
  | 1 => .array .boolean
  | _ => .array .boolean
abbrev wsX50 : List Cond := u_ws RX5 TX5 3
theorem nmX5 : ∀ a, a < 3 → ∀ b, b < 3 → a ≠ b → (TX5 a).2.1 ≠ (TX5 b).2.1 := by decide +kernel
theorem tyX5_ok : ∀ k, k < 3 → parseFieldDescriptor (TX5 k).2.2.1 = some (tyX5 k) := by decide +kernel
abbrev cX5_init : ByteArray := prog_7_method_1_code
def yX5_init : MethodName := ⟨RX5, "<init>", "()V"⟩
abbrev cX5_put : ByteArray := prog_7_method_2_code
def yX5_put : MethodName := ⟨RX5, "put", "(III)I"⟩
abbrev cX5_putBar : ByteArray := prog_7_method_3_code
def yX5_putBar : MethodName := ⟨RX5, "putBar", "(IIZ)Z"⟩
abbrev cX5_clearLot : ByteArray := prog_7_method_4_code
def yX5_clearLot : MethodName := ⟨RX5, "clearLot", "(I)V"⟩
abbrev cX5_findSilent : ByteArray := prog_7_method_5_code
def yX5_findSilent : MethodName := ⟨RX5, "findSilent", "([Z)V"⟩
abbrev cX5_weigh : ByteArray := prog_7_method_6_code
def yX5_weigh : MethodName := ⟨RX5, "weigh", "(ILBidsJudged$Fraction;)V"⟩
def RX6 : String := "BidsJudged$Rings"
def TX6 : u_T := fun k => match k with
  | _ => ("", "", "", false)
def tyX6 : Nat → FieldType := fun k => match k with
  | _ => .int
abbrev wsX60 : List Cond := u_ws RX6 TX6 0
theorem nmX6 : ∀ a, a < 0 → ∀ b, b < 0 → a ≠ b → (TX6 a).2.1 ≠ (TX6 b).2.1 := by decide +kernel
theorem tyX6_ok : ∀ k, k < 0 → parseFieldDescriptor (TX6 k).2.2.1 = some (tyX6 k) := by decide +kernel
abbrev cX6_likenessOf : ByteArray := prog_8_method_2_code
def yX6_likenessOf : MethodName := ⟨RX6, "likenessOf", "(LBidsJudged$Book;II)J"⟩
abbrev cX6_likenessInOrder : ByteArray := prog_8_method_3_code
def yX6_likenessInOrder : MethodName := ⟨RX6, "likenessInOrder", "(LBidsJudged$Book;IIIII)J"⟩
abbrev cX6_chanceOf : ByteArray := prog_8_method_4_code
def yX6_chanceOf : MethodName := ⟨RX6, "chanceOf", "(LBidsJudged$Book;II)I"⟩
abbrev cX6_areJoined : ByteArray := prog_8_method_5_code
def yX6_areJoined : MethodName := ⟨RX6, "areJoined", "(LBidsJudged$Book;II)Z"⟩
abbrev cX6_leastJoined : ByteArray := prog_8_method_6_code
def yX6_leastJoined : MethodName := ⟨RX6, "leastJoined", "(LBidsJudged$Book;II)I"⟩
abbrev cX6_joinedWith : ByteArray := prog_8_method_7_code
def yX6_joinedWith : MethodName := ⟨RX6, "joinedWith", "(LBidsJudged$Book;III)I"⟩
def RX7 : String := "BidsJudged$Table"
def TX7 : u_T := fun k => match k with
  | 0 => ("BidsJudged$Table", "fraction", "LBidsJudged$Fraction;", true)
  | 1 => ("BidsJudged$Table", "in", "[Z", true)
  | 2 => ("BidsJudged$Table", "prices", "[I", true)
  | 3 => ("BidsJudged$Table", "qualityAbove", "[J", true)
  | 4 => ("BidsJudged$Table", "qualityBelow", "[J", true)
  | 5 => ("BidsJudged$Table", "pointsAbove", "[J", true)
  | 6 => ("BidsJudged$Table", "pointsBelow", "[J", true)
  | 7 => ("BidsJudged$Table", "broken", "[Z", true)
  | 8 => ("BidsJudged$Table", "ranking", "[I", true)
  | 9 => ("BidsJudged$Table", "ranked", "I", false)
  | 10 => ("BidsJudged$Table", "stackAbove", "[J", true)
  | 11 => ("BidsJudged$Table", "stackBelow", "[J", true)
  | 12 => ("BidsJudged$Table", "height", "I", false)
  | 13 => ("BidsJudged$Table", "least", "J", false)
  | 14 => ("BidsJudged$Table", "greatest", "J", false)
  | 15 => ("BidsJudged$Table", "meanAbove", "J", false)
  | 16 => ("BidsJudged$Table", "meanBelow", "J", false)
  | 17 => ("BidsJudged$Table", "howMany", "I", false)
  | 18 => ("BidsJudged$Table", "bestAbove", "J", false)
  | _ => ("BidsJudged$Table", "bestBelow", "J", false)
def tyX7 : Nat → FieldType := fun k => match k with
  | 0 => .object "BidsJudged$Fraction"
  | 1 => .array .boolean
  | 2 => .array .int
  | 3 => .array .long
  | 4 => .array .long
  | 5 => .array .long
  | 6 => .array .long
  | 7 => .array .boolean
  | 8 => .array .int
  | 9 => .int
  | 10 => .array .long
  | 11 => .array .long
  | 12 => .int
  | 13 => .long
  | 14 => .long
  | 15 => .long
  | 16 => .long
  | 17 => .int
  | 18 => .long
  | _ => .long
abbrev wsX70 : List Cond := u_ws RX7 TX7 20
theorem nmX7 : ∀ a, a < 20 → ∀ b, b < 20 → a ≠ b → (TX7 a).2.1 ≠ (TX7 b).2.1 := by decide +kernel
theorem tyX7_ok : ∀ k, k < 20 → parseFieldDescriptor (TX7 k).2.2.1 = some (tyX7 k) := by decide +kernel
abbrev cX7_init : ByteArray := prog_9_method_1_code
def yX7_init : MethodName := ⟨RX7, "<init>", "()V"⟩
abbrev cX7_lay : ByteArray := prog_9_method_2_code
def yX7_lay : MethodName := ⟨RX7, "lay", "(LBidsJudged$Book;LBidsJudged$Notes;II)V"⟩
abbrev cX7_sumUp : ByteArray := prog_9_method_3_code
def yX7_sumUp : MethodName := ⟨RX7, "sumUp", "()V"⟩
abbrev cX7_workGain : ByteArray := prog_9_method_4_code
def yX7_workGain : MethodName := ⟨RX7, "workGain", "(LBidsJudged$Formula;II)Z"⟩
abbrev cX7_work : ByteArray := prog_9_method_5_code
def yX7_work : MethodName := ⟨RX7, "work", "(LBidsJudged$Formula;I)V"⟩
abbrev cX7_pushName : ByteArray := prog_9_method_6_code
def yX7_pushName : MethodName := ⟨RX7, "pushName", "(II)V"⟩
abbrev cX7_push : ByteArray := prog_9_method_7_code
def yX7_push : MethodName := ⟨RX7, "push", "(JJ)V"⟩
abbrev cX7_operate : ByteArray := prog_9_method_8_code
def yX7_operate : MethodName := ⟨RX7, "operate", "(I)V"⟩
abbrev cX7_rank : ByteArray := prog_9_method_9_code
def yX7_rank : MethodName := ⟨RX7, "rank", "(LBidsJudged$Formula;)V"⟩
abbrev cX7_insert : ByteArray := prog_9_method_10_code
def yX7_insert : MethodName := ⟨RX7, "insert", "(I)V"⟩
abbrev cX7_isAhead : ByteArray := prog_9_method_11_code
def yX7_isAhead : MethodName := ⟨RX7, "isAhead", "(II)Z"⟩
def RX8 : String := "BidsJudged$Whole"
def TX8 : u_T := fun k => match k with
  | 0 => ("BidsJudged$Whole", "mosts", "[I", true)
  | 1 => ("BidsJudged$Whole", "winners", "[I", true)
  | 2 => ("BidsJudged$Whole", "given", "I", false)
  | 3 => ("BidsJudged$Whole", "value", "I", false)
  | 4 => ("BidsJudged$Whole", "rebates", "[I", true)
  | 5 => ("BidsJudged$Whole", "places", "[I", true)
  | 6 => ("BidsJudged$Whole", "prices", "[I", true)
  | 7 => ("BidsJudged$Whole", "best", "[J", true)
  | _ => ("BidsJudged$Whole", "costs", "[J", true)
def tyX8 : Nat → FieldType := fun k => match k with
  | 0 => .array .int
  | 1 => .array .int
  | 2 => .int
  | 3 => .int
  | 4 => .array .int
  | 5 => .array .int
  | 6 => .array .int
  | 7 => .array .long
  | _ => .array .long
abbrev wsX80 : List Cond := u_ws RX8 TX8 9
theorem nmX8 : ∀ a, a < 9 → ∀ b, b < 9 → a ≠ b → (TX8 a).2.1 ≠ (TX8 b).2.1 := by decide +kernel
theorem tyX8_ok : ∀ k, k < 9 → parseFieldDescriptor (TX8 k).2.2.1 = some (tyX8 k) := by decide +kernel
abbrev cX8_init : ByteArray := prog_10_method_1_code
def yX8_init : MethodName := ⟨RX8, "<init>", "()V"⟩
abbrev cX8_putRebate : ByteArray := prog_10_method_2_code
def yX8_putRebate : MethodName := ⟨RX8, "putRebate", "(III)I"⟩
abbrev cX8_clear : ByteArray := prog_10_method_3_code
def yX8_clear : MethodName := ⟨RX8, "clear", "()V"⟩
abbrev cX8_offer : ByteArray := prog_10_method_4_code
def yX8_offer : MethodName := ⟨RX8, "offer", "(IIII)V"⟩
abbrev cX8_search : ByteArray := prog_10_method_5_code
def yX8_search : MethodName := ⟨RX8, "search", "(I)V"⟩
abbrev cX8_costOf : ByteArray := prog_10_method_6_code
def yX8_costOf : MethodName := ⟨RX8, "costOf", "(II)J"⟩
abbrev cX8_costOfRest : ByteArray := prog_10_method_7_code
def yX8_costOfRest : MethodName := ⟨RX8, "costOfRest", "(II)J"⟩
abbrev cX8_addBidder : ByteArray := prog_10_method_8_code
def yX8_addBidder : MethodName := ⟨RX8, "addBidder", "()V"⟩
abbrev cX8_keep : ByteArray := prog_10_method_9_code
def yX8_keep : MethodName := ⟨RX8, "keep", "(JI)V"⟩
def RX9 : String := "BidsJudged"
def TX9 : u_T := fun k => match k with
  | 0 => ("BidsJudged", "book", "LBidsJudged$Book;", true)
  | 1 => ("BidsJudged", "notes", "LBidsJudged$Notes;", true)
  | 2 => ("BidsJudged", "text", "LBidsJudged$Formula;", true)
  | 3 => ("BidsJudged", "table", "LBidsJudged$Table;", true)
  | 4 => ("BidsJudged", "best", "LBidsJudged$Whole;", true)
  | 5 => ("BidsJudged", "told", "LBidsJudged$Award;", true)
  | 6 => ("BidsJudged", "row", "LBidsJudged$Framework;", true)
  | _ => ("BidsJudged", "refusals", "[I", true)
def tyX9 : Nat → FieldType := fun k => match k with
  | 0 => .object "BidsJudged$Book"
  | 1 => .object "BidsJudged$Notes"
  | 2 => .object "BidsJudged$Formula"
  | 3 => .object "BidsJudged$Table"
  | 4 => .object "BidsJudged$Whole"
  | 5 => .object "BidsJudged$Award"
  | 6 => .object "BidsJudged$Framework"
  | _ => .array .int
abbrev wsX90 : List Cond := u_ws RX9 TX9 8
theorem nmX9 : ∀ a, a < 8 → ∀ b, b < 8 → a ≠ b → (TX9 a).2.1 ≠ (TX9 b).2.1 := by decide +kernel
theorem tyX9_ok : ∀ k, k < 8 → parseFieldDescriptor (TX9 k).2.2.1 = some (tyX9 k) := by decide +kernel
abbrev cX9_init : ByteArray := prog_1_method_1_code
def yX9_init : MethodName := ⟨RX9, "<init>", "()V"⟩
abbrev cX9_time : ByteArray := prog_1_method_2_code
def yX9_time : MethodName := ⟨RX9, "time", "(I)I"⟩
abbrev cX9_rate : ByteArray := prog_1_method_3_code
def yX9_rate : MethodName := ⟨RX9, "rate", "(II)I"⟩
abbrev cX9_lots : ByteArray := prog_1_method_4_code
def yX9_lots : MethodName := ⟨RX9, "lots", "(I)I"⟩
abbrev cX9_closing : ByteArray := prog_1_method_5_code
def yX9_closing : MethodName := ⟨RX9, "closing", "(I)I"⟩
abbrev cX9_bid : ByteArray := prog_1_method_6_code
def yX9_bid : MethodName := ⟨RX9, "bid", "(IIIIIIIII)I"⟩
abbrev cX9_withdraw : ByteArray := prog_1_method_7_code
def yX9_withdraw : MethodName := ⟨RX9, "withdraw", "(II)I"⟩
abbrev cX9_set : ByteArray := prog_1_method_8_code
def yX9_set : MethodName := ⟨RX9, "set", "(II)I"⟩
abbrev cX9_price : ByteArray := prog_1_method_9_code
def yX9_price : MethodName := ⟨RX9, "price", "(II)I"⟩
abbrev cX9_note : ByteArray := prog_1_method_10_code
def yX9_note : MethodName := ⟨RX9, "note", "(IIII)I"⟩
abbrev cX9_bar : ByteArray := prog_1_method_11_code
def yX9_bar : MethodName := ⟨RX9, "bar", "(IIZ)I"⟩
abbrev cX9_quality : ByteArray := prog_1_method_12_code
def yX9_quality : MethodName := ⟨RX9, "quality", "(III)I"⟩
abbrev cX9_feed : ByteArray := prog_1_method_13_code
def yX9_feed : MethodName := ⟨RX9, "feed", "(IJ)I"⟩
abbrev cX9_formula : ByteArray := prog_1_method_14_code
def yX9_formula : MethodName := ⟨RX9, "formula", "()I"⟩
abbrev cX9_points : ByteArray := prog_1_method_15_code
def yX9_points : MethodName := ⟨RX9, "points", "(III)J"⟩
abbrev cX9_order : ByteArray := prog_1_method_16_code
def yX9_order : MethodName := ⟨RX9, "order", "(II)I"⟩
abbrev cX9_gain : ByteArray := prog_1_method_17_code
def yX9_gain : MethodName := ⟨RX9, "gain", "(IIII)J"⟩
abbrev cX9_turned : ByteArray := prog_1_method_18_code
def yX9_turned : MethodName := ⟨RX9, "turned", "(III)I"⟩
abbrev cX9_low : ByteArray := prog_1_method_19_code
def yX9_low : MethodName := ⟨RX9, "low", "(II)I"⟩
abbrev cX9_ask : ByteArray := prog_1_method_20_code
def yX9_ask : MethodName := ⟨RX9, "ask", "(III)I"⟩
abbrev cX9_answer : ByteArray := prog_1_method_21_code
def yX9_answer : MethodName := ⟨RX9, "answer", "(II)I"⟩
abbrev cX9_out : ByteArray := prog_1_method_22_code
def yX9_out : MethodName := ⟨RX9, "out", "(IIZ)I"⟩
abbrev cX9_most : ByteArray := prog_1_method_23_code
def yX9_most : MethodName := ⟨RX9, "most", "(II)I"⟩
abbrev cX9_rebate : ByteArray := prog_1_method_24_code
def yX9_rebate : MethodName := ⟨RX9, "rebate", "(III)I"⟩
abbrev cX9_whole : ByteArray := prog_1_method_25_code
def yX9_whole : MethodName := ⟨RX9, "whole", "(I)I"⟩
abbrev cX9_winner : ByteArray := prog_1_method_26_code
def yX9_winner : MethodName := ⟨RX9, "winner", "(I)I"⟩
abbrev cX9_award : ByteArray := prog_1_method_27_code
def yX9_award : MethodName := ⟨RX9, "award", "(I)I"⟩
abbrev cX9_awarded : ByteArray := prog_1_method_28_code
def yX9_awarded : MethodName := ⟨RX9, "awarded", "(I)I"⟩
abbrev cX9_challenge : ByteArray := prog_1_method_29_code
def yX9_challenge : MethodName := ⟨RX9, "challenge", "(II)I"⟩
abbrev cX9_judge : ByteArray := prog_1_method_30_code
def yX9_judge : MethodName := ⟨RX9, "judge", "(IZ)I"⟩
abbrev cX9_sign : ByteArray := prog_1_method_31_code
def yX9_sign : MethodName := ⟨RX9, "sign", "()I"⟩
abbrev cX9_change : ByteArray := prog_1_method_32_code
def yX9_change : MethodName := ⟨RX9, "change", "(II)I"⟩
abbrev cX9_likeness : ByteArray := prog_1_method_33_code
def yX9_likeness : MethodName := ⟨RX9, "likeness", "(III)J"⟩
abbrev cX9_chance : ByteArray := prog_1_method_34_code
def yX9_chance : MethodName := ⟨RX9, "chance", "(III)I"⟩
abbrev cX9_ring : ByteArray := prog_1_method_35_code
def yX9_ring : MethodName := ⟨RX9, "ring", "(II)I"⟩
abbrev cX9_join : ByteArray := prog_1_method_36_code
def yX9_join : MethodName := ⟨RX9, "join", "(II)I"⟩
abbrev cX9_call : ByteArray := prog_1_method_37_code
def yX9_call : MethodName := ⟨RX9, "call", "(I)I"⟩
abbrev cX9_decline : ByteArray := prog_1_method_38_code
def yX9_decline : MethodName := ⟨RX9, "decline", "()I"⟩
abbrev cX9_room : ByteArray := prog_1_method_39_code
def yX9_room : MethodName := ⟨RX9, "room", "(I)I"⟩
abbrev cX9_count : ByteArray := prog_1_method_40_code
def yX9_count : MethodName := ⟨RX9, "count", "(I)I"⟩
abbrev cX9_refuse : ByteArray := prog_1_method_41_code
def yX9_refuse : MethodName := ⟨RX9, "refuse", "(I)I"⟩
abbrev cX9_refuseLong : ByteArray := prog_1_method_42_code
def yX9_refuseLong : MethodName := ⟨RX9, "refuseLong", "(I)J"⟩
abbrev cX9_inRange : ByteArray := prog_1_method_43_code
def yX9_inRange : MethodName := ⟨RX9, "inRange", "(III)I"⟩
abbrev cX9_cell : ByteArray := prog_1_method_44_code
def yX9_cell : MethodName := ⟨RX9, "cell", "(II)I"⟩
abbrev cX9_noBidder : ByteArray := prog_1_method_45_code
def yX9_noBidder : MethodName := ⟨RX9, "noBidder", "(I)Z"⟩
abbrev cX9_noScorer : ByteArray := prog_1_method_46_code
def yX9_noScorer : MethodName := ⟨RX9, "noScorer", "(I)Z"⟩
abbrev cX9_noPart : ByteArray := prog_1_method_47_code
def yX9_noPart : MethodName := ⟨RX9, "noPart", "(I)Z"⟩
abbrev cX9_noLot : ByteArray := prog_1_method_48_code
def yX9_noLot : MethodName := ⟨RX9, "noLot", "(I)Z"⟩
abbrev cX9_noBid : ByteArray := prog_1_method_49_code
def yX9_noBid : MethodName := ⟨RX9, "noBid", "(II)Z"⟩
abbrev cX9_noPair : ByteArray := prog_1_method_50_code
def yX9_noPair : MethodName := ⟨RX9, "noPair", "(III)Z"⟩
abbrev cX9_workPair : ByteArray := prog_1_method_51_code
def yX9_workPair : MethodName := ⟨RX9, "workPair", "(IIII)V"⟩
abbrev cX9_findBest : ByteArray := prog_1_method_52_code
def yX9_findBest : MethodName := ⟨RX9, "findBest", "()V"⟩
abbrev cX9_makeAnew : ByteArray := prog_1_method_53_code
def yX9_makeAnew : MethodName := ⟨RX9, "makeAnew", "(II)V"⟩
def RX10 : String := "BidsJudgedModel"
def TX10 : u_T := fun k => match k with
  | 0 => ("BidsJudgedModel", "now", "I", false)
  | 1 => ("BidsJudgedModel", "closes", "I", false)
  | 2 => ("BidsJudgedModel", "rate", "[I", true)
  | 3 => ("BidsJudgedModel", "lots", "I", false)
  | 4 => ("BidsJudgedModel", "isThere", "[Z", true)
  | 5 => ("BidsJudgedModel", "money", "[I", true)
  | 6 => ("BidsJudgedModel", "items", "[I", true)
  | 7 => ("BidsJudgedModel", "sums", "[I", true)
  | 8 => ("BidsJudgedModel", "option", "[I", true)
  | 9 => ("BidsJudgedModel", "isOut", "[Z", true)
  | 10 => ("BidsJudgedModel", "askedTill", "[I", true)
  | 11 => ("BidsJudgedModel", "settings", "[I", true)
  | 12 => ("BidsJudgedModel", "notes", "[I", true)
  | 13 => ("BidsJudgedModel", "isBarred", "[Z", true)
  | 14 => ("BidsJudgedModel", "late", "I", false)
  | 15 => ("BidsJudgedModel", "refused", "[I", true)
  | 16 => ("BidsJudgedModel", "noteSum", "I", false)
  | 17 => ("BidsJudgedModel", "noteMany", "I", false)
  | 18 => ("BidsJudgedModel", "tape", "[I", true)
  | 19 => ("BidsJudgedModel", "tapeMany", "I", false)
  | 20 => ("BidsJudgedModel", "text", "[I", true)
  | 21 => ("BidsJudgedModel", "textMany", "I", false)
  | 22 => ("BidsJudgedModel", "nameTop", "[J", true)
  | 23 => ("BidsJudgedModel", "nameBelow", "[J", true)
  | 24 => ("BidsJudgedModel", "tops", "[J", true)
  | 25 => ("BidsJudgedModel", "belows", "[J", true)
  | 26 => ("BidsJudgedModel", "held", "I", false)
  | 27 => ("BidsJudgedModel", "signs", "[I", true)
  | 28 => ("BidsJudgedModel", "signMany", "I", false)
  | 29 => ("BidsJudgedModel", "deep", "I", false)
  | 30 => ("BidsJudgedModel", "at", "I", false)
  | 31 => ("BidsJudgedModel", "isBad", "Z", false)
  | 32 => ("BidsJudgedModel", "isBroken", "Z", false)
  | 33 => ("BidsJudgedModel", "units", "I", false)
  | 34 => ("BidsJudgedModel", "pointTop", "J", false)
  | 35 => ("BidsJudgedModel", "pointBelow", "J", false)
  | 36 => ("BidsJudgedModel", "row", "[I", true)
  | 37 => ("BidsJudgedModel", "rowMany", "I", false)
  | 38 => ("BidsJudgedModel", "most", "[I", true)
  | 39 => ("BidsJudgedModel", "rebates", "[I", true)
  | 40 => ("BidsJudgedModel", "isFound", "Z", false)
  | 41 => ("BidsJudgedModel", "given", "[I", true)
  | 42 => ("BidsJudgedModel", "givenMany", "I", false)
  | 43 => ("BidsJudgedModel", "givenValue", "I", false)
  | 44 => ("BidsJudgedModel", "orderOf", "[I", true)
  | 45 => ("BidsJudgedModel", "orderMany", "[I", true)
  | 46 => ("BidsJudgedModel", "pick", "[I", true)
  | 47 => ("BidsJudgedModel", "won", "[I", true)
  | 48 => ("BidsJudgedModel", "spent", "[I", true)
  | 49 => ("BidsJudgedModel", "bestPlaces", "I", false)
  | 50 => ("BidsJudgedModel", "bestMany", "I", false)
  | 51 => ("BidsJudgedModel", "bestValue", "I", false)
  | 52 => ("BidsJudgedModel", "isAwarded", "Z", false)
  | 53 => ("BidsJudgedModel", "isSigned", "Z", false)
  | 54 => ("BidsJudgedModel", "standsTill", "I", false)
  | 55 => ("BidsJudgedModel", "awardedTo", "[I", true)
  | 56 => ("BidsJudgedModel", "awardedPrice", "[I", true)
  | 57 => ("BidsJudgedModel", "changed", "[I", true)
  | 58 => ("BidsJudgedModel", "challenges", "I", false)
  | 59 => ("BidsJudgedModel", "challengeLot", "[I", true)
  | 60 => ("BidsJudgedModel", "challengeStage", "[I", true)
  | 61 => ("BidsJudgedModel", "doesHold", "[Z", true)
  | 62 => ("BidsJudgedModel", "place", "[I", true)
  | 63 => ("BidsJudgedModel", "ringOf", "[I", true)
  | 64 => ("BidsJudgedModel", "members", "I", false)
  | 65 => ("BidsJudgedModel", "member", "[I", true)
  | 66 => ("BidsJudgedModel", "rooms", "[I", true)
  | 67 => ("BidsJudgedModel", "latest", "I", false)
  | 68 => ("BidsJudgedModel", "callTo", "I", false)
  | 69 => ("BidsJudgedModel", "callFirst", "I", false)
  | _ => ("BidsJudgedModel", "callSum", "I", false)
def tyX10 : Nat → FieldType := fun k => match k with
  | 0 => .int
  | 1 => .int
  | 2 => .array .int
  | 3 => .int
  | 4 => .array .boolean
  | 5 => .array .int
  | 6 => .array .int
  | 7 => .array .int
  | 8 => .array .int
  | 9 => .array .boolean
  | 10 => .array .int
  | 11 => .array .int
  | 12 => .array .int
  | 13 => .array .boolean
  | 14 => .int
  | 15 => .array .int
  | 16 => .int
  | 17 => .int
  | 18 => .array .int
  | 19 => .int
  | 20 => .array .int
  | 21 => .int
  | 22 => .array .long
  | 23 => .array .long
  | 24 => .array .long
  | 25 => .array .long
  | 26 => .int
  | 27 => .array .int
  | 28 => .int
  | 29 => .int
  | 30 => .int
  | 31 => .boolean
  | 32 => .boolean
  | 33 => .int
  | 34 => .long
  | 35 => .long
  | 36 => .array .int
  | 37 => .int
  | 38 => .array .int
  | 39 => .array .int
  | 40 => .boolean
  | 41 => .array .int
  | 42 => .int
  | 43 => .int
  | 44 => .array .int
  | 45 => .array .int
  | 46 => .array .int
  | 47 => .array .int
  | 48 => .array .int
  | 49 => .int
  | 50 => .int
  | 51 => .int
  | 52 => .boolean
  | 53 => .boolean
  | 54 => .int
  | 55 => .array .int
  | 56 => .array .int
  | 57 => .array .int
  | 58 => .int
  | 59 => .array .int
  | 60 => .array .int
  | 61 => .array .boolean
  | 62 => .array .int
  | 63 => .array .int
  | 64 => .int
  | 65 => .array .int
  | 66 => .array .int
  | 67 => .int
  | 68 => .int
  | 69 => .int
  | _ => .int
abbrev wsX100 : List Cond := u_ws RX10 TX10 71
theorem nmX10 : ∀ a, a < 71 → ∀ b, b < 71 → a ≠ b → (TX10 a).2.1 ≠ (TX10 b).2.1 := by decide +kernel
theorem tyX10_ok : ∀ k, k < 71 → parseFieldDescriptor (TX10 k).2.2.1 = some (tyX10 k) := by decide +kernel
abbrev cX10_init : ByteArray := prog_12_method_1_code
def yX10_init : MethodName := ⟨RX10, "<init>", "()V"⟩
abbrev cX10_in : ByteArray := prog_12_method_3_code
def yX10_in : MethodName := ⟨RX10, "in", "(III)Z"⟩
abbrev cX10_refuse : ByteArray := prog_12_method_4_code
def yX10_refuse : MethodName := ⟨RX10, "refuse", "(I)I"⟩
abbrev cX10_refuseFar : ByteArray := prog_12_method_5_code
def yX10_refuseFar : MethodName := ⟨RX10, "refuseFar", "(I)J"⟩
abbrev cX10_isBidder : ByteArray := prog_12_method_6_code
def yX10_isBidder : MethodName := ⟨RX10, "isBidder", "(I)Z"⟩
abbrev cX10_isLot : ByteArray := prog_12_method_7_code
def yX10_isLot : MethodName := ⟨RX10, "isLot", "(I)Z"⟩
abbrev cX10_isOpen : ByteArray := prog_12_method_8_code
def yX10_isOpen : MethodName := ⟨RX10, "isOpen", "()Z"⟩
abbrev cX10_time : ByteArray := prog_12_method_9_code
def yX10_time : MethodName := ⟨RX10, "time", "(I)I"⟩
abbrev cX10_rate : ByteArray := prog_12_method_10_code
def yX10_rate : MethodName := ⟨RX10, "rate", "(II)I"⟩
abbrev cX10_lots : ByteArray := prog_12_method_11_code
def yX10_lots : MethodName := ⟨RX10, "lots", "(I)I"⟩
abbrev cX10_closing : ByteArray := prog_12_method_12_code
def yX10_closing : MethodName := ⟨RX10, "closing", "(I)I"⟩
abbrev cX10_wrongBid : ByteArray := prog_12_method_13_code
def yX10_wrongBid : MethodName := ⟨RX10, "wrongBid", "(IIIIIII)I"⟩
abbrev cX10_bid : ByteArray := prog_12_method_14_code
def yX10_bid : MethodName := ⟨RX10, "bid", "(IIIIIIIII)I"⟩
abbrev cX10_lacks : ByteArray := prog_12_method_15_code
def yX10_lacks : MethodName := ⟨RX10, "lacks", "(II)I"⟩
abbrev cX10_withdraw : ByteArray := prog_12_method_16_code
def yX10_withdraw : MethodName := ⟨RX10, "withdraw", "(II)I"⟩
abbrev cX10_set : ByteArray := prog_12_method_17_code
def yX10_set : MethodName := ⟨RX10, "set", "(II)I"⟩
abbrev cX10_itemsOf : ByteArray := prog_12_method_18_code
def yX10_itemsOf : MethodName := ⟨RX10, "itemsOf", "(I)I"⟩
abbrev cX10_priceOf : ByteArray := prog_12_method_19_code
def yX10_priceOf : MethodName := ⟨RX10, "priceOf", "(I)I"⟩
abbrev cX10_price : ByteArray := prog_12_method_20_code
def yX10_price : MethodName := ⟨RX10, "price", "(II)I"⟩
abbrev cX10_isSilent : ByteArray := prog_12_method_21_code
def yX10_isSilent : MethodName := ⟨RX10, "isSilent", "(I)Z"⟩
abbrev cX10_doesStand : ByteArray := prog_12_method_22_code
def yX10_doesStand : MethodName := ⟨RX10, "doesStand", "(I)Z"⟩
abbrev cX10_fails : ByteArray := prog_12_method_23_code
def yX10_fails : MethodName := ⟨RX10, "fails", "(II)I"⟩
abbrev cX10_isScorer : ByteArray := prog_12_method_24_code
def yX10_isScorer : MethodName := ⟨RX10, "isScorer", "(I)Z"⟩
abbrev cX10_note : ByteArray := prog_12_method_25_code
def yX10_note : MethodName := ⟨RX10, "note", "(IIII)I"⟩
abbrev cX10_bar : ByteArray := prog_12_method_26_code
def yX10_bar : MethodName := ⟨RX10, "bar", "(IIZ)I"⟩
abbrev cX10_isAside : ByteArray := prog_12_method_27_code
def yX10_isAside : MethodName := ⟨RX10, "isAside", "(III)Z"⟩
abbrev cX10_findQuality : ByteArray := prog_12_method_28_code
def yX10_findQuality : MethodName := ⟨RX10, "findQuality", "(II)V"⟩
abbrev cX10_divisor : ByteArray := prog_12_method_29_code
def yX10_divisor : MethodName := ⟨RX10, "divisor", "(JJ)J"⟩
abbrev cX10_quality : ByteArray := prog_12_method_30_code
def yX10_quality : MethodName := ⟨RX10, "quality", "(III)I"⟩
abbrev cX10_feed : ByteArray := prog_12_method_31_code
def yX10_feed : MethodName := ⟨RX10, "feed", "(IJ)I"⟩
abbrev cX10_nameOf : ByteArray := prog_12_method_32_code
def yX10_nameOf : MethodName := ⟨RX10, "nameOf", "(I)I"⟩
abbrev cX10_work : ByteArray := prog_12_method_33_code
def yX10_work : MethodName := ⟨RX10, "work", "(I)V"⟩
abbrev cX10_topSign : ByteArray := prog_12_method_34_code
def yX10_topSign : MethodName := ⟨RX10, "topSign", "()I"⟩
abbrev cX10_settle : ByteArray := prog_12_method_35_code
def yX10_settle : MethodName := ⟨RX10, "settle", "(Z)V"⟩
abbrev cX10_byteAt : ByteArray := prog_12_method_36_code
def yX10_byteAt : MethodName := ⟨RX10, "byteAt", "([III)I"⟩
abbrev cX10_push : ByteArray := prog_12_method_37_code
def yX10_push : MethodName := ⟨RX10, "push", "(JJ)V"⟩
abbrev cX10_open : ByteArray := prog_12_method_38_code
def yX10_open : MethodName := ⟨RX10, "open", "(I)V"⟩
abbrev cX10_isDigit : ByteArray := prog_12_method_39_code
def yX10_isDigit : MethodName := ⟨RX10, "isDigit", "(I)Z"⟩
abbrev cX10_readUnit : ByteArray := prog_12_method_40_code
def yX10_readUnit : MethodName := ⟨RX10, "readUnit", "([II)Z"⟩
abbrev cX10_readSign : ByteArray := prog_12_method_41_code
def yX10_readSign : MethodName := ⟨RX10, "readSign", "(I)Z"⟩
abbrev cX10_workText : ByteArray := prog_12_method_42_code
def yX10_workText : MethodName := ⟨RX10, "workText", "([II)V"⟩
abbrev cX10_formula : ByteArray := prog_12_method_43_code
def yX10_formula : MethodName := ⟨RX10, "formula", "()I"⟩
abbrev cX10_findNames : ByteArray := prog_12_method_44_code
def yX10_findNames : MethodName := ⟨RX10, "findNames", "(III)V"⟩
abbrev cX10_findPoints : ByteArray := prog_12_method_45_code
def yX10_findPoints : MethodName := ⟨RX10, "findPoints", "(III)Z"⟩
abbrev cX10_points : ByteArray := prog_12_method_46_code
def yX10_points : MethodName := ⟨RX10, "points", "(III)J"⟩
abbrev cX10_isAhead : ByteArray := prog_12_method_47_code
def yX10_isAhead : MethodName := ⟨RX10, "isAhead", "(III)Z"⟩
abbrev cX10_findOrder : ByteArray := prog_12_method_48_code
def yX10_findOrder : MethodName := ⟨RX10, "findOrder", "(I)V"⟩
abbrev cX10_order : ByteArray := prog_12_method_49_code
def yX10_order : MethodName := ⟨RX10, "order", "(II)I"⟩
abbrev cX10_gain : ByteArray := prog_12_method_50_code
def yX10_gain : MethodName := ⟨RX10, "gain", "(IIII)J"⟩
abbrev cX10_turned : ByteArray := prog_12_method_51_code
def yX10_turned : MethodName := ⟨RX10, "turned", "(III)I"⟩
abbrev cX10_isLow : ByteArray := prog_12_method_52_code
def yX10_isLow : MethodName := ⟨RX10, "isLow", "(I)Z"⟩
abbrev cX10_low : ByteArray := prog_12_method_53_code
def yX10_low : MethodName := ⟨RX10, "low", "(II)I"⟩
abbrev cX10_ask : ByteArray := prog_12_method_54_code
def yX10_ask : MethodName := ⟨RX10, "ask", "(III)I"⟩
abbrev cX10_answer : ByteArray := prog_12_method_55_code
def yX10_answer : MethodName := ⟨RX10, "answer", "(II)I"⟩
abbrev cX10_out : ByteArray := prog_12_method_56_code
def yX10_out : MethodName := ⟨RX10, "out", "(IIZ)I"⟩
abbrev cX10_most : ByteArray := prog_12_method_57_code
def yX10_most : MethodName := ⟨RX10, "most", "(II)I"⟩
abbrev cX10_rebate : ByteArray := prog_12_method_58_code
def yX10_rebate : MethodName := ⟨RX10, "rebate", "(III)I"⟩
abbrev cX10_valueOf : ByteArray := prog_12_method_59_code
def yX10_valueOf : MethodName := ⟨RX10, "valueOf", "(I)I"⟩
abbrev cX10_tryPicks : ByteArray := prog_12_method_60_code
def yX10_tryPicks : MethodName := ⟨RX10, "tryPicks", "()V"⟩
abbrev cX10_isFirst : ByteArray := prog_12_method_61_code
def yX10_isFirst : MethodName := ⟨RX10, "isFirst", "()Z"⟩
abbrev cX10_findWhole : ByteArray := prog_12_method_62_code
def yX10_findWhole : MethodName := ⟨RX10, "findWhole", "()V"⟩
abbrev cX10_whole : ByteArray := prog_12_method_63_code
def yX10_whole : MethodName := ⟨RX10, "whole", "(I)I"⟩
abbrev cX10_winner : ByteArray := prog_12_method_64_code
def yX10_winner : MethodName := ⟨RX10, "winner", "(I)I"⟩
abbrev cX10_award : ByteArray := prog_12_method_65_code
def yX10_award : MethodName := ⟨RX10, "award", "(I)I"⟩
abbrev cX10_awarded : ByteArray := prog_12_method_66_code
def yX10_awarded : MethodName := ⟨RX10, "awarded", "(I)I"⟩
abbrev cX10_challenge : ByteArray := prog_12_method_67_code
def yX10_challenge : MethodName := ⟨RX10, "challenge", "(II)I"⟩
abbrev cX10_undo : ByteArray := prog_12_method_68_code
def yX10_undo : MethodName := ⟨RX10, "undo", "(II)V"⟩
abbrev cX10_judge : ByteArray := prog_12_method_69_code
def yX10_judge : MethodName := ⟨RX10, "judge", "(IZ)I"⟩
abbrev cX10_holding : ByteArray := prog_12_method_70_code
def yX10_holding : MethodName := ⟨RX10, "holding", "()I"⟩
abbrev cX10_sign : ByteArray := prog_12_method_71_code
def yX10_sign : MethodName := ⟨RX10, "sign", "()I"⟩
abbrev cX10_change : ByteArray := prog_12_method_72_code
def yX10_change : MethodName := ⟨RX10, "change", "(II)I"⟩
abbrev cX10_apart : ByteArray := prog_12_method_73_code
def yX10_apart : MethodName := ⟨RX10, "apart", "(JJ)J"⟩
abbrev cX10_likenessBy : ByteArray := prog_12_method_74_code
def yX10_likenessBy : MethodName := ⟨RX10, "likenessBy", "(III)J"⟩
abbrev cX10_chanceOf : ByteArray := prog_12_method_75_code
def yX10_chanceOf : MethodName := ⟨RX10, "chanceOf", "(II)I"⟩
abbrev cX10_wrongTwo : ByteArray := prog_12_method_76_code
def yX10_wrongTwo : MethodName := ⟨RX10, "wrongTwo", "(III)I"⟩
abbrev cX10_likeness : ByteArray := prog_12_method_77_code
def yX10_likeness : MethodName := ⟨RX10, "likeness", "(III)J"⟩
abbrev cX10_chance : ByteArray := prog_12_method_78_code
def yX10_chance : MethodName := ⟨RX10, "chance", "(III)I"⟩
abbrev cX10_areJoined : ByteArray := prog_12_method_79_code
def yX10_areJoined : MethodName := ⟨RX10, "areJoined", "(II)Z"⟩
abbrev cX10_ring : ByteArray := prog_12_method_80_code
def yX10_ring : MethodName := ⟨RX10, "ring", "(II)I"⟩
abbrev cX10_memberOf : ByteArray := prog_12_method_81_code
def yX10_memberOf : MethodName := ⟨RX10, "memberOf", "(I)I"⟩
abbrev cX10_join : ByteArray := prog_12_method_82_code
def yX10_join : MethodName := ⟨RX10, "join", "(II)I"⟩
abbrev cX10_call : ByteArray := prog_12_method_83_code
def yX10_call : MethodName := ⟨RX10, "call", "(I)I"⟩
abbrev cX10_decline : ByteArray := prog_12_method_84_code
def yX10_decline : MethodName := ⟨RX10, "decline", "()I"⟩
abbrev cX10_room : ByteArray := prog_12_method_85_code
def yX10_room : MethodName := ⟨RX10, "room", "(I)I"⟩
abbrev cX10_count : ByteArray := prog_12_method_86_code
def yX10_count : MethodName := ⟨RX10, "count", "(I)I"⟩
def RJ6 : String := "java/lang/Integer"
def TJ6 : u_T := fun k => match k with
  | _ => ("", "", "", false)
def tyJ6 : Nat → FieldType := fun k => match k with
  | _ => .int
abbrev wsJ60 : List Cond := u_ws RJ6 TJ6 0
theorem nmJ6 : ∀ a, a < 0 → ∀ b, b < 0 → a ≠ b → (TJ6 a).2.1 ≠ (TJ6 b).2.1 := by decide +kernel
theorem tyJ6_ok : ∀ k, k < 0 → parseFieldDescriptor (TJ6 k).2.2.1 = some (tyJ6 k) := by decide +kernel
abbrev cJ6_numberOfTrailingZeros_0f7a4 : ByteArray := prog_13_method_48_code
def yJ6_numberOfTrailingZeros_0f7a4 : MethodName := ⟨RJ6, "numberOfTrailingZeros", "(I)I"⟩
abbrev cJ6_bitCount_0f7a4 : ByteArray := prog_13_method_49_code
def yJ6_bitCount_0f7a4 : MethodName := ⟨RJ6, "bitCount", "(I)I"⟩
def RJ13 : String := "java/lang/Long"
def TJ13 : u_T := fun k => match k with
  | _ => ("", "", "", false)
def tyJ13 : Nat → FieldType := fun k => match k with
  | _ => .int
abbrev wsJ130 : List Cond := u_ws RJ13 TJ13 0
theorem nmJ13 : ∀ a, a < 0 → ∀ b, b < 0 → a ≠ b → (TJ13 a).2.1 ≠ (TJ13 b).2.1 := by decide +kernel
theorem tyJ13_ok : ∀ k, k < 0 → parseFieldDescriptor (TJ13 k).2.2.1 = some (tyJ13 k) := by decide +kernel
abbrev cJ13_compare_74951 : ByteArray := prog_14_method_42_code
def yJ13_compare_74951 : MethodName := ⟨RJ13, "compare", "(JJ)I"⟩
def RJ9 : String := "java/lang/Math"
def TJ9 : u_T := fun k => match k with
  | _ => ("", "", "", false)
def tyJ9 : Nat → FieldType := fun k => match k with
  | _ => .int
abbrev wsJ90 : List Cond := u_ws RJ9 TJ9 0
theorem nmJ9 : ∀ a, a < 0 → ∀ b, b < 0 → a ≠ b → (TJ9 a).2.1 ≠ (TJ9 b).2.1 := by decide +kernel
theorem tyJ9_ok : ∀ k, k < 0 → parseFieldDescriptor (TJ9 k).2.2.1 = some (tyJ9 k) := by decide +kernel
abbrev cJ9_abs_067f4 : ByteArray := prog_15_method_61_code
def yJ9_abs_067f4 : MethodName := ⟨RJ9, "abs", "(J)J"⟩
abbrev cJ9_max_7cf53 : ByteArray := prog_15_method_65_code
def yJ9_max_7cf53 : MethodName := ⟨RJ9, "max", "(II)I"⟩
abbrev cJ9_max_f86c9 : ByteArray := prog_15_method_66_code
def yJ9_max_f86c9 : MethodName := ⟨RJ9, "max", "(JJ)J"⟩
abbrev cJ9_min_7cf53 : ByteArray := prog_15_method_69_code
def yJ9_min_7cf53 : MethodName := ⟨RJ9, "min", "(II)I"⟩
abbrev cJ9_min_f86c9 : ByteArray := prog_15_method_70_code
def yJ9_min_f86c9 : MethodName := ⟨RJ9, "min", "(JJ)J"⟩
def RJ10 : String := "java/lang/System"
def TJ10 : u_T := fun k => match k with
  | _ => ("", "", "", false)
def tyJ10 : Nat → FieldType := fun k => match k with
  | _ => .int
abbrev wsJ100 : List Cond := u_ws RJ10 TJ10 0
theorem nmJ10 : ∀ a, a < 0 → ∀ b, b < 0 → a ≠ b → (TJ10 a).2.1 ≠ (TJ10 b).2.1 := by decide +kernel
theorem tyJ10_ok : ∀ k, k < 0 → parseFieldDescriptor (TJ10 k).2.2.1 = some (tyJ10 k) := by decide +kernel
def RJ7 : String := "java/util/Arrays"
def TJ7 : u_T := fun k => match k with
  | _ => ("", "", "", false)
def tyJ7 : Nat → FieldType := fun k => match k with
  | _ => .int
abbrev wsJ70 : List Cond := u_ws RJ7 TJ7 0
theorem nmJ7 : ∀ a, a < 0 → ∀ b, b < 0 → a ≠ b → (TJ7 a).2.1 ≠ (TJ7 b).2.1 := by decide +kernel
theorem tyJ7_ok : ∀ k, k < 0 → parseFieldDescriptor (TJ7 k).2.2.1 = some (tyJ7 k) := by decide +kernel
abbrev cJ7_fill_d0a16 : ByteArray := prog_17_method_101_code
def yJ7_fill_d0a16 : MethodName := ⟨RJ7, "fill", "([JJ)V"⟩
abbrev cJ7_fill_53178 : ByteArray := prog_17_method_103_code
def yJ7_fill_53178 : MethodName := ⟨RJ7, "fill", "([II)V"⟩
def RL : String := "BidsJudgedLaw"
abbrev cL_law : ByteArray := code
abbrev vwCl : List vw_C := [(RX0, TX0, 12), (RX1, TX1, 13), (RX2, TX2, 9), (RX3, TX3, 3), (RX4, TX4, 7), (RX5, TX5, 3), (RX7, TX7, 20), (RX8, TX8, 9), (RX9, TX9, 8), (RX10, TX10, 71)]
end
section
theorem dX0_init_0 : decode cX0_init 0 = .ok (.aload_n 0, 1) := by decide +kernel
theorem dX0_init_1 : decode cX0_init 1 = .ok (.invokespecial 3, 3) := by decide +kernel
theorem dX0_init_4 : decode cX0_init 4 = .ok (.aload_n 0, 1) := by decide +kernel
theorem dX0_init_5 : decode cX0_init 5 = .ok (.bipush 6, 2) := by decide +kernel
theorem dX0_init_7 : decode cX0_init 7 = .ok (.newarray .int, 2) := by decide +kernel
theorem dX0_init_9 : decode cX0_init 9 = .ok (.putfield 9, 3) := by decide +kernel
theorem dX0_init_12 : decode cX0_init 12 = .ok (.aload_n 0, 1) := by decide +kernel
theorem dX0_init_13 : decode cX0_init 13 = .ok (.bipush 20, 2) := by decide +kernel
theorem dX0_init_15 : decode cX0_init 15 = .ok (.newarray .int, 2) := by decide +kernel
theorem dX0_init_17 : decode cX0_init 17 = .ok (.putfield 15, 3) := by decide +kernel
theorem dX0_init_20 : decode cX0_init 20 = .ok (.aload_n 0, 1) := by decide +kernel
theorem dX0_init_21 : decode cX0_init 21 = .ok (.bipush 20, 2) := by decide +kernel
theorem dX0_init_23 : decode cX0_init 23 = .ok (.newarray .int, 2) := by decide +kernel
theorem dX0_init_25 : decode cX0_init 25 = .ok (.putfield 18, 3) := by decide +kernel
theorem dX0_init_28 : decode cX0_init 28 = .ok (.aload_n 0, 1) := by decide +kernel
theorem dX0_init_29 : decode cX0_init 29 = .ok (.bipush 20, 2) := by decide +kernel
theorem dX0_init_31 : decode cX0_init 31 = .ok (.newarray .boolean, 2) := by decide +kernel
theorem dX0_init_33 : decode cX0_init 33 = .ok (.putfield 21, 3) := by decide +kernel
theorem dX0_init_36 : decode cX0_init 36 = .ok (.aload_n 0, 1) := by decide +kernel
theorem dX0_init_37 : decode cX0_init 37 = .ok (.bipush 20, 2) := by decide +kernel
theorem dX0_init_39 : decode cX0_init 39 = .ok (.newarray .int, 2) := by decide +kernel
theorem dX0_init_41 : decode cX0_init 41 = .ok (.putfield 25, 3) := by decide +kernel
theorem dX0_init_44 : decode cX0_init 44 = .ok (.aload_n 0, 1) := by decide +kernel
theorem dX0_init_45 : decode cX0_init 45 = .ok (.bipush 6, 2) := by decide +kernel
theorem dX0_init_47 : decode cX0_init 47 = .ok (.newarray .int, 2) := by decide +kernel
theorem dX0_init_49 : decode cX0_init 49 = .ok (.putfield 28, 3) := by decide +kernel
theorem dX0_init_52 : decode cX0_init 52 = .ok (.aload_n 0, 1) := by decide +kernel
theorem dX0_init_53 : decode cX0_init 53 = .ok (.bipush 6, 2) := by decide +kernel
theorem dX0_init_55 : decode cX0_init 55 = .ok (.newarray .long, 2) := by decide +kernel
theorem dX0_init_57 : decode cX0_init 57 = .ok (.putfield 31, 3) := by decide +kernel
theorem dX0_init_60 : decode cX0_init 60 = .ok (.return_, 1) := by decide +kernel
theorem dX0_begin_0 : decode cX0_begin 0 = .ok (.aload_n 0, 1) := by decide +kernel
theorem dX0_begin_1 : decode cX0_begin 1 = .ok (.iconst 1, 1) := by decide +kernel
theorem dX0_begin_2 : decode cX0_begin 2 = .ok (.putfield 35, 3) := by decide +kernel
theorem dX0_begin_5 : decode cX0_begin 5 = .ok (.aload_n 0, 1) := by decide +kernel
theorem dX0_begin_6 : decode cX0_begin 6 = .ok (.iload_n 1, 1) := by decide +kernel
theorem dX0_begin_7 : decode cX0_begin 7 = .ok (.putfield 39, 3) := by decide +kernel
theorem dX0_begin_10 : decode cX0_begin 10 = .ok (.aload_n 0, 1) := by decide +kernel
theorem dX0_begin_11 : decode cX0_begin 11 = .ok (.dup, 1) := by decide +kernel
theorem dX0_begin_12 : decode cX0_begin 12 = .ok (.getfield 43, 3) := by decide +kernel
theorem dX0_begin_15 : decode cX0_begin 15 = .ok (.iconst 1, 1) := by decide +kernel
theorem dX0_begin_16 : decode cX0_begin 16 = .ok (.iadd, 1) := by decide +kernel
theorem dX0_begin_17 : decode cX0_begin 17 = .ok (.putfield 43, 3) := by decide +kernel
theorem dX0_begin_20 : decode cX0_begin 20 = .ok (.return_, 1) := by decide +kernel
theorem dX0_give_0 : decode cX0_give 0 = .ok (.aload_n 0, 1) := by decide +kernel
theorem dX0_give_1 : decode cX0_give 1 = .ok (.getfield 9, 3) := by decide +kernel
theorem dX0_give_4 : decode cX0_give 4 = .ok (.iload_n 1, 1) := by decide +kernel
theorem dX0_give_5 : decode cX0_give 5 = .ok (.iload_n 2, 1) := by decide +kernel
theorem dX0_give_6 : decode cX0_give 6 = .ok (.iastore, 1) := by decide +kernel
theorem dX0_give_7 : decode cX0_give 7 = .ok (.aload_n 0, 1) := by decide +kernel
theorem dX0_give_8 : decode cX0_give 8 = .ok (.getfield 28, 3) := by decide +kernel
theorem dX0_give_11 : decode cX0_give 11 = .ok (.iload_n 1, 1) := by decide +kernel
theorem dX0_give_12 : decode cX0_give 12 = .ok (.iload_n 3, 1) := by decide +kernel
theorem dX0_give_13 : decode cX0_give 13 = .ok (.iastore, 1) := by decide +kernel
theorem dX0_give_14 : decode cX0_give 14 = .ok (.return_, 1) := by decide +kernel
theorem dX0_isStandstillOver_0 : decode cX0_isStandstillOver 0 = .ok (.iload_n 1, 1) := by decide +kernel
theorem dX0_isStandstillOver_1 : decode cX0_isStandstillOver 1 = .ok (.aload_n 0, 1) := by decide +kernel
theorem dX0_isStandstillOver_2 : decode cX0_isStandstillOver 2 = .ok (.getfield 39, 3) := by decide +kernel
theorem dX0_isStandstillOver_5 : decode cX0_isStandstillOver 5 = .ok (.if_icmp .le 7, 3) := by decide +kernel
theorem dX0_isStandstillOver_8 : decode cX0_isStandstillOver 8 = .ok (.iconst 1, 1) := by decide +kernel
theorem dX0_isStandstillOver_9 : decode cX0_isStandstillOver 9 = .ok (.goto 4, 3) := by decide +kernel
theorem dX0_isStandstillOver_12 : decode cX0_isStandstillOver 12 = .ok (.iconst 0, 1) := by decide +kernel
theorem dX0_isStandstillOver_13 : decode cX0_isStandstillOver 13 = .ok (.ireturn, 1) := by decide +kernel
theorem dX0_addChallenge_0 : decode cX0_addChallenge 0 = .ok (.aload_n 0, 1) := by decide +kernel
theorem dX0_addChallenge_1 : decode cX0_addChallenge 1 = .ok (.getfield 46, 3) := by decide +kernel
theorem dX0_addChallenge_4 : decode cX0_addChallenge 4 = .ok (.istore_n 3, 1) := by decide +kernel
theorem dX0_addChallenge_5 : decode cX0_addChallenge 5 = .ok (.aload_n 0, 1) := by decide +kernel
theorem dX0_addChallenge_6 : decode cX0_addChallenge 6 = .ok (.getfield 15, 3) := by decide +kernel
theorem dX0_addChallenge_9 : decode cX0_addChallenge 9 = .ok (.iload_n 3, 1) := by decide +kernel
theorem dX0_addChallenge_10 : decode cX0_addChallenge 10 = .ok (.iload_n 1, 1) := by decide +kernel
theorem dX0_addChallenge_11 : decode cX0_addChallenge 11 = .ok (.iastore, 1) := by decide +kernel
theorem dX0_addChallenge_12 : decode cX0_addChallenge 12 = .ok (.aload_n 0, 1) := by decide +kernel
theorem dX0_addChallenge_13 : decode cX0_addChallenge 13 = .ok (.getfield 18, 3) := by decide +kernel
theorem dX0_addChallenge_16 : decode cX0_addChallenge 16 = .ok (.iload_n 3, 1) := by decide +kernel
theorem dX0_addChallenge_17 : decode cX0_addChallenge 17 = .ok (.iload_n 2, 1) := by decide +kernel
theorem dX0_addChallenge_18 : decode cX0_addChallenge 18 = .ok (.iastore, 1) := by decide +kernel
theorem dX0_addChallenge_19 : decode cX0_addChallenge 19 = .ok (.aload_n 0, 1) := by decide +kernel
theorem dX0_addChallenge_20 : decode cX0_addChallenge 20 = .ok (.getfield 25, 3) := by decide +kernel
theorem dX0_addChallenge_23 : decode cX0_addChallenge 23 = .ok (.iload_n 3, 1) := by decide +kernel
theorem dX0_addChallenge_24 : decode cX0_addChallenge 24 = .ok (.aload_n 0, 1) := by decide +kernel
theorem dX0_addChallenge_25 : decode cX0_addChallenge 25 = .ok (.getfield 43, 3) := by decide +kernel
theorem dX0_addChallenge_28 : decode cX0_addChallenge 28 = .ok (.iastore, 1) := by decide +kernel
theorem dX0_addChallenge_29 : decode cX0_addChallenge 29 = .ok (.aload_n 0, 1) := by decide +kernel
theorem dX0_addChallenge_30 : decode cX0_addChallenge 30 = .ok (.dup, 1) := by decide +kernel
theorem dX0_addChallenge_31 : decode cX0_addChallenge 31 = .ok (.getfield 46, 3) := by decide +kernel
theorem dX0_addChallenge_34 : decode cX0_addChallenge 34 = .ok (.iconst 1, 1) := by decide +kernel
theorem dX0_addChallenge_35 : decode cX0_addChallenge 35 = .ok (.iadd, 1) := by decide +kernel
theorem dX0_addChallenge_36 : decode cX0_addChallenge 36 = .ok (.putfield 46, 3) := by decide +kernel
theorem dX0_addChallenge_39 : decode cX0_addChallenge 39 = .ok (.iload_n 3, 1) := by decide +kernel
theorem dX0_addChallenge_40 : decode cX0_addChallenge 40 = .ok (.ireturn, 1) := by decide +kernel
theorem dX0_holds_0 : decode cX0_holds 0 = .ok (.aload_n 0, 1) := by decide +kernel
theorem dX0_holds_1 : decode cX0_holds 1 = .ok (.getfield 35, 3) := by decide +kernel
theorem dX0_holds_4 : decode cX0_holds 4 = .ok (.ifCond .eq 29, 3) := by decide +kernel
theorem dX0_holds_7 : decode cX0_holds 7 = .ok (.aload_n 0, 1) := by decide +kernel
theorem dX0_holds_8 : decode cX0_holds 8 = .ok (.getfield 21, 3) := by decide +kernel
theorem dX0_holds_11 : decode cX0_holds 11 = .ok (.iload_n 1, 1) := by decide +kernel
theorem dX0_holds_12 : decode cX0_holds 12 = .ok (.baload, 1) := by decide +kernel
theorem dX0_holds_13 : decode cX0_holds 13 = .ok (.ifCond .ne 20, 3) := by decide +kernel
theorem dX0_holds_16 : decode cX0_holds 16 = .ok (.aload_n 0, 1) := by decide +kernel
theorem dX0_holds_17 : decode cX0_holds 17 = .ok (.getfield 25, 3) := by decide +kernel
theorem dX0_holds_20 : decode cX0_holds 20 = .ok (.iload_n 1, 1) := by decide +kernel
theorem dX0_holds_21 : decode cX0_holds 21 = .ok (.iaload, 1) := by decide +kernel
theorem dX0_holds_22 : decode cX0_holds 22 = .ok (.aload_n 0, 1) := by decide +kernel
theorem dX0_holds_23 : decode cX0_holds 23 = .ok (.getfield 43, 3) := by decide +kernel
theorem dX0_holds_26 : decode cX0_holds 26 = .ok (.if_icmp .ne 7, 3) := by decide +kernel
theorem dX0_holds_29 : decode cX0_holds 29 = .ok (.iconst 1, 1) := by decide +kernel
theorem dX0_holds_30 : decode cX0_holds 30 = .ok (.goto 4, 3) := by decide +kernel
theorem dX0_holds_33 : decode cX0_holds 33 = .ok (.iconst 0, 1) := by decide +kernel
theorem dX0_holds_34 : decode cX0_holds 34 = .ok (.ireturn, 1) := by decide +kernel
theorem dX0_countHolding_0 : decode cX0_countHolding 0 = .ok (.iconst 0, 1) := by decide +kernel
theorem dX0_countHolding_1 : decode cX0_countHolding 1 = .ok (.istore_n 1, 1) := by decide +kernel
theorem dX0_countHolding_2 : decode cX0_countHolding 2 = .ok (.iconst 0, 1) := by decide +kernel
theorem dX0_countHolding_3 : decode cX0_countHolding 3 = .ok (.istore_n 2, 1) := by decide +kernel
theorem dX0_countHolding_4 : decode cX0_countHolding 4 = .ok (.iload_n 2, 1) := by decide +kernel
theorem dX0_countHolding_5 : decode cX0_countHolding 5 = .ok (.aload_n 0, 1) := by decide +kernel
theorem dX0_countHolding_6 : decode cX0_countHolding 6 = .ok (.getfield 46, 3) := by decide +kernel
theorem dX0_countHolding_9 : decode cX0_countHolding 9 = .ok (.if_icmp .ge 26, 3) := by decide +kernel
theorem dX0_countHolding_12 : decode cX0_countHolding 12 = .ok (.iload_n 2, 1) := by decide +kernel
theorem dX0_countHolding_13 : decode cX0_countHolding 13 = .ok (.bipush 20, 2) := by decide +kernel
theorem dX0_countHolding_15 : decode cX0_countHolding 15 = .ok (.if_icmp .ge 20, 3) := by decide +kernel
theorem dX0_countHolding_18 : decode cX0_countHolding 18 = .ok (.aload_n 0, 1) := by decide +kernel
theorem dX0_countHolding_19 : decode cX0_countHolding 19 = .ok (.iload_n 2, 1) := by decide +kernel
theorem dX0_countHolding_20 : decode cX0_countHolding 20 = .ok (.invokevirtual 49, 3) := by decide +kernel
theorem dX0_countHolding_23 : decode cX0_countHolding 23 = .ok (.ifCond .eq 6, 3) := by decide +kernel
theorem dX0_countHolding_26 : decode cX0_countHolding 26 = .ok (.iinc 1 1, 3) := by decide +kernel
theorem dX0_countHolding_29 : decode cX0_countHolding 29 = .ok (.iinc 2 1, 3) := by decide +kernel
theorem dX0_countHolding_32 : decode cX0_countHolding 32 = .ok (.goto (-28), 3) := by decide +kernel
theorem dX0_countHolding_35 : decode cX0_countHolding 35 = .ok (.iload_n 1, 1) := by decide +kernel
theorem dX0_countHolding_36 : decode cX0_countHolding 36 = .ok (.ireturn, 1) := by decide +kernel
theorem dX0_addChange_0 : decode cX0_addChange 0 = .ok (.aload_n 0, 1) := by decide +kernel
theorem dX0_addChange_1 : decode cX0_addChange 1 = .ok (.getfield 31, 3) := by decide +kernel
theorem dX0_addChange_4 : decode cX0_addChange 4 = .ok (.iload_n 1, 1) := by decide +kernel
theorem dX0_addChange_5 : decode cX0_addChange 5 = .ok (.laload, 1) := by decide +kernel
theorem dX0_addChange_6 : decode cX0_addChange 6 = .ok (.iload_n 2, 1) := by decide +kernel
theorem dX0_addChange_7 : decode cX0_addChange 7 = .ok (.i2l, 1) := by decide +kernel
theorem dX0_addChange_8 : decode cX0_addChange 8 = .ok (.ladd, 1) := by decide +kernel
theorem dX0_addChange_9 : decode cX0_addChange 9 = .ok (.lstore 4, 2) := by decide +kernel
theorem dX0_addChange_11 : decode cX0_addChange 11 = .ok (.lload 4, 2) := by decide +kernel
theorem dX0_addChange_13 : decode cX0_addChange 13 = .ok (.ldc2_w 53, 3) := by decide +kernel
theorem dX0_addChange_16 : decode cX0_addChange 16 = .ok (.lmul, 1) := by decide +kernel
theorem dX0_addChange_17 : decode cX0_addChange 17 = .ok (.iload_n 3, 1) := by decide +kernel
theorem dX0_addChange_18 : decode cX0_addChange 18 = .ok (.i2l, 1) := by decide +kernel
theorem dX0_addChange_19 : decode cX0_addChange 19 = .ok (.aload_n 0, 1) := by decide +kernel
theorem dX0_addChange_20 : decode cX0_addChange 20 = .ok (.getfield 28, 3) := by decide +kernel
theorem dX0_addChange_23 : decode cX0_addChange 23 = .ok (.iload_n 1, 1) := by decide +kernel
theorem dX0_addChange_24 : decode cX0_addChange 24 = .ok (.iaload, 1) := by decide +kernel
theorem dX0_addChange_25 : decode cX0_addChange 25 = .ok (.i2l, 1) := by decide +kernel
theorem dX0_addChange_26 : decode cX0_addChange 26 = .ok (.lmul, 1) := by decide +kernel
theorem dX0_addChange_27 : decode cX0_addChange 27 = .ok (.lcmp, 1) := by decide +kernel
theorem dX0_addChange_28 : decode cX0_addChange 28 = .ok (.ifCond .le 6, 3) := by decide +kernel
theorem dX0_addChange_31 : decode cX0_addChange 31 = .ok (.bipush (-9), 2) := by decide +kernel
theorem dX0_addChange_33 : decode cX0_addChange 33 = .ok (.ireturn, 1) := by decide +kernel
theorem dX0_addChange_34 : decode cX0_addChange 34 = .ok (.aload_n 0, 1) := by decide +kernel
theorem dX0_addChange_35 : decode cX0_addChange 35 = .ok (.getfield 31, 3) := by decide +kernel
theorem dX0_addChange_38 : decode cX0_addChange 38 = .ok (.iload_n 1, 1) := by decide +kernel
theorem dX0_addChange_39 : decode cX0_addChange 39 = .ok (.lload 4, 2) := by decide +kernel
theorem dX0_addChange_41 : decode cX0_addChange 41 = .ok (.lastore, 1) := by decide +kernel
theorem dX0_addChange_42 : decode cX0_addChange 42 = .ok (.lload 4, 2) := by decide +kernel
theorem dX0_addChange_44 : decode cX0_addChange 44 = .ok (.l2i, 1) := by decide +kernel
theorem dX0_addChange_45 : decode cX0_addChange 45 = .ok (.ireturn, 1) := by decide +kernel
theorem dX1_init_0 : decode cX1_init 0 = .ok (.aload_n 0, 1) := by decide +kernel
theorem dX1_init_1 : decode cX1_init 1 = .ok (.invokespecial 3, 3) := by decide +kernel
theorem dX1_init_4 : decode cX1_init 4 = .ok (.aload_n 0, 1) := by decide +kernel
theorem dX1_init_5 : decode cX1_init 5 = .ok (.iconst 4, 1) := by decide +kernel
theorem dX1_init_6 : decode cX1_init 6 = .ok (.newarray .int, 2) := by decide +kernel
theorem dX1_init_8 : decode cX1_init 8 = .ok (.dup, 1) := by decide +kernel
theorem dX1_init_9 : decode cX1_init 9 = .ok (.iconst 0, 1) := by decide +kernel
theorem dX1_init_10 : decode cX1_init 10 = .ok (.iconst 0, 1) := by decide +kernel
theorem dX1_init_11 : decode cX1_init 11 = .ok (.iastore, 1) := by decide +kernel
theorem dX1_init_12 : decode cX1_init 12 = .ok (.dup, 1) := by decide +kernel
theorem dX1_init_13 : decode cX1_init 13 = .ok (.iconst 1, 1) := by decide +kernel
theorem dX1_init_14 : decode cX1_init 14 = .ok (.iconst 0, 1) := by decide +kernel
theorem dX1_init_15 : decode cX1_init 15 = .ok (.iastore, 1) := by decide +kernel
theorem dX1_init_16 : decode cX1_init 16 = .ok (.dup, 1) := by decide +kernel
theorem dX1_init_17 : decode cX1_init 17 = .ok (.iconst 2, 1) := by decide +kernel
theorem dX1_init_18 : decode cX1_init 18 = .ok (.iconst 0, 1) := by decide +kernel
theorem dX1_init_19 : decode cX1_init 19 = .ok (.iastore, 1) := by decide +kernel
theorem dX1_init_20 : decode cX1_init 20 = .ok (.dup, 1) := by decide +kernel
theorem dX1_init_21 : decode cX1_init 21 = .ok (.iconst 3, 1) := by decide +kernel
theorem dX1_init_22 : decode cX1_init 22 = .ok (.bipush 50, 2) := by decide +kernel
theorem dX1_init_24 : decode cX1_init 24 = .ok (.iastore, 1) := by decide +kernel
theorem dX1_init_25 : decode cX1_init 25 = .ok (.putfield 9, 3) := by decide +kernel
theorem dX1_init_28 : decode cX1_init 28 = .ok (.aload_n 0, 1) := by decide +kernel
theorem dX1_init_29 : decode cX1_init 29 = .ok (.iconst 4, 1) := by decide +kernel
theorem dX1_init_30 : decode cX1_init 30 = .ok (.newarray .int, 2) := by decide +kernel
theorem dX1_init_32 : decode cX1_init 32 = .ok (.dup, 1) := by decide +kernel
theorem dX1_init_33 : decode cX1_init 33 = .ok (.iconst 0, 1) := by decide +kernel
theorem dX1_init_34 : decode cX1_init 34 = .ok (.sipush 1000, 3) := by decide +kernel
theorem dX1_init_37 : decode cX1_init 37 = .ok (.iastore, 1) := by decide +kernel
theorem dX1_init_38 : decode cX1_init 38 = .ok (.dup, 1) := by decide +kernel
theorem dX1_init_39 : decode cX1_init 39 = .ok (.iconst 1, 1) := by decide +kernel
theorem dX1_init_40 : decode cX1_init 40 = .ok (.sipush 1000, 3) := by decide +kernel
theorem dX1_init_43 : decode cX1_init 43 = .ok (.iastore, 1) := by decide +kernel
theorem dX1_init_44 : decode cX1_init 44 = .ok (.dup, 1) := by decide +kernel
theorem dX1_init_45 : decode cX1_init 45 = .ok (.iconst 2, 1) := by decide +kernel
theorem dX1_init_46 : decode cX1_init 46 = .ok (.sipush 1000, 3) := by decide +kernel
theorem dX1_init_49 : decode cX1_init 49 = .ok (.iastore, 1) := by decide +kernel
theorem dX1_init_50 : decode cX1_init 50 = .ok (.dup, 1) := by decide +kernel
theorem dX1_init_51 : decode cX1_init 51 = .ok (.iconst 3, 1) := by decide +kernel
theorem dX1_init_52 : decode cX1_init 52 = .ok (.sipush 1000, 3) := by decide +kernel
theorem dX1_init_55 : decode cX1_init 55 = .ok (.iastore, 1) := by decide +kernel
theorem dX1_init_56 : decode cX1_init 56 = .ok (.putfield 15, 3) := by decide +kernel
theorem dX1_init_59 : decode cX1_init 59 = .ok (.aload_n 0, 1) := by decide +kernel
theorem dX1_init_60 : decode cX1_init 60 = .ok (.bipush 48, 2) := by decide +kernel
theorem dX1_init_62 : decode cX1_init 62 = .ok (.newarray .boolean, 2) := by decide +kernel
theorem dX1_init_64 : decode cX1_init 64 = .ok (.putfield 18, 3) := by decide +kernel
theorem dX1_init_67 : decode cX1_init 67 = .ok (.aload_n 0, 1) := by decide +kernel
theorem dX1_init_68 : decode cX1_init 68 = .ok (.bipush 48, 2) := by decide +kernel
theorem dX1_init_70 : decode cX1_init 70 = .ok (.newarray .boolean, 2) := by decide +kernel
theorem dX1_init_72 : decode cX1_init 72 = .ok (.putfield 22, 3) := by decide +kernel
theorem dX1_init_75 : decode cX1_init 75 = .ok (.aload_n 0, 1) := by decide +kernel
theorem dX1_init_76 : decode cX1_init 76 = .ok (.bipush 48, 2) := by decide +kernel
theorem dX1_init_78 : decode cX1_init 78 = .ok (.newarray .int, 2) := by decide +kernel
theorem dX1_init_80 : decode cX1_init 80 = .ok (.putfield 25, 3) := by decide +kernel
theorem dX1_init_83 : decode cX1_init 83 = .ok (.aload_n 0, 1) := by decide +kernel
theorem dX1_init_84 : decode cX1_init 84 = .ok (.sipush 192, 3) := by decide +kernel
theorem dX1_init_87 : decode cX1_init 87 = .ok (.newarray .int, 2) := by decide +kernel
theorem dX1_init_89 : decode cX1_init 89 = .ok (.putfield 28, 3) := by decide +kernel
theorem dX1_init_92 : decode cX1_init 92 = .ok (.aload_n 0, 1) := by decide +kernel
theorem dX1_init_93 : decode cX1_init 93 = .ok (.bipush 48, 2) := by decide +kernel
theorem dX1_init_95 : decode cX1_init 95 = .ok (.newarray .int, 2) := by decide +kernel
theorem dX1_init_97 : decode cX1_init 97 = .ok (.putfield 31, 3) := by decide +kernel
theorem dX1_init_100 : decode cX1_init 100 = .ok (.aload_n 0, 1) := by decide +kernel
theorem dX1_init_101 : decode cX1_init 101 = .ok (.bipush 48, 2) := by decide +kernel
theorem dX1_init_103 : decode cX1_init 103 = .ok (.newarray .int, 2) := by decide +kernel
theorem dX1_init_105 : decode cX1_init 105 = .ok (.putfield 34, 3) := by decide +kernel
theorem dX1_init_108 : decode cX1_init 108 = .ok (.aload_n 0, 1) := by decide +kernel
theorem dX1_init_109 : decode cX1_init 109 = .ok (.bipush 48, 2) := by decide +kernel
theorem dX1_init_111 : decode cX1_init 111 = .ok (.newarray .int, 2) := by decide +kernel
theorem dX1_init_113 : decode cX1_init 113 = .ok (.putfield 37, 3) := by decide +kernel
theorem dX1_init_116 : decode cX1_init 116 = .ok (.aload_n 0, 1) := by decide +kernel
theorem dX1_init_117 : decode cX1_init 117 = .ok (.iconst (-1), 1) := by decide +kernel
theorem dX1_init_118 : decode cX1_init 118 = .ok (.putfield 40, 3) := by decide +kernel
theorem dX1_init_121 : decode cX1_init 121 = .ok (.aload_n 0, 1) := by decide +kernel
theorem dX1_init_122 : decode cX1_init 122 = .ok (.iconst 1, 1) := by decide +kernel
theorem dX1_init_123 : decode cX1_init 123 = .ok (.putfield 44, 3) := by decide +kernel
theorem dX1_init_126 : decode cX1_init 126 = .ok (.return_, 1) := by decide +kernel
theorem dX1_isOpen_0 : decode cX1_isOpen 0 = .ok (.aload_n 0, 1) := by decide +kernel
theorem dX1_isOpen_1 : decode cX1_isOpen 1 = .ok (.getfield 40, 3) := by decide +kernel
theorem dX1_isOpen_4 : decode cX1_isOpen 4 = .ok (.iconst (-1), 1) := by decide +kernel
theorem dX1_isOpen_5 : decode cX1_isOpen 5 = .ok (.if_icmp .eq 14, 3) := by decide +kernel
theorem dX1_isOpen_8 : decode cX1_isOpen 8 = .ok (.aload_n 0, 1) := by decide +kernel
theorem dX1_isOpen_9 : decode cX1_isOpen 9 = .ok (.getfield 47, 3) := by decide +kernel
theorem dX1_isOpen_12 : decode cX1_isOpen 12 = .ok (.aload_n 0, 1) := by decide +kernel
theorem dX1_isOpen_13 : decode cX1_isOpen 13 = .ok (.getfield 40, 3) := by decide +kernel
theorem dX1_isOpen_16 : decode cX1_isOpen 16 = .ok (.if_icmp .gt 7, 3) := by decide +kernel
theorem dX1_isOpen_19 : decode cX1_isOpen 19 = .ok (.iconst 1, 1) := by decide +kernel
theorem dX1_isOpen_20 : decode cX1_isOpen 20 = .ok (.goto 4, 3) := by decide +kernel
theorem dX1_isOpen_23 : decode cX1_isOpen 23 = .ok (.iconst 0, 1) := by decide +kernel
theorem dX1_isOpen_24 : decode cX1_isOpen 24 = .ok (.ireturn, 1) := by decide +kernel
theorem dX1_keepLots_0 : decode cX1_keepLots 0 = .ok (.iconst 0, 1) := by decide +kernel
theorem dX1_keepLots_1 : decode cX1_keepLots 1 = .ok (.istore_n 2, 1) := by decide +kernel
theorem dX1_keepLots_2 : decode cX1_keepLots 2 = .ok (.iload_n 2, 1) := by decide +kernel
theorem dX1_keepLots_3 : decode cX1_keepLots 3 = .ok (.bipush 48, 2) := by decide +kernel
theorem dX1_keepLots_5 : decode cX1_keepLots 5 = .ok (.if_icmp .ge 22, 3) := by decide +kernel
theorem dX1_keepLots_8 : decode cX1_keepLots 8 = .ok (.iload_n 2, 1) := by decide +kernel
theorem dX1_keepLots_9 : decode cX1_keepLots 9 = .ok (.bipush 6, 2) := by decide +kernel
theorem dX1_keepLots_11 : decode cX1_keepLots 11 = .ok (.irem, 1) := by decide +kernel
theorem dX1_keepLots_12 : decode cX1_keepLots 12 = .ok (.iload_n 1, 1) := by decide +kernel
theorem dX1_keepLots_13 : decode cX1_keepLots 13 = .ok (.if_icmp .lt 8, 3) := by decide +kernel
theorem dX1_keepLots_16 : decode cX1_keepLots 16 = .ok (.aload_n 0, 1) := by decide +kernel
theorem dX1_keepLots_17 : decode cX1_keepLots 17 = .ok (.iload_n 2, 1) := by decide +kernel
theorem dX1_keepLots_18 : decode cX1_keepLots 18 = .ok (.invokevirtual 50, 3) := by decide +kernel
theorem dX1_keepLots_21 : decode cX1_keepLots 21 = .ok (.iinc 2 1, 3) := by decide +kernel
theorem dX1_keepLots_24 : decode cX1_keepLots 24 = .ok (.goto (-22), 3) := by decide +kernel
theorem dX1_keepLots_27 : decode cX1_keepLots 27 = .ok (.aload_n 0, 1) := by decide +kernel
theorem dX1_keepLots_28 : decode cX1_keepLots 28 = .ok (.iload_n 1, 1) := by decide +kernel
theorem dX1_keepLots_29 : decode cX1_keepLots 29 = .ok (.putfield 44, 3) := by decide +kernel
theorem dX1_keepLots_32 : decode cX1_keepLots 32 = .ok (.return_, 1) := by decide +kernel
theorem dX1_drop_0 : decode cX1_drop 0 = .ok (.aload_n 0, 1) := by decide +kernel
theorem dX1_drop_1 : decode cX1_drop 1 = .ok (.getfield 18, 3) := by decide +kernel
theorem dX1_drop_4 : decode cX1_drop 4 = .ok (.iload_n 1, 1) := by decide +kernel
theorem dX1_drop_5 : decode cX1_drop 5 = .ok (.iconst 0, 1) := by decide +kernel
theorem dX1_drop_6 : decode cX1_drop 6 = .ok (.bastore, 1) := by decide +kernel
theorem dX1_drop_7 : decode cX1_drop 7 = .ok (.aload_n 0, 1) := by decide +kernel
theorem dX1_drop_8 : decode cX1_drop 8 = .ok (.getfield 25, 3) := by decide +kernel
theorem dX1_drop_11 : decode cX1_drop 11 = .ok (.iload_n 1, 1) := by decide +kernel
theorem dX1_drop_12 : decode cX1_drop 12 = .ok (.iconst 0, 1) := by decide +kernel
theorem dX1_drop_13 : decode cX1_drop 13 = .ok (.iastore, 1) := by decide +kernel
theorem dX1_drop_14 : decode cX1_drop 14 = .ok (.return_, 1) := by decide +kernel
theorem dX1_putTerms_0 : decode cX1_putTerms 0 = .ok (.aload_n 0, 1) := by decide +kernel
theorem dX1_putTerms_1 : decode cX1_putTerms 1 = .ok (.getfield 18, 3) := by decide +kernel
theorem dX1_putTerms_4 : decode cX1_putTerms 4 = .ok (.iload_n 1, 1) := by decide +kernel
theorem dX1_putTerms_5 : decode cX1_putTerms 5 = .ok (.iconst 1, 1) := by decide +kernel
theorem dX1_putTerms_6 : decode cX1_putTerms 6 = .ok (.bastore, 1) := by decide +kernel
theorem dX1_putTerms_7 : decode cX1_putTerms 7 = .ok (.aload_n 0, 1) := by decide +kernel
theorem dX1_putTerms_8 : decode cX1_putTerms 8 = .ok (.getfield 31, 3) := by decide +kernel
theorem dX1_putTerms_11 : decode cX1_putTerms 11 = .ok (.iload_n 1, 1) := by decide +kernel
theorem dX1_putTerms_12 : decode cX1_putTerms 12 = .ok (.iload_n 2, 1) := by decide +kernel
theorem dX1_putTerms_13 : decode cX1_putTerms 13 = .ok (.iastore, 1) := by decide +kernel
theorem dX1_putTerms_14 : decode cX1_putTerms 14 = .ok (.aload_n 0, 1) := by decide +kernel
theorem dX1_putTerms_15 : decode cX1_putTerms 15 = .ok (.getfield 34, 3) := by decide +kernel
theorem dX1_putTerms_18 : decode cX1_putTerms 18 = .ok (.iload_n 1, 1) := by decide +kernel
theorem dX1_putTerms_19 : decode cX1_putTerms 19 = .ok (.iload_n 3, 1) := by decide +kernel
theorem dX1_putTerms_20 : decode cX1_putTerms 20 = .ok (.iastore, 1) := by decide +kernel
theorem dX1_putTerms_21 : decode cX1_putTerms 21 = .ok (.aload_n 0, 1) := by decide +kernel
theorem dX1_putTerms_22 : decode cX1_putTerms 22 = .ok (.getfield 37, 3) := by decide +kernel
theorem dX1_putTerms_25 : decode cX1_putTerms 25 = .ok (.iload_n 1, 1) := by decide +kernel
theorem dX1_putTerms_26 : decode cX1_putTerms 26 = .ok (.iload 4, 2) := by decide +kernel
theorem dX1_putTerms_28 : decode cX1_putTerms 28 = .ok (.iastore, 1) := by decide +kernel
theorem dX1_putTerms_29 : decode cX1_putTerms 29 = .ok (.return_, 1) := by decide +kernel
theorem dX1_putItems_0 : decode cX1_putItems 0 = .ok (.iload_n 1, 1) := by decide +kernel
theorem dX1_putItems_1 : decode cX1_putItems 1 = .ok (.iconst 4, 1) := by decide +kernel
theorem dX1_putItems_2 : decode cX1_putItems 2 = .ok (.imul, 1) := by decide +kernel
theorem dX1_putItems_3 : decode cX1_putItems 3 = .ok (.istore 6, 2) := by decide +kernel
theorem dX1_putItems_5 : decode cX1_putItems 5 = .ok (.aload_n 0, 1) := by decide +kernel
theorem dX1_putItems_6 : decode cX1_putItems 6 = .ok (.getfield 28, 3) := by decide +kernel
theorem dX1_putItems_9 : decode cX1_putItems 9 = .ok (.iload 6, 2) := by decide +kernel
theorem dX1_putItems_11 : decode cX1_putItems 11 = .ok (.iload_n 2, 1) := by decide +kernel
theorem dX1_putItems_12 : decode cX1_putItems 12 = .ok (.iastore, 1) := by decide +kernel
theorem dX1_putItems_13 : decode cX1_putItems 13 = .ok (.aload_n 0, 1) := by decide +kernel
theorem dX1_putItems_14 : decode cX1_putItems 14 = .ok (.getfield 28, 3) := by decide +kernel
theorem dX1_putItems_17 : decode cX1_putItems 17 = .ok (.iload 6, 2) := by decide +kernel
theorem dX1_putItems_19 : decode cX1_putItems 19 = .ok (.iconst 1, 1) := by decide +kernel
theorem dX1_putItems_20 : decode cX1_putItems 20 = .ok (.iadd, 1) := by decide +kernel
theorem dX1_putItems_21 : decode cX1_putItems 21 = .ok (.iload_n 3, 1) := by decide +kernel
theorem dX1_putItems_22 : decode cX1_putItems 22 = .ok (.iastore, 1) := by decide +kernel
theorem dX1_putItems_23 : decode cX1_putItems 23 = .ok (.aload_n 0, 1) := by decide +kernel
theorem dX1_putItems_24 : decode cX1_putItems 24 = .ok (.getfield 28, 3) := by decide +kernel
theorem dX1_putItems_27 : decode cX1_putItems 27 = .ok (.iload 6, 2) := by decide +kernel
theorem dX1_putItems_29 : decode cX1_putItems 29 = .ok (.iconst 2, 1) := by decide +kernel
theorem dX1_putItems_30 : decode cX1_putItems 30 = .ok (.iadd, 1) := by decide +kernel
theorem dX1_putItems_31 : decode cX1_putItems 31 = .ok (.iload 4, 2) := by decide +kernel
theorem dX1_putItems_33 : decode cX1_putItems 33 = .ok (.iastore, 1) := by decide +kernel
theorem dX1_putItems_34 : decode cX1_putItems 34 = .ok (.aload_n 0, 1) := by decide +kernel
theorem dX1_putItems_35 : decode cX1_putItems 35 = .ok (.getfield 28, 3) := by decide +kernel
theorem dX1_putItems_38 : decode cX1_putItems 38 = .ok (.iload 6, 2) := by decide +kernel
theorem dX1_putItems_40 : decode cX1_putItems 40 = .ok (.iconst 3, 1) := by decide +kernel
theorem dX1_putItems_41 : decode cX1_putItems 41 = .ok (.iadd, 1) := by decide +kernel
theorem dX1_putItems_42 : decode cX1_putItems 42 = .ok (.iload 5, 2) := by decide +kernel
theorem dX1_putItems_44 : decode cX1_putItems 44 = .ok (.iastore, 1) := by decide +kernel
theorem dX1_putItems_45 : decode cX1_putItems 45 = .ok (.return_, 1) := by decide +kernel
theorem dX1_itemSum_0 : decode cX1_itemSum 0 = .ok (.iconst 0, 1) := by decide +kernel
theorem dX1_itemSum_1 : decode cX1_itemSum 1 = .ok (.istore_n 2, 1) := by decide +kernel
theorem dX1_itemSum_2 : decode cX1_itemSum 2 = .ok (.iconst 0, 1) := by decide +kernel
theorem dX1_itemSum_3 : decode cX1_itemSum 3 = .ok (.istore_n 3, 1) := by decide +kernel
theorem dX1_itemSum_4 : decode cX1_itemSum 4 = .ok (.iload_n 3, 1) := by decide +kernel
theorem dX1_itemSum_5 : decode cX1_itemSum 5 = .ok (.iconst 4, 1) := by decide +kernel
theorem dX1_itemSum_6 : decode cX1_itemSum 6 = .ok (.if_icmp .ge 22, 3) := by decide +kernel
theorem dX1_itemSum_9 : decode cX1_itemSum 9 = .ok (.iload_n 2, 1) := by decide +kernel
theorem dX1_itemSum_10 : decode cX1_itemSum 10 = .ok (.aload_n 0, 1) := by decide +kernel
theorem dX1_itemSum_11 : decode cX1_itemSum 11 = .ok (.getfield 28, 3) := by decide +kernel
theorem dX1_itemSum_14 : decode cX1_itemSum 14 = .ok (.iload_n 1, 1) := by decide +kernel
theorem dX1_itemSum_15 : decode cX1_itemSum 15 = .ok (.iconst 4, 1) := by decide +kernel
theorem dX1_itemSum_16 : decode cX1_itemSum 16 = .ok (.imul, 1) := by decide +kernel
theorem dX1_itemSum_17 : decode cX1_itemSum 17 = .ok (.iload_n 3, 1) := by decide +kernel
theorem dX1_itemSum_18 : decode cX1_itemSum 18 = .ok (.iadd, 1) := by decide +kernel
theorem dX1_itemSum_19 : decode cX1_itemSum 19 = .ok (.iaload, 1) := by decide +kernel
theorem dX1_itemSum_20 : decode cX1_itemSum 20 = .ok (.iadd, 1) := by decide +kernel
theorem dX1_itemSum_21 : decode cX1_itemSum 21 = .ok (.istore_n 2, 1) := by decide +kernel
theorem dX1_itemSum_22 : decode cX1_itemSum 22 = .ok (.iinc 3 1, 3) := by decide +kernel
theorem dX1_itemSum_25 : decode cX1_itemSum 25 = .ok (.goto (-21), 3) := by decide +kernel
theorem dX1_itemSum_28 : decode cX1_itemSum 28 = .ok (.iload_n 2, 1) := by decide +kernel
theorem dX1_itemSum_29 : decode cX1_itemSum 29 = .ok (.ireturn, 1) := by decide +kernel
theorem dX1_priceAt_0 : decode cX1_priceAt 0 = .ok (.aload_n 0, 1) := by decide +kernel
theorem dX1_priceAt_1 : decode cX1_priceAt 1 = .ok (.iload_n 1, 1) := by decide +kernel
theorem dX1_priceAt_2 : decode cX1_priceAt 2 = .ok (.invokevirtual 54, 3) := by decide +kernel
theorem dX1_priceAt_5 : decode cX1_priceAt 5 = .ok (.aload_n 0, 1) := by decide +kernel
theorem dX1_priceAt_6 : decode cX1_priceAt 6 = .ok (.getfield 37, 3) := by decide +kernel
theorem dX1_priceAt_9 : decode cX1_priceAt 9 = .ok (.iload_n 1, 1) := by decide +kernel
theorem dX1_priceAt_10 : decode cX1_priceAt 10 = .ok (.iaload, 1) := by decide +kernel
theorem dX1_priceAt_11 : decode cX1_priceAt 11 = .ok (.aload_n 0, 1) := by decide +kernel
theorem dX1_priceAt_12 : decode cX1_priceAt 12 = .ok (.getfield 9, 3) := by decide +kernel
theorem dX1_priceAt_15 : decode cX1_priceAt 15 = .ok (.iconst 1, 1) := by decide +kernel
theorem dX1_priceAt_16 : decode cX1_priceAt 16 = .ok (.iaload, 1) := by decide +kernel
theorem dX1_priceAt_17 : decode cX1_priceAt 17 = .ok (.imul, 1) := by decide +kernel
theorem dX1_priceAt_18 : decode cX1_priceAt 18 = .ok (.bipush 100, 2) := by decide +kernel
theorem dX1_priceAt_20 : decode cX1_priceAt 20 = .ok (.idiv, 1) := by decide +kernel
theorem dX1_priceAt_21 : decode cX1_priceAt 21 = .ok (.iadd, 1) := by decide +kernel
theorem dX1_priceAt_22 : decode cX1_priceAt 22 = .ok (.i2l, 1) := by decide +kernel
theorem dX1_priceAt_23 : decode cX1_priceAt 23 = .ok (.lstore_n 2, 1) := by decide +kernel
theorem dX1_priceAt_24 : decode cX1_priceAt 24 = .ok (.lload_n 2, 1) := by decide +kernel
theorem dX1_priceAt_25 : decode cX1_priceAt 25 = .ok (.aload_n 0, 1) := by decide +kernel
theorem dX1_priceAt_26 : decode cX1_priceAt 26 = .ok (.getfield 15, 3) := by decide +kernel
theorem dX1_priceAt_29 : decode cX1_priceAt 29 = .ok (.aload_n 0, 1) := by decide +kernel
theorem dX1_priceAt_30 : decode cX1_priceAt 30 = .ok (.getfield 31, 3) := by decide +kernel
theorem dX1_priceAt_33 : decode cX1_priceAt 33 = .ok (.iload_n 1, 1) := by decide +kernel
theorem dX1_priceAt_34 : decode cX1_priceAt 34 = .ok (.iaload, 1) := by decide +kernel
theorem dX1_priceAt_35 : decode cX1_priceAt 35 = .ok (.iaload, 1) := by decide +kernel
theorem dX1_priceAt_36 : decode cX1_priceAt 36 = .ok (.i2l, 1) := by decide +kernel
theorem dX1_priceAt_37 : decode cX1_priceAt 37 = .ok (.lmul, 1) := by decide +kernel
theorem dX1_priceAt_38 : decode cX1_priceAt 38 = .ok (.ldc2_w 58, 3) := by decide +kernel
theorem dX1_priceAt_41 : decode cX1_priceAt 41 = .ok (.ldiv, 1) := by decide +kernel
theorem dX1_priceAt_42 : decode cX1_priceAt 42 = .ok (.lstore 4, 2) := by decide +kernel
theorem dX1_priceAt_44 : decode cX1_priceAt 44 = .ok (.lconst 1, 1) := by decide +kernel
theorem dX1_priceAt_45 : decode cX1_priceAt 45 = .ok (.lload 4, 2) := by decide +kernel
theorem dX1_priceAt_47 : decode cX1_priceAt 47 = .ok (.invokestatic 60, 3) := by decide +kernel
theorem dX1_priceAt_50 : decode cX1_priceAt 50 = .ok (.l2i, 1) := by decide +kernel
theorem dX1_priceAt_51 : decode cX1_priceAt 51 = .ok (.ireturn, 1) := by decide +kernel
theorem dX1_countedSum_0 : decode cX1_countedSum 0 = .ok (.aload_n 0, 1) := by decide +kernel
theorem dX1_countedSum_1 : decode cX1_countedSum 1 = .ok (.iload_n 1, 1) := by decide +kernel
theorem dX1_countedSum_2 : decode cX1_countedSum 2 = .ok (.invokevirtual 66, 3) := by decide +kernel
theorem dX1_countedSum_5 : decode cX1_countedSum 5 = .ok (.istore_n 2, 1) := by decide +kernel
theorem dX1_countedSum_6 : decode cX1_countedSum 6 = .ok (.aload_n 0, 1) := by decide +kernel
theorem dX1_countedSum_7 : decode cX1_countedSum 7 = .ok (.getfield 9, 3) := by decide +kernel
theorem dX1_countedSum_10 : decode cX1_countedSum 10 = .ok (.iconst 0, 1) := by decide +kernel
theorem dX1_countedSum_11 : decode cX1_countedSum 11 = .ok (.iaload, 1) := by decide +kernel
theorem dX1_countedSum_12 : decode cX1_countedSum 12 = .ok (.iconst 1, 1) := by decide +kernel
theorem dX1_countedSum_13 : decode cX1_countedSum 13 = .ok (.if_icmp .ne 10, 3) := by decide +kernel
theorem dX1_countedSum_16 : decode cX1_countedSum 16 = .ok (.aload_n 0, 1) := by decide +kernel
theorem dX1_countedSum_17 : decode cX1_countedSum 17 = .ok (.getfield 34, 3) := by decide +kernel
theorem dX1_countedSum_20 : decode cX1_countedSum 20 = .ok (.iload_n 1, 1) := by decide +kernel
theorem dX1_countedSum_21 : decode cX1_countedSum 21 = .ok (.iaload, 1) := by decide +kernel
theorem dX1_countedSum_22 : decode cX1_countedSum 22 = .ok (.ireturn, 1) := by decide +kernel
theorem dX1_countedSum_23 : decode cX1_countedSum 23 = .ok (.aload_n 0, 1) := by decide +kernel
theorem dX1_countedSum_24 : decode cX1_countedSum 24 = .ok (.getfield 9, 3) := by decide +kernel
theorem dX1_countedSum_27 : decode cX1_countedSum 27 = .ok (.iconst 0, 1) := by decide +kernel
theorem dX1_countedSum_28 : decode cX1_countedSum 28 = .ok (.iaload, 1) := by decide +kernel
theorem dX1_countedSum_29 : decode cX1_countedSum 29 = .ok (.iconst 2, 1) := by decide +kernel
theorem dX1_countedSum_30 : decode cX1_countedSum 30 = .ok (.if_icmp .ne 16, 3) := by decide +kernel
theorem dX1_countedSum_33 : decode cX1_countedSum 33 = .ok (.iload_n 2, 1) := by decide +kernel
theorem dX1_countedSum_34 : decode cX1_countedSum 34 = .ok (.aload_n 0, 1) := by decide +kernel
theorem dX1_countedSum_35 : decode cX1_countedSum 35 = .ok (.getfield 34, 3) := by decide +kernel
theorem dX1_countedSum_38 : decode cX1_countedSum 38 = .ok (.iload_n 1, 1) := by decide +kernel
theorem dX1_countedSum_39 : decode cX1_countedSum 39 = .ok (.iaload, 1) := by decide +kernel
theorem dX1_countedSum_40 : decode cX1_countedSum 40 = .ok (.invokestatic 69, 3) := by decide +kernel
theorem dX1_countedSum_43 : decode cX1_countedSum 43 = .ok (.goto 4, 3) := by decide +kernel
theorem dX1_countedSum_46 : decode cX1_countedSum 46 = .ok (.iload_n 2, 1) := by decide +kernel
theorem dX1_countedSum_47 : decode cX1_countedSum 47 = .ok (.ireturn, 1) := by decide +kernel
theorem dX1_isLapsed_0 : decode cX1_isLapsed 0 = .ok (.aload_n 0, 1) := by decide +kernel
theorem dX1_isLapsed_1 : decode cX1_isLapsed 1 = .ok (.getfield 25, 3) := by decide +kernel
theorem dX1_isLapsed_4 : decode cX1_isLapsed 4 = .ok (.iload_n 1, 1) := by decide +kernel
theorem dX1_isLapsed_5 : decode cX1_isLapsed 5 = .ok (.iaload, 1) := by decide +kernel
theorem dX1_isLapsed_6 : decode cX1_isLapsed 6 = .ok (.ifCond .eq 20, 3) := by decide +kernel
theorem dX1_isLapsed_9 : decode cX1_isLapsed 9 = .ok (.aload_n 0, 1) := by decide +kernel
theorem dX1_isLapsed_10 : decode cX1_isLapsed 10 = .ok (.getfield 47, 3) := by decide +kernel
theorem dX1_isLapsed_13 : decode cX1_isLapsed 13 = .ok (.aload_n 0, 1) := by decide +kernel
theorem dX1_isLapsed_14 : decode cX1_isLapsed 14 = .ok (.getfield 25, 3) := by decide +kernel
theorem dX1_isLapsed_17 : decode cX1_isLapsed 17 = .ok (.iload_n 1, 1) := by decide +kernel
theorem dX1_isLapsed_18 : decode cX1_isLapsed 18 = .ok (.iaload, 1) := by decide +kernel
theorem dX1_isLapsed_19 : decode cX1_isLapsed 19 = .ok (.if_icmp .le 7, 3) := by decide +kernel
theorem dX1_isLapsed_22 : decode cX1_isLapsed 22 = .ok (.iconst 1, 1) := by decide +kernel
theorem dX1_isLapsed_23 : decode cX1_isLapsed 23 = .ok (.goto 4, 3) := by decide +kernel
theorem dX1_isLapsed_26 : decode cX1_isLapsed 26 = .ok (.iconst 0, 1) := by decide +kernel
theorem dX1_isLapsed_27 : decode cX1_isLapsed 27 = .ok (.ireturn, 1) := by decide +kernel
theorem dX1_isOutAt_0 : decode cX1_isOutAt 0 = .ok (.aload_n 0, 1) := by decide +kernel
theorem dX1_isOutAt_1 : decode cX1_isOutAt 1 = .ok (.getfield 22, 3) := by decide +kernel
theorem dX1_isOutAt_4 : decode cX1_isOutAt 4 = .ok (.iload_n 1, 1) := by decide +kernel
theorem dX1_isOutAt_5 : decode cX1_isOutAt 5 = .ok (.baload, 1) := by decide +kernel
theorem dX1_isOutAt_6 : decode cX1_isOutAt 6 = .ok (.ifCond .ne 11, 3) := by decide +kernel
theorem dX1_isOutAt_9 : decode cX1_isOutAt 9 = .ok (.aload_n 0, 1) := by decide +kernel
theorem dX1_isOutAt_10 : decode cX1_isOutAt 10 = .ok (.iload_n 1, 1) := by decide +kernel
theorem dX1_isOutAt_11 : decode cX1_isOutAt 11 = .ok (.invokevirtual 72, 3) := by decide +kernel
theorem dX1_isOutAt_14 : decode cX1_isOutAt 14 = .ok (.ifCond .eq 7, 3) := by decide +kernel
theorem dX1_isOutAt_17 : decode cX1_isOutAt 17 = .ok (.iconst 1, 1) := by decide +kernel
theorem dX1_isOutAt_18 : decode cX1_isOutAt 18 = .ok (.goto 4, 3) := by decide +kernel
theorem dX1_isOutAt_21 : decode cX1_isOutAt 21 = .ok (.iconst 0, 1) := by decide +kernel
theorem dX1_isOutAt_22 : decode cX1_isOutAt 22 = .ok (.ireturn, 1) := by decide +kernel
theorem dX1_standsAt_0 : decode cX1_standsAt 0 = .ok (.aload_n 0, 1) := by decide +kernel
theorem dX1_standsAt_1 : decode cX1_standsAt 1 = .ok (.getfield 18, 3) := by decide +kernel
theorem dX1_standsAt_4 : decode cX1_standsAt 4 = .ok (.iload_n 1, 1) := by decide +kernel
theorem dX1_standsAt_5 : decode cX1_standsAt 5 = .ok (.baload, 1) := by decide +kernel
theorem dX1_standsAt_6 : decode cX1_standsAt 6 = .ok (.ifCond .eq 15, 3) := by decide +kernel
theorem dX1_standsAt_9 : decode cX1_standsAt 9 = .ok (.aload_n 0, 1) := by decide +kernel
theorem dX1_standsAt_10 : decode cX1_standsAt 10 = .ok (.iload_n 1, 1) := by decide +kernel
theorem dX1_standsAt_11 : decode cX1_standsAt 11 = .ok (.invokevirtual 76, 3) := by decide +kernel
theorem dX1_standsAt_14 : decode cX1_standsAt 14 = .ok (.ifCond .ne 7, 3) := by decide +kernel
theorem dX1_standsAt_17 : decode cX1_standsAt 17 = .ok (.iconst 1, 1) := by decide +kernel
theorem dX1_standsAt_18 : decode cX1_standsAt 18 = .ok (.goto 4, 3) := by decide +kernel
theorem dX1_standsAt_21 : decode cX1_standsAt 21 = .ok (.iconst 0, 1) := by decide +kernel
theorem dX1_standsAt_22 : decode cX1_standsAt 22 = .ok (.ireturn, 1) := by decide +kernel
theorem dX1_clearOut_0 : decode cX1_clearOut 0 = .ok (.aload_n 0, 1) := by decide +kernel
theorem dX1_clearOut_1 : decode cX1_clearOut 1 = .ok (.getfield 22, 3) := by decide +kernel
theorem dX1_clearOut_4 : decode cX1_clearOut 4 = .ok (.iload_n 1, 1) := by decide +kernel
theorem dX1_clearOut_5 : decode cX1_clearOut 5 = .ok (.iconst 0, 1) := by decide +kernel
theorem dX1_clearOut_6 : decode cX1_clearOut 6 = .ok (.bastore, 1) := by decide +kernel
theorem dX1_clearOut_7 : decode cX1_clearOut 7 = .ok (.aload_n 0, 1) := by decide +kernel
theorem dX1_clearOut_8 : decode cX1_clearOut 8 = .ok (.iload_n 1, 1) := by decide +kernel
theorem dX1_clearOut_9 : decode cX1_clearOut 9 = .ok (.invokevirtual 72, 3) := by decide +kernel
theorem dX1_clearOut_12 : decode cX1_clearOut 12 = .ok (.ifCond .eq 10, 3) := by decide +kernel
theorem dX1_clearOut_15 : decode cX1_clearOut 15 = .ok (.aload_n 0, 1) := by decide +kernel
theorem dX1_clearOut_16 : decode cX1_clearOut 16 = .ok (.getfield 25, 3) := by decide +kernel
theorem dX1_clearOut_19 : decode cX1_clearOut 19 = .ok (.iload_n 1, 1) := by decide +kernel
theorem dX1_clearOut_20 : decode cX1_clearOut 20 = .ok (.iconst 0, 1) := by decide +kernel
theorem dX1_clearOut_21 : decode cX1_clearOut 21 = .ok (.iastore, 1) := by decide +kernel
theorem dX1_clearOut_22 : decode cX1_clearOut 22 = .ok (.return_, 1) := by decide +kernel
theorem dX1_clearOuts_0 : decode cX1_clearOuts 0 = .ok (.iconst 0, 1) := by decide +kernel
theorem dX1_clearOuts_1 : decode cX1_clearOuts 1 = .ok (.istore_n 2, 1) := by decide +kernel
theorem dX1_clearOuts_2 : decode cX1_clearOuts 2 = .ok (.iload_n 2, 1) := by decide +kernel
theorem dX1_clearOuts_3 : decode cX1_clearOuts 3 = .ok (.bipush 8, 2) := by decide +kernel
theorem dX1_clearOuts_5 : decode cX1_clearOuts 5 = .ok (.if_icmp .ge 29, 3) := by decide +kernel
theorem dX1_clearOuts_8 : decode cX1_clearOuts 8 = .ok (.iload_n 2, 1) := by decide +kernel
theorem dX1_clearOuts_9 : decode cX1_clearOuts 9 = .ok (.iload_n 1, 1) := by decide +kernel
theorem dX1_clearOuts_10 : decode cX1_clearOuts 10 = .ok (.invokestatic 79, 3) := by decide +kernel
theorem dX1_clearOuts_13 : decode cX1_clearOuts 13 = .ok (.istore_n 3, 1) := by decide +kernel
theorem dX1_clearOuts_14 : decode cX1_clearOuts 14 = .ok (.aload_n 0, 1) := by decide +kernel
theorem dX1_clearOuts_15 : decode cX1_clearOuts 15 = .ok (.getfield 18, 3) := by decide +kernel
theorem dX1_clearOuts_18 : decode cX1_clearOuts 18 = .ok (.iload_n 3, 1) := by decide +kernel
theorem dX1_clearOuts_19 : decode cX1_clearOuts 19 = .ok (.baload, 1) := by decide +kernel
theorem dX1_clearOuts_20 : decode cX1_clearOuts 20 = .ok (.ifCond .eq 8, 3) := by decide +kernel
theorem dX1_clearOuts_23 : decode cX1_clearOuts 23 = .ok (.aload_n 0, 1) := by decide +kernel
theorem dX1_clearOuts_24 : decode cX1_clearOuts 24 = .ok (.iload_n 3, 1) := by decide +kernel
theorem dX1_clearOuts_25 : decode cX1_clearOuts 25 = .ok (.invokevirtual 82, 3) := by decide +kernel
theorem dX1_clearOuts_28 : decode cX1_clearOuts 28 = .ok (.iinc 2 1, 3) := by decide +kernel
theorem dX1_clearOuts_31 : decode cX1_clearOuts 31 = .ok (.goto (-29), 3) := by decide +kernel
theorem dX1_clearOuts_34 : decode cX1_clearOuts 34 = .ok (.return_, 1) := by decide +kernel
theorem dX1_isTooLow_0 : decode cX1_isTooLow 0 = .ok (.lconst 0, 1) := by decide +kernel
theorem dX1_isTooLow_1 : decode cX1_isTooLow 1 = .ok (.lstore_n 3, 1) := by decide +kernel
theorem dX1_isTooLow_2 : decode cX1_isTooLow 2 = .ok (.lconst 0, 1) := by decide +kernel
theorem dX1_isTooLow_3 : decode cX1_isTooLow 3 = .ok (.lstore 5, 2) := by decide +kernel
theorem dX1_isTooLow_5 : decode cX1_isTooLow 5 = .ok (.iconst 0, 1) := by decide +kernel
theorem dX1_isTooLow_6 : decode cX1_isTooLow 6 = .ok (.istore 7, 2) := by decide +kernel
theorem dX1_isTooLow_8 : decode cX1_isTooLow 8 = .ok (.iload 7, 2) := by decide +kernel
theorem dX1_isTooLow_10 : decode cX1_isTooLow 10 = .ok (.bipush 8, 2) := by decide +kernel
theorem dX1_isTooLow_12 : decode cX1_isTooLow 12 = .ok (.if_icmp .ge 48, 3) := by decide +kernel
theorem dX1_isTooLow_15 : decode cX1_isTooLow 15 = .ok (.iload 7, 2) := by decide +kernel
theorem dX1_isTooLow_17 : decode cX1_isTooLow 17 = .ok (.iload_n 2, 1) := by decide +kernel
theorem dX1_isTooLow_18 : decode cX1_isTooLow 18 = .ok (.invokestatic 79, 3) := by decide +kernel
theorem dX1_isTooLow_21 : decode cX1_isTooLow 21 = .ok (.istore 8, 2) := by decide +kernel
theorem dX1_isTooLow_23 : decode cX1_isTooLow 23 = .ok (.iload 7, 2) := by decide +kernel
theorem dX1_isTooLow_25 : decode cX1_isTooLow 25 = .ok (.iload_n 1, 1) := by decide +kernel
theorem dX1_isTooLow_26 : decode cX1_isTooLow 26 = .ok (.if_icmp .eq 28, 3) := by decide +kernel
theorem dX1_isTooLow_29 : decode cX1_isTooLow 29 = .ok (.aload_n 0, 1) := by decide +kernel
theorem dX1_isTooLow_30 : decode cX1_isTooLow 30 = .ok (.iload 8, 2) := by decide +kernel
theorem dX1_isTooLow_32 : decode cX1_isTooLow 32 = .ok (.invokevirtual 85, 3) := by decide +kernel
theorem dX1_isTooLow_35 : decode cX1_isTooLow 35 = .ok (.ifCond .eq 19, 3) := by decide +kernel
theorem dX1_isTooLow_38 : decode cX1_isTooLow 38 = .ok (.lload_n 3, 1) := by decide +kernel
theorem dX1_isTooLow_39 : decode cX1_isTooLow 39 = .ok (.lconst 1, 1) := by decide +kernel
theorem dX1_isTooLow_40 : decode cX1_isTooLow 40 = .ok (.ladd, 1) := by decide +kernel
theorem dX1_isTooLow_41 : decode cX1_isTooLow 41 = .ok (.lstore_n 3, 1) := by decide +kernel
theorem dX1_isTooLow_42 : decode cX1_isTooLow 42 = .ok (.lload 5, 2) := by decide +kernel
theorem dX1_isTooLow_44 : decode cX1_isTooLow 44 = .ok (.aload_n 0, 1) := by decide +kernel
theorem dX1_isTooLow_45 : decode cX1_isTooLow 45 = .ok (.iload 8, 2) := by decide +kernel
theorem dX1_isTooLow_47 : decode cX1_isTooLow 47 = .ok (.invokevirtual 88, 3) := by decide +kernel
theorem dX1_isTooLow_50 : decode cX1_isTooLow 50 = .ok (.i2l, 1) := by decide +kernel
theorem dX1_isTooLow_51 : decode cX1_isTooLow 51 = .ok (.ladd, 1) := by decide +kernel
theorem dX1_isTooLow_52 : decode cX1_isTooLow 52 = .ok (.lstore 5, 2) := by decide +kernel
theorem dX1_isTooLow_54 : decode cX1_isTooLow 54 = .ok (.iinc 7 1, 3) := by decide +kernel
theorem dX1_isTooLow_57 : decode cX1_isTooLow 57 = .ok (.goto (-49), 3) := by decide +kernel
theorem dX1_isTooLow_60 : decode cX1_isTooLow 60 = .ok (.aload_n 0, 1) := by decide +kernel
theorem dX1_isTooLow_61 : decode cX1_isTooLow 61 = .ok (.iload_n 1, 1) := by decide +kernel
theorem dX1_isTooLow_62 : decode cX1_isTooLow 62 = .ok (.iload_n 2, 1) := by decide +kernel
theorem dX1_isTooLow_63 : decode cX1_isTooLow 63 = .ok (.invokestatic 79, 3) := by decide +kernel
theorem dX1_isTooLow_66 : decode cX1_isTooLow 66 = .ok (.invokevirtual 88, 3) := by decide +kernel
theorem dX1_isTooLow_69 : decode cX1_isTooLow 69 = .ok (.i2l, 1) := by decide +kernel
theorem dX1_isTooLow_70 : decode cX1_isTooLow 70 = .ok (.ldc2_w 91, 3) := by decide +kernel
theorem dX1_isTooLow_73 : decode cX1_isTooLow 73 = .ok (.lmul, 1) := by decide +kernel
theorem dX1_isTooLow_74 : decode cX1_isTooLow 74 = .ok (.lload_n 3, 1) := by decide +kernel
theorem dX1_isTooLow_75 : decode cX1_isTooLow 75 = .ok (.lmul, 1) := by decide +kernel
theorem dX1_isTooLow_76 : decode cX1_isTooLow 76 = .ok (.aload_n 0, 1) := by decide +kernel
theorem dX1_isTooLow_77 : decode cX1_isTooLow 77 = .ok (.getfield 9, 3) := by decide +kernel
theorem dX1_isTooLow_80 : decode cX1_isTooLow 80 = .ok (.iconst 2, 1) := by decide +kernel
theorem dX1_isTooLow_81 : decode cX1_isTooLow 81 = .ok (.iaload, 1) := by decide +kernel
theorem dX1_isTooLow_82 : decode cX1_isTooLow 82 = .ok (.i2l, 1) := by decide +kernel
theorem dX1_isTooLow_83 : decode cX1_isTooLow 83 = .ok (.lload 5, 2) := by decide +kernel
theorem dX1_isTooLow_85 : decode cX1_isTooLow 85 = .ok (.lmul, 1) := by decide +kernel
theorem dX1_isTooLow_86 : decode cX1_isTooLow 86 = .ok (.lcmp, 1) := by decide +kernel
theorem dX1_isTooLow_87 : decode cX1_isTooLow 87 = .ok (.ifCond .ge 7, 3) := by decide +kernel
theorem dX1_isTooLow_90 : decode cX1_isTooLow 90 = .ok (.iconst 1, 1) := by decide +kernel
theorem dX1_isTooLow_91 : decode cX1_isTooLow 91 = .ok (.goto 4, 3) := by decide +kernel
theorem dX1_isTooLow_94 : decode cX1_isTooLow 94 = .ok (.iconst 0, 1) := by decide +kernel
theorem dX1_isTooLow_95 : decode cX1_isTooLow 95 = .ok (.ireturn, 1) := by decide +kernel
theorem dX1_countThere_0 : decode cX1_countThere 0 = .ok (.iconst 0, 1) := by decide +kernel
theorem dX1_countThere_1 : decode cX1_countThere 1 = .ok (.istore_n 1, 1) := by decide +kernel
theorem dX1_countThere_2 : decode cX1_countThere 2 = .ok (.iconst 0, 1) := by decide +kernel
theorem dX1_countThere_3 : decode cX1_countThere 3 = .ok (.istore_n 2, 1) := by decide +kernel
theorem dX1_countThere_4 : decode cX1_countThere 4 = .ok (.iload_n 2, 1) := by decide +kernel
theorem dX1_countThere_5 : decode cX1_countThere 5 = .ok (.bipush 48, 2) := by decide +kernel
theorem dX1_countThere_7 : decode cX1_countThere 7 = .ok (.if_icmp .ge 21, 3) := by decide +kernel
theorem dX1_countThere_10 : decode cX1_countThere 10 = .ok (.aload_n 0, 1) := by decide +kernel
theorem dX1_countThere_11 : decode cX1_countThere 11 = .ok (.getfield 18, 3) := by decide +kernel
theorem dX1_countThere_14 : decode cX1_countThere 14 = .ok (.iload_n 2, 1) := by decide +kernel
theorem dX1_countThere_15 : decode cX1_countThere 15 = .ok (.baload, 1) := by decide +kernel
theorem dX1_countThere_16 : decode cX1_countThere 16 = .ok (.ifCond .eq 6, 3) := by decide +kernel
theorem dX1_countThere_19 : decode cX1_countThere 19 = .ok (.iinc 1 1, 3) := by decide +kernel
theorem dX1_countThere_22 : decode cX1_countThere 22 = .ok (.iinc 2 1, 3) := by decide +kernel
theorem dX1_countThere_25 : decode cX1_countThere 25 = .ok (.goto (-21), 3) := by decide +kernel
theorem dX1_countThere_28 : decode cX1_countThere 28 = .ok (.iload_n 1, 1) := by decide +kernel
theorem dX1_countThere_29 : decode cX1_countThere 29 = .ok (.ireturn, 1) := by decide +kernel
theorem dX1_countStanding_0 : decode cX1_countStanding 0 = .ok (.iconst 0, 1) := by decide +kernel
theorem dX1_countStanding_1 : decode cX1_countStanding 1 = .ok (.istore_n 1, 1) := by decide +kernel
theorem dX1_countStanding_2 : decode cX1_countStanding 2 = .ok (.iconst 0, 1) := by decide +kernel
theorem dX1_countStanding_3 : decode cX1_countStanding 3 = .ok (.istore_n 2, 1) := by decide +kernel
theorem dX1_countStanding_4 : decode cX1_countStanding 4 = .ok (.iload_n 2, 1) := by decide +kernel
theorem dX1_countStanding_5 : decode cX1_countStanding 5 = .ok (.bipush 48, 2) := by decide +kernel
theorem dX1_countStanding_7 : decode cX1_countStanding 7 = .ok (.if_icmp .ge 20, 3) := by decide +kernel
theorem dX1_countStanding_10 : decode cX1_countStanding 10 = .ok (.aload_n 0, 1) := by decide +kernel
theorem dX1_countStanding_11 : decode cX1_countStanding 11 = .ok (.iload_n 2, 1) := by decide +kernel
theorem dX1_countStanding_12 : decode cX1_countStanding 12 = .ok (.invokevirtual 85, 3) := by decide +kernel
theorem dX1_countStanding_15 : decode cX1_countStanding 15 = .ok (.ifCond .eq 6, 3) := by decide +kernel
theorem dX1_countStanding_18 : decode cX1_countStanding 18 = .ok (.iinc 1 1, 3) := by decide +kernel
theorem dX1_countStanding_21 : decode cX1_countStanding 21 = .ok (.iinc 2 1, 3) := by decide +kernel
theorem dX1_countStanding_24 : decode cX1_countStanding 24 = .ok (.goto (-20), 3) := by decide +kernel
theorem dX1_countStanding_27 : decode cX1_countStanding 27 = .ok (.iload_n 1, 1) := by decide +kernel
theorem dX1_countStanding_28 : decode cX1_countStanding 28 = .ok (.ireturn, 1) := by decide +kernel
theorem dX2_init_0 : decode cX2_init 0 = .ok (.aload_n 0, 1) := by decide +kernel
theorem dX2_init_1 : decode cX2_init 1 = .ok (.invokespecial 3, 3) := by decide +kernel
theorem dX2_init_4 : decode cX2_init 4 = .ok (.aload_n 0, 1) := by decide +kernel
theorem dX2_init_5 : decode cX2_init 5 = .ok (.bipush 80, 2) := by decide +kernel
theorem dX2_init_7 : decode cX2_init 7 = .ok (.newarray .int, 2) := by decide +kernel
theorem dX2_init_9 : decode cX2_init 9 = .ok (.putfield 9, 3) := by decide +kernel
theorem dX2_init_12 : decode cX2_init 12 = .ok (.aload_n 0, 1) := by decide +kernel
theorem dX2_init_13 : decode cX2_init 13 = .ok (.iconst 1, 1) := by decide +kernel
theorem dX2_init_14 : decode cX2_init 14 = .ok (.putfield 15, 3) := by decide +kernel
theorem dX2_init_17 : decode cX2_init 17 = .ok (.aload_n 0, 1) := by decide +kernel
theorem dX2_init_18 : decode cX2_init 18 = .ok (.bipush 80, 2) := by decide +kernel
theorem dX2_init_20 : decode cX2_init 20 = .ok (.newarray .int, 2) := by decide +kernel
theorem dX2_init_22 : decode cX2_init 22 = .ok (.putfield 19, 3) := by decide +kernel
theorem dX2_init_25 : decode cX2_init 25 = .ok (.aload_n 0, 1) := by decide +kernel
theorem dX2_init_26 : decode cX2_init 26 = .ok (.bipush 80, 2) := by decide +kernel
theorem dX2_init_28 : decode cX2_init 28 = .ok (.newarray .int, 2) := by decide +kernel
theorem dX2_init_30 : decode cX2_init 30 = .ok (.putfield 22, 3) := by decide +kernel
theorem dX2_init_33 : decode cX2_init 33 = .ok (.aload_n 0, 1) := by decide +kernel
theorem dX2_init_34 : decode cX2_init 34 = .ok (.getfield 9, 3) := by decide +kernel
theorem dX2_init_37 : decode cX2_init 37 = .ok (.iconst 0, 1) := by decide +kernel
theorem dX2_init_38 : decode cX2_init 38 = .ok (.bipush (-113), 2) := by decide +kernel
theorem dX2_init_40 : decode cX2_init 40 = .ok (.iastore, 1) := by decide +kernel
theorem dX2_init_41 : decode cX2_init 41 = .ok (.return_, 1) := by decide +kernel
theorem dX2_useQuality_0 : decode cX2_useQuality 0 = .ok (.aload_n 0, 1) := by decide +kernel
theorem dX2_useQuality_1 : decode cX2_useQuality 1 = .ok (.getfield 9, 3) := by decide +kernel
theorem dX2_useQuality_4 : decode cX2_useQuality 4 = .ok (.iconst 0, 1) := by decide +kernel
theorem dX2_useQuality_5 : decode cX2_useQuality 5 = .ok (.bipush (-113), 2) := by decide +kernel
theorem dX2_useQuality_7 : decode cX2_useQuality 7 = .ok (.iastore, 1) := by decide +kernel
theorem dX2_useQuality_8 : decode cX2_useQuality 8 = .ok (.aload_n 0, 1) := by decide +kernel
theorem dX2_useQuality_9 : decode cX2_useQuality 9 = .ok (.iconst 1, 1) := by decide +kernel
theorem dX2_useQuality_10 : decode cX2_useQuality 10 = .ok (.putfield 15, 3) := by decide +kernel
theorem dX2_useQuality_13 : decode cX2_useQuality 13 = .ok (.return_, 1) := by decide +kernel
theorem dX2_take_0 : decode cX2_take 0 = .ok (.lload_n 2, 1) := by decide +kernel
theorem dX2_take_1 : decode cX2_take 1 = .ok (.lstore 4, 2) := by decide +kernel
theorem dX2_take_3 : decode cX2_take 3 = .ok (.iconst 0, 1) := by decide +kernel
theorem dX2_take_4 : decode cX2_take 4 = .ok (.istore 6, 2) := by decide +kernel
theorem dX2_take_6 : decode cX2_take 6 = .ok (.iload 6, 2) := by decide +kernel
theorem dX2_take_8 : decode cX2_take 8 = .ok (.iload_n 1, 1) := by decide +kernel
theorem dX2_take_9 : decode cX2_take 9 = .ok (.if_icmp .ge 51, 3) := by decide +kernel
theorem dX2_take_12 : decode cX2_take 12 = .ok (.aload_n 0, 1) := by decide +kernel
theorem dX2_take_13 : decode cX2_take 13 = .ok (.getfield 25, 3) := by decide +kernel
theorem dX2_take_16 : decode cX2_take 16 = .ok (.bipush 80, 2) := by decide +kernel
theorem dX2_take_18 : decode cX2_take 18 = .ok (.if_icmp .ge 42, 3) := by decide +kernel
theorem dX2_take_21 : decode cX2_take 21 = .ok (.aload_n 0, 1) := by decide +kernel
theorem dX2_take_22 : decode cX2_take 22 = .ok (.getfield 19, 3) := by decide +kernel
theorem dX2_take_25 : decode cX2_take 25 = .ok (.aload_n 0, 1) := by decide +kernel
theorem dX2_take_26 : decode cX2_take 26 = .ok (.getfield 25, 3) := by decide +kernel
theorem dX2_take_29 : decode cX2_take 29 = .ok (.lload 4, 2) := by decide +kernel
theorem dX2_take_31 : decode cX2_take 31 = .ok (.ldc2_w 28, 3) := by decide +kernel
theorem dX2_take_34 : decode cX2_take 34 = .ok (.land, 1) := by decide +kernel
theorem dX2_take_35 : decode cX2_take 35 = .ok (.l2i, 1) := by decide +kernel
theorem dX2_take_36 : decode cX2_take 36 = .ok (.iastore, 1) := by decide +kernel
theorem dX2_take_37 : decode cX2_take 37 = .ok (.lload 4, 2) := by decide +kernel
theorem dX2_take_39 : decode cX2_take 39 = .ok (.bipush 8, 2) := by decide +kernel
theorem dX2_take_41 : decode cX2_take 41 = .ok (.lushr, 1) := by decide +kernel
theorem dX2_take_42 : decode cX2_take 42 = .ok (.lstore 4, 2) := by decide +kernel
theorem dX2_take_44 : decode cX2_take 44 = .ok (.aload_n 0, 1) := by decide +kernel
theorem dX2_take_45 : decode cX2_take 45 = .ok (.dup, 1) := by decide +kernel
theorem dX2_take_46 : decode cX2_take 46 = .ok (.getfield 25, 3) := by decide +kernel
theorem dX2_take_49 : decode cX2_take 49 = .ok (.iconst 1, 1) := by decide +kernel
theorem dX2_take_50 : decode cX2_take 50 = .ok (.iadd, 1) := by decide +kernel
theorem dX2_take_51 : decode cX2_take 51 = .ok (.putfield 25, 3) := by decide +kernel
theorem dX2_take_54 : decode cX2_take 54 = .ok (.iinc 6 1, 3) := by decide +kernel
theorem dX2_take_57 : decode cX2_take 57 = .ok (.goto (-51), 3) := by decide +kernel
theorem dX2_take_60 : decode cX2_take 60 = .ok (.aload_n 0, 1) := by decide +kernel
theorem dX2_take_61 : decode cX2_take 61 = .ok (.getfield 25, 3) := by decide +kernel
theorem dX2_take_64 : decode cX2_take 64 = .ok (.ireturn, 1) := by decide +kernel
theorem dX2_readTape_0 : decode cX2_readTape 0 = .ok (.aload_n 0, 1) := by decide +kernel
theorem dX2_readTape_1 : decode cX2_readTape 1 = .ok (.iconst 0, 1) := by decide +kernel
theorem dX2_readTape_2 : decode cX2_readTape 2 = .ok (.putfield 30, 3) := by decide +kernel
theorem dX2_readTape_5 : decode cX2_readTape 5 = .ok (.aload_n 0, 1) := by decide +kernel
theorem dX2_readTape_6 : decode cX2_readTape 6 = .ok (.iconst 0, 1) := by decide +kernel
theorem dX2_readTape_7 : decode cX2_readTape 7 = .ok (.putfield 33, 3) := by decide +kernel
theorem dX2_readTape_10 : decode cX2_readTape 10 = .ok (.aload_n 0, 1) := by decide +kernel
theorem dX2_readTape_11 : decode cX2_readTape 11 = .ok (.iconst 0, 1) := by decide +kernel
theorem dX2_readTape_12 : decode cX2_readTape 12 = .ok (.putfield 36, 3) := by decide +kernel
theorem dX2_readTape_15 : decode cX2_readTape 15 = .ok (.aload_n 0, 1) := by decide +kernel
theorem dX2_readTape_16 : decode cX2_readTape 16 = .ok (.iconst (-1), 1) := by decide +kernel
theorem dX2_readTape_17 : decode cX2_readTape 17 = .ok (.putfield 39, 3) := by decide +kernel
theorem dX2_readTape_20 : decode cX2_readTape 20 = .ok (.aload_n 0, 1) := by decide +kernel
theorem dX2_readTape_21 : decode cX2_readTape 21 = .ok (.iconst 0, 1) := by decide +kernel
theorem dX2_readTape_22 : decode cX2_readTape 22 = .ok (.invokevirtual 42, 3) := by decide +kernel
theorem dX2_readTape_25 : decode cX2_readTape 25 = .ok (.aload_n 0, 1) := by decide +kernel
theorem dX2_readTape_26 : decode cX2_readTape 26 = .ok (.getfield 36, 3) := by decide +kernel
theorem dX2_readTape_29 : decode cX2_readTape 29 = .ok (.aload_n 0, 1) := by decide +kernel
theorem dX2_readTape_30 : decode cX2_readTape 30 = .ok (.getfield 25, 3) := by decide +kernel
theorem dX2_readTape_33 : decode cX2_readTape 33 = .ok (.if_icmp .ge 7, 3) := by decide +kernel
theorem dX2_readTape_36 : decode cX2_readTape 36 = .ok (.aload_n 0, 1) := by decide +kernel
theorem dX2_readTape_37 : decode cX2_readTape 37 = .ok (.invokevirtual 46, 3) := by decide +kernel
theorem dX2_readTape_40 : decode cX2_readTape 40 = .ok (.aload_n 0, 1) := by decide +kernel
theorem dX2_readTape_41 : decode cX2_readTape 41 = .ok (.iconst 0, 1) := by decide +kernel
theorem dX2_readTape_42 : decode cX2_readTape 42 = .ok (.putfield 25, 3) := by decide +kernel
theorem dX2_readTape_45 : decode cX2_readTape 45 = .ok (.aload_n 0, 1) := by decide +kernel
theorem dX2_readTape_46 : decode cX2_readTape 46 = .ok (.getfield 39, 3) := by decide +kernel
theorem dX2_readTape_49 : decode cX2_readTape 49 = .ok (.iconst (-1), 1) := by decide +kernel
theorem dX2_readTape_50 : decode cX2_readTape 50 = .ok (.if_icmp .eq 11, 3) := by decide +kernel
theorem dX2_readTape_53 : decode cX2_readTape 53 = .ok (.bipush (-20), 2) := by decide +kernel
theorem dX2_readTape_55 : decode cX2_readTape 55 = .ok (.aload_n 0, 1) := by decide +kernel
theorem dX2_readTape_56 : decode cX2_readTape 56 = .ok (.getfield 39, 3) := by decide +kernel
theorem dX2_readTape_59 : decode cX2_readTape 59 = .ok (.isub, 1) := by decide +kernel
theorem dX2_readTape_60 : decode cX2_readTape 60 = .ok (.ireturn, 1) := by decide +kernel
theorem dX2_readTape_61 : decode cX2_readTape 61 = .ok (.aload_n 0, 1) := by decide +kernel
theorem dX2_readTape_62 : decode cX2_readTape 62 = .ok (.getfield 22, 3) := by decide +kernel
theorem dX2_readTape_65 : decode cX2_readTape 65 = .ok (.iconst 0, 1) := by decide +kernel
theorem dX2_readTape_66 : decode cX2_readTape 66 = .ok (.aload_n 0, 1) := by decide +kernel
theorem dX2_readTape_67 : decode cX2_readTape 67 = .ok (.getfield 9, 3) := by decide +kernel
theorem dX2_readTape_70 : decode cX2_readTape 70 = .ok (.iconst 0, 1) := by decide +kernel
theorem dX2_readTape_71 : decode cX2_readTape 71 = .ok (.aload_n 0, 1) := by decide +kernel
theorem dX2_readTape_72 : decode cX2_readTape 72 = .ok (.getfield 30, 3) := by decide +kernel
theorem dX2_readTape_75 : decode cX2_readTape 75 = .ok (.invokestatic 49, 3) := by decide +kernel
theorem dX2_readTape_78 : decode cX2_readTape 78 = .ok (.aload_n 0, 1) := by decide +kernel
theorem dX2_readTape_79 : decode cX2_readTape 79 = .ok (.aload_n 0, 1) := by decide +kernel
theorem dX2_readTape_80 : decode cX2_readTape 80 = .ok (.getfield 30, 3) := by decide +kernel
theorem dX2_readTape_83 : decode cX2_readTape 83 = .ok (.putfield 15, 3) := by decide +kernel
theorem dX2_readTape_86 : decode cX2_readTape 86 = .ok (.aload_n 0, 1) := by decide +kernel
theorem dX2_readTape_87 : decode cX2_readTape 87 = .ok (.getfield 33, 3) := by decide +kernel
theorem dX2_readTape_90 : decode cX2_readTape 90 = .ok (.ireturn, 1) := by decide +kernel
theorem dX2_peek_0 : decode cX2_peek 0 = .ok (.aload_n 0, 1) := by decide +kernel
theorem dX2_peek_1 : decode cX2_peek 1 = .ok (.getfield 36, 3) := by decide +kernel
theorem dX2_peek_4 : decode cX2_peek 4 = .ok (.aload_n 0, 1) := by decide +kernel
theorem dX2_peek_5 : decode cX2_peek 5 = .ok (.getfield 25, 3) := by decide +kernel
theorem dX2_peek_8 : decode cX2_peek 8 = .ok (.if_icmp .ge 15, 3) := by decide +kernel
theorem dX2_peek_11 : decode cX2_peek 11 = .ok (.aload_n 0, 1) := by decide +kernel
theorem dX2_peek_12 : decode cX2_peek 12 = .ok (.getfield 19, 3) := by decide +kernel
theorem dX2_peek_15 : decode cX2_peek 15 = .ok (.aload_n 0, 1) := by decide +kernel
theorem dX2_peek_16 : decode cX2_peek 16 = .ok (.getfield 36, 3) := by decide +kernel
theorem dX2_peek_19 : decode cX2_peek 19 = .ok (.iaload, 1) := by decide +kernel
theorem dX2_peek_20 : decode cX2_peek 20 = .ok (.goto 4, 3) := by decide +kernel
theorem dX2_peek_23 : decode cX2_peek 23 = .ok (.iconst (-1), 1) := by decide +kernel
theorem dX2_peek_24 : decode cX2_peek 24 = .ok (.ireturn, 1) := by decide +kernel
theorem dX2_findFault_0 : decode cX2_findFault 0 = .ok (.aload_n 0, 1) := by decide +kernel
theorem dX2_findFault_1 : decode cX2_findFault 1 = .ok (.getfield 39, 3) := by decide +kernel
theorem dX2_findFault_4 : decode cX2_findFault 4 = .ok (.iconst (-1), 1) := by decide +kernel
theorem dX2_findFault_5 : decode cX2_findFault 5 = .ok (.if_icmp .ne 11, 3) := by decide +kernel
theorem dX2_findFault_8 : decode cX2_findFault 8 = .ok (.aload_n 0, 1) := by decide +kernel
theorem dX2_findFault_9 : decode cX2_findFault 9 = .ok (.aload_n 0, 1) := by decide +kernel
theorem dX2_findFault_10 : decode cX2_findFault 10 = .ok (.getfield 36, 3) := by decide +kernel
theorem dX2_findFault_13 : decode cX2_findFault 13 = .ok (.putfield 39, 3) := by decide +kernel
theorem dX2_findFault_16 : decode cX2_findFault 16 = .ok (.return_, 1) := by decide +kernel
theorem dX2_emit_0 : decode cX2_emit 0 = .ok (.aload_n 0, 1) := by decide +kernel
theorem dX2_emit_1 : decode cX2_emit 1 = .ok (.getfield 30, 3) := by decide +kernel
theorem dX2_emit_4 : decode cX2_emit 4 = .ok (.bipush 80, 2) := by decide +kernel
theorem dX2_emit_6 : decode cX2_emit 6 = .ok (.if_icmp .ge 23, 3) := by decide +kernel
theorem dX2_emit_9 : decode cX2_emit 9 = .ok (.aload_n 0, 1) := by decide +kernel
theorem dX2_emit_10 : decode cX2_emit 10 = .ok (.getfield 22, 3) := by decide +kernel
theorem dX2_emit_13 : decode cX2_emit 13 = .ok (.aload_n 0, 1) := by decide +kernel
theorem dX2_emit_14 : decode cX2_emit 14 = .ok (.getfield 30, 3) := by decide +kernel
theorem dX2_emit_17 : decode cX2_emit 17 = .ok (.iload_n 1, 1) := by decide +kernel
theorem dX2_emit_18 : decode cX2_emit 18 = .ok (.iastore, 1) := by decide +kernel
theorem dX2_emit_19 : decode cX2_emit 19 = .ok (.aload_n 0, 1) := by decide +kernel
theorem dX2_emit_20 : decode cX2_emit 20 = .ok (.dup, 1) := by decide +kernel
theorem dX2_emit_21 : decode cX2_emit 21 = .ok (.getfield 30, 3) := by decide +kernel
theorem dX2_emit_24 : decode cX2_emit 24 = .ok (.iconst 1, 1) := by decide +kernel
theorem dX2_emit_25 : decode cX2_emit 25 = .ok (.iadd, 1) := by decide +kernel
theorem dX2_emit_26 : decode cX2_emit 26 = .ok (.putfield 30, 3) := by decide +kernel
theorem dX2_emit_29 : decode cX2_emit 29 = .ok (.return_, 1) := by decide +kernel
theorem dX2_readSum_0 : decode cX2_readSum 0 = .ok (.aload_n 0, 1) := by decide +kernel
theorem dX2_readSum_1 : decode cX2_readSum 1 = .ok (.iload_n 1, 1) := by decide +kernel
theorem dX2_readSum_2 : decode cX2_readSum 2 = .ok (.invokevirtual 55, 3) := by decide +kernel
theorem dX2_readSum_5 : decode cX2_readSum 5 = .ok (.iconst 0, 1) := by decide +kernel
theorem dX2_readSum_6 : decode cX2_readSum 6 = .ok (.istore_n 2, 1) := by decide +kernel
theorem dX2_readSum_7 : decode cX2_readSum 7 = .ok (.iload_n 2, 1) := by decide +kernel
theorem dX2_readSum_8 : decode cX2_readSum 8 = .ok (.bipush 80, 2) := by decide +kernel
theorem dX2_readSum_10 : decode cX2_readSum 10 = .ok (.if_icmp .ge 56, 3) := by decide +kernel
theorem dX2_readSum_13 : decode cX2_readSum 13 = .ok (.aload_n 0, 1) := by decide +kernel
theorem dX2_readSum_14 : decode cX2_readSum 14 = .ok (.getfield 39, 3) := by decide +kernel
theorem dX2_readSum_17 : decode cX2_readSum 17 = .ok (.iconst (-1), 1) := by decide +kernel
theorem dX2_readSum_18 : decode cX2_readSum 18 = .ok (.if_icmp .ne 48, 3) := by decide +kernel
theorem dX2_readSum_21 : decode cX2_readSum 21 = .ok (.aload_n 0, 1) := by decide +kernel
theorem dX2_readSum_22 : decode cX2_readSum 22 = .ok (.invokevirtual 58, 3) := by decide +kernel
theorem dX2_readSum_25 : decode cX2_readSum 25 = .ok (.istore_n 3, 1) := by decide +kernel
theorem dX2_readSum_26 : decode cX2_readSum 26 = .ok (.iload_n 3, 1) := by decide +kernel
theorem dX2_readSum_27 : decode cX2_readSum 27 = .ok (.bipush 43, 2) := by decide +kernel
theorem dX2_readSum_29 : decode cX2_readSum 29 = .ok (.if_icmp .eq 10, 3) := by decide +kernel
theorem dX2_readSum_32 : decode cX2_readSum 32 = .ok (.iload_n 3, 1) := by decide +kernel
theorem dX2_readSum_33 : decode cX2_readSum 33 = .ok (.bipush 45, 2) := by decide +kernel
theorem dX2_readSum_35 : decode cX2_readSum 35 = .ok (.if_icmp .eq 4, 3) := by decide +kernel
theorem dX2_readSum_38 : decode cX2_readSum 38 = .ok (.return_, 1) := by decide +kernel
theorem dX2_readSum_39 : decode cX2_readSum 39 = .ok (.aload_n 0, 1) := by decide +kernel
theorem dX2_readSum_40 : decode cX2_readSum 40 = .ok (.dup, 1) := by decide +kernel
theorem dX2_readSum_41 : decode cX2_readSum 41 = .ok (.getfield 36, 3) := by decide +kernel
theorem dX2_readSum_44 : decode cX2_readSum 44 = .ok (.iconst 1, 1) := by decide +kernel
theorem dX2_readSum_45 : decode cX2_readSum 45 = .ok (.iadd, 1) := by decide +kernel
theorem dX2_readSum_46 : decode cX2_readSum 46 = .ok (.putfield 36, 3) := by decide +kernel
theorem dX2_readSum_49 : decode cX2_readSum 49 = .ok (.aload_n 0, 1) := by decide +kernel
theorem dX2_readSum_50 : decode cX2_readSum 50 = .ok (.iload_n 1, 1) := by decide +kernel
theorem dX2_readSum_51 : decode cX2_readSum 51 = .ok (.invokevirtual 55, 3) := by decide +kernel
theorem dX2_readSum_54 : decode cX2_readSum 54 = .ok (.aload_n 0, 1) := by decide +kernel
theorem dX2_readSum_55 : decode cX2_readSum 55 = .ok (.iload_n 3, 1) := by decide +kernel
theorem dX2_readSum_56 : decode cX2_readSum 56 = .ok (.ineg, 1) := by decide +kernel
theorem dX2_readSum_57 : decode cX2_readSum 57 = .ok (.invokevirtual 62, 3) := by decide +kernel
theorem dX2_readSum_60 : decode cX2_readSum 60 = .ok (.iinc 2 1, 3) := by decide +kernel
theorem dX2_readSum_63 : decode cX2_readSum 63 = .ok (.goto (-56), 3) := by decide +kernel
theorem dX2_readSum_66 : decode cX2_readSum 66 = .ok (.return_, 1) := by decide +kernel
theorem dX2_readTerm_0 : decode cX2_readTerm 0 = .ok (.aload_n 0, 1) := by decide +kernel
theorem dX2_readTerm_1 : decode cX2_readTerm 1 = .ok (.iload_n 1, 1) := by decide +kernel
theorem dX2_readTerm_2 : decode cX2_readTerm 2 = .ok (.invokevirtual 65, 3) := by decide +kernel
theorem dX2_readTerm_5 : decode cX2_readTerm 5 = .ok (.iconst 0, 1) := by decide +kernel
theorem dX2_readTerm_6 : decode cX2_readTerm 6 = .ok (.istore_n 2, 1) := by decide +kernel
theorem dX2_readTerm_7 : decode cX2_readTerm 7 = .ok (.iload_n 2, 1) := by decide +kernel
theorem dX2_readTerm_8 : decode cX2_readTerm 8 = .ok (.bipush 80, 2) := by decide +kernel
theorem dX2_readTerm_10 : decode cX2_readTerm 10 = .ok (.if_icmp .ge 56, 3) := by decide +kernel
theorem dX2_readTerm_13 : decode cX2_readTerm 13 = .ok (.aload_n 0, 1) := by decide +kernel
theorem dX2_readTerm_14 : decode cX2_readTerm 14 = .ok (.getfield 39, 3) := by decide +kernel
theorem dX2_readTerm_17 : decode cX2_readTerm 17 = .ok (.iconst (-1), 1) := by decide +kernel
theorem dX2_readTerm_18 : decode cX2_readTerm 18 = .ok (.if_icmp .ne 48, 3) := by decide +kernel
theorem dX2_readTerm_21 : decode cX2_readTerm 21 = .ok (.aload_n 0, 1) := by decide +kernel
theorem dX2_readTerm_22 : decode cX2_readTerm 22 = .ok (.invokevirtual 58, 3) := by decide +kernel
theorem dX2_readTerm_25 : decode cX2_readTerm 25 = .ok (.istore_n 3, 1) := by decide +kernel
theorem dX2_readTerm_26 : decode cX2_readTerm 26 = .ok (.iload_n 3, 1) := by decide +kernel
theorem dX2_readTerm_27 : decode cX2_readTerm 27 = .ok (.bipush 42, 2) := by decide +kernel
theorem dX2_readTerm_29 : decode cX2_readTerm 29 = .ok (.if_icmp .eq 10, 3) := by decide +kernel
theorem dX2_readTerm_32 : decode cX2_readTerm 32 = .ok (.iload_n 3, 1) := by decide +kernel
theorem dX2_readTerm_33 : decode cX2_readTerm 33 = .ok (.bipush 47, 2) := by decide +kernel
theorem dX2_readTerm_35 : decode cX2_readTerm 35 = .ok (.if_icmp .eq 4, 3) := by decide +kernel
theorem dX2_readTerm_38 : decode cX2_readTerm 38 = .ok (.return_, 1) := by decide +kernel
theorem dX2_readTerm_39 : decode cX2_readTerm 39 = .ok (.aload_n 0, 1) := by decide +kernel
theorem dX2_readTerm_40 : decode cX2_readTerm 40 = .ok (.dup, 1) := by decide +kernel
theorem dX2_readTerm_41 : decode cX2_readTerm 41 = .ok (.getfield 36, 3) := by decide +kernel
theorem dX2_readTerm_44 : decode cX2_readTerm 44 = .ok (.iconst 1, 1) := by decide +kernel
theorem dX2_readTerm_45 : decode cX2_readTerm 45 = .ok (.iadd, 1) := by decide +kernel
theorem dX2_readTerm_46 : decode cX2_readTerm 46 = .ok (.putfield 36, 3) := by decide +kernel
theorem dX2_readTerm_49 : decode cX2_readTerm 49 = .ok (.aload_n 0, 1) := by decide +kernel
theorem dX2_readTerm_50 : decode cX2_readTerm 50 = .ok (.iload_n 1, 1) := by decide +kernel
theorem dX2_readTerm_51 : decode cX2_readTerm 51 = .ok (.invokevirtual 65, 3) := by decide +kernel
theorem dX2_readTerm_54 : decode cX2_readTerm 54 = .ok (.aload_n 0, 1) := by decide +kernel
theorem dX2_readTerm_55 : decode cX2_readTerm 55 = .ok (.iload_n 3, 1) := by decide +kernel
theorem dX2_readTerm_56 : decode cX2_readTerm 56 = .ok (.ineg, 1) := by decide +kernel
theorem dX2_readTerm_57 : decode cX2_readTerm 57 = .ok (.invokevirtual 62, 3) := by decide +kernel
theorem dX2_readTerm_60 : decode cX2_readTerm 60 = .ok (.iinc 2 1, 3) := by decide +kernel
theorem dX2_readTerm_63 : decode cX2_readTerm 63 = .ok (.goto (-56), 3) := by decide +kernel
theorem dX2_readTerm_66 : decode cX2_readTerm 66 = .ok (.return_, 1) := by decide +kernel
theorem dX2_readUnit_0 : decode cX2_readUnit 0 = .ok (.aload_n 0, 1) := by decide +kernel
theorem dX2_readUnit_1 : decode cX2_readUnit 1 = .ok (.invokevirtual 58, 3) := by decide +kernel
theorem dX2_readUnit_4 : decode cX2_readUnit 4 = .ok (.istore_n 2, 1) := by decide +kernel
theorem dX2_readUnit_5 : decode cX2_readUnit 5 = .ok (.iload_n 2, 1) := by decide +kernel
theorem dX2_readUnit_6 : decode cX2_readUnit 6 = .ok (.invokestatic 68, 3) := by decide +kernel
theorem dX2_readUnit_9 : decode cX2_readUnit 9 = .ok (.ifCond .eq 10, 3) := by decide +kernel
theorem dX2_readUnit_12 : decode cX2_readUnit 12 = .ok (.aload_n 0, 1) := by decide +kernel
theorem dX2_readUnit_13 : decode cX2_readUnit 13 = .ok (.invokevirtual 72, 3) := by decide +kernel
theorem dX2_readUnit_16 : decode cX2_readUnit 16 = .ok (.goto 95, 3) := by decide +kernel
theorem dX2_readUnit_19 : decode cX2_readUnit 19 = .ok (.iload_n 2, 1) := by decide +kernel
theorem dX2_readUnit_20 : decode cX2_readUnit 20 = .ok (.invokestatic 75, 3) := by decide +kernel
theorem dX2_readUnit_23 : decode cX2_readUnit 23 = .ok (.ifCond .eq 32, 3) := by decide +kernel
theorem dX2_readUnit_26 : decode cX2_readUnit 26 = .ok (.aload_n 0, 1) := by decide +kernel
theorem dX2_readUnit_27 : decode cX2_readUnit 27 = .ok (.dup, 1) := by decide +kernel
theorem dX2_readUnit_28 : decode cX2_readUnit 28 = .ok (.getfield 36, 3) := by decide +kernel
theorem dX2_readUnit_31 : decode cX2_readUnit 31 = .ok (.iconst 1, 1) := by decide +kernel
theorem dX2_readUnit_32 : decode cX2_readUnit 32 = .ok (.iadd, 1) := by decide +kernel
theorem dX2_readUnit_33 : decode cX2_readUnit 33 = .ok (.putfield 36, 3) := by decide +kernel
theorem dX2_readUnit_36 : decode cX2_readUnit 36 = .ok (.aload_n 0, 1) := by decide +kernel
theorem dX2_readUnit_37 : decode cX2_readUnit 37 = .ok (.dup, 1) := by decide +kernel
theorem dX2_readUnit_38 : decode cX2_readUnit 38 = .ok (.getfield 33, 3) := by decide +kernel
theorem dX2_readUnit_41 : decode cX2_readUnit 41 = .ok (.iconst 1, 1) := by decide +kernel
theorem dX2_readUnit_42 : decode cX2_readUnit 42 = .ok (.iadd, 1) := by decide +kernel
theorem dX2_readUnit_43 : decode cX2_readUnit 43 = .ok (.putfield 33, 3) := by decide +kernel
theorem dX2_readUnit_46 : decode cX2_readUnit 46 = .ok (.aload_n 0, 1) := by decide +kernel
theorem dX2_readUnit_47 : decode cX2_readUnit 47 = .ok (.iload_n 2, 1) := by decide +kernel
theorem dX2_readUnit_48 : decode cX2_readUnit 48 = .ok (.ineg, 1) := by decide +kernel
theorem dX2_readUnit_49 : decode cX2_readUnit 49 = .ok (.invokevirtual 62, 3) := by decide +kernel
theorem dX2_readUnit_52 : decode cX2_readUnit 52 = .ok (.goto 59, 3) := by decide +kernel
theorem dX2_readUnit_55 : decode cX2_readUnit 55 = .ok (.iload_n 2, 1) := by decide +kernel
theorem dX2_readUnit_56 : decode cX2_readUnit 56 = .ok (.bipush 40, 2) := by decide +kernel
theorem dX2_readUnit_58 : decode cX2_readUnit 58 = .ok (.if_icmp .ne 12, 3) := by decide +kernel
theorem dX2_readUnit_61 : decode cX2_readUnit 61 = .ok (.aload_n 0, 1) := by decide +kernel
theorem dX2_readUnit_62 : decode cX2_readUnit 62 = .ok (.iload_n 1, 1) := by decide +kernel
theorem dX2_readUnit_63 : decode cX2_readUnit 63 = .ok (.iconst 0, 1) := by decide +kernel
theorem dX2_readUnit_64 : decode cX2_readUnit 64 = .ok (.invokevirtual 78, 3) := by decide +kernel
theorem dX2_readUnit_67 : decode cX2_readUnit 67 = .ok (.goto 44, 3) := by decide +kernel
theorem dX2_readUnit_70 : decode cX2_readUnit 70 = .ok (.iload_n 2, 1) := by decide +kernel
theorem dX2_readUnit_71 : decode cX2_readUnit 71 = .ok (.bipush 60, 2) := by decide +kernel
theorem dX2_readUnit_73 : decode cX2_readUnit 73 = .ok (.if_icmp .eq 9, 3) := by decide +kernel
theorem dX2_readUnit_76 : decode cX2_readUnit 76 = .ok (.iload_n 2, 1) := by decide +kernel
theorem dX2_readUnit_77 : decode cX2_readUnit 77 = .ok (.bipush 62, 2) := by decide +kernel
theorem dX2_readUnit_79 : decode cX2_readUnit 79 = .ok (.if_icmp .ne 28, 3) := by decide +kernel
theorem dX2_readUnit_82 : decode cX2_readUnit 82 = .ok (.aload_n 0, 1) := by decide +kernel
theorem dX2_readUnit_83 : decode cX2_readUnit 83 = .ok (.dup, 1) := by decide +kernel
theorem dX2_readUnit_84 : decode cX2_readUnit 84 = .ok (.getfield 36, 3) := by decide +kernel
theorem dX2_readUnit_87 : decode cX2_readUnit 87 = .ok (.iconst 1, 1) := by decide +kernel
theorem dX2_readUnit_88 : decode cX2_readUnit 88 = .ok (.iadd, 1) := by decide +kernel
theorem dX2_readUnit_89 : decode cX2_readUnit 89 = .ok (.putfield 36, 3) := by decide +kernel
theorem dX2_readUnit_92 : decode cX2_readUnit 92 = .ok (.aload_n 0, 1) := by decide +kernel
theorem dX2_readUnit_93 : decode cX2_readUnit 93 = .ok (.iload_n 1, 1) := by decide +kernel
theorem dX2_readUnit_94 : decode cX2_readUnit 94 = .ok (.iconst 1, 1) := by decide +kernel
theorem dX2_readUnit_95 : decode cX2_readUnit 95 = .ok (.invokevirtual 78, 3) := by decide +kernel
theorem dX2_readUnit_98 : decode cX2_readUnit 98 = .ok (.aload_n 0, 1) := by decide +kernel
theorem dX2_readUnit_99 : decode cX2_readUnit 99 = .ok (.iload_n 2, 1) := by decide +kernel
theorem dX2_readUnit_100 : decode cX2_readUnit 100 = .ok (.ineg, 1) := by decide +kernel
theorem dX2_readUnit_101 : decode cX2_readUnit 101 = .ok (.invokevirtual 62, 3) := by decide +kernel
theorem dX2_readUnit_104 : decode cX2_readUnit 104 = .ok (.goto 7, 3) := by decide +kernel
theorem dX2_readUnit_107 : decode cX2_readUnit 107 = .ok (.aload_n 0, 1) := by decide +kernel
theorem dX2_readUnit_108 : decode cX2_readUnit 108 = .ok (.invokevirtual 46, 3) := by decide +kernel
theorem dX2_readUnit_111 : decode cX2_readUnit 111 = .ok (.return_, 1) := by decide +kernel
theorem dX2_readNumber_0 : decode cX2_readNumber 0 = .ok (.iconst 0, 1) := by decide +kernel
theorem dX2_readNumber_1 : decode cX2_readNumber 1 = .ok (.istore_n 1, 1) := by decide +kernel
theorem dX2_readNumber_2 : decode cX2_readNumber 2 = .ok (.iconst 0, 1) := by decide +kernel
theorem dX2_readNumber_3 : decode cX2_readNumber 3 = .ok (.istore_n 2, 1) := by decide +kernel
theorem dX2_readNumber_4 : decode cX2_readNumber 4 = .ok (.iload_n 2, 1) := by decide +kernel
theorem dX2_readNumber_5 : decode cX2_readNumber 5 = .ok (.bipush 6, 2) := by decide +kernel
theorem dX2_readNumber_7 : decode cX2_readNumber 7 = .ok (.if_icmp .ge 42, 3) := by decide +kernel
theorem dX2_readNumber_10 : decode cX2_readNumber 10 = .ok (.aload_n 0, 1) := by decide +kernel
theorem dX2_readNumber_11 : decode cX2_readNumber 11 = .ok (.invokevirtual 58, 3) := by decide +kernel
theorem dX2_readNumber_14 : decode cX2_readNumber 14 = .ok (.invokestatic 68, 3) := by decide +kernel
theorem dX2_readNumber_17 : decode cX2_readNumber 17 = .ok (.ifCond .eq 32, 3) := by decide +kernel
theorem dX2_readNumber_20 : decode cX2_readNumber 20 = .ok (.iload_n 1, 1) := by decide +kernel
theorem dX2_readNumber_21 : decode cX2_readNumber 21 = .ok (.bipush 10, 2) := by decide +kernel
theorem dX2_readNumber_23 : decode cX2_readNumber 23 = .ok (.imul, 1) := by decide +kernel
theorem dX2_readNumber_24 : decode cX2_readNumber 24 = .ok (.aload_n 0, 1) := by decide +kernel
theorem dX2_readNumber_25 : decode cX2_readNumber 25 = .ok (.invokevirtual 58, 3) := by decide +kernel
theorem dX2_readNumber_28 : decode cX2_readNumber 28 = .ok (.iadd, 1) := by decide +kernel
theorem dX2_readNumber_29 : decode cX2_readNumber 29 = .ok (.bipush 48, 2) := by decide +kernel
theorem dX2_readNumber_31 : decode cX2_readNumber 31 = .ok (.isub, 1) := by decide +kernel
theorem dX2_readNumber_32 : decode cX2_readNumber 32 = .ok (.istore_n 1, 1) := by decide +kernel
theorem dX2_readNumber_33 : decode cX2_readNumber 33 = .ok (.aload_n 0, 1) := by decide +kernel
theorem dX2_readNumber_34 : decode cX2_readNumber 34 = .ok (.dup, 1) := by decide +kernel
theorem dX2_readNumber_35 : decode cX2_readNumber 35 = .ok (.getfield 36, 3) := by decide +kernel
theorem dX2_readNumber_38 : decode cX2_readNumber 38 = .ok (.iconst 1, 1) := by decide +kernel
theorem dX2_readNumber_39 : decode cX2_readNumber 39 = .ok (.iadd, 1) := by decide +kernel
theorem dX2_readNumber_40 : decode cX2_readNumber 40 = .ok (.putfield 36, 3) := by decide +kernel
theorem dX2_readNumber_43 : decode cX2_readNumber 43 = .ok (.iinc 2 1, 3) := by decide +kernel
theorem dX2_readNumber_46 : decode cX2_readNumber 46 = .ok (.goto (-42), 3) := by decide +kernel
theorem dX2_readNumber_49 : decode cX2_readNumber 49 = .ok (.aload_n 0, 1) := by decide +kernel
theorem dX2_readNumber_50 : decode cX2_readNumber 50 = .ok (.dup, 1) := by decide +kernel
theorem dX2_readNumber_51 : decode cX2_readNumber 51 = .ok (.getfield 33, 3) := by decide +kernel
theorem dX2_readNumber_54 : decode cX2_readNumber 54 = .ok (.iconst 1, 1) := by decide +kernel
theorem dX2_readNumber_55 : decode cX2_readNumber 55 = .ok (.iadd, 1) := by decide +kernel
theorem dX2_readNumber_56 : decode cX2_readNumber 56 = .ok (.putfield 33, 3) := by decide +kernel
theorem dX2_readNumber_59 : decode cX2_readNumber 59 = .ok (.aload_n 0, 1) := by decide +kernel
theorem dX2_readNumber_60 : decode cX2_readNumber 60 = .ok (.iload_n 1, 1) := by decide +kernel
theorem dX2_readNumber_61 : decode cX2_readNumber 61 = .ok (.invokevirtual 62, 3) := by decide +kernel
theorem dX2_readNumber_64 : decode cX2_readNumber 64 = .ok (.return_, 1) := by decide +kernel
theorem dX2_readBracket_0 : decode cX2_readBracket 0 = .ok (.aload_n 0, 1) := by decide +kernel
theorem dX2_readBracket_1 : decode cX2_readBracket 1 = .ok (.invokevirtual 58, 3) := by decide +kernel
theorem dX2_readBracket_4 : decode cX2_readBracket 4 = .ok (.bipush 40, 2) := by decide +kernel
theorem dX2_readBracket_6 : decode cX2_readBracket 6 = .ok (.if_icmp .ne 9, 3) := by decide +kernel
theorem dX2_readBracket_9 : decode cX2_readBracket 9 = .ok (.iload_n 1, 1) := by decide +kernel
theorem dX2_readBracket_10 : decode cX2_readBracket 10 = .ok (.bipush 6, 2) := by decide +kernel
theorem dX2_readBracket_12 : decode cX2_readBracket 12 = .ok (.if_icmp .lt 8, 3) := by decide +kernel
theorem dX2_readBracket_15 : decode cX2_readBracket 15 = .ok (.aload_n 0, 1) := by decide +kernel
theorem dX2_readBracket_16 : decode cX2_readBracket 16 = .ok (.invokevirtual 46, 3) := by decide +kernel
theorem dX2_readBracket_19 : decode cX2_readBracket 19 = .ok (.return_, 1) := by decide +kernel
theorem dX2_readBracket_20 : decode cX2_readBracket 20 = .ok (.aload_n 0, 1) := by decide +kernel
theorem dX2_readBracket_21 : decode cX2_readBracket 21 = .ok (.dup, 1) := by decide +kernel
theorem dX2_readBracket_22 : decode cX2_readBracket 22 = .ok (.getfield 36, 3) := by decide +kernel
theorem dX2_readBracket_25 : decode cX2_readBracket 25 = .ok (.iconst 1, 1) := by decide +kernel
theorem dX2_readBracket_26 : decode cX2_readBracket 26 = .ok (.iadd, 1) := by decide +kernel
theorem dX2_readBracket_27 : decode cX2_readBracket 27 = .ok (.putfield 36, 3) := by decide +kernel
theorem dX2_readBracket_30 : decode cX2_readBracket 30 = .ok (.aload_n 0, 1) := by decide +kernel
theorem dX2_readBracket_31 : decode cX2_readBracket 31 = .ok (.iload_n 1, 1) := by decide +kernel
theorem dX2_readBracket_32 : decode cX2_readBracket 32 = .ok (.iconst 1, 1) := by decide +kernel
theorem dX2_readBracket_33 : decode cX2_readBracket 33 = .ok (.iadd, 1) := by decide +kernel
theorem dX2_readBracket_34 : decode cX2_readBracket 34 = .ok (.invokevirtual 42, 3) := by decide +kernel
theorem dX2_readBracket_37 : decode cX2_readBracket 37 = .ok (.iload_n 2, 1) := by decide +kernel
theorem dX2_readBracket_38 : decode cX2_readBracket 38 = .ok (.ifCond .eq 24, 3) := by decide +kernel
theorem dX2_readBracket_41 : decode cX2_readBracket 41 = .ok (.aload_n 0, 1) := by decide +kernel
theorem dX2_readBracket_42 : decode cX2_readBracket 42 = .ok (.bipush 44, 2) := by decide +kernel
theorem dX2_readBracket_44 : decode cX2_readBracket 44 = .ok (.invokevirtual 82, 3) := by decide +kernel
theorem dX2_readBracket_47 : decode cX2_readBracket 47 = .ok (.aload_n 0, 1) := by decide +kernel
theorem dX2_readBracket_48 : decode cX2_readBracket 48 = .ok (.getfield 39, 3) := by decide +kernel
theorem dX2_readBracket_51 : decode cX2_readBracket 51 = .ok (.iconst (-1), 1) := by decide +kernel
theorem dX2_readBracket_52 : decode cX2_readBracket 52 = .ok (.if_icmp .ne 10, 3) := by decide +kernel
theorem dX2_readBracket_55 : decode cX2_readBracket 55 = .ok (.aload_n 0, 1) := by decide +kernel
theorem dX2_readBracket_56 : decode cX2_readBracket 56 = .ok (.iload_n 1, 1) := by decide +kernel
theorem dX2_readBracket_57 : decode cX2_readBracket 57 = .ok (.iconst 1, 1) := by decide +kernel
theorem dX2_readBracket_58 : decode cX2_readBracket 58 = .ok (.iadd, 1) := by decide +kernel
theorem dX2_readBracket_59 : decode cX2_readBracket 59 = .ok (.invokevirtual 42, 3) := by decide +kernel
theorem dX2_readBracket_62 : decode cX2_readBracket 62 = .ok (.aload_n 0, 1) := by decide +kernel
theorem dX2_readBracket_63 : decode cX2_readBracket 63 = .ok (.bipush 41, 2) := by decide +kernel
theorem dX2_readBracket_65 : decode cX2_readBracket 65 = .ok (.invokevirtual 82, 3) := by decide +kernel
theorem dX2_readBracket_68 : decode cX2_readBracket 68 = .ok (.return_, 1) := by decide +kernel
theorem dX2_expect_0 : decode cX2_expect 0 = .ok (.aload_n 0, 1) := by decide +kernel
theorem dX2_expect_1 : decode cX2_expect 1 = .ok (.getfield 39, 3) := by decide +kernel
theorem dX2_expect_4 : decode cX2_expect 4 = .ok (.iconst (-1), 1) := by decide +kernel
theorem dX2_expect_5 : decode cX2_expect 5 = .ok (.if_icmp .eq 4, 3) := by decide +kernel
theorem dX2_expect_8 : decode cX2_expect 8 = .ok (.return_, 1) := by decide +kernel
theorem dX2_expect_9 : decode cX2_expect 9 = .ok (.aload_n 0, 1) := by decide +kernel
theorem dX2_expect_10 : decode cX2_expect 10 = .ok (.invokevirtual 58, 3) := by decide +kernel
theorem dX2_expect_13 : decode cX2_expect 13 = .ok (.iload_n 1, 1) := by decide +kernel
theorem dX2_expect_14 : decode cX2_expect 14 = .ok (.if_icmp .ne 16, 3) := by decide +kernel
theorem dX2_expect_17 : decode cX2_expect 17 = .ok (.aload_n 0, 1) := by decide +kernel
theorem dX2_expect_18 : decode cX2_expect 18 = .ok (.dup, 1) := by decide +kernel
theorem dX2_expect_19 : decode cX2_expect 19 = .ok (.getfield 36, 3) := by decide +kernel
theorem dX2_expect_22 : decode cX2_expect 22 = .ok (.iconst 1, 1) := by decide +kernel
theorem dX2_expect_23 : decode cX2_expect 23 = .ok (.iadd, 1) := by decide +kernel
theorem dX2_expect_24 : decode cX2_expect 24 = .ok (.putfield 36, 3) := by decide +kernel
theorem dX2_expect_27 : decode cX2_expect 27 = .ok (.goto 7, 3) := by decide +kernel
theorem dX2_expect_30 : decode cX2_expect 30 = .ok (.aload_n 0, 1) := by decide +kernel
theorem dX2_expect_31 : decode cX2_expect 31 = .ok (.invokevirtual 46, 3) := by decide +kernel
theorem dX2_expect_34 : decode cX2_expect 34 = .ok (.return_, 1) := by decide +kernel
theorem dX2_isDigit_0 : decode cX2_isDigit 0 = .ok (.iload_n 0, 1) := by decide +kernel
theorem dX2_isDigit_1 : decode cX2_isDigit 1 = .ok (.bipush 48, 2) := by decide +kernel
theorem dX2_isDigit_3 : decode cX2_isDigit 3 = .ok (.if_icmp .lt 13, 3) := by decide +kernel
theorem dX2_isDigit_6 : decode cX2_isDigit 6 = .ok (.iload_n 0, 1) := by decide +kernel
theorem dX2_isDigit_7 : decode cX2_isDigit 7 = .ok (.bipush 57, 2) := by decide +kernel
theorem dX2_isDigit_9 : decode cX2_isDigit 9 = .ok (.if_icmp .gt 7, 3) := by decide +kernel
theorem dX2_isDigit_12 : decode cX2_isDigit 12 = .ok (.iconst 1, 1) := by decide +kernel
theorem dX2_isDigit_13 : decode cX2_isDigit 13 = .ok (.goto 4, 3) := by decide +kernel
theorem dX2_isDigit_16 : decode cX2_isDigit 16 = .ok (.iconst 0, 1) := by decide +kernel
theorem dX2_isDigit_17 : decode cX2_isDigit 17 = .ok (.ireturn, 1) := by decide +kernel
theorem dX2_isName_0 : decode cX2_isName 0 = .ok (.iload_n 0, 1) := by decide +kernel
theorem dX2_isName_1 : decode cX2_isName 1 = .ok (.tableswitch 85 97 113 #[83, 83, 85, 85, 85, 85, 85, 83, 85, 85, 83, 83, 85, 85, 85, 83, 83], 83) := by decide +kernel
theorem dX2_isName_84 : decode cX2_isName 84 = .ok (.iconst 1, 1) := by decide +kernel
theorem dX2_isName_85 : decode cX2_isName 85 = .ok (.ireturn, 1) := by decide +kernel
theorem dX2_isName_86 : decode cX2_isName 86 = .ok (.iconst 0, 1) := by decide +kernel
theorem dX2_isName_87 : decode cX2_isName 87 = .ok (.ireturn, 1) := by decide +kernel
theorem dX3_init_0 : decode cX3_init 0 = .ok (.aload_n 0, 1) := by decide +kernel
theorem dX3_init_1 : decode cX3_init 1 = .ok (.invokespecial 1, 3) := by decide +kernel
theorem dX3_init_4 : decode cX3_init 4 = .ok (.aload_n 0, 1) := by decide +kernel
theorem dX3_init_5 : decode cX3_init 5 = .ok (.lconst 1, 1) := by decide +kernel
theorem dX3_init_6 : decode cX3_init 6 = .ok (.putfield 7, 3) := by decide +kernel
theorem dX3_init_9 : decode cX3_init 9 = .ok (.return_, 1) := by decide +kernel
theorem dX3_put_0 : decode cX3_put 0 = .ok (.aload_n 0, 1) := by decide +kernel
theorem dX3_put_1 : decode cX3_put 1 = .ok (.iconst 1, 1) := by decide +kernel
theorem dX3_put_2 : decode cX3_put 2 = .ok (.putfield 13, 3) := by decide +kernel
theorem dX3_put_5 : decode cX3_put 5 = .ok (.aload_n 0, 1) := by decide +kernel
theorem dX3_put_6 : decode cX3_put 6 = .ok (.lconst 0, 1) := by decide +kernel
theorem dX3_put_7 : decode cX3_put 7 = .ok (.putfield 17, 3) := by decide +kernel
theorem dX3_put_10 : decode cX3_put 10 = .ok (.aload_n 0, 1) := by decide +kernel
theorem dX3_put_11 : decode cX3_put 11 = .ok (.lconst 1, 1) := by decide +kernel
theorem dX3_put_12 : decode cX3_put 12 = .ok (.putfield 7, 3) := by decide +kernel
theorem dX3_put_15 : decode cX3_put 15 = .ok (.lload_n 1, 1) := by decide +kernel
theorem dX3_put_16 : decode cX3_put 16 = .ok (.invokestatic 20, 3) := by decide +kernel
theorem dX3_put_19 : decode cX3_put 19 = .ok (.lload_n 3, 1) := by decide +kernel
theorem dX3_put_20 : decode cX3_put 20 = .ok (.invokestatic 20, 3) := by decide +kernel
theorem dX3_put_23 : decode cX3_put 23 = .ok (.invokestatic 26, 3) := by decide +kernel
theorem dX3_put_26 : decode cX3_put 26 = .ok (.lstore 5, 2) := by decide +kernel
theorem dX3_put_28 : decode cX3_put 28 = .ok (.lload_n 3, 1) := by decide +kernel
theorem dX3_put_29 : decode cX3_put 29 = .ok (.lconst 0, 1) := by decide +kernel
theorem dX3_put_30 : decode cX3_put 30 = .ok (.lcmp, 1) := by decide +kernel
theorem dX3_put_31 : decode cX3_put 31 = .ok (.ifCond .eq 10, 3) := by decide +kernel
theorem dX3_put_34 : decode cX3_put 34 = .ok (.lload 5, 2) := by decide +kernel
theorem dX3_put_36 : decode cX3_put 36 = .ok (.lconst 0, 1) := by decide +kernel
theorem dX3_put_37 : decode cX3_put 37 = .ok (.lcmp, 1) := by decide +kernel
theorem dX3_put_38 : decode cX3_put 38 = .ok (.ifCond .ne 4, 3) := by decide +kernel
theorem dX3_put_41 : decode cX3_put 41 = .ok (.return_, 1) := by decide +kernel
theorem dX3_put_42 : decode cX3_put 42 = .ok (.lload_n 3, 1) := by decide +kernel
theorem dX3_put_43 : decode cX3_put 43 = .ok (.lconst 0, 1) := by decide +kernel
theorem dX3_put_44 : decode cX3_put 44 = .ok (.lcmp, 1) := by decide +kernel
theorem dX3_put_45 : decode cX3_put 45 = .ok (.ifCond .ge 9, 3) := by decide +kernel
theorem dX3_put_48 : decode cX3_put 48 = .ok (.ldc2_w 30, 3) := by decide +kernel
theorem dX3_put_51 : decode cX3_put 51 = .ok (.goto 4, 3) := by decide +kernel
theorem dX3_put_54 : decode cX3_put 54 = .ok (.lconst 1, 1) := by decide +kernel
theorem dX3_put_55 : decode cX3_put 55 = .ok (.lstore 7, 2) := by decide +kernel
theorem dX3_put_57 : decode cX3_put 57 = .ok (.lload 7, 2) := by decide +kernel
theorem dX3_put_59 : decode cX3_put 59 = .ok (.lload_n 1, 1) := by decide +kernel
theorem dX3_put_60 : decode cX3_put 60 = .ok (.lmul, 1) := by decide +kernel
theorem dX3_put_61 : decode cX3_put 61 = .ok (.lload 5, 2) := by decide +kernel
theorem dX3_put_63 : decode cX3_put 63 = .ok (.ldiv, 1) := by decide +kernel
theorem dX3_put_64 : decode cX3_put 64 = .ok (.lstore 9, 2) := by decide +kernel
theorem dX3_put_66 : decode cX3_put 66 = .ok (.lload 7, 2) := by decide +kernel
theorem dX3_put_68 : decode cX3_put 68 = .ok (.lload_n 3, 1) := by decide +kernel
theorem dX3_put_69 : decode cX3_put 69 = .ok (.lmul, 1) := by decide +kernel
theorem dX3_put_70 : decode cX3_put 70 = .ok (.lload 5, 2) := by decide +kernel
theorem dX3_put_72 : decode cX3_put 72 = .ok (.ldiv, 1) := by decide +kernel
theorem dX3_put_73 : decode cX3_put 73 = .ok (.lstore 11, 2) := by decide +kernel
theorem dX3_put_75 : decode cX3_put 75 = .ok (.lload 9, 2) := by decide +kernel
theorem dX3_put_77 : decode cX3_put 77 = .ok (.invokestatic 20, 3) := by decide +kernel
theorem dX3_put_80 : decode cX3_put 80 = .ok (.ldc2_w 32, 3) := by decide +kernel
theorem dX3_put_83 : decode cX3_put 83 = .ok (.lcmp, 1) := by decide +kernel
theorem dX3_put_84 : decode cX3_put 84 = .ok (.ifCond .gt 29, 3) := by decide +kernel
theorem dX3_put_87 : decode cX3_put 87 = .ok (.lload 11, 2) := by decide +kernel
theorem dX3_put_89 : decode cX3_put 89 = .ok (.ldc2_w 32, 3) := by decide +kernel
theorem dX3_put_92 : decode cX3_put 92 = .ok (.lcmp, 1) := by decide +kernel
theorem dX3_put_93 : decode cX3_put 93 = .ok (.ifCond .gt 20, 3) := by decide +kernel
theorem dX3_put_96 : decode cX3_put 96 = .ok (.aload_n 0, 1) := by decide +kernel
theorem dX3_put_97 : decode cX3_put 97 = .ok (.iconst 0, 1) := by decide +kernel
theorem dX3_put_98 : decode cX3_put 98 = .ok (.putfield 13, 3) := by decide +kernel
theorem dX3_put_101 : decode cX3_put 101 = .ok (.aload_n 0, 1) := by decide +kernel
theorem dX3_put_102 : decode cX3_put 102 = .ok (.lload 9, 2) := by decide +kernel
theorem dX3_put_104 : decode cX3_put 104 = .ok (.putfield 17, 3) := by decide +kernel
theorem dX3_put_107 : decode cX3_put 107 = .ok (.aload_n 0, 1) := by decide +kernel
theorem dX3_put_108 : decode cX3_put 108 = .ok (.lload 11, 2) := by decide +kernel
theorem dX3_put_110 : decode cX3_put 110 = .ok (.putfield 7, 3) := by decide +kernel
theorem dX3_put_113 : decode cX3_put 113 = .ok (.return_, 1) := by decide +kernel
theorem dX3_commonPart_0 : decode cX3_commonPart 0 = .ok (.iconst 0, 1) := by decide +kernel
theorem dX3_commonPart_1 : decode cX3_commonPart 1 = .ok (.istore 4, 2) := by decide +kernel
theorem dX3_commonPart_3 : decode cX3_commonPart 3 = .ok (.iload 4, 2) := by decide +kernel
theorem dX3_commonPart_5 : decode cX3_commonPart 5 = .ok (.sipush 200, 3) := by decide +kernel
theorem dX3_commonPart_8 : decode cX3_commonPart 8 = .ok (.if_icmp .ge 25, 3) := by decide +kernel
theorem dX3_commonPart_11 : decode cX3_commonPart 11 = .ok (.lload_n 2, 1) := by decide +kernel
theorem dX3_commonPart_12 : decode cX3_commonPart 12 = .ok (.lconst 0, 1) := by decide +kernel
theorem dX3_commonPart_13 : decode cX3_commonPart 13 = .ok (.lcmp, 1) := by decide +kernel
theorem dX3_commonPart_14 : decode cX3_commonPart 14 = .ok (.ifCond .eq 19, 3) := by decide +kernel
theorem dX3_commonPart_17 : decode cX3_commonPart 17 = .ok (.lload_n 0, 1) := by decide +kernel
theorem dX3_commonPart_18 : decode cX3_commonPart 18 = .ok (.lload_n 2, 1) := by decide +kernel
theorem dX3_commonPart_19 : decode cX3_commonPart 19 = .ok (.lrem, 1) := by decide +kernel
theorem dX3_commonPart_20 : decode cX3_commonPart 20 = .ok (.lstore 5, 2) := by decide +kernel
theorem dX3_commonPart_22 : decode cX3_commonPart 22 = .ok (.lload_n 2, 1) := by decide +kernel
theorem dX3_commonPart_23 : decode cX3_commonPart 23 = .ok (.lstore_n 0, 1) := by decide +kernel
theorem dX3_commonPart_24 : decode cX3_commonPart 24 = .ok (.lload 5, 2) := by decide +kernel
theorem dX3_commonPart_26 : decode cX3_commonPart 26 = .ok (.lstore_n 2, 1) := by decide +kernel
theorem dX3_commonPart_27 : decode cX3_commonPart 27 = .ok (.iinc 4 1, 3) := by decide +kernel
theorem dX3_commonPart_30 : decode cX3_commonPart 30 = .ok (.goto (-27), 3) := by decide +kernel
theorem dX3_commonPart_33 : decode cX3_commonPart 33 = .ok (.lload_n 0, 1) := by decide +kernel
theorem dX3_commonPart_34 : decode cX3_commonPart 34 = .ok (.lreturn, 1) := by decide +kernel
theorem dX4_init_0 : decode cX4_init 0 = .ok (.aload_n 0, 1) := by decide +kernel
theorem dX4_init_1 : decode cX4_init 1 = .ok (.invokespecial 3, 3) := by decide +kernel
theorem dX4_init_4 : decode cX4_init 4 = .ok (.aload_n 0, 1) := by decide +kernel
theorem dX4_init_5 : decode cX4_init 5 = .ok (.bipush 8, 2) := by decide +kernel
theorem dX4_init_7 : decode cX4_init 7 = .ok (.newarray .int, 2) := by decide +kernel
theorem dX4_init_9 : decode cX4_init 9 = .ok (.putfield 9, 3) := by decide +kernel
theorem dX4_init_12 : decode cX4_init 12 = .ok (.aload_n 0, 1) := by decide +kernel
theorem dX4_init_13 : decode cX4_init 13 = .ok (.iconst (-1), 1) := by decide +kernel
theorem dX4_init_14 : decode cX4_init 14 = .ok (.putfield 15, 3) := by decide +kernel
theorem dX4_init_17 : decode cX4_init 17 = .ok (.aload_n 0, 1) := by decide +kernel
theorem dX4_init_18 : decode cX4_init 18 = .ok (.bipush 8, 2) := by decide +kernel
theorem dX4_init_20 : decode cX4_init 20 = .ok (.newarray .int, 2) := by decide +kernel
theorem dX4_init_22 : decode cX4_init 22 = .ok (.putfield 19, 3) := by decide +kernel
theorem dX4_init_25 : decode cX4_init 25 = .ok (.aload_n 0, 1) := by decide +kernel
theorem dX4_init_26 : decode cX4_init 26 = .ok (.iconst (-1), 1) := by decide +kernel
theorem dX4_init_27 : decode cX4_init 27 = .ok (.putfield 22, 3) := by decide +kernel
theorem dX4_init_30 : decode cX4_init 30 = .ok (.aload_n 0, 1) := by decide +kernel
theorem dX4_init_31 : decode cX4_init 31 = .ok (.iconst (-1), 1) := by decide +kernel
theorem dX4_init_32 : decode cX4_init 32 = .ok (.putfield 25, 3) := by decide +kernel
theorem dX4_init_35 : decode cX4_init 35 = .ok (.return_, 1) := by decide +kernel
theorem dX4_placeOf_0 : decode cX4_placeOf 0 = .ok (.iconst 0, 1) := by decide +kernel
theorem dX4_placeOf_1 : decode cX4_placeOf 1 = .ok (.istore_n 2, 1) := by decide +kernel
theorem dX4_placeOf_2 : decode cX4_placeOf 2 = .ok (.iload_n 2, 1) := by decide +kernel
theorem dX4_placeOf_3 : decode cX4_placeOf 3 = .ok (.aload_n 0, 1) := by decide +kernel
theorem dX4_placeOf_4 : decode cX4_placeOf 4 = .ok (.getfield 28, 3) := by decide +kernel
theorem dX4_placeOf_7 : decode cX4_placeOf 7 = .ok (.if_icmp .ge 27, 3) := by decide +kernel
theorem dX4_placeOf_10 : decode cX4_placeOf 10 = .ok (.iload_n 2, 1) := by decide +kernel
theorem dX4_placeOf_11 : decode cX4_placeOf 11 = .ok (.bipush 8, 2) := by decide +kernel
theorem dX4_placeOf_13 : decode cX4_placeOf 13 = .ok (.if_icmp .ge 21, 3) := by decide +kernel
theorem dX4_placeOf_16 : decode cX4_placeOf 16 = .ok (.aload_n 0, 1) := by decide +kernel
theorem dX4_placeOf_17 : decode cX4_placeOf 17 = .ok (.getfield 19, 3) := by decide +kernel
theorem dX4_placeOf_20 : decode cX4_placeOf 20 = .ok (.iload_n 2, 1) := by decide +kernel
theorem dX4_placeOf_21 : decode cX4_placeOf 21 = .ok (.iaload, 1) := by decide +kernel
theorem dX4_placeOf_22 : decode cX4_placeOf 22 = .ok (.iload_n 1, 1) := by decide +kernel
theorem dX4_placeOf_23 : decode cX4_placeOf 23 = .ok (.if_icmp .ne 5, 3) := by decide +kernel
theorem dX4_placeOf_26 : decode cX4_placeOf 26 = .ok (.iload_n 2, 1) := by decide +kernel
theorem dX4_placeOf_27 : decode cX4_placeOf 27 = .ok (.ireturn, 1) := by decide +kernel
theorem dX4_placeOf_28 : decode cX4_placeOf 28 = .ok (.iinc 2 1, 3) := by decide +kernel
theorem dX4_placeOf_31 : decode cX4_placeOf 31 = .ok (.goto (-29), 3) := by decide +kernel
theorem dX4_placeOf_34 : decode cX4_placeOf 34 = .ok (.iconst (-1), 1) := by decide +kernel
theorem dX4_placeOf_35 : decode cX4_placeOf 35 = .ok (.ireturn, 1) := by decide +kernel
theorem dX4_add_0 : decode cX4_add 0 = .ok (.aload_n 0, 1) := by decide +kernel
theorem dX4_add_1 : decode cX4_add 1 = .ok (.getfield 28, 3) := by decide +kernel
theorem dX4_add_4 : decode cX4_add 4 = .ok (.bipush 8, 2) := by decide +kernel
theorem dX4_add_6 : decode cX4_add 6 = .ok (.if_icmp .ge 33, 3) := by decide +kernel
theorem dX4_add_9 : decode cX4_add 9 = .ok (.aload_n 0, 1) := by decide +kernel
theorem dX4_add_10 : decode cX4_add 10 = .ok (.getfield 19, 3) := by decide +kernel
theorem dX4_add_13 : decode cX4_add 13 = .ok (.aload_n 0, 1) := by decide +kernel
theorem dX4_add_14 : decode cX4_add 14 = .ok (.getfield 28, 3) := by decide +kernel
theorem dX4_add_17 : decode cX4_add 17 = .ok (.iload_n 1, 1) := by decide +kernel
theorem dX4_add_18 : decode cX4_add 18 = .ok (.iastore, 1) := by decide +kernel
theorem dX4_add_19 : decode cX4_add 19 = .ok (.aload_n 0, 1) := by decide +kernel
theorem dX4_add_20 : decode cX4_add 20 = .ok (.getfield 9, 3) := by decide +kernel
theorem dX4_add_23 : decode cX4_add 23 = .ok (.aload_n 0, 1) := by decide +kernel
theorem dX4_add_24 : decode cX4_add 24 = .ok (.getfield 28, 3) := by decide +kernel
theorem dX4_add_27 : decode cX4_add 27 = .ok (.iload_n 2, 1) := by decide +kernel
theorem dX4_add_28 : decode cX4_add 28 = .ok (.iastore, 1) := by decide +kernel
theorem dX4_add_29 : decode cX4_add 29 = .ok (.aload_n 0, 1) := by decide +kernel
theorem dX4_add_30 : decode cX4_add 30 = .ok (.dup, 1) := by decide +kernel
theorem dX4_add_31 : decode cX4_add 31 = .ok (.getfield 28, 3) := by decide +kernel
theorem dX4_add_34 : decode cX4_add 34 = .ok (.iconst 1, 1) := by decide +kernel
theorem dX4_add_35 : decode cX4_add 35 = .ok (.iadd, 1) := by decide +kernel
theorem dX4_add_36 : decode cX4_add 36 = .ok (.putfield 28, 3) := by decide +kernel
theorem dX4_add_39 : decode cX4_add 39 = .ok (.aload_n 0, 1) := by decide +kernel
theorem dX4_add_40 : decode cX4_add 40 = .ok (.getfield 28, 3) := by decide +kernel
theorem dX4_add_43 : decode cX4_add 43 = .ok (.ireturn, 1) := by decide +kernel
theorem dX4_beginCall_0 : decode cX4_beginCall 0 = .ok (.aload_n 0, 1) := by decide +kernel
theorem dX4_beginCall_1 : decode cX4_beginCall 1 = .ok (.iload_n 1, 1) := by decide +kernel
theorem dX4_beginCall_2 : decode cX4_beginCall 2 = .ok (.putfield 31, 3) := by decide +kernel
theorem dX4_beginCall_5 : decode cX4_beginCall 5 = .ok (.aload_n 0, 1) := by decide +kernel
theorem dX4_beginCall_6 : decode cX4_beginCall 6 = .ok (.aload_n 0, 1) := by decide +kernel
theorem dX4_beginCall_7 : decode cX4_beginCall 7 = .ok (.getfield 22, 3) := by decide +kernel
theorem dX4_beginCall_10 : decode cX4_beginCall 10 = .ok (.iconst (-1), 1) := by decide +kernel
theorem dX4_beginCall_11 : decode cX4_beginCall 11 = .ok (.invokevirtual 34, 3) := by decide +kernel
theorem dX4_beginCall_14 : decode cX4_beginCall 14 = .ok (.istore_n 2, 1) := by decide +kernel
theorem dX4_beginCall_15 : decode cX4_beginCall 15 = .ok (.aload_n 0, 1) := by decide +kernel
theorem dX4_beginCall_16 : decode cX4_beginCall 16 = .ok (.iload_n 2, 1) := by decide +kernel
theorem dX4_beginCall_17 : decode cX4_beginCall 17 = .ok (.putfield 25, 3) := by decide +kernel
theorem dX4_beginCall_20 : decode cX4_beginCall 20 = .ok (.aload_n 0, 1) := by decide +kernel
theorem dX4_beginCall_21 : decode cX4_beginCall 21 = .ok (.iload_n 2, 1) := by decide +kernel
theorem dX4_beginCall_22 : decode cX4_beginCall 22 = .ok (.invokevirtual 38, 3) := by decide +kernel
theorem dX4_beginCall_25 : decode cX4_beginCall 25 = .ok (.ireturn, 1) := by decide +kernel
theorem dX4_passOn_0 : decode cX4_passOn 0 = .ok (.aload_n 0, 1) := by decide +kernel
theorem dX4_passOn_1 : decode cX4_passOn 1 = .ok (.getfield 9, 3) := by decide +kernel
theorem dX4_passOn_4 : decode cX4_passOn 4 = .ok (.aload_n 0, 1) := by decide +kernel
theorem dX4_passOn_5 : decode cX4_passOn 5 = .ok (.getfield 15, 3) := by decide +kernel
theorem dX4_passOn_8 : decode cX4_passOn 8 = .ok (.dup2, 1) := by decide +kernel
theorem dX4_passOn_9 : decode cX4_passOn 9 = .ok (.iaload, 1) := by decide +kernel
theorem dX4_passOn_10 : decode cX4_passOn 10 = .ok (.aload_n 0, 1) := by decide +kernel
theorem dX4_passOn_11 : decode cX4_passOn 11 = .ok (.getfield 31, 3) := by decide +kernel
theorem dX4_passOn_14 : decode cX4_passOn 14 = .ok (.iadd, 1) := by decide +kernel
theorem dX4_passOn_15 : decode cX4_passOn 15 = .ok (.iastore, 1) := by decide +kernel
theorem dX4_passOn_16 : decode cX4_passOn 16 = .ok (.aload_n 0, 1) := by decide +kernel
theorem dX4_passOn_17 : decode cX4_passOn 17 = .ok (.aload_n 0, 1) := by decide +kernel
theorem dX4_passOn_18 : decode cX4_passOn 18 = .ok (.aload_n 0, 1) := by decide +kernel
theorem dX4_passOn_19 : decode cX4_passOn 19 = .ok (.getfield 15, 3) := by decide +kernel
theorem dX4_passOn_22 : decode cX4_passOn 22 = .ok (.aload_n 0, 1) := by decide +kernel
theorem dX4_passOn_23 : decode cX4_passOn 23 = .ok (.getfield 25, 3) := by decide +kernel
theorem dX4_passOn_26 : decode cX4_passOn 26 = .ok (.invokevirtual 34, 3) := by decide +kernel
theorem dX4_passOn_29 : decode cX4_passOn 29 = .ok (.invokevirtual 38, 3) := by decide +kernel
theorem dX4_passOn_32 : decode cX4_passOn 32 = .ok (.ireturn, 1) := by decide +kernel
theorem dX4_nextWithRoom_0 : decode cX4_nextWithRoom 0 = .ok (.iload_n 1, 1) := by decide +kernel
theorem dX4_nextWithRoom_1 : decode cX4_nextWithRoom 1 = .ok (.istore_n 3, 1) := by decide +kernel
theorem dX4_nextWithRoom_2 : decode cX4_nextWithRoom 2 = .ok (.iconst 0, 1) := by decide +kernel
theorem dX4_nextWithRoom_3 : decode cX4_nextWithRoom 3 = .ok (.istore 4, 2) := by decide +kernel
theorem dX4_nextWithRoom_5 : decode cX4_nextWithRoom 5 = .ok (.iload 4, 2) := by decide +kernel
theorem dX4_nextWithRoom_7 : decode cX4_nextWithRoom 7 = .ok (.aload_n 0, 1) := by decide +kernel
theorem dX4_nextWithRoom_8 : decode cX4_nextWithRoom 8 = .ok (.getfield 28, 3) := by decide +kernel
theorem dX4_nextWithRoom_11 : decode cX4_nextWithRoom 11 = .ok (.if_icmp .ge 49, 3) := by decide +kernel
theorem dX4_nextWithRoom_14 : decode cX4_nextWithRoom 14 = .ok (.iload_n 3, 1) := by decide +kernel
theorem dX4_nextWithRoom_15 : decode cX4_nextWithRoom 15 = .ok (.iconst 1, 1) := by decide +kernel
theorem dX4_nextWithRoom_16 : decode cX4_nextWithRoom 16 = .ok (.iadd, 1) := by decide +kernel
theorem dX4_nextWithRoom_17 : decode cX4_nextWithRoom 17 = .ok (.aload_n 0, 1) := by decide +kernel
theorem dX4_nextWithRoom_18 : decode cX4_nextWithRoom 18 = .ok (.getfield 28, 3) := by decide +kernel
theorem dX4_nextWithRoom_21 : decode cX4_nextWithRoom 21 = .ok (.if_icmp .ge 9, 3) := by decide +kernel
theorem dX4_nextWithRoom_24 : decode cX4_nextWithRoom 24 = .ok (.iload_n 3, 1) := by decide +kernel
theorem dX4_nextWithRoom_25 : decode cX4_nextWithRoom 25 = .ok (.iconst 1, 1) := by decide +kernel
theorem dX4_nextWithRoom_26 : decode cX4_nextWithRoom 26 = .ok (.iadd, 1) := by decide +kernel
theorem dX4_nextWithRoom_27 : decode cX4_nextWithRoom 27 = .ok (.goto 4, 3) := by decide +kernel
theorem dX4_nextWithRoom_30 : decode cX4_nextWithRoom 30 = .ok (.iconst 0, 1) := by decide +kernel
theorem dX4_nextWithRoom_31 : decode cX4_nextWithRoom 31 = .ok (.istore_n 3, 1) := by decide +kernel
theorem dX4_nextWithRoom_32 : decode cX4_nextWithRoom 32 = .ok (.iload_n 3, 1) := by decide +kernel
theorem dX4_nextWithRoom_33 : decode cX4_nextWithRoom 33 = .ok (.iload_n 2, 1) := by decide +kernel
theorem dX4_nextWithRoom_34 : decode cX4_nextWithRoom 34 = .ok (.if_icmp .ne 5, 3) := by decide +kernel
theorem dX4_nextWithRoom_37 : decode cX4_nextWithRoom 37 = .ok (.iconst (-1), 1) := by decide +kernel
theorem dX4_nextWithRoom_38 : decode cX4_nextWithRoom 38 = .ok (.ireturn, 1) := by decide +kernel
theorem dX4_nextWithRoom_39 : decode cX4_nextWithRoom 39 = .ok (.aload_n 0, 1) := by decide +kernel
theorem dX4_nextWithRoom_40 : decode cX4_nextWithRoom 40 = .ok (.getfield 9, 3) := by decide +kernel
theorem dX4_nextWithRoom_43 : decode cX4_nextWithRoom 43 = .ok (.iload_n 3, 1) := by decide +kernel
theorem dX4_nextWithRoom_44 : decode cX4_nextWithRoom 44 = .ok (.iaload, 1) := by decide +kernel
theorem dX4_nextWithRoom_45 : decode cX4_nextWithRoom 45 = .ok (.aload_n 0, 1) := by decide +kernel
theorem dX4_nextWithRoom_46 : decode cX4_nextWithRoom 46 = .ok (.getfield 31, 3) := by decide +kernel
theorem dX4_nextWithRoom_49 : decode cX4_nextWithRoom 49 = .ok (.if_icmp .lt 5, 3) := by decide +kernel
theorem dX4_nextWithRoom_52 : decode cX4_nextWithRoom 52 = .ok (.iload_n 3, 1) := by decide +kernel
theorem dX4_nextWithRoom_53 : decode cX4_nextWithRoom 53 = .ok (.ireturn, 1) := by decide +kernel
theorem dX4_nextWithRoom_54 : decode cX4_nextWithRoom 54 = .ok (.iinc 4 1, 3) := by decide +kernel
theorem dX4_nextWithRoom_57 : decode cX4_nextWithRoom 57 = .ok (.goto (-52), 3) := by decide +kernel
theorem dX4_nextWithRoom_60 : decode cX4_nextWithRoom 60 = .ok (.iconst (-1), 1) := by decide +kernel
theorem dX4_nextWithRoom_61 : decode cX4_nextWithRoom 61 = .ok (.ireturn, 1) := by decide +kernel
theorem dX4_hand_0 : decode cX4_hand 0 = .ok (.aload_n 0, 1) := by decide +kernel
theorem dX4_hand_1 : decode cX4_hand 1 = .ok (.iload_n 1, 1) := by decide +kernel
theorem dX4_hand_2 : decode cX4_hand 2 = .ok (.putfield 15, 3) := by decide +kernel
theorem dX4_hand_5 : decode cX4_hand 5 = .ok (.iload_n 1, 1) := by decide +kernel
theorem dX4_hand_6 : decode cX4_hand 6 = .ok (.iconst (-1), 1) := by decide +kernel
theorem dX4_hand_7 : decode cX4_hand 7 = .ok (.if_icmp .ne 6, 3) := by decide +kernel
theorem dX4_hand_10 : decode cX4_hand 10 = .ok (.bipush (-9), 2) := by decide +kernel
theorem dX4_hand_12 : decode cX4_hand 12 = .ok (.ireturn, 1) := by decide +kernel
theorem dX4_hand_13 : decode cX4_hand 13 = .ok (.aload_n 0, 1) := by decide +kernel
theorem dX4_hand_14 : decode cX4_hand 14 = .ok (.getfield 9, 3) := by decide +kernel
theorem dX4_hand_17 : decode cX4_hand 17 = .ok (.iload_n 1, 1) := by decide +kernel
theorem dX4_hand_18 : decode cX4_hand 18 = .ok (.dup2, 1) := by decide +kernel
theorem dX4_hand_19 : decode cX4_hand 19 = .ok (.iaload, 1) := by decide +kernel
theorem dX4_hand_20 : decode cX4_hand 20 = .ok (.aload_n 0, 1) := by decide +kernel
theorem dX4_hand_21 : decode cX4_hand 21 = .ok (.getfield 31, 3) := by decide +kernel
theorem dX4_hand_24 : decode cX4_hand 24 = .ok (.isub, 1) := by decide +kernel
theorem dX4_hand_25 : decode cX4_hand 25 = .ok (.iastore, 1) := by decide +kernel
theorem dX4_hand_26 : decode cX4_hand 26 = .ok (.aload_n 0, 1) := by decide +kernel
theorem dX4_hand_27 : decode cX4_hand 27 = .ok (.iload_n 1, 1) := by decide +kernel
theorem dX4_hand_28 : decode cX4_hand 28 = .ok (.putfield 22, 3) := by decide +kernel
theorem dX4_hand_31 : decode cX4_hand 31 = .ok (.aload_n 0, 1) := by decide +kernel
theorem dX4_hand_32 : decode cX4_hand 32 = .ok (.getfield 19, 3) := by decide +kernel
theorem dX4_hand_35 : decode cX4_hand 35 = .ok (.iload_n 1, 1) := by decide +kernel
theorem dX4_hand_36 : decode cX4_hand 36 = .ok (.iaload, 1) := by decide +kernel
theorem dX4_hand_37 : decode cX4_hand 37 = .ok (.ireturn, 1) := by decide +kernel
theorem dX5_init_0 : decode cX5_init 0 = .ok (.aload_n 0, 1) := by decide +kernel
theorem dX5_init_1 : decode cX5_init 1 = .ok (.invokespecial 3, 3) := by decide +kernel
theorem dX5_init_4 : decode cX5_init 4 = .ok (.aload_n 0, 1) := by decide +kernel
theorem dX5_init_5 : decode cX5_init 5 = .ok (.sipush 288, 3) := by decide +kernel
theorem dX5_init_8 : decode cX5_init 8 = .ok (.newarray .int, 2) := by decide +kernel
theorem dX5_init_10 : decode cX5_init 10 = .ok (.putfield 9, 3) := by decide +kernel
theorem dX5_init_13 : decode cX5_init 13 = .ok (.aload_n 0, 1) := by decide +kernel
theorem dX5_init_14 : decode cX5_init 14 = .ok (.bipush 48, 2) := by decide +kernel
theorem dX5_init_16 : decode cX5_init 16 = .ok (.newarray .boolean, 2) := by decide +kernel
theorem dX5_init_18 : decode cX5_init 18 = .ok (.putfield 15, 3) := by decide +kernel
theorem dX5_init_21 : decode cX5_init 21 = .ok (.aload_n 0, 1) := by decide +kernel
theorem dX5_init_22 : decode cX5_init 22 = .ok (.bipush 6, 2) := by decide +kernel
theorem dX5_init_24 : decode cX5_init 24 = .ok (.newarray .boolean, 2) := by decide +kernel
theorem dX5_init_26 : decode cX5_init 26 = .ok (.putfield 19, 3) := by decide +kernel
theorem dX5_init_29 : decode cX5_init 29 = .ok (.aload_n 0, 1) := by decide +kernel
theorem dX5_init_30 : decode cX5_init 30 = .ok (.getfield 9, 3) := by decide +kernel
theorem dX5_init_33 : decode cX5_init 33 = .ok (.bipush (-9), 2) := by decide +kernel
theorem dX5_init_35 : decode cX5_init 35 = .ok (.invokestatic 22, 3) := by decide +kernel
theorem dX5_init_38 : decode cX5_init 38 = .ok (.return_, 1) := by decide +kernel
theorem dX5_put_0 : decode cX5_put 0 = .ok (.aload_n 0, 1) := by decide +kernel
theorem dX5_put_1 : decode cX5_put 1 = .ok (.getfield 9, 3) := by decide +kernel
theorem dX5_put_4 : decode cX5_put 4 = .ok (.iload_n 1, 1) := by decide +kernel
theorem dX5_put_5 : decode cX5_put 5 = .ok (.bipush 48, 2) := by decide +kernel
theorem dX5_put_7 : decode cX5_put 7 = .ok (.imul, 1) := by decide +kernel
theorem dX5_put_8 : decode cX5_put 8 = .ok (.iload_n 2, 1) := by decide +kernel
theorem dX5_put_9 : decode cX5_put 9 = .ok (.iadd, 1) := by decide +kernel
theorem dX5_put_10 : decode cX5_put 10 = .ok (.iaload, 1) := by decide +kernel
theorem dX5_put_11 : decode cX5_put 11 = .ok (.istore 4, 2) := by decide +kernel
theorem dX5_put_13 : decode cX5_put 13 = .ok (.aload_n 0, 1) := by decide +kernel
theorem dX5_put_14 : decode cX5_put 14 = .ok (.getfield 9, 3) := by decide +kernel
theorem dX5_put_17 : decode cX5_put 17 = .ok (.iload_n 1, 1) := by decide +kernel
theorem dX5_put_18 : decode cX5_put 18 = .ok (.bipush 48, 2) := by decide +kernel
theorem dX5_put_20 : decode cX5_put 20 = .ok (.imul, 1) := by decide +kernel
theorem dX5_put_21 : decode cX5_put 21 = .ok (.iload_n 2, 1) := by decide +kernel
theorem dX5_put_22 : decode cX5_put 22 = .ok (.iadd, 1) := by decide +kernel
theorem dX5_put_23 : decode cX5_put 23 = .ok (.iload_n 3, 1) := by decide +kernel
theorem dX5_put_24 : decode cX5_put 24 = .ok (.iastore, 1) := by decide +kernel
theorem dX5_put_25 : decode cX5_put 25 = .ok (.iload 4, 2) := by decide +kernel
theorem dX5_put_27 : decode cX5_put 27 = .ok (.ireturn, 1) := by decide +kernel
theorem dX5_putBar_0 : decode cX5_putBar 0 = .ok (.iload_n 1, 1) := by decide +kernel
theorem dX5_putBar_1 : decode cX5_putBar 1 = .ok (.bipush 8, 2) := by decide +kernel
theorem dX5_putBar_3 : decode cX5_putBar 3 = .ok (.imul, 1) := by decide +kernel
theorem dX5_putBar_4 : decode cX5_putBar 4 = .ok (.iload_n 2, 1) := by decide +kernel
theorem dX5_putBar_5 : decode cX5_putBar 5 = .ok (.iadd, 1) := by decide +kernel
theorem dX5_putBar_6 : decode cX5_putBar 6 = .ok (.istore 4, 2) := by decide +kernel
theorem dX5_putBar_8 : decode cX5_putBar 8 = .ok (.aload_n 0, 1) := by decide +kernel
theorem dX5_putBar_9 : decode cX5_putBar 9 = .ok (.getfield 15, 3) := by decide +kernel
theorem dX5_putBar_12 : decode cX5_putBar 12 = .ok (.iload 4, 2) := by decide +kernel
theorem dX5_putBar_14 : decode cX5_putBar 14 = .ok (.baload, 1) := by decide +kernel
theorem dX5_putBar_15 : decode cX5_putBar 15 = .ok (.istore 5, 2) := by decide +kernel
theorem dX5_putBar_17 : decode cX5_putBar 17 = .ok (.aload_n 0, 1) := by decide +kernel
theorem dX5_putBar_18 : decode cX5_putBar 18 = .ok (.getfield 15, 3) := by decide +kernel
theorem dX5_putBar_21 : decode cX5_putBar 21 = .ok (.iload 4, 2) := by decide +kernel
theorem dX5_putBar_23 : decode cX5_putBar 23 = .ok (.iload_n 3, 1) := by decide +kernel
theorem dX5_putBar_24 : decode cX5_putBar 24 = .ok (.bastore, 1) := by decide +kernel
theorem dX5_putBar_25 : decode cX5_putBar 25 = .ok (.iload 5, 2) := by decide +kernel
theorem dX5_putBar_27 : decode cX5_putBar 27 = .ok (.iload_n 3, 1) := by decide +kernel
theorem dX5_putBar_28 : decode cX5_putBar 28 = .ok (.if_icmp .eq 7, 3) := by decide +kernel
theorem dX5_putBar_31 : decode cX5_putBar 31 = .ok (.iconst 1, 1) := by decide +kernel
theorem dX5_putBar_32 : decode cX5_putBar 32 = .ok (.goto 4, 3) := by decide +kernel
theorem dX5_putBar_35 : decode cX5_putBar 35 = .ok (.iconst 0, 1) := by decide +kernel
theorem dX5_putBar_36 : decode cX5_putBar 36 = .ok (.ireturn, 1) := by decide +kernel
theorem dX5_clearLot_0 : decode cX5_clearLot 0 = .ok (.iconst 0, 1) := by decide +kernel
theorem dX5_clearLot_1 : decode cX5_clearLot 1 = .ok (.istore_n 2, 1) := by decide +kernel
theorem dX5_clearLot_2 : decode cX5_clearLot 2 = .ok (.iload_n 2, 1) := by decide +kernel
theorem dX5_clearLot_3 : decode cX5_clearLot 3 = .ok (.aload_n 0, 1) := by decide +kernel
theorem dX5_clearLot_4 : decode cX5_clearLot 4 = .ok (.getfield 9, 3) := by decide +kernel
theorem dX5_clearLot_7 : decode cX5_clearLot 7 = .ok (.arraylength, 1) := by decide +kernel
theorem dX5_clearLot_8 : decode cX5_clearLot 8 = .ok (.if_icmp .ge 25, 3) := by decide +kernel
theorem dX5_clearLot_11 : decode cX5_clearLot 11 = .ok (.iload_n 2, 1) := by decide +kernel
theorem dX5_clearLot_12 : decode cX5_clearLot 12 = .ok (.bipush 6, 2) := by decide +kernel
theorem dX5_clearLot_14 : decode cX5_clearLot 14 = .ok (.irem, 1) := by decide +kernel
theorem dX5_clearLot_15 : decode cX5_clearLot 15 = .ok (.iload_n 1, 1) := by decide +kernel
theorem dX5_clearLot_16 : decode cX5_clearLot 16 = .ok (.if_icmp .ne 11, 3) := by decide +kernel
theorem dX5_clearLot_19 : decode cX5_clearLot 19 = .ok (.aload_n 0, 1) := by decide +kernel
theorem dX5_clearLot_20 : decode cX5_clearLot 20 = .ok (.getfield 9, 3) := by decide +kernel
theorem dX5_clearLot_23 : decode cX5_clearLot 23 = .ok (.iload_n 2, 1) := by decide +kernel
theorem dX5_clearLot_24 : decode cX5_clearLot 24 = .ok (.bipush (-9), 2) := by decide +kernel
theorem dX5_clearLot_26 : decode cX5_clearLot 26 = .ok (.iastore, 1) := by decide +kernel
theorem dX5_clearLot_27 : decode cX5_clearLot 27 = .ok (.iinc 2 1, 3) := by decide +kernel
theorem dX5_clearLot_30 : decode cX5_clearLot 30 = .ok (.goto (-28), 3) := by decide +kernel
theorem dX5_clearLot_33 : decode cX5_clearLot 33 = .ok (.return_, 1) := by decide +kernel
theorem dX5_findSilent_0 : decode cX5_findSilent 0 = .ok (.iconst 0, 1) := by decide +kernel
theorem dX5_findSilent_1 : decode cX5_findSilent 1 = .ok (.istore_n 2, 1) := by decide +kernel
theorem dX5_findSilent_2 : decode cX5_findSilent 2 = .ok (.iload_n 2, 1) := by decide +kernel
theorem dX5_findSilent_3 : decode cX5_findSilent 3 = .ok (.bipush 6, 2) := by decide +kernel
theorem dX5_findSilent_5 : decode cX5_findSilent 5 = .ok (.if_icmp .ge 63, 3) := by decide +kernel
theorem dX5_findSilent_8 : decode cX5_findSilent 8 = .ok (.aload_n 0, 1) := by decide +kernel
theorem dX5_findSilent_9 : decode cX5_findSilent 9 = .ok (.getfield 19, 3) := by decide +kernel
theorem dX5_findSilent_12 : decode cX5_findSilent 12 = .ok (.iload_n 2, 1) := by decide +kernel
theorem dX5_findSilent_13 : decode cX5_findSilent 13 = .ok (.iconst 0, 1) := by decide +kernel
theorem dX5_findSilent_14 : decode cX5_findSilent 14 = .ok (.bastore, 1) := by decide +kernel
theorem dX5_findSilent_15 : decode cX5_findSilent 15 = .ok (.iconst 0, 1) := by decide +kernel
theorem dX5_findSilent_16 : decode cX5_findSilent 16 = .ok (.istore_n 3, 1) := by decide +kernel
theorem dX5_findSilent_17 : decode cX5_findSilent 17 = .ok (.iload_n 3, 1) := by decide +kernel
theorem dX5_findSilent_18 : decode cX5_findSilent 18 = .ok (.bipush 8, 2) := by decide +kernel
theorem dX5_findSilent_20 : decode cX5_findSilent 20 = .ok (.if_icmp .ge 42, 3) := by decide +kernel
theorem dX5_findSilent_23 : decode cX5_findSilent 23 = .ok (.iload_n 3, 1) := by decide +kernel
theorem dX5_findSilent_24 : decode cX5_findSilent 24 = .ok (.aload_n 1, 1) := by decide +kernel
theorem dX5_findSilent_25 : decode cX5_findSilent 25 = .ok (.arraylength, 1) := by decide +kernel
theorem dX5_findSilent_26 : decode cX5_findSilent 26 = .ok (.if_icmp .ge 36, 3) := by decide +kernel
theorem dX5_findSilent_29 : decode cX5_findSilent 29 = .ok (.aload_n 1, 1) := by decide +kernel
theorem dX5_findSilent_30 : decode cX5_findSilent 30 = .ok (.iload_n 3, 1) := by decide +kernel
theorem dX5_findSilent_31 : decode cX5_findSilent 31 = .ok (.baload, 1) := by decide +kernel
theorem dX5_findSilent_32 : decode cX5_findSilent 32 = .ok (.ifCond .eq 24, 3) := by decide +kernel
theorem dX5_findSilent_35 : decode cX5_findSilent 35 = .ok (.aload_n 0, 1) := by decide +kernel
theorem dX5_findSilent_36 : decode cX5_findSilent 36 = .ok (.getfield 15, 3) := by decide +kernel
theorem dX5_findSilent_39 : decode cX5_findSilent 39 = .ok (.iload_n 2, 1) := by decide +kernel
theorem dX5_findSilent_40 : decode cX5_findSilent 40 = .ok (.bipush 8, 2) := by decide +kernel
theorem dX5_findSilent_42 : decode cX5_findSilent 42 = .ok (.imul, 1) := by decide +kernel
theorem dX5_findSilent_43 : decode cX5_findSilent 43 = .ok (.iload_n 3, 1) := by decide +kernel
theorem dX5_findSilent_44 : decode cX5_findSilent 44 = .ok (.iadd, 1) := by decide +kernel
theorem dX5_findSilent_45 : decode cX5_findSilent 45 = .ok (.baload, 1) := by decide +kernel
theorem dX5_findSilent_46 : decode cX5_findSilent 46 = .ok (.ifCond .eq 10, 3) := by decide +kernel
theorem dX5_findSilent_49 : decode cX5_findSilent 49 = .ok (.aload_n 0, 1) := by decide +kernel
theorem dX5_findSilent_50 : decode cX5_findSilent 50 = .ok (.getfield 19, 3) := by decide +kernel
theorem dX5_findSilent_53 : decode cX5_findSilent 53 = .ok (.iload_n 2, 1) := by decide +kernel
theorem dX5_findSilent_54 : decode cX5_findSilent 54 = .ok (.iconst 1, 1) := by decide +kernel
theorem dX5_findSilent_55 : decode cX5_findSilent 55 = .ok (.bastore, 1) := by decide +kernel
theorem dX5_findSilent_56 : decode cX5_findSilent 56 = .ok (.iinc 3 1, 3) := by decide +kernel
theorem dX5_findSilent_59 : decode cX5_findSilent 59 = .ok (.goto (-42), 3) := by decide +kernel
theorem dX5_findSilent_62 : decode cX5_findSilent 62 = .ok (.iinc 2 1, 3) := by decide +kernel
theorem dX5_findSilent_65 : decode cX5_findSilent 65 = .ok (.goto (-63), 3) := by decide +kernel
theorem dX5_findSilent_68 : decode cX5_findSilent 68 = .ok (.return_, 1) := by decide +kernel
theorem dX5_weigh_0 : decode cX5_weigh 0 = .ok (.iconst 0, 1) := by decide +kernel
theorem dX5_weigh_1 : decode cX5_weigh 1 = .ok (.istore_n 3, 1) := by decide +kernel
theorem dX5_weigh_2 : decode cX5_weigh 2 = .ok (.iconst 0, 1) := by decide +kernel
theorem dX5_weigh_3 : decode cX5_weigh 3 = .ok (.istore 4, 2) := by decide +kernel
theorem dX5_weigh_5 : decode cX5_weigh 5 = .ok (.bipush 100, 2) := by decide +kernel
theorem dX5_weigh_7 : decode cX5_weigh 7 = .ok (.istore 5, 2) := by decide +kernel
theorem dX5_weigh_9 : decode cX5_weigh 9 = .ok (.iconst 0, 1) := by decide +kernel
theorem dX5_weigh_10 : decode cX5_weigh 10 = .ok (.istore 6, 2) := by decide +kernel
theorem dX5_weigh_12 : decode cX5_weigh 12 = .ok (.iconst 0, 1) := by decide +kernel
theorem dX5_weigh_13 : decode cX5_weigh 13 = .ok (.istore 7, 2) := by decide +kernel
theorem dX5_weigh_15 : decode cX5_weigh 15 = .ok (.iload 7, 2) := by decide +kernel
theorem dX5_weigh_17 : decode cX5_weigh 17 = .ok (.bipush 6, 2) := by decide +kernel
theorem dX5_weigh_19 : decode cX5_weigh 19 = .ok (.if_icmp .ge 68, 3) := by decide +kernel
theorem dX5_weigh_22 : decode cX5_weigh 22 = .ok (.aload_n 0, 1) := by decide +kernel
theorem dX5_weigh_23 : decode cX5_weigh 23 = .ok (.getfield 9, 3) := by decide +kernel
theorem dX5_weigh_26 : decode cX5_weigh 26 = .ok (.iload 7, 2) := by decide +kernel
theorem dX5_weigh_28 : decode cX5_weigh 28 = .ok (.bipush 48, 2) := by decide +kernel
theorem dX5_weigh_30 : decode cX5_weigh 30 = .ok (.imul, 1) := by decide +kernel
theorem dX5_weigh_31 : decode cX5_weigh 31 = .ok (.iload_n 1, 1) := by decide +kernel
theorem dX5_weigh_32 : decode cX5_weigh 32 = .ok (.iadd, 1) := by decide +kernel
theorem dX5_weigh_33 : decode cX5_weigh 33 = .ok (.iaload, 1) := by decide +kernel
theorem dX5_weigh_34 : decode cX5_weigh 34 = .ok (.istore 8, 2) := by decide +kernel
theorem dX5_weigh_36 : decode cX5_weigh 36 = .ok (.iload 8, 2) := by decide +kernel
theorem dX5_weigh_38 : decode cX5_weigh 38 = .ok (.bipush (-9), 2) := by decide +kernel
theorem dX5_weigh_40 : decode cX5_weigh 40 = .ok (.if_icmp .eq 41, 3) := by decide +kernel
theorem dX5_weigh_43 : decode cX5_weigh 43 = .ok (.aload_n 0, 1) := by decide +kernel
theorem dX5_weigh_44 : decode cX5_weigh 44 = .ok (.getfield 19, 3) := by decide +kernel
theorem dX5_weigh_47 : decode cX5_weigh 47 = .ok (.iload 7, 2) := by decide +kernel
theorem dX5_weigh_49 : decode cX5_weigh 49 = .ok (.baload, 1) := by decide +kernel
theorem dX5_weigh_50 : decode cX5_weigh 50 = .ok (.ifCond .ne 31, 3) := by decide +kernel
theorem dX5_weigh_53 : decode cX5_weigh 53 = .ok (.iinc 3 1, 3) := by decide +kernel
theorem dX5_weigh_56 : decode cX5_weigh 56 = .ok (.iload 4, 2) := by decide +kernel
theorem dX5_weigh_58 : decode cX5_weigh 58 = .ok (.iload 8, 2) := by decide +kernel
theorem dX5_weigh_60 : decode cX5_weigh 60 = .ok (.iadd, 1) := by decide +kernel
theorem dX5_weigh_61 : decode cX5_weigh 61 = .ok (.istore 4, 2) := by decide +kernel
theorem dX5_weigh_63 : decode cX5_weigh 63 = .ok (.iload 5, 2) := by decide +kernel
theorem dX5_weigh_65 : decode cX5_weigh 65 = .ok (.iload 8, 2) := by decide +kernel
theorem dX5_weigh_67 : decode cX5_weigh 67 = .ok (.invokestatic 28, 3) := by decide +kernel
theorem dX5_weigh_70 : decode cX5_weigh 70 = .ok (.istore 5, 2) := by decide +kernel
theorem dX5_weigh_72 : decode cX5_weigh 72 = .ok (.iload 6, 2) := by decide +kernel
theorem dX5_weigh_74 : decode cX5_weigh 74 = .ok (.iload 8, 2) := by decide +kernel
theorem dX5_weigh_76 : decode cX5_weigh 76 = .ok (.invokestatic 34, 3) := by decide +kernel
theorem dX5_weigh_79 : decode cX5_weigh 79 = .ok (.istore 6, 2) := by decide +kernel
theorem dX5_weigh_81 : decode cX5_weigh 81 = .ok (.iinc 7 1, 3) := by decide +kernel
theorem dX5_weigh_84 : decode cX5_weigh 84 = .ok (.goto (-69), 3) := by decide +kernel
theorem dX5_weigh_87 : decode cX5_weigh 87 = .ok (.iload_n 3, 1) := by decide +kernel
theorem dX5_weigh_88 : decode cX5_weigh 88 = .ok (.iconst 4, 1) := by decide +kernel
theorem dX5_weigh_89 : decode cX5_weigh 89 = .ok (.if_icmp .lt 16, 3) := by decide +kernel
theorem dX5_weigh_92 : decode cX5_weigh 92 = .ok (.iinc 3 (-2), 3) := by decide +kernel
theorem dX5_weigh_95 : decode cX5_weigh 95 = .ok (.iload 4, 2) := by decide +kernel
theorem dX5_weigh_97 : decode cX5_weigh 97 = .ok (.iload 5, 2) := by decide +kernel
theorem dX5_weigh_99 : decode cX5_weigh 99 = .ok (.iload 6, 2) := by decide +kernel
theorem dX5_weigh_101 : decode cX5_weigh 101 = .ok (.iadd, 1) := by decide +kernel
theorem dX5_weigh_102 : decode cX5_weigh 102 = .ok (.isub, 1) := by decide +kernel
theorem dX5_weigh_103 : decode cX5_weigh 103 = .ok (.istore 4, 2) := by decide +kernel
theorem dX5_weigh_105 : decode cX5_weigh 105 = .ok (.aload_n 2, 1) := by decide +kernel
theorem dX5_weigh_106 : decode cX5_weigh 106 = .ok (.iload 4, 2) := by decide +kernel
theorem dX5_weigh_108 : decode cX5_weigh 108 = .ok (.i2l, 1) := by decide +kernel
theorem dX5_weigh_109 : decode cX5_weigh 109 = .ok (.iconst 1, 1) := by decide +kernel
theorem dX5_weigh_110 : decode cX5_weigh 110 = .ok (.iload_n 3, 1) := by decide +kernel
theorem dX5_weigh_111 : decode cX5_weigh 111 = .ok (.invokestatic 34, 3) := by decide +kernel
theorem dX5_weigh_114 : decode cX5_weigh 114 = .ok (.i2l, 1) := by decide +kernel
theorem dX5_weigh_115 : decode cX5_weigh 115 = .ok (.invokevirtual 37, 3) := by decide +kernel
theorem dX5_weigh_118 : decode cX5_weigh 118 = .ok (.return_, 1) := by decide +kernel
theorem dX6_likenessOf_0 : decode cX6_likenessOf 0 = .ok (.aload_n 0, 1) := by decide +kernel
theorem dX6_likenessOf_1 : decode cX6_likenessOf 1 = .ok (.iload_n 1, 1) := by decide +kernel
theorem dX6_likenessOf_2 : decode cX6_likenessOf 2 = .ok (.iload_n 2, 1) := by decide +kernel
theorem dX6_likenessOf_3 : decode cX6_likenessOf 3 = .ok (.iconst 0, 1) := by decide +kernel
theorem dX6_likenessOf_4 : decode cX6_likenessOf 4 = .ok (.iconst 1, 1) := by decide +kernel
theorem dX6_likenessOf_5 : decode cX6_likenessOf 5 = .ok (.iconst 2, 1) := by decide +kernel
theorem dX6_likenessOf_6 : decode cX6_likenessOf 6 = .ok (.invokestatic 9, 3) := by decide +kernel
theorem dX6_likenessOf_9 : decode cX6_likenessOf 9 = .ok (.lreturn, 1) := by decide +kernel
theorem dX6_likenessInOrder_0 : decode cX6_likenessInOrder 0 = .ok (.aload_n 0, 1) := by decide +kernel
theorem dX6_likenessInOrder_1 : decode cX6_likenessInOrder 1 = .ok (.iload_n 1, 1) := by decide +kernel
theorem dX6_likenessInOrder_2 : decode cX6_likenessInOrder 2 = .ok (.invokevirtual 15, 3) := by decide +kernel
theorem dX6_likenessInOrder_5 : decode cX6_likenessInOrder 5 = .ok (.i2l, 1) := by decide +kernel
theorem dX6_likenessInOrder_6 : decode cX6_likenessInOrder 6 = .ok (.lstore 6, 2) := by decide +kernel
theorem dX6_likenessInOrder_8 : decode cX6_likenessInOrder 8 = .ok (.aload_n 0, 1) := by decide +kernel
theorem dX6_likenessInOrder_9 : decode cX6_likenessInOrder 9 = .ok (.iload_n 2, 1) := by decide +kernel
theorem dX6_likenessInOrder_10 : decode cX6_likenessInOrder 10 = .ok (.invokevirtual 15, 3) := by decide +kernel
theorem dX6_likenessInOrder_13 : decode cX6_likenessInOrder 13 = .ok (.i2l, 1) := by decide +kernel
theorem dX6_likenessInOrder_14 : decode cX6_likenessInOrder 14 = .ok (.lstore 8, 2) := by decide +kernel
theorem dX6_likenessInOrder_16 : decode cX6_likenessInOrder 16 = .ok (.iload_n 1, 1) := by decide +kernel
theorem dX6_likenessInOrder_17 : decode cX6_likenessInOrder 17 = .ok (.iconst 4, 1) := by decide +kernel
theorem dX6_likenessInOrder_18 : decode cX6_likenessInOrder 18 = .ok (.imul, 1) := by decide +kernel
theorem dX6_likenessInOrder_19 : decode cX6_likenessInOrder 19 = .ok (.istore 10, 2) := by decide +kernel
theorem dX6_likenessInOrder_21 : decode cX6_likenessInOrder 21 = .ok (.iload_n 2, 1) := by decide +kernel
theorem dX6_likenessInOrder_22 : decode cX6_likenessInOrder 22 = .ok (.iconst 4, 1) := by decide +kernel
theorem dX6_likenessInOrder_23 : decode cX6_likenessInOrder 23 = .ok (.imul, 1) := by decide +kernel
theorem dX6_likenessInOrder_24 : decode cX6_likenessInOrder 24 = .ok (.istore 11, 2) := by decide +kernel
theorem dX6_likenessInOrder_26 : decode cX6_likenessInOrder 26 = .ok (.bipush 6, 2) := by decide +kernel
theorem dX6_likenessInOrder_28 : decode cX6_likenessInOrder 28 = .ok (.iload_n 3, 1) := by decide +kernel
theorem dX6_likenessInOrder_29 : decode cX6_likenessInOrder 29 = .ok (.isub, 1) := by decide +kernel
theorem dX6_likenessInOrder_30 : decode cX6_likenessInOrder 30 = .ok (.iload 4, 2) := by decide +kernel
theorem dX6_likenessInOrder_32 : decode cX6_likenessInOrder 32 = .ok (.isub, 1) := by decide +kernel
theorem dX6_likenessInOrder_33 : decode cX6_likenessInOrder 33 = .ok (.iload 5, 2) := by decide +kernel
theorem dX6_likenessInOrder_35 : decode cX6_likenessInOrder 35 = .ok (.isub, 1) := by decide +kernel
theorem dX6_likenessInOrder_36 : decode cX6_likenessInOrder 36 = .ok (.istore 12, 2) := by decide +kernel
theorem dX6_likenessInOrder_38 : decode cX6_likenessInOrder 38 = .ok (.aload_n 0, 1) := by decide +kernel
theorem dX6_likenessInOrder_39 : decode cX6_likenessInOrder 39 = .ok (.getfield 21, 3) := by decide +kernel
theorem dX6_likenessInOrder_42 : decode cX6_likenessInOrder 42 = .ok (.iload 10, 2) := by decide +kernel
theorem dX6_likenessInOrder_44 : decode cX6_likenessInOrder 44 = .ok (.iaload, 1) := by decide +kernel
theorem dX6_likenessInOrder_45 : decode cX6_likenessInOrder 45 = .ok (.i2l, 1) := by decide +kernel
theorem dX6_likenessInOrder_46 : decode cX6_likenessInOrder 46 = .ok (.lload 8, 2) := by decide +kernel
theorem dX6_likenessInOrder_48 : decode cX6_likenessInOrder 48 = .ok (.lmul, 1) := by decide +kernel
theorem dX6_likenessInOrder_49 : decode cX6_likenessInOrder 49 = .ok (.aload_n 0, 1) := by decide +kernel
theorem dX6_likenessInOrder_50 : decode cX6_likenessInOrder 50 = .ok (.getfield 21, 3) := by decide +kernel
theorem dX6_likenessInOrder_53 : decode cX6_likenessInOrder 53 = .ok (.iload 11, 2) := by decide +kernel
theorem dX6_likenessInOrder_55 : decode cX6_likenessInOrder 55 = .ok (.iload_n 3, 1) := by decide +kernel
theorem dX6_likenessInOrder_56 : decode cX6_likenessInOrder 56 = .ok (.iadd, 1) := by decide +kernel
theorem dX6_likenessInOrder_57 : decode cX6_likenessInOrder 57 = .ok (.iaload, 1) := by decide +kernel
theorem dX6_likenessInOrder_58 : decode cX6_likenessInOrder 58 = .ok (.i2l, 1) := by decide +kernel
theorem dX6_likenessInOrder_59 : decode cX6_likenessInOrder 59 = .ok (.lload 6, 2) := by decide +kernel
theorem dX6_likenessInOrder_61 : decode cX6_likenessInOrder 61 = .ok (.lmul, 1) := by decide +kernel
theorem dX6_likenessInOrder_62 : decode cX6_likenessInOrder 62 = .ok (.lsub, 1) := by decide +kernel
theorem dX6_likenessInOrder_63 : decode cX6_likenessInOrder 63 = .ok (.invokestatic 25, 3) := by decide +kernel
theorem dX6_likenessInOrder_66 : decode cX6_likenessInOrder 66 = .ok (.aload_n 0, 1) := by decide +kernel
theorem dX6_likenessInOrder_67 : decode cX6_likenessInOrder 67 = .ok (.getfield 21, 3) := by decide +kernel
theorem dX6_likenessInOrder_70 : decode cX6_likenessInOrder 70 = .ok (.iload 10, 2) := by decide +kernel
theorem dX6_likenessInOrder_72 : decode cX6_likenessInOrder 72 = .ok (.iconst 1, 1) := by decide +kernel
theorem dX6_likenessInOrder_73 : decode cX6_likenessInOrder 73 = .ok (.iadd, 1) := by decide +kernel
theorem dX6_likenessInOrder_74 : decode cX6_likenessInOrder 74 = .ok (.iaload, 1) := by decide +kernel
theorem dX6_likenessInOrder_75 : decode cX6_likenessInOrder 75 = .ok (.i2l, 1) := by decide +kernel
theorem dX6_likenessInOrder_76 : decode cX6_likenessInOrder 76 = .ok (.lload 8, 2) := by decide +kernel
theorem dX6_likenessInOrder_78 : decode cX6_likenessInOrder 78 = .ok (.lmul, 1) := by decide +kernel
theorem dX6_likenessInOrder_79 : decode cX6_likenessInOrder 79 = .ok (.aload_n 0, 1) := by decide +kernel
theorem dX6_likenessInOrder_80 : decode cX6_likenessInOrder 80 = .ok (.getfield 21, 3) := by decide +kernel
theorem dX6_likenessInOrder_83 : decode cX6_likenessInOrder 83 = .ok (.iload 11, 2) := by decide +kernel
theorem dX6_likenessInOrder_85 : decode cX6_likenessInOrder 85 = .ok (.iload 4, 2) := by decide +kernel
theorem dX6_likenessInOrder_87 : decode cX6_likenessInOrder 87 = .ok (.iadd, 1) := by decide +kernel
theorem dX6_likenessInOrder_88 : decode cX6_likenessInOrder 88 = .ok (.iaload, 1) := by decide +kernel
theorem dX6_likenessInOrder_89 : decode cX6_likenessInOrder 89 = .ok (.i2l, 1) := by decide +kernel
theorem dX6_likenessInOrder_90 : decode cX6_likenessInOrder 90 = .ok (.lload 6, 2) := by decide +kernel
theorem dX6_likenessInOrder_92 : decode cX6_likenessInOrder 92 = .ok (.lmul, 1) := by decide +kernel
theorem dX6_likenessInOrder_93 : decode cX6_likenessInOrder 93 = .ok (.lsub, 1) := by decide +kernel
theorem dX6_likenessInOrder_94 : decode cX6_likenessInOrder 94 = .ok (.invokestatic 25, 3) := by decide +kernel
theorem dX6_likenessInOrder_97 : decode cX6_likenessInOrder 97 = .ok (.ladd, 1) := by decide +kernel
theorem dX6_likenessInOrder_98 : decode cX6_likenessInOrder 98 = .ok (.aload_n 0, 1) := by decide +kernel
theorem dX6_likenessInOrder_99 : decode cX6_likenessInOrder 99 = .ok (.getfield 21, 3) := by decide +kernel
theorem dX6_likenessInOrder_102 : decode cX6_likenessInOrder 102 = .ok (.iload 10, 2) := by decide +kernel
theorem dX6_likenessInOrder_104 : decode cX6_likenessInOrder 104 = .ok (.iconst 2, 1) := by decide +kernel
theorem dX6_likenessInOrder_105 : decode cX6_likenessInOrder 105 = .ok (.iadd, 1) := by decide +kernel
theorem dX6_likenessInOrder_106 : decode cX6_likenessInOrder 106 = .ok (.iaload, 1) := by decide +kernel
theorem dX6_likenessInOrder_107 : decode cX6_likenessInOrder 107 = .ok (.i2l, 1) := by decide +kernel
theorem dX6_likenessInOrder_108 : decode cX6_likenessInOrder 108 = .ok (.lload 8, 2) := by decide +kernel
theorem dX6_likenessInOrder_110 : decode cX6_likenessInOrder 110 = .ok (.lmul, 1) := by decide +kernel
theorem dX6_likenessInOrder_111 : decode cX6_likenessInOrder 111 = .ok (.aload_n 0, 1) := by decide +kernel
theorem dX6_likenessInOrder_112 : decode cX6_likenessInOrder 112 = .ok (.getfield 21, 3) := by decide +kernel
theorem dX6_likenessInOrder_115 : decode cX6_likenessInOrder 115 = .ok (.iload 11, 2) := by decide +kernel
theorem dX6_likenessInOrder_117 : decode cX6_likenessInOrder 117 = .ok (.iload 5, 2) := by decide +kernel
theorem dX6_likenessInOrder_119 : decode cX6_likenessInOrder 119 = .ok (.iadd, 1) := by decide +kernel
theorem dX6_likenessInOrder_120 : decode cX6_likenessInOrder 120 = .ok (.iaload, 1) := by decide +kernel
theorem dX6_likenessInOrder_121 : decode cX6_likenessInOrder 121 = .ok (.i2l, 1) := by decide +kernel
theorem dX6_likenessInOrder_122 : decode cX6_likenessInOrder 122 = .ok (.lload 6, 2) := by decide +kernel
theorem dX6_likenessInOrder_124 : decode cX6_likenessInOrder 124 = .ok (.lmul, 1) := by decide +kernel
theorem dX6_likenessInOrder_125 : decode cX6_likenessInOrder 125 = .ok (.lsub, 1) := by decide +kernel
theorem dX6_likenessInOrder_126 : decode cX6_likenessInOrder 126 = .ok (.invokestatic 25, 3) := by decide +kernel
theorem dX6_likenessInOrder_129 : decode cX6_likenessInOrder 129 = .ok (.ladd, 1) := by decide +kernel
theorem dX6_likenessInOrder_130 : decode cX6_likenessInOrder 130 = .ok (.aload_n 0, 1) := by decide +kernel
theorem dX6_likenessInOrder_131 : decode cX6_likenessInOrder 131 = .ok (.getfield 21, 3) := by decide +kernel
theorem dX6_likenessInOrder_134 : decode cX6_likenessInOrder 134 = .ok (.iload 10, 2) := by decide +kernel
theorem dX6_likenessInOrder_136 : decode cX6_likenessInOrder 136 = .ok (.iconst 3, 1) := by decide +kernel
theorem dX6_likenessInOrder_137 : decode cX6_likenessInOrder 137 = .ok (.iadd, 1) := by decide +kernel
theorem dX6_likenessInOrder_138 : decode cX6_likenessInOrder 138 = .ok (.iaload, 1) := by decide +kernel
theorem dX6_likenessInOrder_139 : decode cX6_likenessInOrder 139 = .ok (.i2l, 1) := by decide +kernel
theorem dX6_likenessInOrder_140 : decode cX6_likenessInOrder 140 = .ok (.lload 8, 2) := by decide +kernel
theorem dX6_likenessInOrder_142 : decode cX6_likenessInOrder 142 = .ok (.lmul, 1) := by decide +kernel
theorem dX6_likenessInOrder_143 : decode cX6_likenessInOrder 143 = .ok (.aload_n 0, 1) := by decide +kernel
theorem dX6_likenessInOrder_144 : decode cX6_likenessInOrder 144 = .ok (.getfield 21, 3) := by decide +kernel
theorem dX6_likenessInOrder_147 : decode cX6_likenessInOrder 147 = .ok (.iload 11, 2) := by decide +kernel
theorem dX6_likenessInOrder_149 : decode cX6_likenessInOrder 149 = .ok (.iload 12, 2) := by decide +kernel
theorem dX6_likenessInOrder_151 : decode cX6_likenessInOrder 151 = .ok (.iadd, 1) := by decide +kernel
theorem dX6_likenessInOrder_152 : decode cX6_likenessInOrder 152 = .ok (.iaload, 1) := by decide +kernel
theorem dX6_likenessInOrder_153 : decode cX6_likenessInOrder 153 = .ok (.i2l, 1) := by decide +kernel
theorem dX6_likenessInOrder_154 : decode cX6_likenessInOrder 154 = .ok (.lload 6, 2) := by decide +kernel
theorem dX6_likenessInOrder_156 : decode cX6_likenessInOrder 156 = .ok (.lmul, 1) := by decide +kernel
theorem dX6_likenessInOrder_157 : decode cX6_likenessInOrder 157 = .ok (.lsub, 1) := by decide +kernel
theorem dX6_likenessInOrder_158 : decode cX6_likenessInOrder 158 = .ok (.invokestatic 25, 3) := by decide +kernel
theorem dX6_likenessInOrder_161 : decode cX6_likenessInOrder 161 = .ok (.ladd, 1) := by decide +kernel
theorem dX6_likenessInOrder_162 : decode cX6_likenessInOrder 162 = .ok (.lreturn, 1) := by decide +kernel
theorem dX6_chanceOf_0 : decode cX6_chanceOf 0 = .ok (.aload_n 0, 1) := by decide +kernel
theorem dX6_chanceOf_1 : decode cX6_chanceOf 1 = .ok (.iload_n 1, 1) := by decide +kernel
theorem dX6_chanceOf_2 : decode cX6_chanceOf 2 = .ok (.iload_n 2, 1) := by decide +kernel
theorem dX6_chanceOf_3 : decode cX6_chanceOf 3 = .ok (.invokestatic 31, 3) := by decide +kernel
theorem dX6_chanceOf_6 : decode cX6_chanceOf 6 = .ok (.lstore_n 3, 1) := by decide +kernel
theorem dX6_chanceOf_7 : decode cX6_chanceOf 7 = .ok (.iconst 0, 1) := by decide +kernel
theorem dX6_chanceOf_8 : decode cX6_chanceOf 8 = .ok (.istore 5, 2) := by decide +kernel
theorem dX6_chanceOf_10 : decode cX6_chanceOf 10 = .ok (.iconst 0, 1) := by decide +kernel
theorem dX6_chanceOf_11 : decode cX6_chanceOf 11 = .ok (.istore 6, 2) := by decide +kernel
theorem dX6_chanceOf_13 : decode cX6_chanceOf 13 = .ok (.iload 6, 2) := by decide +kernel
theorem dX6_chanceOf_15 : decode cX6_chanceOf 15 = .ok (.iconst 4, 1) := by decide +kernel
theorem dX6_chanceOf_16 : decode cX6_chanceOf 16 = .ok (.if_icmp .ge 92, 3) := by decide +kernel
theorem dX6_chanceOf_19 : decode cX6_chanceOf 19 = .ok (.iconst 0, 1) := by decide +kernel
theorem dX6_chanceOf_20 : decode cX6_chanceOf 20 = .ok (.istore 7, 2) := by decide +kernel
theorem dX6_chanceOf_22 : decode cX6_chanceOf 22 = .ok (.iload 7, 2) := by decide +kernel
theorem dX6_chanceOf_24 : decode cX6_chanceOf 24 = .ok (.iconst 4, 1) := by decide +kernel
theorem dX6_chanceOf_25 : decode cX6_chanceOf 25 = .ok (.if_icmp .ge 77, 3) := by decide +kernel
theorem dX6_chanceOf_28 : decode cX6_chanceOf 28 = .ok (.iconst 0, 1) := by decide +kernel
theorem dX6_chanceOf_29 : decode cX6_chanceOf 29 = .ok (.istore 8, 2) := by decide +kernel
theorem dX6_chanceOf_31 : decode cX6_chanceOf 31 = .ok (.iload 8, 2) := by decide +kernel
theorem dX6_chanceOf_33 : decode cX6_chanceOf 33 = .ok (.iconst 4, 1) := by decide +kernel
theorem dX6_chanceOf_34 : decode cX6_chanceOf 34 = .ok (.if_icmp .ge 62, 3) := by decide +kernel
theorem dX6_chanceOf_37 : decode cX6_chanceOf 37 = .ok (.iload 6, 2) := by decide +kernel
theorem dX6_chanceOf_39 : decode cX6_chanceOf 39 = .ok (.iload 7, 2) := by decide +kernel
theorem dX6_chanceOf_41 : decode cX6_chanceOf 41 = .ok (.if_icmp .eq 21, 3) := by decide +kernel
theorem dX6_chanceOf_44 : decode cX6_chanceOf 44 = .ok (.iload 6, 2) := by decide +kernel
theorem dX6_chanceOf_46 : decode cX6_chanceOf 46 = .ok (.iload 8, 2) := by decide +kernel
theorem dX6_chanceOf_48 : decode cX6_chanceOf 48 = .ok (.if_icmp .eq 14, 3) := by decide +kernel
theorem dX6_chanceOf_51 : decode cX6_chanceOf 51 = .ok (.iload 7, 2) := by decide +kernel
theorem dX6_chanceOf_53 : decode cX6_chanceOf 53 = .ok (.iload 8, 2) := by decide +kernel
theorem dX6_chanceOf_55 : decode cX6_chanceOf 55 = .ok (.if_icmp .eq 7, 3) := by decide +kernel
theorem dX6_chanceOf_58 : decode cX6_chanceOf 58 = .ok (.iconst 1, 1) := by decide +kernel
theorem dX6_chanceOf_59 : decode cX6_chanceOf 59 = .ok (.goto 4, 3) := by decide +kernel
theorem dX6_chanceOf_62 : decode cX6_chanceOf 62 = .ok (.iconst 0, 1) := by decide +kernel
theorem dX6_chanceOf_63 : decode cX6_chanceOf 63 = .ok (.istore 9, 2) := by decide +kernel
theorem dX6_chanceOf_65 : decode cX6_chanceOf 65 = .ok (.iload 9, 2) := by decide +kernel
theorem dX6_chanceOf_67 : decode cX6_chanceOf 67 = .ok (.ifCond .eq 23, 3) := by decide +kernel
theorem dX6_chanceOf_70 : decode cX6_chanceOf 70 = .ok (.aload_n 0, 1) := by decide +kernel
theorem dX6_chanceOf_71 : decode cX6_chanceOf 71 = .ok (.iload_n 1, 1) := by decide +kernel
theorem dX6_chanceOf_72 : decode cX6_chanceOf 72 = .ok (.iload_n 2, 1) := by decide +kernel
theorem dX6_chanceOf_73 : decode cX6_chanceOf 73 = .ok (.iload 6, 2) := by decide +kernel
theorem dX6_chanceOf_75 : decode cX6_chanceOf 75 = .ok (.iload 7, 2) := by decide +kernel
theorem dX6_chanceOf_77 : decode cX6_chanceOf 77 = .ok (.iload 8, 2) := by decide +kernel
theorem dX6_chanceOf_79 : decode cX6_chanceOf 79 = .ok (.invokestatic 9, 3) := by decide +kernel
theorem dX6_chanceOf_82 : decode cX6_chanceOf 82 = .ok (.lload_n 3, 1) := by decide +kernel
theorem dX6_chanceOf_83 : decode cX6_chanceOf 83 = .ok (.lcmp, 1) := by decide +kernel
theorem dX6_chanceOf_84 : decode cX6_chanceOf 84 = .ok (.ifCond .gt 6, 3) := by decide +kernel
theorem dX6_chanceOf_87 : decode cX6_chanceOf 87 = .ok (.iinc 5 1, 3) := by decide +kernel
theorem dX6_chanceOf_90 : decode cX6_chanceOf 90 = .ok (.iinc 8 1, 3) := by decide +kernel
theorem dX6_chanceOf_93 : decode cX6_chanceOf 93 = .ok (.goto (-62), 3) := by decide +kernel
theorem dX6_chanceOf_96 : decode cX6_chanceOf 96 = .ok (.iinc 7 1, 3) := by decide +kernel
theorem dX6_chanceOf_99 : decode cX6_chanceOf 99 = .ok (.goto (-77), 3) := by decide +kernel
theorem dX6_chanceOf_102 : decode cX6_chanceOf 102 = .ok (.iinc 6 1, 3) := by decide +kernel
theorem dX6_chanceOf_105 : decode cX6_chanceOf 105 = .ok (.goto (-92), 3) := by decide +kernel
theorem dX6_chanceOf_108 : decode cX6_chanceOf 108 = .ok (.iload 5, 2) := by decide +kernel
theorem dX6_chanceOf_110 : decode cX6_chanceOf 110 = .ok (.ireturn, 1) := by decide +kernel
theorem dX6_areJoined_0 : decode cX6_areJoined 0 = .ok (.aload_n 0, 1) := by decide +kernel
theorem dX6_areJoined_1 : decode cX6_areJoined 1 = .ok (.iload_n 1, 1) := by decide +kernel
theorem dX6_areJoined_2 : decode cX6_areJoined 2 = .ok (.iload_n 2, 1) := by decide +kernel
theorem dX6_areJoined_3 : decode cX6_areJoined 3 = .ok (.invokestatic 31, 3) := by decide +kernel
theorem dX6_areJoined_6 : decode cX6_areJoined 6 = .ok (.lstore_n 3, 1) := by decide +kernel
theorem dX6_areJoined_7 : decode cX6_areJoined 7 = .ok (.aload_n 0, 1) := by decide +kernel
theorem dX6_areJoined_8 : decode cX6_areJoined 8 = .ok (.iload_n 1, 1) := by decide +kernel
theorem dX6_areJoined_9 : decode cX6_areJoined 9 = .ok (.invokevirtual 15, 3) := by decide +kernel
theorem dX6_areJoined_12 : decode cX6_areJoined 12 = .ok (.i2l, 1) := by decide +kernel
theorem dX6_areJoined_13 : decode cX6_areJoined 13 = .ok (.aload_n 0, 1) := by decide +kernel
theorem dX6_areJoined_14 : decode cX6_areJoined 14 = .ok (.iload_n 2, 1) := by decide +kernel
theorem dX6_areJoined_15 : decode cX6_areJoined 15 = .ok (.invokevirtual 15, 3) := by decide +kernel
theorem dX6_areJoined_18 : decode cX6_areJoined 18 = .ok (.i2l, 1) := by decide +kernel
theorem dX6_areJoined_19 : decode cX6_areJoined 19 = .ok (.lmul, 1) := by decide +kernel
theorem dX6_areJoined_20 : decode cX6_areJoined 20 = .ok (.lstore 5, 2) := by decide +kernel
theorem dX6_areJoined_22 : decode cX6_areJoined 22 = .ok (.lload_n 3, 1) := by decide +kernel
theorem dX6_areJoined_23 : decode cX6_areJoined 23 = .ok (.ldc2_w 35, 3) := by decide +kernel
theorem dX6_areJoined_26 : decode cX6_areJoined 26 = .ok (.lmul, 1) := by decide +kernel
theorem dX6_areJoined_27 : decode cX6_areJoined 27 = .ok (.lload 5, 2) := by decide +kernel
theorem dX6_areJoined_29 : decode cX6_areJoined 29 = .ok (.lcmp, 1) := by decide +kernel
theorem dX6_areJoined_30 : decode cX6_areJoined 30 = .ok (.ifCond .le 5, 3) := by decide +kernel
theorem dX6_areJoined_33 : decode cX6_areJoined 33 = .ok (.iconst 0, 1) := by decide +kernel
theorem dX6_areJoined_34 : decode cX6_areJoined 34 = .ok (.ireturn, 1) := by decide +kernel
theorem dX6_areJoined_35 : decode cX6_areJoined 35 = .ok (.lload_n 3, 1) := by decide +kernel
theorem dX6_areJoined_36 : decode cX6_areJoined 36 = .ok (.lconst 0, 1) := by decide +kernel
theorem dX6_areJoined_37 : decode cX6_areJoined 37 = .ok (.lcmp, 1) := by decide +kernel
theorem dX6_areJoined_38 : decode cX6_areJoined 38 = .ok (.ifCond .eq 13, 3) := by decide +kernel
theorem dX6_areJoined_41 : decode cX6_areJoined 41 = .ok (.aload_n 0, 1) := by decide +kernel
theorem dX6_areJoined_42 : decode cX6_areJoined 42 = .ok (.iload_n 1, 1) := by decide +kernel
theorem dX6_areJoined_43 : decode cX6_areJoined 43 = .ok (.iload_n 2, 1) := by decide +kernel
theorem dX6_areJoined_44 : decode cX6_areJoined 44 = .ok (.invokestatic 37, 3) := by decide +kernel
theorem dX6_areJoined_47 : decode cX6_areJoined 47 = .ok (.iconst 1, 1) := by decide +kernel
theorem dX6_areJoined_48 : decode cX6_areJoined 48 = .ok (.if_icmp .ne 7, 3) := by decide +kernel
theorem dX6_areJoined_51 : decode cX6_areJoined 51 = .ok (.iconst 1, 1) := by decide +kernel
theorem dX6_areJoined_52 : decode cX6_areJoined 52 = .ok (.goto 4, 3) := by decide +kernel
theorem dX6_areJoined_55 : decode cX6_areJoined 55 = .ok (.iconst 0, 1) := by decide +kernel
theorem dX6_areJoined_56 : decode cX6_areJoined 56 = .ok (.ireturn, 1) := by decide +kernel
theorem dX6_leastJoined_0 : decode cX6_leastJoined 0 = .ok (.iconst 1, 1) := by decide +kernel
theorem dX6_leastJoined_1 : decode cX6_leastJoined 1 = .ok (.iload_n 2, 1) := by decide +kernel
theorem dX6_leastJoined_2 : decode cX6_leastJoined 2 = .ok (.ishl, 1) := by decide +kernel
theorem dX6_leastJoined_3 : decode cX6_leastJoined 3 = .ok (.istore_n 3, 1) := by decide +kernel
theorem dX6_leastJoined_4 : decode cX6_leastJoined 4 = .ok (.iconst 0, 1) := by decide +kernel
theorem dX6_leastJoined_5 : decode cX6_leastJoined 5 = .ok (.istore 4, 2) := by decide +kernel
theorem dX6_leastJoined_7 : decode cX6_leastJoined 7 = .ok (.iconst 0, 1) := by decide +kernel
theorem dX6_leastJoined_8 : decode cX6_leastJoined 8 = .ok (.istore 5, 2) := by decide +kernel
theorem dX6_leastJoined_10 : decode cX6_leastJoined 10 = .ok (.iload 5, 2) := by decide +kernel
theorem dX6_leastJoined_12 : decode cX6_leastJoined 12 = .ok (.bipush 8, 2) := by decide +kernel
theorem dX6_leastJoined_14 : decode cX6_leastJoined 14 = .ok (.if_icmp .ge 46, 3) := by decide +kernel
theorem dX6_leastJoined_17 : decode cX6_leastJoined 17 = .ok (.iload 4, 2) := by decide +kernel
theorem dX6_leastJoined_19 : decode cX6_leastJoined 19 = .ok (.iload_n 3, 1) := by decide +kernel
theorem dX6_leastJoined_20 : decode cX6_leastJoined 20 = .ok (.if_icmp .eq 40, 3) := by decide +kernel
theorem dX6_leastJoined_23 : decode cX6_leastJoined 23 = .ok (.iload_n 3, 1) := by decide +kernel
theorem dX6_leastJoined_24 : decode cX6_leastJoined 24 = .ok (.iload 4, 2) := by decide +kernel
theorem dX6_leastJoined_26 : decode cX6_leastJoined 26 = .ok (.iconst (-1), 1) := by decide +kernel
theorem dX6_leastJoined_27 : decode cX6_leastJoined 27 = .ok (.ixor, 1) := by decide +kernel
theorem dX6_leastJoined_28 : decode cX6_leastJoined 28 = .ok (.iand, 1) := by decide +kernel
theorem dX6_leastJoined_29 : decode cX6_leastJoined 29 = .ok (.invokestatic 41, 3) := by decide +kernel
theorem dX6_leastJoined_32 : decode cX6_leastJoined 32 = .ok (.istore 6, 2) := by decide +kernel
theorem dX6_leastJoined_34 : decode cX6_leastJoined 34 = .ok (.iload 4, 2) := by decide +kernel
theorem dX6_leastJoined_36 : decode cX6_leastJoined 36 = .ok (.iconst 1, 1) := by decide +kernel
theorem dX6_leastJoined_37 : decode cX6_leastJoined 37 = .ok (.iload 6, 2) := by decide +kernel
theorem dX6_leastJoined_39 : decode cX6_leastJoined 39 = .ok (.ishl, 1) := by decide +kernel
theorem dX6_leastJoined_40 : decode cX6_leastJoined 40 = .ok (.ior, 1) := by decide +kernel
theorem dX6_leastJoined_41 : decode cX6_leastJoined 41 = .ok (.istore 4, 2) := by decide +kernel
theorem dX6_leastJoined_43 : decode cX6_leastJoined 43 = .ok (.iload_n 3, 1) := by decide +kernel
theorem dX6_leastJoined_44 : decode cX6_leastJoined 44 = .ok (.aload_n 0, 1) := by decide +kernel
theorem dX6_leastJoined_45 : decode cX6_leastJoined 45 = .ok (.iload_n 1, 1) := by decide +kernel
theorem dX6_leastJoined_46 : decode cX6_leastJoined 46 = .ok (.iload 6, 2) := by decide +kernel
theorem dX6_leastJoined_48 : decode cX6_leastJoined 48 = .ok (.iload_n 3, 1) := by decide +kernel
theorem dX6_leastJoined_49 : decode cX6_leastJoined 49 = .ok (.invokestatic 46, 3) := by decide +kernel
theorem dX6_leastJoined_52 : decode cX6_leastJoined 52 = .ok (.ior, 1) := by decide +kernel
theorem dX6_leastJoined_53 : decode cX6_leastJoined 53 = .ok (.istore_n 3, 1) := by decide +kernel
theorem dX6_leastJoined_54 : decode cX6_leastJoined 54 = .ok (.iinc 5 1, 3) := by decide +kernel
theorem dX6_leastJoined_57 : decode cX6_leastJoined 57 = .ok (.goto (-47), 3) := by decide +kernel
theorem dX6_leastJoined_60 : decode cX6_leastJoined 60 = .ok (.iload_n 3, 1) := by decide +kernel
theorem dX6_leastJoined_61 : decode cX6_leastJoined 61 = .ok (.invokestatic 41, 3) := by decide +kernel
theorem dX6_leastJoined_64 : decode cX6_leastJoined 64 = .ok (.ireturn, 1) := by decide +kernel
theorem dX6_joinedWith_0 : decode cX6_joinedWith 0 = .ok (.iconst 0, 1) := by decide +kernel
theorem dX6_joinedWith_1 : decode cX6_joinedWith 1 = .ok (.istore 4, 2) := by decide +kernel
theorem dX6_joinedWith_3 : decode cX6_joinedWith 3 = .ok (.iconst 0, 1) := by decide +kernel
theorem dX6_joinedWith_4 : decode cX6_joinedWith 4 = .ok (.istore 5, 2) := by decide +kernel
theorem dX6_joinedWith_6 : decode cX6_joinedWith 6 = .ok (.iload 5, 2) := by decide +kernel
theorem dX6_joinedWith_8 : decode cX6_joinedWith 8 = .ok (.bipush 8, 2) := by decide +kernel
theorem dX6_joinedWith_10 : decode cX6_joinedWith 10 = .ok (.if_icmp .ge 71, 3) := by decide +kernel
theorem dX6_joinedWith_13 : decode cX6_joinedWith 13 = .ok (.iload 5, 2) := by decide +kernel
theorem dX6_joinedWith_15 : decode cX6_joinedWith 15 = .ok (.iload_n 1, 1) := by decide +kernel
theorem dX6_joinedWith_16 : decode cX6_joinedWith 16 = .ok (.invokestatic 50, 3) := by decide +kernel
theorem dX6_joinedWith_19 : decode cX6_joinedWith 19 = .ok (.istore 6, 2) := by decide +kernel
theorem dX6_joinedWith_21 : decode cX6_joinedWith 21 = .ok (.iload_n 3, 1) := by decide +kernel
theorem dX6_joinedWith_22 : decode cX6_joinedWith 22 = .ok (.iload 5, 2) := by decide +kernel
theorem dX6_joinedWith_24 : decode cX6_joinedWith 24 = .ok (.ishr, 1) := by decide +kernel
theorem dX6_joinedWith_25 : decode cX6_joinedWith 25 = .ok (.iconst 1, 1) := by decide +kernel
theorem dX6_joinedWith_26 : decode cX6_joinedWith 26 = .ok (.iand, 1) := by decide +kernel
theorem dX6_joinedWith_27 : decode cX6_joinedWith 27 = .ok (.ifCond .ne 7, 3) := by decide +kernel
theorem dX6_joinedWith_30 : decode cX6_joinedWith 30 = .ok (.iconst 1, 1) := by decide +kernel
theorem dX6_joinedWith_31 : decode cX6_joinedWith 31 = .ok (.goto 4, 3) := by decide +kernel
theorem dX6_joinedWith_34 : decode cX6_joinedWith 34 = .ok (.iconst 0, 1) := by decide +kernel
theorem dX6_joinedWith_35 : decode cX6_joinedWith 35 = .ok (.istore 7, 2) := by decide +kernel
theorem dX6_joinedWith_37 : decode cX6_joinedWith 37 = .ok (.iload 7, 2) := by decide +kernel
theorem dX6_joinedWith_39 : decode cX6_joinedWith 39 = .ok (.ifCond .eq 36, 3) := by decide +kernel
theorem dX6_joinedWith_42 : decode cX6_joinedWith 42 = .ok (.aload_n 0, 1) := by decide +kernel
theorem dX6_joinedWith_43 : decode cX6_joinedWith 43 = .ok (.getfield 54, 3) := by decide +kernel
theorem dX6_joinedWith_46 : decode cX6_joinedWith 46 = .ok (.iload 6, 2) := by decide +kernel
theorem dX6_joinedWith_48 : decode cX6_joinedWith 48 = .ok (.baload, 1) := by decide +kernel
theorem dX6_joinedWith_49 : decode cX6_joinedWith 49 = .ok (.ifCond .eq 26, 3) := by decide +kernel
theorem dX6_joinedWith_52 : decode cX6_joinedWith 52 = .ok (.aload_n 0, 1) := by decide +kernel
theorem dX6_joinedWith_53 : decode cX6_joinedWith 53 = .ok (.iload_n 2, 1) := by decide +kernel
theorem dX6_joinedWith_54 : decode cX6_joinedWith 54 = .ok (.iload_n 1, 1) := by decide +kernel
theorem dX6_joinedWith_55 : decode cX6_joinedWith 55 = .ok (.invokestatic 50, 3) := by decide +kernel
theorem dX6_joinedWith_58 : decode cX6_joinedWith 58 = .ok (.iload 6, 2) := by decide +kernel
theorem dX6_joinedWith_60 : decode cX6_joinedWith 60 = .ok (.invokestatic 58, 3) := by decide +kernel
theorem dX6_joinedWith_63 : decode cX6_joinedWith 63 = .ok (.ifCond .eq 12, 3) := by decide +kernel
theorem dX6_joinedWith_66 : decode cX6_joinedWith 66 = .ok (.iload 4, 2) := by decide +kernel
theorem dX6_joinedWith_68 : decode cX6_joinedWith 68 = .ok (.iconst 1, 1) := by decide +kernel
theorem dX6_joinedWith_69 : decode cX6_joinedWith 69 = .ok (.iload 5, 2) := by decide +kernel
theorem dX6_joinedWith_71 : decode cX6_joinedWith 71 = .ok (.ishl, 1) := by decide +kernel
theorem dX6_joinedWith_72 : decode cX6_joinedWith 72 = .ok (.ior, 1) := by decide +kernel
theorem dX6_joinedWith_73 : decode cX6_joinedWith 73 = .ok (.istore 4, 2) := by decide +kernel
theorem dX6_joinedWith_75 : decode cX6_joinedWith 75 = .ok (.iinc 5 1, 3) := by decide +kernel
theorem dX6_joinedWith_78 : decode cX6_joinedWith 78 = .ok (.goto (-72), 3) := by decide +kernel
theorem dX6_joinedWith_81 : decode cX6_joinedWith 81 = .ok (.iload 4, 2) := by decide +kernel
theorem dX6_joinedWith_83 : decode cX6_joinedWith 83 = .ok (.ireturn, 1) := by decide +kernel
theorem dX7_init_0 : decode cX7_init 0 = .ok (.aload_n 0, 1) := by decide +kernel
theorem dX7_init_1 : decode cX7_init 1 = .ok (.invokespecial 3, 3) := by decide +kernel
theorem dX7_init_4 : decode cX7_init 4 = .ok (.aload_n 0, 1) := by decide +kernel
theorem dX7_init_5 : decode cX7_init 5 = .ok (.new 9, 3) := by decide +kernel
theorem dX7_init_8 : decode cX7_init 8 = .ok (.dup, 1) := by decide +kernel
theorem dX7_init_9 : decode cX7_init 9 = .ok (.invokespecial 11, 3) := by decide +kernel
theorem dX7_init_12 : decode cX7_init 12 = .ok (.putfield 12, 3) := by decide +kernel
theorem dX7_init_15 : decode cX7_init 15 = .ok (.aload_n 0, 1) := by decide +kernel
theorem dX7_init_16 : decode cX7_init 16 = .ok (.bipush 8, 2) := by decide +kernel
theorem dX7_init_18 : decode cX7_init 18 = .ok (.newarray .boolean, 2) := by decide +kernel
theorem dX7_init_20 : decode cX7_init 20 = .ok (.putfield 18, 3) := by decide +kernel
theorem dX7_init_23 : decode cX7_init 23 = .ok (.aload_n 0, 1) := by decide +kernel
theorem dX7_init_24 : decode cX7_init 24 = .ok (.bipush 8, 2) := by decide +kernel
theorem dX7_init_26 : decode cX7_init 26 = .ok (.newarray .int, 2) := by decide +kernel
theorem dX7_init_28 : decode cX7_init 28 = .ok (.putfield 22, 3) := by decide +kernel
theorem dX7_init_31 : decode cX7_init 31 = .ok (.aload_n 0, 1) := by decide +kernel
theorem dX7_init_32 : decode cX7_init 32 = .ok (.bipush 8, 2) := by decide +kernel
theorem dX7_init_34 : decode cX7_init 34 = .ok (.newarray .long, 2) := by decide +kernel
theorem dX7_init_36 : decode cX7_init 36 = .ok (.putfield 26, 3) := by decide +kernel
theorem dX7_init_39 : decode cX7_init 39 = .ok (.aload_n 0, 1) := by decide +kernel
theorem dX7_init_40 : decode cX7_init 40 = .ok (.bipush 8, 2) := by decide +kernel
theorem dX7_init_42 : decode cX7_init 42 = .ok (.newarray .long, 2) := by decide +kernel
theorem dX7_init_44 : decode cX7_init 44 = .ok (.putfield 30, 3) := by decide +kernel
theorem dX7_init_47 : decode cX7_init 47 = .ok (.aload_n 0, 1) := by decide +kernel
theorem dX7_init_48 : decode cX7_init 48 = .ok (.bipush 8, 2) := by decide +kernel
theorem dX7_init_50 : decode cX7_init 50 = .ok (.newarray .long, 2) := by decide +kernel
theorem dX7_init_52 : decode cX7_init 52 = .ok (.putfield 33, 3) := by decide +kernel
theorem dX7_init_55 : decode cX7_init 55 = .ok (.aload_n 0, 1) := by decide +kernel
theorem dX7_init_56 : decode cX7_init 56 = .ok (.bipush 8, 2) := by decide +kernel
theorem dX7_init_58 : decode cX7_init 58 = .ok (.newarray .long, 2) := by decide +kernel
theorem dX7_init_60 : decode cX7_init 60 = .ok (.putfield 36, 3) := by decide +kernel
theorem dX7_init_63 : decode cX7_init 63 = .ok (.aload_n 0, 1) := by decide +kernel
theorem dX7_init_64 : decode cX7_init 64 = .ok (.bipush 8, 2) := by decide +kernel
theorem dX7_init_66 : decode cX7_init 66 = .ok (.newarray .boolean, 2) := by decide +kernel
theorem dX7_init_68 : decode cX7_init 68 = .ok (.putfield 39, 3) := by decide +kernel
theorem dX7_init_71 : decode cX7_init 71 = .ok (.aload_n 0, 1) := by decide +kernel
theorem dX7_init_72 : decode cX7_init 72 = .ok (.bipush 8, 2) := by decide +kernel
theorem dX7_init_74 : decode cX7_init 74 = .ok (.newarray .int, 2) := by decide +kernel
theorem dX7_init_76 : decode cX7_init 76 = .ok (.putfield 42, 3) := by decide +kernel
theorem dX7_init_79 : decode cX7_init 79 = .ok (.aload_n 0, 1) := by decide +kernel
theorem dX7_init_80 : decode cX7_init 80 = .ok (.bipush 80, 2) := by decide +kernel
theorem dX7_init_82 : decode cX7_init 82 = .ok (.newarray .long, 2) := by decide +kernel
theorem dX7_init_84 : decode cX7_init 84 = .ok (.putfield 45, 3) := by decide +kernel
theorem dX7_init_87 : decode cX7_init 87 = .ok (.aload_n 0, 1) := by decide +kernel
theorem dX7_init_88 : decode cX7_init 88 = .ok (.bipush 80, 2) := by decide +kernel
theorem dX7_init_90 : decode cX7_init 90 = .ok (.newarray .long, 2) := by decide +kernel
theorem dX7_init_92 : decode cX7_init 92 = .ok (.putfield 48, 3) := by decide +kernel
theorem dX7_init_95 : decode cX7_init 95 = .ok (.return_, 1) := by decide +kernel
theorem dX7_lay_0 : decode cX7_lay 0 = .ok (.iconst 0, 1) := by decide +kernel
theorem dX7_lay_1 : decode cX7_lay 1 = .ok (.istore 5, 2) := by decide +kernel
theorem dX7_lay_3 : decode cX7_lay 3 = .ok (.iload 5, 2) := by decide +kernel
theorem dX7_lay_5 : decode cX7_lay 5 = .ok (.bipush 8, 2) := by decide +kernel
theorem dX7_lay_7 : decode cX7_lay 7 = .ok (.if_icmp .ge 72, 3) := by decide +kernel
theorem dX7_lay_10 : decode cX7_lay 10 = .ok (.iload 5, 2) := by decide +kernel
theorem dX7_lay_12 : decode cX7_lay 12 = .ok (.iload_n 3, 1) := by decide +kernel
theorem dX7_lay_13 : decode cX7_lay 13 = .ok (.invokestatic 51, 3) := by decide +kernel
theorem dX7_lay_16 : decode cX7_lay 16 = .ok (.istore 6, 2) := by decide +kernel
theorem dX7_lay_18 : decode cX7_lay 18 = .ok (.aload_n 0, 1) := by decide +kernel
theorem dX7_lay_19 : decode cX7_lay 19 = .ok (.getfield 18, 3) := by decide +kernel
theorem dX7_lay_22 : decode cX7_lay 22 = .ok (.iload 5, 2) := by decide +kernel
theorem dX7_lay_24 : decode cX7_lay 24 = .ok (.iload 5, 2) := by decide +kernel
theorem dX7_lay_26 : decode cX7_lay 26 = .ok (.iload 4, 2) := by decide +kernel
theorem dX7_lay_28 : decode cX7_lay 28 = .ok (.if_icmp .eq 16, 3) := by decide +kernel
theorem dX7_lay_31 : decode cX7_lay 31 = .ok (.aload_n 1, 1) := by decide +kernel
theorem dX7_lay_32 : decode cX7_lay 32 = .ok (.iload 6, 2) := by decide +kernel
theorem dX7_lay_34 : decode cX7_lay 34 = .ok (.invokevirtual 55, 3) := by decide +kernel
theorem dX7_lay_37 : decode cX7_lay 37 = .ok (.ifCond .eq 7, 3) := by decide +kernel
theorem dX7_lay_40 : decode cX7_lay 40 = .ok (.iconst 1, 1) := by decide +kernel
theorem dX7_lay_41 : decode cX7_lay 41 = .ok (.goto 4, 3) := by decide +kernel
theorem dX7_lay_44 : decode cX7_lay 44 = .ok (.iconst 0, 1) := by decide +kernel
theorem dX7_lay_45 : decode cX7_lay 45 = .ok (.bastore, 1) := by decide +kernel
theorem dX7_lay_46 : decode cX7_lay 46 = .ok (.aload_n 0, 1) := by decide +kernel
theorem dX7_lay_47 : decode cX7_lay 47 = .ok (.getfield 22, 3) := by decide +kernel
theorem dX7_lay_50 : decode cX7_lay 50 = .ok (.iload 5, 2) := by decide +kernel
theorem dX7_lay_52 : decode cX7_lay 52 = .ok (.aload_n 1, 1) := by decide +kernel
theorem dX7_lay_53 : decode cX7_lay 53 = .ok (.getfield 61, 3) := by decide +kernel
theorem dX7_lay_56 : decode cX7_lay 56 = .ok (.iload 6, 2) := by decide +kernel
theorem dX7_lay_58 : decode cX7_lay 58 = .ok (.baload, 1) := by decide +kernel
theorem dX7_lay_59 : decode cX7_lay 59 = .ok (.ifCond .eq 12, 3) := by decide +kernel
theorem dX7_lay_62 : decode cX7_lay 62 = .ok (.aload_n 1, 1) := by decide +kernel
theorem dX7_lay_63 : decode cX7_lay 63 = .ok (.iload 6, 2) := by decide +kernel
theorem dX7_lay_65 : decode cX7_lay 65 = .ok (.invokevirtual 64, 3) := by decide +kernel
theorem dX7_lay_68 : decode cX7_lay 68 = .ok (.goto 4, 3) := by decide +kernel
theorem dX7_lay_71 : decode cX7_lay 71 = .ok (.iconst 0, 1) := by decide +kernel
theorem dX7_lay_72 : decode cX7_lay 72 = .ok (.iastore, 1) := by decide +kernel
theorem dX7_lay_73 : decode cX7_lay 73 = .ok (.iinc 5 1, 3) := by decide +kernel
theorem dX7_lay_76 : decode cX7_lay 76 = .ok (.goto (-73), 3) := by decide +kernel
theorem dX7_lay_79 : decode cX7_lay 79 = .ok (.aload_n 2, 1) := by decide +kernel
theorem dX7_lay_80 : decode cX7_lay 80 = .ok (.aload_n 0, 1) := by decide +kernel
theorem dX7_lay_81 : decode cX7_lay 81 = .ok (.getfield 18, 3) := by decide +kernel
theorem dX7_lay_84 : decode cX7_lay 84 = .ok (.invokevirtual 68, 3) := by decide +kernel
theorem dX7_lay_87 : decode cX7_lay 87 = .ok (.iconst 0, 1) := by decide +kernel
theorem dX7_lay_88 : decode cX7_lay 88 = .ok (.istore 5, 2) := by decide +kernel
theorem dX7_lay_90 : decode cX7_lay 90 = .ok (.iload 5, 2) := by decide +kernel
theorem dX7_lay_92 : decode cX7_lay 92 = .ok (.bipush 8, 2) := by decide +kernel
theorem dX7_lay_94 : decode cX7_lay 94 = .ok (.if_icmp .ge 51, 3) := by decide +kernel
theorem dX7_lay_97 : decode cX7_lay 97 = .ok (.aload_n 2, 1) := by decide +kernel
theorem dX7_lay_98 : decode cX7_lay 98 = .ok (.iload 5, 2) := by decide +kernel
theorem dX7_lay_100 : decode cX7_lay 100 = .ok (.iload_n 3, 1) := by decide +kernel
theorem dX7_lay_101 : decode cX7_lay 101 = .ok (.invokestatic 51, 3) := by decide +kernel
theorem dX7_lay_104 : decode cX7_lay 104 = .ok (.aload_n 0, 1) := by decide +kernel
theorem dX7_lay_105 : decode cX7_lay 105 = .ok (.getfield 12, 3) := by decide +kernel
theorem dX7_lay_108 : decode cX7_lay 108 = .ok (.invokevirtual 74, 3) := by decide +kernel
theorem dX7_lay_111 : decode cX7_lay 111 = .ok (.aload_n 0, 1) := by decide +kernel
theorem dX7_lay_112 : decode cX7_lay 112 = .ok (.getfield 26, 3) := by decide +kernel
theorem dX7_lay_115 : decode cX7_lay 115 = .ok (.iload 5, 2) := by decide +kernel
theorem dX7_lay_117 : decode cX7_lay 117 = .ok (.aload_n 0, 1) := by decide +kernel
theorem dX7_lay_118 : decode cX7_lay 118 = .ok (.getfield 12, 3) := by decide +kernel
theorem dX7_lay_121 : decode cX7_lay 121 = .ok (.getfield 78, 3) := by decide +kernel
theorem dX7_lay_124 : decode cX7_lay 124 = .ok (.lastore, 1) := by decide +kernel
theorem dX7_lay_125 : decode cX7_lay 125 = .ok (.aload_n 0, 1) := by decide +kernel
theorem dX7_lay_126 : decode cX7_lay 126 = .ok (.getfield 30, 3) := by decide +kernel
theorem dX7_lay_129 : decode cX7_lay 129 = .ok (.iload 5, 2) := by decide +kernel
theorem dX7_lay_131 : decode cX7_lay 131 = .ok (.aload_n 0, 1) := by decide +kernel
theorem dX7_lay_132 : decode cX7_lay 132 = .ok (.getfield 12, 3) := by decide +kernel
theorem dX7_lay_135 : decode cX7_lay 135 = .ok (.getfield 82, 3) := by decide +kernel
theorem dX7_lay_138 : decode cX7_lay 138 = .ok (.lastore, 1) := by decide +kernel
theorem dX7_lay_139 : decode cX7_lay 139 = .ok (.iinc 5 1, 3) := by decide +kernel
theorem dX7_lay_142 : decode cX7_lay 142 = .ok (.goto (-52), 3) := by decide +kernel
theorem dX7_lay_145 : decode cX7_lay 145 = .ok (.aload_n 0, 1) := by decide +kernel
theorem dX7_lay_146 : decode cX7_lay 146 = .ok (.invokevirtual 85, 3) := by decide +kernel
theorem dX7_lay_149 : decode cX7_lay 149 = .ok (.return_, 1) := by decide +kernel
theorem dX7_sumUp_0 : decode cX7_sumUp 0 = .ok (.lconst 0, 1) := by decide +kernel
theorem dX7_sumUp_1 : decode cX7_sumUp 1 = .ok (.lstore_n 1, 1) := by decide +kernel
theorem dX7_sumUp_2 : decode cX7_sumUp 2 = .ok (.aload_n 0, 1) := by decide +kernel
theorem dX7_sumUp_3 : decode cX7_sumUp 3 = .ok (.ldc2_w 90, 3) := by decide +kernel
theorem dX7_sumUp_6 : decode cX7_sumUp 6 = .ok (.putfield 92, 3) := by decide +kernel
theorem dX7_sumUp_9 : decode cX7_sumUp 9 = .ok (.aload_n 0, 1) := by decide +kernel
theorem dX7_sumUp_10 : decode cX7_sumUp 10 = .ok (.lconst 0, 1) := by decide +kernel
theorem dX7_sumUp_11 : decode cX7_sumUp 11 = .ok (.putfield 95, 3) := by decide +kernel
theorem dX7_sumUp_14 : decode cX7_sumUp 14 = .ok (.aload_n 0, 1) := by decide +kernel
theorem dX7_sumUp_15 : decode cX7_sumUp 15 = .ok (.iconst 0, 1) := by decide +kernel
theorem dX7_sumUp_16 : decode cX7_sumUp 16 = .ok (.putfield 98, 3) := by decide +kernel
theorem dX7_sumUp_19 : decode cX7_sumUp 19 = .ok (.aload_n 0, 1) := by decide +kernel
theorem dX7_sumUp_20 : decode cX7_sumUp 20 = .ok (.lconst 0, 1) := by decide +kernel
theorem dX7_sumUp_21 : decode cX7_sumUp 21 = .ok (.putfield 102, 3) := by decide +kernel
theorem dX7_sumUp_24 : decode cX7_sumUp 24 = .ok (.aload_n 0, 1) := by decide +kernel
theorem dX7_sumUp_25 : decode cX7_sumUp 25 = .ok (.lconst 1, 1) := by decide +kernel
theorem dX7_sumUp_26 : decode cX7_sumUp 26 = .ok (.putfield 105, 3) := by decide +kernel
theorem dX7_sumUp_29 : decode cX7_sumUp 29 = .ok (.iconst 0, 1) := by decide +kernel
theorem dX7_sumUp_30 : decode cX7_sumUp 30 = .ok (.istore_n 3, 1) := by decide +kernel
theorem dX7_sumUp_31 : decode cX7_sumUp 31 = .ok (.iload_n 3, 1) := by decide +kernel
theorem dX7_sumUp_32 : decode cX7_sumUp 32 = .ok (.bipush 8, 2) := by decide +kernel
theorem dX7_sumUp_34 : decode cX7_sumUp 34 = .ok (.if_icmp .ge 120, 3) := by decide +kernel
theorem dX7_sumUp_37 : decode cX7_sumUp 37 = .ok (.aload_n 0, 1) := by decide +kernel
theorem dX7_sumUp_38 : decode cX7_sumUp 38 = .ok (.getfield 18, 3) := by decide +kernel
theorem dX7_sumUp_41 : decode cX7_sumUp 41 = .ok (.iload_n 3, 1) := by decide +kernel
theorem dX7_sumUp_42 : decode cX7_sumUp 42 = .ok (.baload, 1) := by decide +kernel
theorem dX7_sumUp_43 : decode cX7_sumUp 43 = .ok (.ifCond .eq 105, 3) := by decide +kernel
theorem dX7_sumUp_46 : decode cX7_sumUp 46 = .ok (.aload_n 0, 1) := by decide +kernel
theorem dX7_sumUp_47 : decode cX7_sumUp 47 = .ok (.aload_n 0, 1) := by decide +kernel
theorem dX7_sumUp_48 : decode cX7_sumUp 48 = .ok (.getfield 92, 3) := by decide +kernel
theorem dX7_sumUp_51 : decode cX7_sumUp 51 = .ok (.aload_n 0, 1) := by decide +kernel
theorem dX7_sumUp_52 : decode cX7_sumUp 52 = .ok (.getfield 22, 3) := by decide +kernel
theorem dX7_sumUp_55 : decode cX7_sumUp 55 = .ok (.iload_n 3, 1) := by decide +kernel
theorem dX7_sumUp_56 : decode cX7_sumUp 56 = .ok (.iaload, 1) := by decide +kernel
theorem dX7_sumUp_57 : decode cX7_sumUp 57 = .ok (.i2l, 1) := by decide +kernel
theorem dX7_sumUp_58 : decode cX7_sumUp 58 = .ok (.invokestatic 108, 3) := by decide +kernel
theorem dX7_sumUp_61 : decode cX7_sumUp 61 = .ok (.putfield 92, 3) := by decide +kernel
theorem dX7_sumUp_64 : decode cX7_sumUp 64 = .ok (.aload_n 0, 1) := by decide +kernel
theorem dX7_sumUp_65 : decode cX7_sumUp 65 = .ok (.aload_n 0, 1) := by decide +kernel
theorem dX7_sumUp_66 : decode cX7_sumUp 66 = .ok (.getfield 95, 3) := by decide +kernel
theorem dX7_sumUp_69 : decode cX7_sumUp 69 = .ok (.aload_n 0, 1) := by decide +kernel
theorem dX7_sumUp_70 : decode cX7_sumUp 70 = .ok (.getfield 22, 3) := by decide +kernel
theorem dX7_sumUp_73 : decode cX7_sumUp 73 = .ok (.iload_n 3, 1) := by decide +kernel
theorem dX7_sumUp_74 : decode cX7_sumUp 74 = .ok (.iaload, 1) := by decide +kernel
theorem dX7_sumUp_75 : decode cX7_sumUp 75 = .ok (.i2l, 1) := by decide +kernel
theorem dX7_sumUp_76 : decode cX7_sumUp 76 = .ok (.invokestatic 114, 3) := by decide +kernel
theorem dX7_sumUp_79 : decode cX7_sumUp 79 = .ok (.putfield 95, 3) := by decide +kernel
theorem dX7_sumUp_82 : decode cX7_sumUp 82 = .ok (.lload_n 1, 1) := by decide +kernel
theorem dX7_sumUp_83 : decode cX7_sumUp 83 = .ok (.aload_n 0, 1) := by decide +kernel
theorem dX7_sumUp_84 : decode cX7_sumUp 84 = .ok (.getfield 22, 3) := by decide +kernel
theorem dX7_sumUp_87 : decode cX7_sumUp 87 = .ok (.iload_n 3, 1) := by decide +kernel
theorem dX7_sumUp_88 : decode cX7_sumUp 88 = .ok (.iaload, 1) := by decide +kernel
theorem dX7_sumUp_89 : decode cX7_sumUp 89 = .ok (.i2l, 1) := by decide +kernel
theorem dX7_sumUp_90 : decode cX7_sumUp 90 = .ok (.ladd, 1) := by decide +kernel
theorem dX7_sumUp_91 : decode cX7_sumUp 91 = .ok (.lstore_n 1, 1) := by decide +kernel
theorem dX7_sumUp_92 : decode cX7_sumUp 92 = .ok (.aload_n 0, 1) := by decide +kernel
theorem dX7_sumUp_93 : decode cX7_sumUp 93 = .ok (.dup, 1) := by decide +kernel
theorem dX7_sumUp_94 : decode cX7_sumUp 94 = .ok (.getfield 98, 3) := by decide +kernel
theorem dX7_sumUp_97 : decode cX7_sumUp 97 = .ok (.iconst 1, 1) := by decide +kernel
theorem dX7_sumUp_98 : decode cX7_sumUp 98 = .ok (.iadd, 1) := by decide +kernel
theorem dX7_sumUp_99 : decode cX7_sumUp 99 = .ok (.putfield 98, 3) := by decide +kernel
theorem dX7_sumUp_102 : decode cX7_sumUp 102 = .ok (.aload_n 0, 1) := by decide +kernel
theorem dX7_sumUp_103 : decode cX7_sumUp 103 = .ok (.getfield 26, 3) := by decide +kernel
theorem dX7_sumUp_106 : decode cX7_sumUp 106 = .ok (.iload_n 3, 1) := by decide +kernel
theorem dX7_sumUp_107 : decode cX7_sumUp 107 = .ok (.laload, 1) := by decide +kernel
theorem dX7_sumUp_108 : decode cX7_sumUp 108 = .ok (.aload_n 0, 1) := by decide +kernel
theorem dX7_sumUp_109 : decode cX7_sumUp 109 = .ok (.getfield 105, 3) := by decide +kernel
theorem dX7_sumUp_112 : decode cX7_sumUp 112 = .ok (.lmul, 1) := by decide +kernel
theorem dX7_sumUp_113 : decode cX7_sumUp 113 = .ok (.aload_n 0, 1) := by decide +kernel
theorem dX7_sumUp_114 : decode cX7_sumUp 114 = .ok (.getfield 102, 3) := by decide +kernel
theorem dX7_sumUp_117 : decode cX7_sumUp 117 = .ok (.aload_n 0, 1) := by decide +kernel
theorem dX7_sumUp_118 : decode cX7_sumUp 118 = .ok (.getfield 30, 3) := by decide +kernel
theorem dX7_sumUp_121 : decode cX7_sumUp 121 = .ok (.iload_n 3, 1) := by decide +kernel
theorem dX7_sumUp_122 : decode cX7_sumUp 122 = .ok (.laload, 1) := by decide +kernel
theorem dX7_sumUp_123 : decode cX7_sumUp 123 = .ok (.lmul, 1) := by decide +kernel
theorem dX7_sumUp_124 : decode cX7_sumUp 124 = .ok (.lcmp, 1) := by decide +kernel
theorem dX7_sumUp_125 : decode cX7_sumUp 125 = .ok (.ifCond .le 23, 3) := by decide +kernel
theorem dX7_sumUp_128 : decode cX7_sumUp 128 = .ok (.aload_n 0, 1) := by decide +kernel
theorem dX7_sumUp_129 : decode cX7_sumUp 129 = .ok (.aload_n 0, 1) := by decide +kernel
theorem dX7_sumUp_130 : decode cX7_sumUp 130 = .ok (.getfield 26, 3) := by decide +kernel
theorem dX7_sumUp_133 : decode cX7_sumUp 133 = .ok (.iload_n 3, 1) := by decide +kernel
theorem dX7_sumUp_134 : decode cX7_sumUp 134 = .ok (.laload, 1) := by decide +kernel
theorem dX7_sumUp_135 : decode cX7_sumUp 135 = .ok (.putfield 102, 3) := by decide +kernel
theorem dX7_sumUp_138 : decode cX7_sumUp 138 = .ok (.aload_n 0, 1) := by decide +kernel
theorem dX7_sumUp_139 : decode cX7_sumUp 139 = .ok (.aload_n 0, 1) := by decide +kernel
theorem dX7_sumUp_140 : decode cX7_sumUp 140 = .ok (.getfield 30, 3) := by decide +kernel
theorem dX7_sumUp_143 : decode cX7_sumUp 143 = .ok (.iload_n 3, 1) := by decide +kernel
theorem dX7_sumUp_144 : decode cX7_sumUp 144 = .ok (.laload, 1) := by decide +kernel
theorem dX7_sumUp_145 : decode cX7_sumUp 145 = .ok (.putfield 105, 3) := by decide +kernel
theorem dX7_sumUp_148 : decode cX7_sumUp 148 = .ok (.iinc 3 1, 3) := by decide +kernel
theorem dX7_sumUp_151 : decode cX7_sumUp 151 = .ok (.goto (-120), 3) := by decide +kernel
theorem dX7_sumUp_154 : decode cX7_sumUp 154 = .ok (.aload_n 0, 1) := by decide +kernel
theorem dX7_sumUp_155 : decode cX7_sumUp 155 = .ok (.getfield 12, 3) := by decide +kernel
theorem dX7_sumUp_158 : decode cX7_sumUp 158 = .ok (.lload_n 1, 1) := by decide +kernel
theorem dX7_sumUp_159 : decode cX7_sumUp 159 = .ok (.iconst 1, 1) := by decide +kernel
theorem dX7_sumUp_160 : decode cX7_sumUp 160 = .ok (.aload_n 0, 1) := by decide +kernel
theorem dX7_sumUp_161 : decode cX7_sumUp 161 = .ok (.getfield 98, 3) := by decide +kernel
theorem dX7_sumUp_164 : decode cX7_sumUp 164 = .ok (.invokestatic 117, 3) := by decide +kernel
theorem dX7_sumUp_167 : decode cX7_sumUp 167 = .ok (.i2l, 1) := by decide +kernel
theorem dX7_sumUp_168 : decode cX7_sumUp 168 = .ok (.invokevirtual 119, 3) := by decide +kernel
theorem dX7_sumUp_171 : decode cX7_sumUp 171 = .ok (.aload_n 0, 1) := by decide +kernel
theorem dX7_sumUp_172 : decode cX7_sumUp 172 = .ok (.aload_n 0, 1) := by decide +kernel
theorem dX7_sumUp_173 : decode cX7_sumUp 173 = .ok (.getfield 12, 3) := by decide +kernel
theorem dX7_sumUp_176 : decode cX7_sumUp 176 = .ok (.getfield 78, 3) := by decide +kernel
theorem dX7_sumUp_179 : decode cX7_sumUp 179 = .ok (.putfield 123, 3) := by decide +kernel
theorem dX7_sumUp_182 : decode cX7_sumUp 182 = .ok (.aload_n 0, 1) := by decide +kernel
theorem dX7_sumUp_183 : decode cX7_sumUp 183 = .ok (.aload_n 0, 1) := by decide +kernel
theorem dX7_sumUp_184 : decode cX7_sumUp 184 = .ok (.getfield 12, 3) := by decide +kernel
theorem dX7_sumUp_187 : decode cX7_sumUp 187 = .ok (.getfield 82, 3) := by decide +kernel
theorem dX7_sumUp_190 : decode cX7_sumUp 190 = .ok (.putfield 126, 3) := by decide +kernel
theorem dX7_sumUp_193 : decode cX7_sumUp 193 = .ok (.return_, 1) := by decide +kernel
theorem dX7_workGain_0 : decode cX7_workGain 0 = .ok (.aload_n 0, 1) := by decide +kernel
theorem dX7_workGain_1 : decode cX7_workGain 1 = .ok (.aload_n 1, 1) := by decide +kernel
theorem dX7_workGain_2 : decode cX7_workGain 2 = .ok (.iload_n 2, 1) := by decide +kernel
theorem dX7_workGain_3 : decode cX7_workGain 3 = .ok (.invokevirtual 129, 3) := by decide +kernel
theorem dX7_workGain_6 : decode cX7_workGain 6 = .ok (.aload_n 0, 1) := by decide +kernel
theorem dX7_workGain_7 : decode cX7_workGain 7 = .ok (.getfield 39, 3) := by decide +kernel
theorem dX7_workGain_10 : decode cX7_workGain 10 = .ok (.iload_n 2, 1) := by decide +kernel
theorem dX7_workGain_11 : decode cX7_workGain 11 = .ok (.baload, 1) := by decide +kernel
theorem dX7_workGain_12 : decode cX7_workGain 12 = .ok (.ifCond .eq 5, 3) := by decide +kernel
theorem dX7_workGain_15 : decode cX7_workGain 15 = .ok (.iconst 0, 1) := by decide +kernel
theorem dX7_workGain_16 : decode cX7_workGain 16 = .ok (.ireturn, 1) := by decide +kernel
theorem dX7_workGain_17 : decode cX7_workGain 17 = .ok (.aload_n 0, 1) := by decide +kernel
theorem dX7_workGain_18 : decode cX7_workGain 18 = .ok (.getfield 33, 3) := by decide +kernel
theorem dX7_workGain_21 : decode cX7_workGain 21 = .ok (.iload_n 2, 1) := by decide +kernel
theorem dX7_workGain_22 : decode cX7_workGain 22 = .ok (.laload, 1) := by decide +kernel
theorem dX7_workGain_23 : decode cX7_workGain 23 = .ok (.lstore 4, 2) := by decide +kernel
theorem dX7_workGain_25 : decode cX7_workGain 25 = .ok (.aload_n 0, 1) := by decide +kernel
theorem dX7_workGain_26 : decode cX7_workGain 26 = .ok (.getfield 36, 3) := by decide +kernel
theorem dX7_workGain_29 : decode cX7_workGain 29 = .ok (.iload_n 2, 1) := by decide +kernel
theorem dX7_workGain_30 : decode cX7_workGain 30 = .ok (.laload, 1) := by decide +kernel
theorem dX7_workGain_31 : decode cX7_workGain 31 = .ok (.lstore 6, 2) := by decide +kernel
theorem dX7_workGain_33 : decode cX7_workGain 33 = .ok (.aload_n 0, 1) := by decide +kernel
theorem dX7_workGain_34 : decode cX7_workGain 34 = .ok (.getfield 22, 3) := by decide +kernel
theorem dX7_workGain_37 : decode cX7_workGain 37 = .ok (.iload_n 2, 1) := by decide +kernel
theorem dX7_workGain_38 : decode cX7_workGain 38 = .ok (.iconst 1, 1) := by decide +kernel
theorem dX7_workGain_39 : decode cX7_workGain 39 = .ok (.aload_n 0, 1) := by decide +kernel
theorem dX7_workGain_40 : decode cX7_workGain 40 = .ok (.getfield 22, 3) := by decide +kernel
theorem dX7_workGain_43 : decode cX7_workGain 43 = .ok (.iload_n 2, 1) := by decide +kernel
theorem dX7_workGain_44 : decode cX7_workGain 44 = .ok (.iaload, 1) := by decide +kernel
theorem dX7_workGain_45 : decode cX7_workGain 45 = .ok (.iload_n 3, 1) := by decide +kernel
theorem dX7_workGain_46 : decode cX7_workGain 46 = .ok (.isub, 1) := by decide +kernel
theorem dX7_workGain_47 : decode cX7_workGain 47 = .ok (.invokestatic 117, 3) := by decide +kernel
theorem dX7_workGain_50 : decode cX7_workGain 50 = .ok (.iastore, 1) := by decide +kernel
theorem dX7_workGain_51 : decode cX7_workGain 51 = .ok (.aload_n 0, 1) := by decide +kernel
theorem dX7_workGain_52 : decode cX7_workGain 52 = .ok (.invokevirtual 85, 3) := by decide +kernel
theorem dX7_workGain_55 : decode cX7_workGain 55 = .ok (.aload_n 0, 1) := by decide +kernel
theorem dX7_workGain_56 : decode cX7_workGain 56 = .ok (.aload_n 1, 1) := by decide +kernel
theorem dX7_workGain_57 : decode cX7_workGain 57 = .ok (.iload_n 2, 1) := by decide +kernel
theorem dX7_workGain_58 : decode cX7_workGain 58 = .ok (.invokevirtual 129, 3) := by decide +kernel
theorem dX7_workGain_61 : decode cX7_workGain 61 = .ok (.aload_n 0, 1) := by decide +kernel
theorem dX7_workGain_62 : decode cX7_workGain 62 = .ok (.getfield 39, 3) := by decide +kernel
theorem dX7_workGain_65 : decode cX7_workGain 65 = .ok (.iload_n 2, 1) := by decide +kernel
theorem dX7_workGain_66 : decode cX7_workGain 66 = .ok (.baload, 1) := by decide +kernel
theorem dX7_workGain_67 : decode cX7_workGain 67 = .ok (.ifCond .eq 5, 3) := by decide +kernel
theorem dX7_workGain_70 : decode cX7_workGain 70 = .ok (.iconst 0, 1) := by decide +kernel
theorem dX7_workGain_71 : decode cX7_workGain 71 = .ok (.ireturn, 1) := by decide +kernel
theorem dX7_workGain_72 : decode cX7_workGain 72 = .ok (.aload_n 0, 1) := by decide +kernel
theorem dX7_workGain_73 : decode cX7_workGain 73 = .ok (.lload 4, 2) := by decide +kernel
theorem dX7_workGain_75 : decode cX7_workGain 75 = .ok (.lload 6, 2) := by decide +kernel
theorem dX7_workGain_77 : decode cX7_workGain 77 = .ok (.invokevirtual 133, 3) := by decide +kernel
theorem dX7_workGain_80 : decode cX7_workGain 80 = .ok (.aload_n 0, 1) := by decide +kernel
theorem dX7_workGain_81 : decode cX7_workGain 81 = .ok (.bipush 45, 2) := by decide +kernel
theorem dX7_workGain_83 : decode cX7_workGain 83 = .ok (.invokevirtual 136, 3) := by decide +kernel
theorem dX7_workGain_86 : decode cX7_workGain 86 = .ok (.aload_n 0, 1) := by decide +kernel
theorem dX7_workGain_87 : decode cX7_workGain 87 = .ok (.getfield 12, 3) := by decide +kernel
theorem dX7_workGain_90 : decode cX7_workGain 90 = .ok (.getfield 140, 3) := by decide +kernel
theorem dX7_workGain_93 : decode cX7_workGain 93 = .ok (.ifCond .ne 7, 3) := by decide +kernel
theorem dX7_workGain_96 : decode cX7_workGain 96 = .ok (.iconst 1, 1) := by decide +kernel
theorem dX7_workGain_97 : decode cX7_workGain 97 = .ok (.goto 4, 3) := by decide +kernel
theorem dX7_workGain_100 : decode cX7_workGain 100 = .ok (.iconst 0, 1) := by decide +kernel
theorem dX7_workGain_101 : decode cX7_workGain 101 = .ok (.ireturn, 1) := by decide +kernel
theorem dX7_work_0 : decode cX7_work 0 = .ok (.aload_n 0, 1) := by decide +kernel
theorem dX7_work_1 : decode cX7_work 1 = .ok (.iconst 0, 1) := by decide +kernel
theorem dX7_work_2 : decode cX7_work 2 = .ok (.putfield 143, 3) := by decide +kernel
theorem dX7_work_5 : decode cX7_work 5 = .ok (.aload_n 0, 1) := by decide +kernel
theorem dX7_work_6 : decode cX7_work 6 = .ok (.getfield 12, 3) := by decide +kernel
theorem dX7_work_9 : decode cX7_work 9 = .ok (.iconst 0, 1) := by decide +kernel
theorem dX7_work_10 : decode cX7_work 10 = .ok (.putfield 140, 3) := by decide +kernel
theorem dX7_work_13 : decode cX7_work 13 = .ok (.iconst 0, 1) := by decide +kernel
theorem dX7_work_14 : decode cX7_work 14 = .ok (.istore_n 3, 1) := by decide +kernel
theorem dX7_work_15 : decode cX7_work 15 = .ok (.iload_n 3, 1) := by decide +kernel
theorem dX7_work_16 : decode cX7_work 16 = .ok (.aload_n 1, 1) := by decide +kernel
theorem dX7_work_17 : decode cX7_work 17 = .ok (.getfield 146, 3) := by decide +kernel
theorem dX7_work_20 : decode cX7_work 20 = .ok (.if_icmp .ge 76, 3) := by decide +kernel
theorem dX7_work_23 : decode cX7_work 23 = .ok (.iload_n 3, 1) := by decide +kernel
theorem dX7_work_24 : decode cX7_work 24 = .ok (.bipush 80, 2) := by decide +kernel
theorem dX7_work_26 : decode cX7_work 26 = .ok (.if_icmp .ge 70, 3) := by decide +kernel
theorem dX7_work_29 : decode cX7_work 29 = .ok (.aload_n 0, 1) := by decide +kernel
theorem dX7_work_30 : decode cX7_work 30 = .ok (.getfield 12, 3) := by decide +kernel
theorem dX7_work_33 : decode cX7_work 33 = .ok (.getfield 140, 3) := by decide +kernel
theorem dX7_work_36 : decode cX7_work 36 = .ok (.ifCond .ne 60, 3) := by decide +kernel
theorem dX7_work_39 : decode cX7_work 39 = .ok (.aload_n 1, 1) := by decide +kernel
theorem dX7_work_40 : decode cX7_work 40 = .ok (.getfield 151, 3) := by decide +kernel
theorem dX7_work_43 : decode cX7_work 43 = .ok (.iload_n 3, 1) := by decide +kernel
theorem dX7_work_44 : decode cX7_work 44 = .ok (.iaload, 1) := by decide +kernel
theorem dX7_work_45 : decode cX7_work 45 = .ok (.istore 4, 2) := by decide +kernel
theorem dX7_work_47 : decode cX7_work 47 = .ok (.iload 4, 2) := by decide +kernel
theorem dX7_work_49 : decode cX7_work 49 = .ok (.ifCond .lt 14, 3) := by decide +kernel
theorem dX7_work_52 : decode cX7_work 52 = .ok (.aload_n 0, 1) := by decide +kernel
theorem dX7_work_53 : decode cX7_work 53 = .ok (.iload 4, 2) := by decide +kernel
theorem dX7_work_55 : decode cX7_work 55 = .ok (.i2l, 1) := by decide +kernel
theorem dX7_work_56 : decode cX7_work 56 = .ok (.lconst 1, 1) := by decide +kernel
theorem dX7_work_57 : decode cX7_work 57 = .ok (.invokevirtual 133, 3) := by decide +kernel
theorem dX7_work_60 : decode cX7_work 60 = .ok (.goto 30, 3) := by decide +kernel
theorem dX7_work_63 : decode cX7_work 63 = .ok (.iload 4, 2) := by decide +kernel
theorem dX7_work_65 : decode cX7_work 65 = .ok (.ineg, 1) := by decide +kernel
theorem dX7_work_66 : decode cX7_work 66 = .ok (.invokestatic 154, 3) := by decide +kernel
theorem dX7_work_69 : decode cX7_work 69 = .ok (.ifCond .eq 14, 3) := by decide +kernel
theorem dX7_work_72 : decode cX7_work 72 = .ok (.aload_n 0, 1) := by decide +kernel
theorem dX7_work_73 : decode cX7_work 73 = .ok (.iload 4, 2) := by decide +kernel
theorem dX7_work_75 : decode cX7_work 75 = .ok (.ineg, 1) := by decide +kernel
theorem dX7_work_76 : decode cX7_work 76 = .ok (.iload_n 2, 1) := by decide +kernel
theorem dX7_work_77 : decode cX7_work 77 = .ok (.invokevirtual 157, 3) := by decide +kernel
theorem dX7_work_80 : decode cX7_work 80 = .ok (.goto 10, 3) := by decide +kernel
theorem dX7_work_83 : decode cX7_work 83 = .ok (.aload_n 0, 1) := by decide +kernel
theorem dX7_work_84 : decode cX7_work 84 = .ok (.iload 4, 2) := by decide +kernel
theorem dX7_work_86 : decode cX7_work 86 = .ok (.ineg, 1) := by decide +kernel
theorem dX7_work_87 : decode cX7_work 87 = .ok (.invokevirtual 136, 3) := by decide +kernel
theorem dX7_work_90 : decode cX7_work 90 = .ok (.iinc 3 1, 3) := by decide +kernel
theorem dX7_work_93 : decode cX7_work 93 = .ok (.goto (-78), 3) := by decide +kernel
theorem dX7_work_96 : decode cX7_work 96 = .ok (.aload_n 0, 1) := by decide +kernel
theorem dX7_work_97 : decode cX7_work 97 = .ok (.getfield 39, 3) := by decide +kernel
theorem dX7_work_100 : decode cX7_work 100 = .ok (.iload_n 2, 1) := by decide +kernel
theorem dX7_work_101 : decode cX7_work 101 = .ok (.aload_n 0, 1) := by decide +kernel
theorem dX7_work_102 : decode cX7_work 102 = .ok (.getfield 12, 3) := by decide +kernel
theorem dX7_work_105 : decode cX7_work 105 = .ok (.getfield 140, 3) := by decide +kernel
theorem dX7_work_108 : decode cX7_work 108 = .ok (.ifCond .ne 11, 3) := by decide +kernel
theorem dX7_work_111 : decode cX7_work 111 = .ok (.aload_n 0, 1) := by decide +kernel
theorem dX7_work_112 : decode cX7_work 112 = .ok (.getfield 143, 3) := by decide +kernel
theorem dX7_work_115 : decode cX7_work 115 = .ok (.iconst 1, 1) := by decide +kernel
theorem dX7_work_116 : decode cX7_work 116 = .ok (.if_icmp .eq 7, 3) := by decide +kernel
theorem dX7_work_119 : decode cX7_work 119 = .ok (.iconst 1, 1) := by decide +kernel
theorem dX7_work_120 : decode cX7_work 120 = .ok (.goto 4, 3) := by decide +kernel
theorem dX7_work_123 : decode cX7_work 123 = .ok (.iconst 0, 1) := by decide +kernel
theorem dX7_work_124 : decode cX7_work 124 = .ok (.bastore, 1) := by decide +kernel
theorem dX7_work_125 : decode cX7_work 125 = .ok (.aload_n 0, 1) := by decide +kernel
theorem dX7_work_126 : decode cX7_work 126 = .ok (.getfield 33, 3) := by decide +kernel
theorem dX7_work_129 : decode cX7_work 129 = .ok (.iload_n 2, 1) := by decide +kernel
theorem dX7_work_130 : decode cX7_work 130 = .ok (.aload_n 0, 1) := by decide +kernel
theorem dX7_work_131 : decode cX7_work 131 = .ok (.getfield 45, 3) := by decide +kernel
theorem dX7_work_134 : decode cX7_work 134 = .ok (.iconst 0, 1) := by decide +kernel
theorem dX7_work_135 : decode cX7_work 135 = .ok (.laload, 1) := by decide +kernel
theorem dX7_work_136 : decode cX7_work 136 = .ok (.lastore, 1) := by decide +kernel
theorem dX7_work_137 : decode cX7_work 137 = .ok (.aload_n 0, 1) := by decide +kernel
theorem dX7_work_138 : decode cX7_work 138 = .ok (.getfield 36, 3) := by decide +kernel
theorem dX7_work_141 : decode cX7_work 141 = .ok (.iload_n 2, 1) := by decide +kernel
theorem dX7_work_142 : decode cX7_work 142 = .ok (.aload_n 0, 1) := by decide +kernel
theorem dX7_work_143 : decode cX7_work 143 = .ok (.getfield 48, 3) := by decide +kernel
theorem dX7_work_146 : decode cX7_work 146 = .ok (.iconst 0, 1) := by decide +kernel
theorem dX7_work_147 : decode cX7_work 147 = .ok (.laload, 1) := by decide +kernel
theorem dX7_work_148 : decode cX7_work 148 = .ok (.lastore, 1) := by decide +kernel
theorem dX7_work_149 : decode cX7_work 149 = .ok (.return_, 1) := by decide +kernel
theorem dX7_pushName_0 : decode cX7_pushName 0 = .ok (.iload_n 1, 1) := by decide +kernel
theorem dX7_pushName_1 : decode cX7_pushName 1 = .ok (.tableswitch 171 97 113 #[122, 156, 171, 171, 171, 171, 171, 110, 171, 171, 171, 98, 171, 171, 171, 83, 137], 83) := by decide +kernel
theorem dX7_pushName_84 : decode cX7_pushName 84 = .ok (.aload_n 0, 1) := by decide +kernel
theorem dX7_pushName_85 : decode cX7_pushName 85 = .ok (.aload_n 0, 1) := by decide +kernel
theorem dX7_pushName_86 : decode cX7_pushName 86 = .ok (.getfield 22, 3) := by decide +kernel
theorem dX7_pushName_89 : decode cX7_pushName 89 = .ok (.iload_n 2, 1) := by decide +kernel
theorem dX7_pushName_90 : decode cX7_pushName 90 = .ok (.iaload, 1) := by decide +kernel
theorem dX7_pushName_91 : decode cX7_pushName 91 = .ok (.i2l, 1) := by decide +kernel
theorem dX7_pushName_92 : decode cX7_pushName 92 = .ok (.lconst 1, 1) := by decide +kernel
theorem dX7_pushName_93 : decode cX7_pushName 93 = .ok (.invokevirtual 133, 3) := by decide +kernel
theorem dX7_pushName_96 : decode cX7_pushName 96 = .ok (.goto 86, 3) := by decide +kernel
theorem dX7_pushName_99 : decode cX7_pushName 99 = .ok (.aload_n 0, 1) := by decide +kernel
theorem dX7_pushName_100 : decode cX7_pushName 100 = .ok (.aload_n 0, 1) := by decide +kernel
theorem dX7_pushName_101 : decode cX7_pushName 101 = .ok (.getfield 92, 3) := by decide +kernel
theorem dX7_pushName_104 : decode cX7_pushName 104 = .ok (.lconst 1, 1) := by decide +kernel
theorem dX7_pushName_105 : decode cX7_pushName 105 = .ok (.invokevirtual 133, 3) := by decide +kernel
theorem dX7_pushName_108 : decode cX7_pushName 108 = .ok (.goto 74, 3) := by decide +kernel
theorem dX7_pushName_111 : decode cX7_pushName 111 = .ok (.aload_n 0, 1) := by decide +kernel
theorem dX7_pushName_112 : decode cX7_pushName 112 = .ok (.aload_n 0, 1) := by decide +kernel
theorem dX7_pushName_113 : decode cX7_pushName 113 = .ok (.getfield 95, 3) := by decide +kernel
theorem dX7_pushName_116 : decode cX7_pushName 116 = .ok (.lconst 1, 1) := by decide +kernel
theorem dX7_pushName_117 : decode cX7_pushName 117 = .ok (.invokevirtual 133, 3) := by decide +kernel
theorem dX7_pushName_120 : decode cX7_pushName 120 = .ok (.goto 62, 3) := by decide +kernel
theorem dX7_pushName_123 : decode cX7_pushName 123 = .ok (.aload_n 0, 1) := by decide +kernel
theorem dX7_pushName_124 : decode cX7_pushName 124 = .ok (.aload_n 0, 1) := by decide +kernel
theorem dX7_pushName_125 : decode cX7_pushName 125 = .ok (.getfield 123, 3) := by decide +kernel
theorem dX7_pushName_128 : decode cX7_pushName 128 = .ok (.aload_n 0, 1) := by decide +kernel
theorem dX7_pushName_129 : decode cX7_pushName 129 = .ok (.getfield 126, 3) := by decide +kernel
theorem dX7_pushName_132 : decode cX7_pushName 132 = .ok (.invokevirtual 133, 3) := by decide +kernel
theorem dX7_pushName_135 : decode cX7_pushName 135 = .ok (.goto 47, 3) := by decide +kernel
theorem dX7_pushName_138 : decode cX7_pushName 138 = .ok (.aload_n 0, 1) := by decide +kernel
theorem dX7_pushName_139 : decode cX7_pushName 139 = .ok (.aload_n 0, 1) := by decide +kernel
theorem dX7_pushName_140 : decode cX7_pushName 140 = .ok (.getfield 26, 3) := by decide +kernel
theorem dX7_pushName_143 : decode cX7_pushName 143 = .ok (.iload_n 2, 1) := by decide +kernel
theorem dX7_pushName_144 : decode cX7_pushName 144 = .ok (.laload, 1) := by decide +kernel
theorem dX7_pushName_145 : decode cX7_pushName 145 = .ok (.aload_n 0, 1) := by decide +kernel
theorem dX7_pushName_146 : decode cX7_pushName 146 = .ok (.getfield 30, 3) := by decide +kernel
theorem dX7_pushName_149 : decode cX7_pushName 149 = .ok (.iload_n 2, 1) := by decide +kernel
theorem dX7_pushName_150 : decode cX7_pushName 150 = .ok (.laload, 1) := by decide +kernel
theorem dX7_pushName_151 : decode cX7_pushName 151 = .ok (.invokevirtual 133, 3) := by decide +kernel
theorem dX7_pushName_154 : decode cX7_pushName 154 = .ok (.goto 28, 3) := by decide +kernel
theorem dX7_pushName_157 : decode cX7_pushName 157 = .ok (.aload_n 0, 1) := by decide +kernel
theorem dX7_pushName_158 : decode cX7_pushName 158 = .ok (.aload_n 0, 1) := by decide +kernel
theorem dX7_pushName_159 : decode cX7_pushName 159 = .ok (.getfield 102, 3) := by decide +kernel
theorem dX7_pushName_162 : decode cX7_pushName 162 = .ok (.aload_n 0, 1) := by decide +kernel
theorem dX7_pushName_163 : decode cX7_pushName 163 = .ok (.getfield 105, 3) := by decide +kernel
theorem dX7_pushName_166 : decode cX7_pushName 166 = .ok (.invokevirtual 133, 3) := by decide +kernel
theorem dX7_pushName_169 : decode cX7_pushName 169 = .ok (.goto 13, 3) := by decide +kernel
theorem dX7_pushName_172 : decode cX7_pushName 172 = .ok (.aload_n 0, 1) := by decide +kernel
theorem dX7_pushName_173 : decode cX7_pushName 173 = .ok (.aload_n 0, 1) := by decide +kernel
theorem dX7_pushName_174 : decode cX7_pushName 174 = .ok (.getfield 98, 3) := by decide +kernel
theorem dX7_pushName_177 : decode cX7_pushName 177 = .ok (.i2l, 1) := by decide +kernel
theorem dX7_pushName_178 : decode cX7_pushName 178 = .ok (.lconst 1, 1) := by decide +kernel
theorem dX7_pushName_179 : decode cX7_pushName 179 = .ok (.invokevirtual 133, 3) := by decide +kernel
theorem dX7_pushName_182 : decode cX7_pushName 182 = .ok (.return_, 1) := by decide +kernel
theorem dX7_push_0 : decode cX7_push 0 = .ok (.aload_n 0, 1) := by decide +kernel
theorem dX7_push_1 : decode cX7_push 1 = .ok (.getfield 143, 3) := by decide +kernel
theorem dX7_push_4 : decode cX7_push 4 = .ok (.bipush 80, 2) := by decide +kernel
theorem dX7_push_6 : decode cX7_push 6 = .ok (.if_icmp .ge 33, 3) := by decide +kernel
theorem dX7_push_9 : decode cX7_push 9 = .ok (.aload_n 0, 1) := by decide +kernel
theorem dX7_push_10 : decode cX7_push 10 = .ok (.getfield 45, 3) := by decide +kernel
theorem dX7_push_13 : decode cX7_push 13 = .ok (.aload_n 0, 1) := by decide +kernel
theorem dX7_push_14 : decode cX7_push 14 = .ok (.getfield 143, 3) := by decide +kernel
theorem dX7_push_17 : decode cX7_push 17 = .ok (.lload_n 1, 1) := by decide +kernel
theorem dX7_push_18 : decode cX7_push 18 = .ok (.lastore, 1) := by decide +kernel
theorem dX7_push_19 : decode cX7_push 19 = .ok (.aload_n 0, 1) := by decide +kernel
theorem dX7_push_20 : decode cX7_push 20 = .ok (.getfield 48, 3) := by decide +kernel
theorem dX7_push_23 : decode cX7_push 23 = .ok (.aload_n 0, 1) := by decide +kernel
theorem dX7_push_24 : decode cX7_push 24 = .ok (.getfield 143, 3) := by decide +kernel
theorem dX7_push_27 : decode cX7_push 27 = .ok (.lload_n 3, 1) := by decide +kernel
theorem dX7_push_28 : decode cX7_push 28 = .ok (.lastore, 1) := by decide +kernel
theorem dX7_push_29 : decode cX7_push 29 = .ok (.aload_n 0, 1) := by decide +kernel
theorem dX7_push_30 : decode cX7_push 30 = .ok (.dup, 1) := by decide +kernel
theorem dX7_push_31 : decode cX7_push 31 = .ok (.getfield 143, 3) := by decide +kernel
theorem dX7_push_34 : decode cX7_push 34 = .ok (.iconst 1, 1) := by decide +kernel
theorem dX7_push_35 : decode cX7_push 35 = .ok (.iadd, 1) := by decide +kernel
theorem dX7_push_36 : decode cX7_push 36 = .ok (.putfield 143, 3) := by decide +kernel
theorem dX7_push_39 : decode cX7_push 39 = .ok (.return_, 1) := by decide +kernel
theorem dX7_operate_0 : decode cX7_operate 0 = .ok (.aload_n 0, 1) := by decide +kernel
theorem dX7_operate_1 : decode cX7_operate 1 = .ok (.getfield 143, 3) := by decide +kernel
theorem dX7_operate_4 : decode cX7_operate 4 = .ok (.iconst 1, 1) := by decide +kernel
theorem dX7_operate_5 : decode cX7_operate 5 = .ok (.isub, 1) := by decide +kernel
theorem dX7_operate_6 : decode cX7_operate 6 = .ok (.istore_n 2, 1) := by decide +kernel
theorem dX7_operate_7 : decode cX7_operate 7 = .ok (.aload_n 0, 1) := by decide +kernel
theorem dX7_operate_8 : decode cX7_operate 8 = .ok (.getfield 143, 3) := by decide +kernel
theorem dX7_operate_11 : decode cX7_operate 11 = .ok (.iconst 2, 1) := by decide +kernel
theorem dX7_operate_12 : decode cX7_operate 12 = .ok (.isub, 1) := by decide +kernel
theorem dX7_operate_13 : decode cX7_operate 13 = .ok (.istore_n 3, 1) := by decide +kernel
theorem dX7_operate_14 : decode cX7_operate 14 = .ok (.iload_n 3, 1) := by decide +kernel
theorem dX7_operate_15 : decode cX7_operate 15 = .ok (.ifCond .ge 4, 3) := by decide +kernel
theorem dX7_operate_18 : decode cX7_operate 18 = .ok (.return_, 1) := by decide +kernel
theorem dX7_operate_19 : decode cX7_operate 19 = .ok (.aload_n 0, 1) := by decide +kernel
theorem dX7_operate_20 : decode cX7_operate 20 = .ok (.getfield 45, 3) := by decide +kernel
theorem dX7_operate_23 : decode cX7_operate 23 = .ok (.iload_n 3, 1) := by decide +kernel
theorem dX7_operate_24 : decode cX7_operate 24 = .ok (.laload, 1) := by decide +kernel
theorem dX7_operate_25 : decode cX7_operate 25 = .ok (.lstore 4, 2) := by decide +kernel
theorem dX7_operate_27 : decode cX7_operate 27 = .ok (.aload_n 0, 1) := by decide +kernel
theorem dX7_operate_28 : decode cX7_operate 28 = .ok (.getfield 48, 3) := by decide +kernel
theorem dX7_operate_31 : decode cX7_operate 31 = .ok (.iload_n 3, 1) := by decide +kernel
theorem dX7_operate_32 : decode cX7_operate 32 = .ok (.laload, 1) := by decide +kernel
theorem dX7_operate_33 : decode cX7_operate 33 = .ok (.lstore 6, 2) := by decide +kernel
theorem dX7_operate_35 : decode cX7_operate 35 = .ok (.aload_n 0, 1) := by decide +kernel
theorem dX7_operate_36 : decode cX7_operate 36 = .ok (.getfield 45, 3) := by decide +kernel
theorem dX7_operate_39 : decode cX7_operate 39 = .ok (.iload_n 2, 1) := by decide +kernel
theorem dX7_operate_40 : decode cX7_operate 40 = .ok (.laload, 1) := by decide +kernel
theorem dX7_operate_41 : decode cX7_operate 41 = .ok (.lstore 8, 2) := by decide +kernel
theorem dX7_operate_43 : decode cX7_operate 43 = .ok (.aload_n 0, 1) := by decide +kernel
theorem dX7_operate_44 : decode cX7_operate 44 = .ok (.getfield 48, 3) := by decide +kernel
theorem dX7_operate_47 : decode cX7_operate 47 = .ok (.iload_n 2, 1) := by decide +kernel
theorem dX7_operate_48 : decode cX7_operate 48 = .ok (.laload, 1) := by decide +kernel
theorem dX7_operate_49 : decode cX7_operate 49 = .ok (.lstore 10, 2) := by decide +kernel
theorem dX7_operate_51 : decode cX7_operate 51 = .ok (.iload_n 1, 1) := by decide +kernel
theorem dX7_operate_52 : decode cX7_operate 52 = .ok (.tableswitch 132 42 47 #[92, 40, 132, 66, 132, 112], 40) := by decide +kernel
theorem dX7_operate_92 : decode cX7_operate 92 = .ok (.aload_n 0, 1) := by decide +kernel
theorem dX7_operate_93 : decode cX7_operate 93 = .ok (.getfield 12, 3) := by decide +kernel
theorem dX7_operate_96 : decode cX7_operate 96 = .ok (.lload 4, 2) := by decide +kernel
theorem dX7_operate_98 : decode cX7_operate 98 = .ok (.lload 10, 2) := by decide +kernel
theorem dX7_operate_100 : decode cX7_operate 100 = .ok (.lmul, 1) := by decide +kernel
theorem dX7_operate_101 : decode cX7_operate 101 = .ok (.lload 8, 2) := by decide +kernel
theorem dX7_operate_103 : decode cX7_operate 103 = .ok (.lload 6, 2) := by decide +kernel
theorem dX7_operate_105 : decode cX7_operate 105 = .ok (.lmul, 1) := by decide +kernel
theorem dX7_operate_106 : decode cX7_operate 106 = .ok (.ladd, 1) := by decide +kernel
theorem dX7_operate_107 : decode cX7_operate 107 = .ok (.lload 6, 2) := by decide +kernel
theorem dX7_operate_109 : decode cX7_operate 109 = .ok (.lload 10, 2) := by decide +kernel
theorem dX7_operate_111 : decode cX7_operate 111 = .ok (.lmul, 1) := by decide +kernel
theorem dX7_operate_112 : decode cX7_operate 112 = .ok (.invokevirtual 119, 3) := by decide +kernel
theorem dX7_operate_115 : decode cX7_operate 115 = .ok (.goto 149, 3) := by decide +kernel
theorem dX7_operate_118 : decode cX7_operate 118 = .ok (.aload_n 0, 1) := by decide +kernel
theorem dX7_operate_119 : decode cX7_operate 119 = .ok (.getfield 12, 3) := by decide +kernel
theorem dX7_operate_122 : decode cX7_operate 122 = .ok (.lload 4, 2) := by decide +kernel
theorem dX7_operate_124 : decode cX7_operate 124 = .ok (.lload 10, 2) := by decide +kernel
theorem dX7_operate_126 : decode cX7_operate 126 = .ok (.lmul, 1) := by decide +kernel
theorem dX7_operate_127 : decode cX7_operate 127 = .ok (.lload 8, 2) := by decide +kernel
theorem dX7_operate_129 : decode cX7_operate 129 = .ok (.lload 6, 2) := by decide +kernel
theorem dX7_operate_131 : decode cX7_operate 131 = .ok (.lmul, 1) := by decide +kernel
theorem dX7_operate_132 : decode cX7_operate 132 = .ok (.lsub, 1) := by decide +kernel
theorem dX7_operate_133 : decode cX7_operate 133 = .ok (.lload 6, 2) := by decide +kernel
theorem dX7_operate_135 : decode cX7_operate 135 = .ok (.lload 10, 2) := by decide +kernel
theorem dX7_operate_137 : decode cX7_operate 137 = .ok (.lmul, 1) := by decide +kernel
theorem dX7_operate_138 : decode cX7_operate 138 = .ok (.invokevirtual 119, 3) := by decide +kernel
theorem dX7_operate_141 : decode cX7_operate 141 = .ok (.goto 123, 3) := by decide +kernel
theorem dX7_operate_144 : decode cX7_operate 144 = .ok (.aload_n 0, 1) := by decide +kernel
theorem dX7_operate_145 : decode cX7_operate 145 = .ok (.getfield 12, 3) := by decide +kernel
theorem dX7_operate_148 : decode cX7_operate 148 = .ok (.lload 4, 2) := by decide +kernel
theorem dX7_operate_150 : decode cX7_operate 150 = .ok (.lload 8, 2) := by decide +kernel
theorem dX7_operate_152 : decode cX7_operate 152 = .ok (.lmul, 1) := by decide +kernel
theorem dX7_operate_153 : decode cX7_operate 153 = .ok (.lload 6, 2) := by decide +kernel
theorem dX7_operate_155 : decode cX7_operate 155 = .ok (.lload 10, 2) := by decide +kernel
theorem dX7_operate_157 : decode cX7_operate 157 = .ok (.lmul, 1) := by decide +kernel
theorem dX7_operate_158 : decode cX7_operate 158 = .ok (.invokevirtual 119, 3) := by decide +kernel
theorem dX7_operate_161 : decode cX7_operate 161 = .ok (.goto 103, 3) := by decide +kernel
theorem dX7_operate_164 : decode cX7_operate 164 = .ok (.aload_n 0, 1) := by decide +kernel
theorem dX7_operate_165 : decode cX7_operate 165 = .ok (.getfield 12, 3) := by decide +kernel
theorem dX7_operate_168 : decode cX7_operate 168 = .ok (.lload 4, 2) := by decide +kernel
theorem dX7_operate_170 : decode cX7_operate 170 = .ok (.lload 10, 2) := by decide +kernel
theorem dX7_operate_172 : decode cX7_operate 172 = .ok (.lmul, 1) := by decide +kernel
theorem dX7_operate_173 : decode cX7_operate 173 = .ok (.lload 6, 2) := by decide +kernel
theorem dX7_operate_175 : decode cX7_operate 175 = .ok (.lload 8, 2) := by decide +kernel
theorem dX7_operate_177 : decode cX7_operate 177 = .ok (.lmul, 1) := by decide +kernel
theorem dX7_operate_178 : decode cX7_operate 178 = .ok (.invokevirtual 119, 3) := by decide +kernel
theorem dX7_operate_181 : decode cX7_operate 181 = .ok (.goto 83, 3) := by decide +kernel
theorem dX7_operate_184 : decode cX7_operate 184 = .ok (.iload_n 1, 1) := by decide +kernel
theorem dX7_operate_185 : decode cX7_operate 185 = .ok (.bipush 60, 2) := by decide +kernel
theorem dX7_operate_187 : decode cX7_operate 187 = .ok (.if_icmp .ne 25, 3) := by decide +kernel
theorem dX7_operate_190 : decode cX7_operate 190 = .ok (.lload 4, 2) := by decide +kernel
theorem dX7_operate_192 : decode cX7_operate 192 = .ok (.lload 10, 2) := by decide +kernel
theorem dX7_operate_194 : decode cX7_operate 194 = .ok (.lmul, 1) := by decide +kernel
theorem dX7_operate_195 : decode cX7_operate 195 = .ok (.lload 8, 2) := by decide +kernel
theorem dX7_operate_197 : decode cX7_operate 197 = .ok (.lload 6, 2) := by decide +kernel
theorem dX7_operate_199 : decode cX7_operate 199 = .ok (.lmul, 1) := by decide +kernel
theorem dX7_operate_200 : decode cX7_operate 200 = .ok (.lcmp, 1) := by decide +kernel
theorem dX7_operate_201 : decode cX7_operate 201 = .ok (.ifCond .gt 7, 3) := by decide +kernel
theorem dX7_operate_204 : decode cX7_operate 204 = .ok (.iconst 1, 1) := by decide +kernel
theorem dX7_operate_205 : decode cX7_operate 205 = .ok (.goto 26, 3) := by decide +kernel
theorem dX7_operate_208 : decode cX7_operate 208 = .ok (.iconst 0, 1) := by decide +kernel
theorem dX7_operate_209 : decode cX7_operate 209 = .ok (.goto 22, 3) := by decide +kernel
theorem dX7_operate_212 : decode cX7_operate 212 = .ok (.lload 4, 2) := by decide +kernel
theorem dX7_operate_214 : decode cX7_operate 214 = .ok (.lload 10, 2) := by decide +kernel
theorem dX7_operate_216 : decode cX7_operate 216 = .ok (.lmul, 1) := by decide +kernel
theorem dX7_operate_217 : decode cX7_operate 217 = .ok (.lload 8, 2) := by decide +kernel
theorem dX7_operate_219 : decode cX7_operate 219 = .ok (.lload 6, 2) := by decide +kernel
theorem dX7_operate_221 : decode cX7_operate 221 = .ok (.lmul, 1) := by decide +kernel
theorem dX7_operate_222 : decode cX7_operate 222 = .ok (.lcmp, 1) := by decide +kernel
theorem dX7_operate_223 : decode cX7_operate 223 = .ok (.ifCond .lt 7, 3) := by decide +kernel
theorem dX7_operate_226 : decode cX7_operate 226 = .ok (.iconst 1, 1) := by decide +kernel
theorem dX7_operate_227 : decode cX7_operate 227 = .ok (.goto 4, 3) := by decide +kernel
theorem dX7_operate_230 : decode cX7_operate 230 = .ok (.iconst 0, 1) := by decide +kernel
theorem dX7_operate_231 : decode cX7_operate 231 = .ok (.istore 12, 2) := by decide +kernel
theorem dX7_operate_233 : decode cX7_operate 233 = .ok (.aload_n 0, 1) := by decide +kernel
theorem dX7_operate_234 : decode cX7_operate 234 = .ok (.getfield 12, 3) := by decide +kernel
theorem dX7_operate_237 : decode cX7_operate 237 = .ok (.iload 12, 2) := by decide +kernel
theorem dX7_operate_239 : decode cX7_operate 239 = .ok (.ifCond .eq 8, 3) := by decide +kernel
theorem dX7_operate_242 : decode cX7_operate 242 = .ok (.lload 4, 2) := by decide +kernel
theorem dX7_operate_244 : decode cX7_operate 244 = .ok (.goto 5, 3) := by decide +kernel
theorem dX7_operate_247 : decode cX7_operate 247 = .ok (.lload 8, 2) := by decide +kernel
theorem dX7_operate_249 : decode cX7_operate 249 = .ok (.iload 12, 2) := by decide +kernel
theorem dX7_operate_251 : decode cX7_operate 251 = .ok (.ifCond .eq 8, 3) := by decide +kernel
theorem dX7_operate_254 : decode cX7_operate 254 = .ok (.lload 6, 2) := by decide +kernel
theorem dX7_operate_256 : decode cX7_operate 256 = .ok (.goto 5, 3) := by decide +kernel
theorem dX7_operate_259 : decode cX7_operate 259 = .ok (.lload 10, 2) := by decide +kernel
theorem dX7_operate_261 : decode cX7_operate 261 = .ok (.invokevirtual 119, 3) := by decide +kernel
theorem dX7_operate_264 : decode cX7_operate 264 = .ok (.aload_n 0, 1) := by decide +kernel
theorem dX7_operate_265 : decode cX7_operate 265 = .ok (.getfield 45, 3) := by decide +kernel
theorem dX7_operate_268 : decode cX7_operate 268 = .ok (.iload_n 3, 1) := by decide +kernel
theorem dX7_operate_269 : decode cX7_operate 269 = .ok (.aload_n 0, 1) := by decide +kernel
theorem dX7_operate_270 : decode cX7_operate 270 = .ok (.getfield 12, 3) := by decide +kernel
theorem dX7_operate_273 : decode cX7_operate 273 = .ok (.getfield 78, 3) := by decide +kernel
theorem dX7_operate_276 : decode cX7_operate 276 = .ok (.lastore, 1) := by decide +kernel
theorem dX7_operate_277 : decode cX7_operate 277 = .ok (.aload_n 0, 1) := by decide +kernel
theorem dX7_operate_278 : decode cX7_operate 278 = .ok (.getfield 48, 3) := by decide +kernel
theorem dX7_operate_281 : decode cX7_operate 281 = .ok (.iload_n 3, 1) := by decide +kernel
theorem dX7_operate_282 : decode cX7_operate 282 = .ok (.aload_n 0, 1) := by decide +kernel
theorem dX7_operate_283 : decode cX7_operate 283 = .ok (.getfield 12, 3) := by decide +kernel
theorem dX7_operate_286 : decode cX7_operate 286 = .ok (.getfield 82, 3) := by decide +kernel
theorem dX7_operate_289 : decode cX7_operate 289 = .ok (.lastore, 1) := by decide +kernel
theorem dX7_operate_290 : decode cX7_operate 290 = .ok (.aload_n 0, 1) := by decide +kernel
theorem dX7_operate_291 : decode cX7_operate 291 = .ok (.iload_n 2, 1) := by decide +kernel
theorem dX7_operate_292 : decode cX7_operate 292 = .ok (.putfield 143, 3) := by decide +kernel
theorem dX7_operate_295 : decode cX7_operate 295 = .ok (.return_, 1) := by decide +kernel
theorem dX7_rank_0 : decode cX7_rank 0 = .ok (.aload_n 0, 1) := by decide +kernel
theorem dX7_rank_1 : decode cX7_rank 1 = .ok (.iconst 0, 1) := by decide +kernel
theorem dX7_rank_2 : decode cX7_rank 2 = .ok (.putfield 161, 3) := by decide +kernel
theorem dX7_rank_5 : decode cX7_rank 5 = .ok (.iconst 0, 1) := by decide +kernel
theorem dX7_rank_6 : decode cX7_rank 6 = .ok (.istore_n 2, 1) := by decide +kernel
theorem dX7_rank_7 : decode cX7_rank 7 = .ok (.iload_n 2, 1) := by decide +kernel
theorem dX7_rank_8 : decode cX7_rank 8 = .ok (.bipush 8, 2) := by decide +kernel
theorem dX7_rank_10 : decode cX7_rank 10 = .ok (.if_icmp .ge 38, 3) := by decide +kernel
theorem dX7_rank_13 : decode cX7_rank 13 = .ok (.aload_n 0, 1) := by decide +kernel
theorem dX7_rank_14 : decode cX7_rank 14 = .ok (.getfield 18, 3) := by decide +kernel
theorem dX7_rank_17 : decode cX7_rank 17 = .ok (.iload_n 2, 1) := by decide +kernel
theorem dX7_rank_18 : decode cX7_rank 18 = .ok (.baload, 1) := by decide +kernel
theorem dX7_rank_19 : decode cX7_rank 19 = .ok (.ifCond .eq 23, 3) := by decide +kernel
theorem dX7_rank_22 : decode cX7_rank 22 = .ok (.aload_n 0, 1) := by decide +kernel
theorem dX7_rank_23 : decode cX7_rank 23 = .ok (.aload_n 1, 1) := by decide +kernel
theorem dX7_rank_24 : decode cX7_rank 24 = .ok (.iload_n 2, 1) := by decide +kernel
theorem dX7_rank_25 : decode cX7_rank 25 = .ok (.invokevirtual 129, 3) := by decide +kernel
theorem dX7_rank_28 : decode cX7_rank 28 = .ok (.aload_n 0, 1) := by decide +kernel
theorem dX7_rank_29 : decode cX7_rank 29 = .ok (.getfield 39, 3) := by decide +kernel
theorem dX7_rank_32 : decode cX7_rank 32 = .ok (.iload_n 2, 1) := by decide +kernel
theorem dX7_rank_33 : decode cX7_rank 33 = .ok (.baload, 1) := by decide +kernel
theorem dX7_rank_34 : decode cX7_rank 34 = .ok (.ifCond .ne 8, 3) := by decide +kernel
theorem dX7_rank_37 : decode cX7_rank 37 = .ok (.aload_n 0, 1) := by decide +kernel
theorem dX7_rank_38 : decode cX7_rank 38 = .ok (.iload_n 2, 1) := by decide +kernel
theorem dX7_rank_39 : decode cX7_rank 39 = .ok (.invokevirtual 164, 3) := by decide +kernel
theorem dX7_rank_42 : decode cX7_rank 42 = .ok (.iinc 2 1, 3) := by decide +kernel
theorem dX7_rank_45 : decode cX7_rank 45 = .ok (.goto (-38), 3) := by decide +kernel
theorem dX7_rank_48 : decode cX7_rank 48 = .ok (.return_, 1) := by decide +kernel
theorem dX7_insert_0 : decode cX7_insert 0 = .ok (.aload_n 0, 1) := by decide +kernel
theorem dX7_insert_1 : decode cX7_insert 1 = .ok (.getfield 161, 3) := by decide +kernel
theorem dX7_insert_4 : decode cX7_insert 4 = .ok (.istore_n 2, 1) := by decide +kernel
theorem dX7_insert_5 : decode cX7_insert 5 = .ok (.aload_n 0, 1) := by decide +kernel
theorem dX7_insert_6 : decode cX7_insert 6 = .ok (.dup, 1) := by decide +kernel
theorem dX7_insert_7 : decode cX7_insert 7 = .ok (.getfield 161, 3) := by decide +kernel
theorem dX7_insert_10 : decode cX7_insert 10 = .ok (.iconst 1, 1) := by decide +kernel
theorem dX7_insert_11 : decode cX7_insert 11 = .ok (.iadd, 1) := by decide +kernel
theorem dX7_insert_12 : decode cX7_insert 12 = .ok (.putfield 161, 3) := by decide +kernel
theorem dX7_insert_15 : decode cX7_insert 15 = .ok (.iload_n 2, 1) := by decide +kernel
theorem dX7_insert_16 : decode cX7_insert 16 = .ok (.ifCond .le 39, 3) := by decide +kernel
theorem dX7_insert_19 : decode cX7_insert 19 = .ok (.aload_n 0, 1) := by decide +kernel
theorem dX7_insert_20 : decode cX7_insert 20 = .ok (.iload_n 1, 1) := by decide +kernel
theorem dX7_insert_21 : decode cX7_insert 21 = .ok (.aload_n 0, 1) := by decide +kernel
theorem dX7_insert_22 : decode cX7_insert 22 = .ok (.getfield 42, 3) := by decide +kernel
theorem dX7_insert_25 : decode cX7_insert 25 = .ok (.iload_n 2, 1) := by decide +kernel
theorem dX7_insert_26 : decode cX7_insert 26 = .ok (.iconst 1, 1) := by decide +kernel
theorem dX7_insert_27 : decode cX7_insert 27 = .ok (.isub, 1) := by decide +kernel
theorem dX7_insert_28 : decode cX7_insert 28 = .ok (.iaload, 1) := by decide +kernel
theorem dX7_insert_29 : decode cX7_insert 29 = .ok (.invokevirtual 167, 3) := by decide +kernel
theorem dX7_insert_32 : decode cX7_insert 32 = .ok (.ifCond .eq 23, 3) := by decide +kernel
theorem dX7_insert_35 : decode cX7_insert 35 = .ok (.aload_n 0, 1) := by decide +kernel
theorem dX7_insert_36 : decode cX7_insert 36 = .ok (.getfield 42, 3) := by decide +kernel
theorem dX7_insert_39 : decode cX7_insert 39 = .ok (.iload_n 2, 1) := by decide +kernel
theorem dX7_insert_40 : decode cX7_insert 40 = .ok (.aload_n 0, 1) := by decide +kernel
theorem dX7_insert_41 : decode cX7_insert 41 = .ok (.getfield 42, 3) := by decide +kernel
theorem dX7_insert_44 : decode cX7_insert 44 = .ok (.iload_n 2, 1) := by decide +kernel
theorem dX7_insert_45 : decode cX7_insert 45 = .ok (.iconst 1, 1) := by decide +kernel
theorem dX7_insert_46 : decode cX7_insert 46 = .ok (.isub, 1) := by decide +kernel
theorem dX7_insert_47 : decode cX7_insert 47 = .ok (.iaload, 1) := by decide +kernel
theorem dX7_insert_48 : decode cX7_insert 48 = .ok (.iastore, 1) := by decide +kernel
theorem dX7_insert_49 : decode cX7_insert 49 = .ok (.iinc 2 (-1), 3) := by decide +kernel
theorem dX7_insert_52 : decode cX7_insert 52 = .ok (.goto (-37), 3) := by decide +kernel
theorem dX7_insert_55 : decode cX7_insert 55 = .ok (.aload_n 0, 1) := by decide +kernel
theorem dX7_insert_56 : decode cX7_insert 56 = .ok (.getfield 42, 3) := by decide +kernel
theorem dX7_insert_59 : decode cX7_insert 59 = .ok (.iload_n 2, 1) := by decide +kernel
theorem dX7_insert_60 : decode cX7_insert 60 = .ok (.iload_n 1, 1) := by decide +kernel
theorem dX7_insert_61 : decode cX7_insert 61 = .ok (.iastore, 1) := by decide +kernel
theorem dX7_insert_62 : decode cX7_insert 62 = .ok (.return_, 1) := by decide +kernel
theorem dX7_isAhead_0 : decode cX7_isAhead 0 = .ok (.aload_n 0, 1) := by decide +kernel
theorem dX7_isAhead_1 : decode cX7_isAhead 1 = .ok (.getfield 33, 3) := by decide +kernel
theorem dX7_isAhead_4 : decode cX7_isAhead 4 = .ok (.iload_n 1, 1) := by decide +kernel
theorem dX7_isAhead_5 : decode cX7_isAhead 5 = .ok (.laload, 1) := by decide +kernel
theorem dX7_isAhead_6 : decode cX7_isAhead 6 = .ok (.aload_n 0, 1) := by decide +kernel
theorem dX7_isAhead_7 : decode cX7_isAhead 7 = .ok (.getfield 36, 3) := by decide +kernel
theorem dX7_isAhead_10 : decode cX7_isAhead 10 = .ok (.iload_n 2, 1) := by decide +kernel
theorem dX7_isAhead_11 : decode cX7_isAhead 11 = .ok (.laload, 1) := by decide +kernel
theorem dX7_isAhead_12 : decode cX7_isAhead 12 = .ok (.lmul, 1) := by decide +kernel
theorem dX7_isAhead_13 : decode cX7_isAhead 13 = .ok (.aload_n 0, 1) := by decide +kernel
theorem dX7_isAhead_14 : decode cX7_isAhead 14 = .ok (.getfield 33, 3) := by decide +kernel
theorem dX7_isAhead_17 : decode cX7_isAhead 17 = .ok (.iload_n 2, 1) := by decide +kernel
theorem dX7_isAhead_18 : decode cX7_isAhead 18 = .ok (.laload, 1) := by decide +kernel
theorem dX7_isAhead_19 : decode cX7_isAhead 19 = .ok (.aload_n 0, 1) := by decide +kernel
theorem dX7_isAhead_20 : decode cX7_isAhead 20 = .ok (.getfield 36, 3) := by decide +kernel
theorem dX7_isAhead_23 : decode cX7_isAhead 23 = .ok (.iload_n 1, 1) := by decide +kernel
theorem dX7_isAhead_24 : decode cX7_isAhead 24 = .ok (.laload, 1) := by decide +kernel
theorem dX7_isAhead_25 : decode cX7_isAhead 25 = .ok (.lmul, 1) := by decide +kernel
theorem dX7_isAhead_26 : decode cX7_isAhead 26 = .ok (.invokestatic 171, 3) := by decide +kernel
theorem dX7_isAhead_29 : decode cX7_isAhead 29 = .ok (.istore_n 3, 1) := by decide +kernel
theorem dX7_isAhead_30 : decode cX7_isAhead 30 = .ok (.iload_n 3, 1) := by decide +kernel
theorem dX7_isAhead_31 : decode cX7_isAhead 31 = .ok (.ifCond .eq 13, 3) := by decide +kernel
theorem dX7_isAhead_34 : decode cX7_isAhead 34 = .ok (.iload_n 3, 1) := by decide +kernel
theorem dX7_isAhead_35 : decode cX7_isAhead 35 = .ok (.ifCond .le 7, 3) := by decide +kernel
theorem dX7_isAhead_38 : decode cX7_isAhead 38 = .ok (.iconst 1, 1) := by decide +kernel
theorem dX7_isAhead_39 : decode cX7_isAhead 39 = .ok (.goto 4, 3) := by decide +kernel
theorem dX7_isAhead_42 : decode cX7_isAhead 42 = .ok (.iconst 0, 1) := by decide +kernel
theorem dX7_isAhead_43 : decode cX7_isAhead 43 = .ok (.ireturn, 1) := by decide +kernel
theorem dX7_isAhead_44 : decode cX7_isAhead 44 = .ok (.aload_n 0, 1) := by decide +kernel
theorem dX7_isAhead_45 : decode cX7_isAhead 45 = .ok (.getfield 26, 3) := by decide +kernel
theorem dX7_isAhead_48 : decode cX7_isAhead 48 = .ok (.iload_n 1, 1) := by decide +kernel
theorem dX7_isAhead_49 : decode cX7_isAhead 49 = .ok (.laload, 1) := by decide +kernel
theorem dX7_isAhead_50 : decode cX7_isAhead 50 = .ok (.aload_n 0, 1) := by decide +kernel
theorem dX7_isAhead_51 : decode cX7_isAhead 51 = .ok (.getfield 30, 3) := by decide +kernel
theorem dX7_isAhead_54 : decode cX7_isAhead 54 = .ok (.iload_n 2, 1) := by decide +kernel
theorem dX7_isAhead_55 : decode cX7_isAhead 55 = .ok (.laload, 1) := by decide +kernel
theorem dX7_isAhead_56 : decode cX7_isAhead 56 = .ok (.lmul, 1) := by decide +kernel
theorem dX7_isAhead_57 : decode cX7_isAhead 57 = .ok (.aload_n 0, 1) := by decide +kernel
theorem dX7_isAhead_58 : decode cX7_isAhead 58 = .ok (.getfield 26, 3) := by decide +kernel
theorem dX7_isAhead_61 : decode cX7_isAhead 61 = .ok (.iload_n 2, 1) := by decide +kernel
theorem dX7_isAhead_62 : decode cX7_isAhead 62 = .ok (.laload, 1) := by decide +kernel
theorem dX7_isAhead_63 : decode cX7_isAhead 63 = .ok (.aload_n 0, 1) := by decide +kernel
theorem dX7_isAhead_64 : decode cX7_isAhead 64 = .ok (.getfield 30, 3) := by decide +kernel
theorem dX7_isAhead_67 : decode cX7_isAhead 67 = .ok (.iload_n 1, 1) := by decide +kernel
theorem dX7_isAhead_68 : decode cX7_isAhead 68 = .ok (.laload, 1) := by decide +kernel
theorem dX7_isAhead_69 : decode cX7_isAhead 69 = .ok (.lmul, 1) := by decide +kernel
theorem dX7_isAhead_70 : decode cX7_isAhead 70 = .ok (.invokestatic 171, 3) := by decide +kernel
theorem dX7_isAhead_73 : decode cX7_isAhead 73 = .ok (.istore 4, 2) := by decide +kernel
theorem dX7_isAhead_75 : decode cX7_isAhead 75 = .ok (.iload 4, 2) := by decide +kernel
theorem dX7_isAhead_77 : decode cX7_isAhead 77 = .ok (.ifCond .eq 14, 3) := by decide +kernel
theorem dX7_isAhead_80 : decode cX7_isAhead 80 = .ok (.iload 4, 2) := by decide +kernel
theorem dX7_isAhead_82 : decode cX7_isAhead 82 = .ok (.ifCond .le 7, 3) := by decide +kernel
theorem dX7_isAhead_85 : decode cX7_isAhead 85 = .ok (.iconst 1, 1) := by decide +kernel
theorem dX7_isAhead_86 : decode cX7_isAhead 86 = .ok (.goto 4, 3) := by decide +kernel
theorem dX7_isAhead_89 : decode cX7_isAhead 89 = .ok (.iconst 0, 1) := by decide +kernel
theorem dX7_isAhead_90 : decode cX7_isAhead 90 = .ok (.ireturn, 1) := by decide +kernel
theorem dX7_isAhead_91 : decode cX7_isAhead 91 = .ok (.aload_n 0, 1) := by decide +kernel
theorem dX7_isAhead_92 : decode cX7_isAhead 92 = .ok (.getfield 22, 3) := by decide +kernel
theorem dX7_isAhead_95 : decode cX7_isAhead 95 = .ok (.iload_n 1, 1) := by decide +kernel
theorem dX7_isAhead_96 : decode cX7_isAhead 96 = .ok (.iaload, 1) := by decide +kernel
theorem dX7_isAhead_97 : decode cX7_isAhead 97 = .ok (.aload_n 0, 1) := by decide +kernel
theorem dX7_isAhead_98 : decode cX7_isAhead 98 = .ok (.getfield 22, 3) := by decide +kernel
theorem dX7_isAhead_101 : decode cX7_isAhead 101 = .ok (.iload_n 2, 1) := by decide +kernel
theorem dX7_isAhead_102 : decode cX7_isAhead 102 = .ok (.iaload, 1) := by decide +kernel
theorem dX7_isAhead_103 : decode cX7_isAhead 103 = .ok (.if_icmp .eq 26, 3) := by decide +kernel
theorem dX7_isAhead_106 : decode cX7_isAhead 106 = .ok (.aload_n 0, 1) := by decide +kernel
theorem dX7_isAhead_107 : decode cX7_isAhead 107 = .ok (.getfield 22, 3) := by decide +kernel
theorem dX7_isAhead_110 : decode cX7_isAhead 110 = .ok (.iload_n 1, 1) := by decide +kernel
theorem dX7_isAhead_111 : decode cX7_isAhead 111 = .ok (.iaload, 1) := by decide +kernel
theorem dX7_isAhead_112 : decode cX7_isAhead 112 = .ok (.aload_n 0, 1) := by decide +kernel
theorem dX7_isAhead_113 : decode cX7_isAhead 113 = .ok (.getfield 22, 3) := by decide +kernel
theorem dX7_isAhead_116 : decode cX7_isAhead 116 = .ok (.iload_n 2, 1) := by decide +kernel
theorem dX7_isAhead_117 : decode cX7_isAhead 117 = .ok (.iaload, 1) := by decide +kernel
theorem dX7_isAhead_118 : decode cX7_isAhead 118 = .ok (.if_icmp .ge 7, 3) := by decide +kernel
theorem dX7_isAhead_121 : decode cX7_isAhead 121 = .ok (.iconst 1, 1) := by decide +kernel
theorem dX7_isAhead_122 : decode cX7_isAhead 122 = .ok (.goto 17, 3) := by decide +kernel
theorem dX7_isAhead_125 : decode cX7_isAhead 125 = .ok (.iconst 0, 1) := by decide +kernel
theorem dX7_isAhead_126 : decode cX7_isAhead 126 = .ok (.goto 13, 3) := by decide +kernel
theorem dX7_isAhead_129 : decode cX7_isAhead 129 = .ok (.iload_n 1, 1) := by decide +kernel
theorem dX7_isAhead_130 : decode cX7_isAhead 130 = .ok (.iload_n 2, 1) := by decide +kernel
theorem dX7_isAhead_131 : decode cX7_isAhead 131 = .ok (.if_icmp .ge 7, 3) := by decide +kernel
theorem dX7_isAhead_134 : decode cX7_isAhead 134 = .ok (.iconst 1, 1) := by decide +kernel
theorem dX7_isAhead_135 : decode cX7_isAhead 135 = .ok (.goto 4, 3) := by decide +kernel
theorem dX7_isAhead_138 : decode cX7_isAhead 138 = .ok (.iconst 0, 1) := by decide +kernel
theorem dX7_isAhead_139 : decode cX7_isAhead 139 = .ok (.ireturn, 1) := by decide +kernel
theorem dX8_init_0 : decode cX8_init 0 = .ok (.aload_n 0, 1) := by decide +kernel
theorem dX8_init_1 : decode cX8_init 1 = .ok (.invokespecial 5, 3) := by decide +kernel
theorem dX8_init_4 : decode cX8_init 4 = .ok (.aload_n 0, 1) := by decide +kernel
theorem dX8_init_5 : decode cX8_init 5 = .ok (.bipush 8, 2) := by decide +kernel
theorem dX8_init_7 : decode cX8_init 7 = .ok (.newarray .int, 2) := by decide +kernel
theorem dX8_init_9 : decode cX8_init 9 = .ok (.putfield 11, 3) := by decide +kernel
theorem dX8_init_12 : decode cX8_init 12 = .ok (.aload_n 0, 1) := by decide +kernel
theorem dX8_init_13 : decode cX8_init 13 = .ok (.bipush 6, 2) := by decide +kernel
theorem dX8_init_15 : decode cX8_init 15 = .ok (.newarray .int, 2) := by decide +kernel
theorem dX8_init_17 : decode cX8_init 17 = .ok (.putfield 17, 3) := by decide +kernel
theorem dX8_init_20 : decode cX8_init 20 = .ok (.aload_n 0, 1) := by decide +kernel
theorem dX8_init_21 : decode cX8_init 21 = .ok (.bipush 56, 2) := by decide +kernel
theorem dX8_init_23 : decode cX8_init 23 = .ok (.newarray .int, 2) := by decide +kernel
theorem dX8_init_25 : decode cX8_init 25 = .ok (.putfield 20, 3) := by decide +kernel
theorem dX8_init_28 : decode cX8_init 28 = .ok (.aload_n 0, 1) := by decide +kernel
theorem dX8_init_29 : decode cX8_init 29 = .ok (.bipush 48, 2) := by decide +kernel
theorem dX8_init_31 : decode cX8_init 31 = .ok (.newarray .int, 2) := by decide +kernel
theorem dX8_init_33 : decode cX8_init 33 = .ok (.putfield 23, 3) := by decide +kernel
theorem dX8_init_36 : decode cX8_init 36 = .ok (.aload_n 0, 1) := by decide +kernel
theorem dX8_init_37 : decode cX8_init 37 = .ok (.bipush 48, 2) := by decide +kernel
theorem dX8_init_39 : decode cX8_init 39 = .ok (.newarray .int, 2) := by decide +kernel
theorem dX8_init_41 : decode cX8_init 41 = .ok (.putfield 26, 3) := by decide +kernel
theorem dX8_init_44 : decode cX8_init 44 = .ok (.aload_n 0, 1) := by decide +kernel
theorem dX8_init_45 : decode cX8_init 45 = .ok (.bipush 64, 2) := by decide +kernel
theorem dX8_init_47 : decode cX8_init 47 = .ok (.newarray .long, 2) := by decide +kernel
theorem dX8_init_49 : decode cX8_init 49 = .ok (.putfield 29, 3) := by decide +kernel
theorem dX8_init_52 : decode cX8_init 52 = .ok (.aload_n 0, 1) := by decide +kernel
theorem dX8_init_53 : decode cX8_init 53 = .ok (.bipush 64, 2) := by decide +kernel
theorem dX8_init_55 : decode cX8_init 55 = .ok (.newarray .long, 2) := by decide +kernel
theorem dX8_init_57 : decode cX8_init 57 = .ok (.putfield 33, 3) := by decide +kernel
theorem dX8_init_60 : decode cX8_init 60 = .ok (.aload_n 0, 1) := by decide +kernel
theorem dX8_init_61 : decode cX8_init 61 = .ok (.getfield 11, 3) := by decide +kernel
theorem dX8_init_64 : decode cX8_init 64 = .ok (.bipush 6, 2) := by decide +kernel
theorem dX8_init_66 : decode cX8_init 66 = .ok (.invokestatic 36, 3) := by decide +kernel
theorem dX8_init_69 : decode cX8_init 69 = .ok (.return_, 1) := by decide +kernel
theorem dX8_putRebate_0 : decode cX8_putRebate 0 = .ok (.iload_n 1, 1) := by decide +kernel
theorem dX8_putRebate_1 : decode cX8_putRebate 1 = .ok (.bipush 7, 2) := by decide +kernel
theorem dX8_putRebate_3 : decode cX8_putRebate 3 = .ok (.imul, 1) := by decide +kernel
theorem dX8_putRebate_4 : decode cX8_putRebate 4 = .ok (.iload_n 2, 1) := by decide +kernel
theorem dX8_putRebate_5 : decode cX8_putRebate 5 = .ok (.iadd, 1) := by decide +kernel
theorem dX8_putRebate_6 : decode cX8_putRebate 6 = .ok (.istore 4, 2) := by decide +kernel
theorem dX8_putRebate_8 : decode cX8_putRebate 8 = .ok (.aload_n 0, 1) := by decide +kernel
theorem dX8_putRebate_9 : decode cX8_putRebate 9 = .ok (.getfield 20, 3) := by decide +kernel
theorem dX8_putRebate_12 : decode cX8_putRebate 12 = .ok (.iload 4, 2) := by decide +kernel
theorem dX8_putRebate_14 : decode cX8_putRebate 14 = .ok (.iaload, 1) := by decide +kernel
theorem dX8_putRebate_15 : decode cX8_putRebate 15 = .ok (.istore 5, 2) := by decide +kernel
theorem dX8_putRebate_17 : decode cX8_putRebate 17 = .ok (.aload_n 0, 1) := by decide +kernel
theorem dX8_putRebate_18 : decode cX8_putRebate 18 = .ok (.getfield 20, 3) := by decide +kernel
theorem dX8_putRebate_21 : decode cX8_putRebate 21 = .ok (.iload 4, 2) := by decide +kernel
theorem dX8_putRebate_23 : decode cX8_putRebate 23 = .ok (.iload_n 3, 1) := by decide +kernel
theorem dX8_putRebate_24 : decode cX8_putRebate 24 = .ok (.iastore, 1) := by decide +kernel
theorem dX8_putRebate_25 : decode cX8_putRebate 25 = .ok (.iload 5, 2) := by decide +kernel
theorem dX8_putRebate_27 : decode cX8_putRebate 27 = .ok (.ireturn, 1) := by decide +kernel
theorem dX8_clear_0 : decode cX8_clear 0 = .ok (.aload_n 0, 1) := by decide +kernel
theorem dX8_clear_1 : decode cX8_clear 1 = .ok (.getfield 23, 3) := by decide +kernel
theorem dX8_clear_4 : decode cX8_clear 4 = .ok (.iconst (-1), 1) := by decide +kernel
theorem dX8_clear_5 : decode cX8_clear 5 = .ok (.invokestatic 36, 3) := by decide +kernel
theorem dX8_clear_8 : decode cX8_clear 8 = .ok (.return_, 1) := by decide +kernel
theorem dX8_offer_0 : decode cX8_offer 0 = .ok (.aload_n 0, 1) := by decide +kernel
theorem dX8_offer_1 : decode cX8_offer 1 = .ok (.getfield 23, 3) := by decide +kernel
theorem dX8_offer_4 : decode cX8_offer 4 = .ok (.iload_n 2, 1) := by decide +kernel
theorem dX8_offer_5 : decode cX8_offer 5 = .ok (.iload_n 1, 1) := by decide +kernel
theorem dX8_offer_6 : decode cX8_offer 6 = .ok (.invokestatic 42, 3) := by decide +kernel
theorem dX8_offer_9 : decode cX8_offer 9 = .ok (.iload_n 3, 1) := by decide +kernel
theorem dX8_offer_10 : decode cX8_offer 10 = .ok (.iastore, 1) := by decide +kernel
theorem dX8_offer_11 : decode cX8_offer 11 = .ok (.aload_n 0, 1) := by decide +kernel
theorem dX8_offer_12 : decode cX8_offer 12 = .ok (.getfield 26, 3) := by decide +kernel
theorem dX8_offer_15 : decode cX8_offer 15 = .ok (.iload_n 2, 1) := by decide +kernel
theorem dX8_offer_16 : decode cX8_offer 16 = .ok (.iload_n 1, 1) := by decide +kernel
theorem dX8_offer_17 : decode cX8_offer 17 = .ok (.invokestatic 42, 3) := by decide +kernel
theorem dX8_offer_20 : decode cX8_offer 20 = .ok (.iload 4, 2) := by decide +kernel
theorem dX8_offer_22 : decode cX8_offer 22 = .ok (.iastore, 1) := by decide +kernel
theorem dX8_offer_23 : decode cX8_offer 23 = .ok (.return_, 1) := by decide +kernel
theorem dX8_search_0 : decode cX8_search 0 = .ok (.aload_n 0, 1) := by decide +kernel
theorem dX8_search_1 : decode cX8_search 1 = .ok (.getfield 29, 3) := by decide +kernel
theorem dX8_search_4 : decode cX8_search 4 = .ok (.ldc2_w 46, 3) := by decide +kernel
theorem dX8_search_7 : decode cX8_search 7 = .ok (.invokestatic 48, 3) := by decide +kernel
theorem dX8_search_10 : decode cX8_search 10 = .ok (.aload_n 0, 1) := by decide +kernel
theorem dX8_search_11 : decode cX8_search 11 = .ok (.getfield 29, 3) := by decide +kernel
theorem dX8_search_14 : decode cX8_search 14 = .ok (.iconst 0, 1) := by decide +kernel
theorem dX8_search_15 : decode cX8_search 15 = .ok (.lconst 0, 1) := by decide +kernel
theorem dX8_search_16 : decode cX8_search 16 = .ok (.lastore, 1) := by decide +kernel
theorem dX8_search_17 : decode cX8_search 17 = .ok (.iconst 0, 1) := by decide +kernel
theorem dX8_search_18 : decode cX8_search 18 = .ok (.istore_n 2, 1) := by decide +kernel
theorem dX8_search_19 : decode cX8_search 19 = .ok (.iload_n 2, 1) := by decide +kernel
theorem dX8_search_20 : decode cX8_search 20 = .ok (.bipush 8, 2) := by decide +kernel
theorem dX8_search_22 : decode cX8_search 22 = .ok (.if_icmp .ge 39, 3) := by decide +kernel
theorem dX8_search_25 : decode cX8_search 25 = .ok (.iconst 1, 1) := by decide +kernel
theorem dX8_search_26 : decode cX8_search 26 = .ok (.istore_n 3, 1) := by decide +kernel
theorem dX8_search_27 : decode cX8_search 27 = .ok (.iload_n 3, 1) := by decide +kernel
theorem dX8_search_28 : decode cX8_search 28 = .ok (.bipush 64, 2) := by decide +kernel
theorem dX8_search_30 : decode cX8_search 30 = .ok (.if_icmp .ge 21, 3) := by decide +kernel
theorem dX8_search_33 : decode cX8_search 33 = .ok (.aload_n 0, 1) := by decide +kernel
theorem dX8_search_34 : decode cX8_search 34 = .ok (.getfield 33, 3) := by decide +kernel
theorem dX8_search_37 : decode cX8_search 37 = .ok (.iload_n 3, 1) := by decide +kernel
theorem dX8_search_38 : decode cX8_search 38 = .ok (.aload_n 0, 1) := by decide +kernel
theorem dX8_search_39 : decode cX8_search 39 = .ok (.iload_n 2, 1) := by decide +kernel
theorem dX8_search_40 : decode cX8_search 40 = .ok (.iload_n 3, 1) := by decide +kernel
theorem dX8_search_41 : decode cX8_search 41 = .ok (.invokevirtual 51, 3) := by decide +kernel
theorem dX8_search_44 : decode cX8_search 44 = .ok (.lastore, 1) := by decide +kernel
theorem dX8_search_45 : decode cX8_search 45 = .ok (.iinc 3 1, 3) := by decide +kernel
theorem dX8_search_48 : decode cX8_search 48 = .ok (.goto (-21), 3) := by decide +kernel
theorem dX8_search_51 : decode cX8_search 51 = .ok (.aload_n 0, 1) := by decide +kernel
theorem dX8_search_52 : decode cX8_search 52 = .ok (.invokevirtual 55, 3) := by decide +kernel
theorem dX8_search_55 : decode cX8_search 55 = .ok (.iinc 2 1, 3) := by decide +kernel
theorem dX8_search_58 : decode cX8_search 58 = .ok (.goto (-39), 3) := by decide +kernel
theorem dX8_search_61 : decode cX8_search 61 = .ok (.ldc2_w 46, 3) := by decide +kernel
theorem dX8_search_64 : decode cX8_search 64 = .ok (.lstore_n 2, 1) := by decide +kernel
theorem dX8_search_65 : decode cX8_search 65 = .ok (.iconst 0, 1) := by decide +kernel
theorem dX8_search_66 : decode cX8_search 66 = .ok (.istore 4, 2) := by decide +kernel
theorem dX8_search_68 : decode cX8_search 68 = .ok (.iload 4, 2) := by decide +kernel
theorem dX8_search_70 : decode cX8_search 70 = .ok (.bipush 64, 2) := by decide +kernel
theorem dX8_search_72 : decode cX8_search 72 = .ok (.if_icmp .ge 42, 3) := by decide +kernel
theorem dX8_search_75 : decode cX8_search 75 = .ok (.aload_n 0, 1) := by decide +kernel
theorem dX8_search_76 : decode cX8_search 76 = .ok (.getfield 29, 3) := by decide +kernel
theorem dX8_search_79 : decode cX8_search 79 = .ok (.iload 4, 2) := by decide +kernel
theorem dX8_search_81 : decode cX8_search 81 = .ok (.laload, 1) := by decide +kernel
theorem dX8_search_82 : decode cX8_search 82 = .ok (.ldc2_w 46, 3) := by decide +kernel
theorem dX8_search_85 : decode cX8_search 85 = .ok (.lcmp, 1) := by decide +kernel
theorem dX8_search_86 : decode cX8_search 86 = .ok (.ifCond .eq 22, 3) := by decide +kernel
theorem dX8_search_89 : decode cX8_search 89 = .ok (.lload_n 2, 1) := by decide +kernel
theorem dX8_search_90 : decode cX8_search 90 = .ok (.aload_n 0, 1) := by decide +kernel
theorem dX8_search_91 : decode cX8_search 91 = .ok (.getfield 29, 3) := by decide +kernel
theorem dX8_search_94 : decode cX8_search 94 = .ok (.iload 4, 2) := by decide +kernel
theorem dX8_search_96 : decode cX8_search 96 = .ok (.laload, 1) := by decide +kernel
theorem dX8_search_97 : decode cX8_search 97 = .ok (.iload 4, 2) := by decide +kernel
theorem dX8_search_99 : decode cX8_search 99 = .ok (.iload_n 1, 1) := by decide +kernel
theorem dX8_search_100 : decode cX8_search 100 = .ok (.invokestatic 58, 3) := by decide +kernel
theorem dX8_search_103 : decode cX8_search 103 = .ok (.ladd, 1) := by decide +kernel
theorem dX8_search_104 : decode cX8_search 104 = .ok (.invokestatic 61, 3) := by decide +kernel
theorem dX8_search_107 : decode cX8_search 107 = .ok (.lstore_n 2, 1) := by decide +kernel
theorem dX8_search_108 : decode cX8_search 108 = .ok (.iinc 4 1, 3) := by decide +kernel
theorem dX8_search_111 : decode cX8_search 111 = .ok (.goto (-43), 3) := by decide +kernel
theorem dX8_search_114 : decode cX8_search 114 = .ok (.aload_n 0, 1) := by decide +kernel
theorem dX8_search_115 : decode cX8_search 115 = .ok (.lload_n 2, 1) := by decide +kernel
theorem dX8_search_116 : decode cX8_search 116 = .ok (.iload_n 1, 1) := by decide +kernel
theorem dX8_search_117 : decode cX8_search 117 = .ok (.invokevirtual 67, 3) := by decide +kernel
theorem dX8_search_120 : decode cX8_search 120 = .ok (.return_, 1) := by decide +kernel
theorem dX8_costOf_0 : decode cX8_costOf 0 = .ok (.iload_n 2, 1) := by decide +kernel
theorem dX8_costOf_1 : decode cX8_costOf 1 = .ok (.invokestatic 71, 3) := by decide +kernel
theorem dX8_costOf_4 : decode cX8_costOf 4 = .ok (.istore_n 3, 1) := by decide +kernel
theorem dX8_costOf_5 : decode cX8_costOf 5 = .ok (.iload_n 3, 1) := by decide +kernel
theorem dX8_costOf_6 : decode cX8_costOf 6 = .ok (.aload_n 0, 1) := by decide +kernel
theorem dX8_costOf_7 : decode cX8_costOf 7 = .ok (.getfield 11, 3) := by decide +kernel
theorem dX8_costOf_10 : decode cX8_costOf 10 = .ok (.iload_n 1, 1) := by decide +kernel
theorem dX8_costOf_11 : decode cX8_costOf 11 = .ok (.iaload, 1) := by decide +kernel
theorem dX8_costOf_12 : decode cX8_costOf 12 = .ok (.if_icmp .le 7, 3) := by decide +kernel
theorem dX8_costOf_15 : decode cX8_costOf 15 = .ok (.ldc2_w 46, 3) := by decide +kernel
theorem dX8_costOf_18 : decode cX8_costOf 18 = .ok (.lreturn, 1) := by decide +kernel
theorem dX8_costOf_19 : decode cX8_costOf 19 = .ok (.lconst 0, 1) := by decide +kernel
theorem dX8_costOf_20 : decode cX8_costOf 20 = .ok (.lstore 4, 2) := by decide +kernel
theorem dX8_costOf_22 : decode cX8_costOf 22 = .ok (.lconst 0, 1) := by decide +kernel
theorem dX8_costOf_23 : decode cX8_costOf 23 = .ok (.lstore 6, 2) := by decide +kernel
theorem dX8_costOf_25 : decode cX8_costOf 25 = .ok (.iconst 0, 1) := by decide +kernel
theorem dX8_costOf_26 : decode cX8_costOf 26 = .ok (.istore 8, 2) := by decide +kernel
theorem dX8_costOf_28 : decode cX8_costOf 28 = .ok (.iload 8, 2) := by decide +kernel
theorem dX8_costOf_30 : decode cX8_costOf 30 = .ok (.bipush 6, 2) := by decide +kernel
theorem dX8_costOf_32 : decode cX8_costOf 32 = .ok (.if_icmp .ge 81, 3) := by decide +kernel
theorem dX8_costOf_35 : decode cX8_costOf 35 = .ok (.iload_n 2, 1) := by decide +kernel
theorem dX8_costOf_36 : decode cX8_costOf 36 = .ok (.iload 8, 2) := by decide +kernel
theorem dX8_costOf_38 : decode cX8_costOf 38 = .ok (.ishr, 1) := by decide +kernel
theorem dX8_costOf_39 : decode cX8_costOf 39 = .ok (.iconst 1, 1) := by decide +kernel
theorem dX8_costOf_40 : decode cX8_costOf 40 = .ok (.iand, 1) := by decide +kernel
theorem dX8_costOf_41 : decode cX8_costOf 41 = .ok (.iconst 1, 1) := by decide +kernel
theorem dX8_costOf_42 : decode cX8_costOf 42 = .ok (.if_icmp .ne 65, 3) := by decide +kernel
theorem dX8_costOf_45 : decode cX8_costOf 45 = .ok (.iload_n 1, 1) := by decide +kernel
theorem dX8_costOf_46 : decode cX8_costOf 46 = .ok (.iload 8, 2) := by decide +kernel
theorem dX8_costOf_48 : decode cX8_costOf 48 = .ok (.invokestatic 42, 3) := by decide +kernel
theorem dX8_costOf_51 : decode cX8_costOf 51 = .ok (.istore 9, 2) := by decide +kernel
theorem dX8_costOf_53 : decode cX8_costOf 53 = .ok (.aload_n 0, 1) := by decide +kernel
theorem dX8_costOf_54 : decode cX8_costOf 54 = .ok (.getfield 23, 3) := by decide +kernel
theorem dX8_costOf_57 : decode cX8_costOf 57 = .ok (.iload 9, 2) := by decide +kernel
theorem dX8_costOf_59 : decode cX8_costOf 59 = .ok (.iaload, 1) := by decide +kernel
theorem dX8_costOf_60 : decode cX8_costOf 60 = .ok (.iconst (-1), 1) := by decide +kernel
theorem dX8_costOf_61 : decode cX8_costOf 61 = .ok (.if_icmp .ne 7, 3) := by decide +kernel
theorem dX8_costOf_64 : decode cX8_costOf 64 = .ok (.ldc2_w 46, 3) := by decide +kernel
theorem dX8_costOf_67 : decode cX8_costOf 67 = .ok (.lreturn, 1) := by decide +kernel
theorem dX8_costOf_68 : decode cX8_costOf 68 = .ok (.lload 4, 2) := by decide +kernel
theorem dX8_costOf_70 : decode cX8_costOf 70 = .ok (.aload_n 0, 1) := by decide +kernel
theorem dX8_costOf_71 : decode cX8_costOf 71 = .ok (.getfield 26, 3) := by decide +kernel
theorem dX8_costOf_74 : decode cX8_costOf 74 = .ok (.iload 9, 2) := by decide +kernel
theorem dX8_costOf_76 : decode cX8_costOf 76 = .ok (.iaload, 1) := by decide +kernel
theorem dX8_costOf_77 : decode cX8_costOf 77 = .ok (.i2l, 1) := by decide +kernel
theorem dX8_costOf_78 : decode cX8_costOf 78 = .ok (.ladd, 1) := by decide +kernel
theorem dX8_costOf_79 : decode cX8_costOf 79 = .ok (.lstore 4, 2) := by decide +kernel
theorem dX8_costOf_81 : decode cX8_costOf 81 = .ok (.lload 6, 2) := by decide +kernel
theorem dX8_costOf_83 : decode cX8_costOf 83 = .ok (.aload_n 0, 1) := by decide +kernel
theorem dX8_costOf_84 : decode cX8_costOf 84 = .ok (.getfield 23, 3) := by decide +kernel
theorem dX8_costOf_87 : decode cX8_costOf 87 = .ok (.iload 9, 2) := by decide +kernel
theorem dX8_costOf_89 : decode cX8_costOf 89 = .ok (.iaload, 1) := by decide +kernel
theorem dX8_costOf_90 : decode cX8_costOf 90 = .ok (.i2l, 1) := by decide +kernel
theorem dX8_costOf_91 : decode cX8_costOf 91 = .ok (.bipush 20, 2) := by decide +kernel
theorem dX8_costOf_93 : decode cX8_costOf 93 = .ok (.lshl, 1) := by decide +kernel
theorem dX8_costOf_94 : decode cX8_costOf 94 = .ok (.iload_n 1, 1) := by decide +kernel
theorem dX8_costOf_95 : decode cX8_costOf 95 = .ok (.getstatic 77, 3) := by decide +kernel
theorem dX8_costOf_98 : decode cX8_costOf 98 = .ok (.iload 8, 2) := by decide +kernel
theorem dX8_costOf_100 : decode cX8_costOf 100 = .ok (.iaload, 1) := by decide +kernel
theorem dX8_costOf_101 : decode cX8_costOf 101 = .ok (.imul, 1) := by decide +kernel
theorem dX8_costOf_102 : decode cX8_costOf 102 = .ok (.i2l, 1) := by decide +kernel
theorem dX8_costOf_103 : decode cX8_costOf 103 = .ok (.ladd, 1) := by decide +kernel
theorem dX8_costOf_104 : decode cX8_costOf 104 = .ok (.ladd, 1) := by decide +kernel
theorem dX8_costOf_105 : decode cX8_costOf 105 = .ok (.lstore 6, 2) := by decide +kernel
theorem dX8_costOf_107 : decode cX8_costOf 107 = .ok (.iinc 8 1, 3) := by decide +kernel
theorem dX8_costOf_110 : decode cX8_costOf 110 = .ok (.goto (-82), 3) := by decide +kernel
theorem dX8_costOf_113 : decode cX8_costOf 113 = .ok (.lload 4, 2) := by decide +kernel
theorem dX8_costOf_115 : decode cX8_costOf 115 = .ok (.bipush 100, 2) := by decide +kernel
theorem dX8_costOf_117 : decode cX8_costOf 117 = .ok (.aload_n 0, 1) := by decide +kernel
theorem dX8_costOf_118 : decode cX8_costOf 118 = .ok (.getfield 20, 3) := by decide +kernel
theorem dX8_costOf_121 : decode cX8_costOf 121 = .ok (.iload_n 1, 1) := by decide +kernel
theorem dX8_costOf_122 : decode cX8_costOf 122 = .ok (.bipush 7, 2) := by decide +kernel
theorem dX8_costOf_124 : decode cX8_costOf 124 = .ok (.imul, 1) := by decide +kernel
theorem dX8_costOf_125 : decode cX8_costOf 125 = .ok (.iload_n 3, 1) := by decide +kernel
theorem dX8_costOf_126 : decode cX8_costOf 126 = .ok (.iadd, 1) := by decide +kernel
theorem dX8_costOf_127 : decode cX8_costOf 127 = .ok (.iaload, 1) := by decide +kernel
theorem dX8_costOf_128 : decode cX8_costOf 128 = .ok (.isub, 1) := by decide +kernel
theorem dX8_costOf_129 : decode cX8_costOf 129 = .ok (.i2l, 1) := by decide +kernel
theorem dX8_costOf_130 : decode cX8_costOf 130 = .ok (.lmul, 1) := by decide +kernel
theorem dX8_costOf_131 : decode cX8_costOf 131 = .ok (.lstore 8, 2) := by decide +kernel
theorem dX8_costOf_133 : decode cX8_costOf 133 = .ok (.lload 6, 2) := by decide +kernel
theorem dX8_costOf_135 : decode cX8_costOf 135 = .ok (.lload 8, 2) := by decide +kernel
theorem dX8_costOf_137 : decode cX8_costOf 137 = .ok (.ldc2_w 80, 3) := by decide +kernel
theorem dX8_costOf_140 : decode cX8_costOf 140 = .ok (.ladd, 1) := by decide +kernel
theorem dX8_costOf_141 : decode cX8_costOf 141 = .ok (.ldc2_w 82, 3) := by decide +kernel
theorem dX8_costOf_144 : decode cX8_costOf 144 = .ok (.ldiv, 1) := by decide +kernel
theorem dX8_costOf_145 : decode cX8_costOf 145 = .ok (.bipush 26, 2) := by decide +kernel
theorem dX8_costOf_147 : decode cX8_costOf 147 = .ok (.lshl, 1) := by decide +kernel
theorem dX8_costOf_148 : decode cX8_costOf 148 = .ok (.ladd, 1) := by decide +kernel
theorem dX8_costOf_149 : decode cX8_costOf 149 = .ok (.lreturn, 1) := by decide +kernel
theorem dX8_costOfRest_0 : decode cX8_costOfRest 0 = .ok (.lconst 0, 1) := by decide +kernel
theorem dX8_costOfRest_1 : decode cX8_costOfRest 1 = .ok (.lstore_n 2, 1) := by decide +kernel
theorem dX8_costOfRest_2 : decode cX8_costOfRest 2 = .ok (.iconst 0, 1) := by decide +kernel
theorem dX8_costOfRest_3 : decode cX8_costOfRest 3 = .ok (.istore 4, 2) := by decide +kernel
theorem dX8_costOfRest_5 : decode cX8_costOfRest 5 = .ok (.iload 4, 2) := by decide +kernel
theorem dX8_costOfRest_7 : decode cX8_costOfRest 7 = .ok (.bipush 6, 2) := by decide +kernel
theorem dX8_costOfRest_9 : decode cX8_costOfRest 9 = .ok (.if_icmp .ge 41, 3) := by decide +kernel
theorem dX8_costOfRest_12 : decode cX8_costOfRest 12 = .ok (.iload 4, 2) := by decide +kernel
theorem dX8_costOfRest_14 : decode cX8_costOfRest 14 = .ok (.iload_n 1, 1) := by decide +kernel
theorem dX8_costOfRest_15 : decode cX8_costOfRest 15 = .ok (.if_icmp .ge 35, 3) := by decide +kernel
theorem dX8_costOfRest_18 : decode cX8_costOfRest 18 = .ok (.iload_n 0, 1) := by decide +kernel
theorem dX8_costOfRest_19 : decode cX8_costOfRest 19 = .ok (.iload 4, 2) := by decide +kernel
theorem dX8_costOfRest_21 : decode cX8_costOfRest 21 = .ok (.ishr, 1) := by decide +kernel
theorem dX8_costOfRest_22 : decode cX8_costOfRest 22 = .ok (.iconst 1, 1) := by decide +kernel
theorem dX8_costOfRest_23 : decode cX8_costOfRest 23 = .ok (.iand, 1) := by decide +kernel
theorem dX8_costOfRest_24 : decode cX8_costOfRest 24 = .ok (.ifCond .ne 20, 3) := by decide +kernel
theorem dX8_costOfRest_27 : decode cX8_costOfRest 27 = .ok (.lload_n 2, 1) := by decide +kernel
theorem dX8_costOfRest_28 : decode cX8_costOfRest 28 = .ok (.ldc2_w 84, 3) := by decide +kernel
theorem dX8_costOfRest_31 : decode cX8_costOfRest 31 = .ok (.bipush 8, 2) := by decide +kernel
theorem dX8_costOfRest_33 : decode cX8_costOfRest 33 = .ok (.getstatic 77, 3) := by decide +kernel
theorem dX8_costOfRest_36 : decode cX8_costOfRest 36 = .ok (.iload 4, 2) := by decide +kernel
theorem dX8_costOfRest_38 : decode cX8_costOfRest 38 = .ok (.iaload, 1) := by decide +kernel
theorem dX8_costOfRest_39 : decode cX8_costOfRest 39 = .ok (.imul, 1) := by decide +kernel
theorem dX8_costOfRest_40 : decode cX8_costOfRest 40 = .ok (.i2l, 1) := by decide +kernel
theorem dX8_costOfRest_41 : decode cX8_costOfRest 41 = .ok (.ladd, 1) := by decide +kernel
theorem dX8_costOfRest_42 : decode cX8_costOfRest 42 = .ok (.ladd, 1) := by decide +kernel
theorem dX8_costOfRest_43 : decode cX8_costOfRest 43 = .ok (.lstore_n 2, 1) := by decide +kernel
theorem dX8_costOfRest_44 : decode cX8_costOfRest 44 = .ok (.iinc 4 1, 3) := by decide +kernel
theorem dX8_costOfRest_47 : decode cX8_costOfRest 47 = .ok (.goto (-42), 3) := by decide +kernel
theorem dX8_costOfRest_50 : decode cX8_costOfRest 50 = .ok (.lload_n 2, 1) := by decide +kernel
theorem dX8_costOfRest_51 : decode cX8_costOfRest 51 = .ok (.lreturn, 1) := by decide +kernel
theorem dX8_addBidder_0 : decode cX8_addBidder 0 = .ok (.bipush 63, 2) := by decide +kernel
theorem dX8_addBidder_2 : decode cX8_addBidder 2 = .ok (.istore_n 1, 1) := by decide +kernel
theorem dX8_addBidder_3 : decode cX8_addBidder 3 = .ok (.iload_n 1, 1) := by decide +kernel
theorem dX8_addBidder_4 : decode cX8_addBidder 4 = .ok (.ifCond .le 77, 3) := by decide +kernel
theorem dX8_addBidder_7 : decode cX8_addBidder 7 = .ok (.iload_n 1, 1) := by decide +kernel
theorem dX8_addBidder_8 : decode cX8_addBidder 8 = .ok (.istore_n 2, 1) := by decide +kernel
theorem dX8_addBidder_9 : decode cX8_addBidder 9 = .ok (.iload_n 2, 1) := by decide +kernel
theorem dX8_addBidder_10 : decode cX8_addBidder 10 = .ok (.ifCond .le 65, 3) := by decide +kernel
theorem dX8_addBidder_13 : decode cX8_addBidder 13 = .ok (.aload_n 0, 1) := by decide +kernel
theorem dX8_addBidder_14 : decode cX8_addBidder 14 = .ok (.getfield 29, 3) := by decide +kernel
theorem dX8_addBidder_17 : decode cX8_addBidder 17 = .ok (.iload_n 1, 1) := by decide +kernel
theorem dX8_addBidder_18 : decode cX8_addBidder 18 = .ok (.iload_n 2, 1) := by decide +kernel
theorem dX8_addBidder_19 : decode cX8_addBidder 19 = .ok (.isub, 1) := by decide +kernel
theorem dX8_addBidder_20 : decode cX8_addBidder 20 = .ok (.laload, 1) := by decide +kernel
theorem dX8_addBidder_21 : decode cX8_addBidder 21 = .ok (.lstore_n 3, 1) := by decide +kernel
theorem dX8_addBidder_22 : decode cX8_addBidder 22 = .ok (.aload_n 0, 1) := by decide +kernel
theorem dX8_addBidder_23 : decode cX8_addBidder 23 = .ok (.getfield 33, 3) := by decide +kernel
theorem dX8_addBidder_26 : decode cX8_addBidder 26 = .ok (.iload_n 2, 1) := by decide +kernel
theorem dX8_addBidder_27 : decode cX8_addBidder 27 = .ok (.laload, 1) := by decide +kernel
theorem dX8_addBidder_28 : decode cX8_addBidder 28 = .ok (.ldc2_w 46, 3) := by decide +kernel
theorem dX8_addBidder_31 : decode cX8_addBidder 31 = .ok (.lcmp, 1) := by decide +kernel
theorem dX8_addBidder_32 : decode cX8_addBidder 32 = .ok (.ifCond .eq 34, 3) := by decide +kernel
theorem dX8_addBidder_35 : decode cX8_addBidder 35 = .ok (.lload_n 3, 1) := by decide +kernel
theorem dX8_addBidder_36 : decode cX8_addBidder 36 = .ok (.ldc2_w 46, 3) := by decide +kernel
theorem dX8_addBidder_39 : decode cX8_addBidder 39 = .ok (.lcmp, 1) := by decide +kernel
theorem dX8_addBidder_40 : decode cX8_addBidder 40 = .ok (.ifCond .eq 26, 3) := by decide +kernel
theorem dX8_addBidder_43 : decode cX8_addBidder 43 = .ok (.aload_n 0, 1) := by decide +kernel
theorem dX8_addBidder_44 : decode cX8_addBidder 44 = .ok (.getfield 29, 3) := by decide +kernel
theorem dX8_addBidder_47 : decode cX8_addBidder 47 = .ok (.iload_n 1, 1) := by decide +kernel
theorem dX8_addBidder_48 : decode cX8_addBidder 48 = .ok (.aload_n 0, 1) := by decide +kernel
theorem dX8_addBidder_49 : decode cX8_addBidder 49 = .ok (.getfield 29, 3) := by decide +kernel
theorem dX8_addBidder_52 : decode cX8_addBidder 52 = .ok (.iload_n 1, 1) := by decide +kernel
theorem dX8_addBidder_53 : decode cX8_addBidder 53 = .ok (.laload, 1) := by decide +kernel
theorem dX8_addBidder_54 : decode cX8_addBidder 54 = .ok (.lload_n 3, 1) := by decide +kernel
theorem dX8_addBidder_55 : decode cX8_addBidder 55 = .ok (.aload_n 0, 1) := by decide +kernel
theorem dX8_addBidder_56 : decode cX8_addBidder 56 = .ok (.getfield 33, 3) := by decide +kernel
theorem dX8_addBidder_59 : decode cX8_addBidder 59 = .ok (.iload_n 2, 1) := by decide +kernel
theorem dX8_addBidder_60 : decode cX8_addBidder 60 = .ok (.laload, 1) := by decide +kernel
theorem dX8_addBidder_61 : decode cX8_addBidder 61 = .ok (.ladd, 1) := by decide +kernel
theorem dX8_addBidder_62 : decode cX8_addBidder 62 = .ok (.invokestatic 61, 3) := by decide +kernel
theorem dX8_addBidder_65 : decode cX8_addBidder 65 = .ok (.lastore, 1) := by decide +kernel
theorem dX8_addBidder_66 : decode cX8_addBidder 66 = .ok (.iload_n 2, 1) := by decide +kernel
theorem dX8_addBidder_67 : decode cX8_addBidder 67 = .ok (.iconst 1, 1) := by decide +kernel
theorem dX8_addBidder_68 : decode cX8_addBidder 68 = .ok (.isub, 1) := by decide +kernel
theorem dX8_addBidder_69 : decode cX8_addBidder 69 = .ok (.iload_n 1, 1) := by decide +kernel
theorem dX8_addBidder_70 : decode cX8_addBidder 70 = .ok (.iand, 1) := by decide +kernel
theorem dX8_addBidder_71 : decode cX8_addBidder 71 = .ok (.istore_n 2, 1) := by decide +kernel
theorem dX8_addBidder_72 : decode cX8_addBidder 72 = .ok (.goto (-63), 3) := by decide +kernel
theorem dX8_addBidder_75 : decode cX8_addBidder 75 = .ok (.iinc 1 (-1), 3) := by decide +kernel
theorem dX8_addBidder_78 : decode cX8_addBidder 78 = .ok (.goto (-75), 3) := by decide +kernel
theorem dX8_addBidder_81 : decode cX8_addBidder 81 = .ok (.return_, 1) := by decide +kernel
theorem dX8_keep_0 : decode cX8_keep 0 = .ok (.aload_n 0, 1) := by decide +kernel
theorem dX8_keep_1 : decode cX8_keep 1 = .ok (.iload_n 3, 1) := by decide +kernel
theorem dX8_keep_2 : decode cX8_keep 2 = .ok (.lload_n 1, 1) := by decide +kernel
theorem dX8_keep_3 : decode cX8_keep 3 = .ok (.bipush 56, 2) := by decide +kernel
theorem dX8_keep_5 : decode cX8_keep 5 = .ok (.lshr, 1) := by decide +kernel
theorem dX8_keep_6 : decode cX8_keep 6 = .ok (.l2i, 1) := by decide +kernel
theorem dX8_keep_7 : decode cX8_keep 7 = .ok (.isub, 1) := by decide +kernel
theorem dX8_keep_8 : decode cX8_keep 8 = .ok (.putfield 86, 3) := by decide +kernel
theorem dX8_keep_11 : decode cX8_keep 11 = .ok (.aload_n 0, 1) := by decide +kernel
theorem dX8_keep_12 : decode cX8_keep 12 = .ok (.lload_n 1, 1) := by decide +kernel
theorem dX8_keep_13 : decode cX8_keep 13 = .ok (.bipush 26, 2) := by decide +kernel
theorem dX8_keep_15 : decode cX8_keep 15 = .ok (.lshr, 1) := by decide +kernel
theorem dX8_keep_16 : decode cX8_keep 16 = .ok (.ldc2_w 90, 3) := by decide +kernel
theorem dX8_keep_19 : decode cX8_keep 19 = .ok (.land, 1) := by decide +kernel
theorem dX8_keep_20 : decode cX8_keep 20 = .ok (.l2i, 1) := by decide +kernel
theorem dX8_keep_21 : decode cX8_keep 21 = .ok (.putfield 92, 3) := by decide +kernel
theorem dX8_keep_24 : decode cX8_keep 24 = .ok (.lload_n 1, 1) := by decide +kernel
theorem dX8_keep_25 : decode cX8_keep 25 = .ok (.ldc2_w 95, 3) := by decide +kernel
theorem dX8_keep_28 : decode cX8_keep 28 = .ok (.land, 1) := by decide +kernel
theorem dX8_keep_29 : decode cX8_keep 29 = .ok (.l2i, 1) := by decide +kernel
theorem dX8_keep_30 : decode cX8_keep 30 = .ok (.istore 4, 2) := by decide +kernel
theorem dX8_keep_32 : decode cX8_keep 32 = .ok (.iconst 5, 1) := by decide +kernel
theorem dX8_keep_33 : decode cX8_keep 33 = .ok (.istore 5, 2) := by decide +kernel
theorem dX8_keep_35 : decode cX8_keep 35 = .ok (.iload 5, 2) := by decide +kernel
theorem dX8_keep_37 : decode cX8_keep 37 = .ok (.ifCond .lt 50, 3) := by decide +kernel
theorem dX8_keep_40 : decode cX8_keep 40 = .ok (.iload 4, 2) := by decide +kernel
theorem dX8_keep_42 : decode cX8_keep 42 = .ok (.bipush 9, 2) := by decide +kernel
theorem dX8_keep_44 : decode cX8_keep 44 = .ok (.irem, 1) := by decide +kernel
theorem dX8_keep_45 : decode cX8_keep 45 = .ok (.istore 6, 2) := by decide +kernel
theorem dX8_keep_47 : decode cX8_keep 47 = .ok (.iload 4, 2) := by decide +kernel
theorem dX8_keep_49 : decode cX8_keep 49 = .ok (.bipush 9, 2) := by decide +kernel
theorem dX8_keep_51 : decode cX8_keep 51 = .ok (.idiv, 1) := by decide +kernel
theorem dX8_keep_52 : decode cX8_keep 52 = .ok (.istore 4, 2) := by decide +kernel
theorem dX8_keep_54 : decode cX8_keep 54 = .ok (.aload_n 0, 1) := by decide +kernel
theorem dX8_keep_55 : decode cX8_keep 55 = .ok (.getfield 17, 3) := by decide +kernel
theorem dX8_keep_58 : decode cX8_keep 58 = .ok (.iload 5, 2) := by decide +kernel
theorem dX8_keep_60 : decode cX8_keep 60 = .ok (.iload 5, 2) := by decide +kernel
theorem dX8_keep_62 : decode cX8_keep 62 = .ok (.iload_n 3, 1) := by decide +kernel
theorem dX8_keep_63 : decode cX8_keep 63 = .ok (.if_icmp .ge 10, 3) := by decide +kernel
theorem dX8_keep_66 : decode cX8_keep 66 = .ok (.iload 6, 2) := by decide +kernel
theorem dX8_keep_68 : decode cX8_keep 68 = .ok (.bipush 8, 2) := by decide +kernel
theorem dX8_keep_70 : decode cX8_keep 70 = .ok (.if_icmp .ne 8, 3) := by decide +kernel
theorem dX8_keep_73 : decode cX8_keep 73 = .ok (.bipush (-9), 2) := by decide +kernel
theorem dX8_keep_75 : decode cX8_keep 75 = .ok (.goto 5, 3) := by decide +kernel
theorem dX8_keep_78 : decode cX8_keep 78 = .ok (.iload 6, 2) := by decide +kernel
theorem dX8_keep_80 : decode cX8_keep 80 = .ok (.iastore, 1) := by decide +kernel
theorem dX8_keep_81 : decode cX8_keep 81 = .ok (.iinc 5 (-1), 3) := by decide +kernel
theorem dX8_keep_84 : decode cX8_keep 84 = .ok (.goto (-49), 3) := by decide +kernel
theorem dX8_keep_87 : decode cX8_keep 87 = .ok (.return_, 1) := by decide +kernel
theorem dJ6_numberOfTrailingZeros_0f7a4_0 : decode cJ6_numberOfTrailingZeros_0f7a4 0 = .ok (.iload_n 0, 1) := by decide +kernel
theorem dJ6_numberOfTrailingZeros_0f7a4_1 : decode cJ6_numberOfTrailingZeros_0f7a4 1 = .ok (.iconst (-1), 1) := by decide +kernel
theorem dJ6_numberOfTrailingZeros_0f7a4_2 : decode cJ6_numberOfTrailingZeros_0f7a4 2 = .ok (.ixor, 1) := by decide +kernel
theorem dJ6_numberOfTrailingZeros_0f7a4_3 : decode cJ6_numberOfTrailingZeros_0f7a4 3 = .ok (.iload_n 0, 1) := by decide +kernel
theorem dJ6_numberOfTrailingZeros_0f7a4_4 : decode cJ6_numberOfTrailingZeros_0f7a4 4 = .ok (.iconst 1, 1) := by decide +kernel
theorem dJ6_numberOfTrailingZeros_0f7a4_5 : decode cJ6_numberOfTrailingZeros_0f7a4 5 = .ok (.isub, 1) := by decide +kernel
theorem dJ6_numberOfTrailingZeros_0f7a4_6 : decode cJ6_numberOfTrailingZeros_0f7a4 6 = .ok (.iand, 1) := by decide +kernel
theorem dJ6_numberOfTrailingZeros_0f7a4_7 : decode cJ6_numberOfTrailingZeros_0f7a4 7 = .ok (.istore_n 0, 1) := by decide +kernel
theorem dJ6_numberOfTrailingZeros_0f7a4_8 : decode cJ6_numberOfTrailingZeros_0f7a4 8 = .ok (.iload_n 0, 1) := by decide +kernel
theorem dJ6_numberOfTrailingZeros_0f7a4_9 : decode cJ6_numberOfTrailingZeros_0f7a4 9 = .ok (.ifCond .gt 8, 3) := by decide +kernel
theorem dJ6_numberOfTrailingZeros_0f7a4_12 : decode cJ6_numberOfTrailingZeros_0f7a4 12 = .ok (.iload_n 0, 1) := by decide +kernel
theorem dJ6_numberOfTrailingZeros_0f7a4_13 : decode cJ6_numberOfTrailingZeros_0f7a4 13 = .ok (.bipush 32, 2) := by decide +kernel
theorem dJ6_numberOfTrailingZeros_0f7a4_15 : decode cJ6_numberOfTrailingZeros_0f7a4 15 = .ok (.iand, 1) := by decide +kernel
theorem dJ6_numberOfTrailingZeros_0f7a4_16 : decode cJ6_numberOfTrailingZeros_0f7a4 16 = .ok (.ireturn, 1) := by decide +kernel
theorem dJ6_numberOfTrailingZeros_0f7a4_17 : decode cJ6_numberOfTrailingZeros_0f7a4 17 = .ok (.iconst 1, 1) := by decide +kernel
theorem dJ6_numberOfTrailingZeros_0f7a4_18 : decode cJ6_numberOfTrailingZeros_0f7a4 18 = .ok (.istore_n 1, 1) := by decide +kernel
theorem dJ6_numberOfTrailingZeros_0f7a4_19 : decode cJ6_numberOfTrailingZeros_0f7a4 19 = .ok (.iload_n 0, 1) := by decide +kernel
theorem dJ6_numberOfTrailingZeros_0f7a4_20 : decode cJ6_numberOfTrailingZeros_0f7a4 20 = .ok (.ldc_w 264, 3) := by decide +kernel
theorem dJ6_numberOfTrailingZeros_0f7a4_23 : decode cJ6_numberOfTrailingZeros_0f7a4 23 = .ok (.if_icmp .le 11, 3) := by decide +kernel
theorem dJ6_numberOfTrailingZeros_0f7a4_26 : decode cJ6_numberOfTrailingZeros_0f7a4 26 = .ok (.iinc 1 16, 3) := by decide +kernel
theorem dJ6_numberOfTrailingZeros_0f7a4_29 : decode cJ6_numberOfTrailingZeros_0f7a4 29 = .ok (.iload_n 0, 1) := by decide +kernel
theorem dJ6_numberOfTrailingZeros_0f7a4_30 : decode cJ6_numberOfTrailingZeros_0f7a4 30 = .ok (.bipush 16, 2) := by decide +kernel
theorem dJ6_numberOfTrailingZeros_0f7a4_32 : decode cJ6_numberOfTrailingZeros_0f7a4 32 = .ok (.iushr, 1) := by decide +kernel
theorem dJ6_numberOfTrailingZeros_0f7a4_33 : decode cJ6_numberOfTrailingZeros_0f7a4 33 = .ok (.istore_n 0, 1) := by decide +kernel
theorem dJ6_numberOfTrailingZeros_0f7a4_34 : decode cJ6_numberOfTrailingZeros_0f7a4 34 = .ok (.iload_n 0, 1) := by decide +kernel
theorem dJ6_numberOfTrailingZeros_0f7a4_35 : decode cJ6_numberOfTrailingZeros_0f7a4 35 = .ok (.sipush 256, 3) := by decide +kernel
theorem dJ6_numberOfTrailingZeros_0f7a4_38 : decode cJ6_numberOfTrailingZeros_0f7a4 38 = .ok (.if_icmp .le 11, 3) := by decide +kernel
theorem dJ6_numberOfTrailingZeros_0f7a4_41 : decode cJ6_numberOfTrailingZeros_0f7a4 41 = .ok (.iinc 1 8, 3) := by decide +kernel
theorem dJ6_numberOfTrailingZeros_0f7a4_44 : decode cJ6_numberOfTrailingZeros_0f7a4 44 = .ok (.iload_n 0, 1) := by decide +kernel
theorem dJ6_numberOfTrailingZeros_0f7a4_45 : decode cJ6_numberOfTrailingZeros_0f7a4 45 = .ok (.bipush 8, 2) := by decide +kernel
theorem dJ6_numberOfTrailingZeros_0f7a4_47 : decode cJ6_numberOfTrailingZeros_0f7a4 47 = .ok (.iushr, 1) := by decide +kernel
theorem dJ6_numberOfTrailingZeros_0f7a4_48 : decode cJ6_numberOfTrailingZeros_0f7a4 48 = .ok (.istore_n 0, 1) := by decide +kernel
theorem dJ6_numberOfTrailingZeros_0f7a4_49 : decode cJ6_numberOfTrailingZeros_0f7a4 49 = .ok (.iload_n 0, 1) := by decide +kernel
theorem dJ6_numberOfTrailingZeros_0f7a4_50 : decode cJ6_numberOfTrailingZeros_0f7a4 50 = .ok (.bipush 16, 2) := by decide +kernel
theorem dJ6_numberOfTrailingZeros_0f7a4_52 : decode cJ6_numberOfTrailingZeros_0f7a4 52 = .ok (.if_icmp .le 10, 3) := by decide +kernel
theorem dJ6_numberOfTrailingZeros_0f7a4_55 : decode cJ6_numberOfTrailingZeros_0f7a4 55 = .ok (.iinc 1 4, 3) := by decide +kernel
theorem dJ6_numberOfTrailingZeros_0f7a4_58 : decode cJ6_numberOfTrailingZeros_0f7a4 58 = .ok (.iload_n 0, 1) := by decide +kernel
theorem dJ6_numberOfTrailingZeros_0f7a4_59 : decode cJ6_numberOfTrailingZeros_0f7a4 59 = .ok (.iconst 4, 1) := by decide +kernel
theorem dJ6_numberOfTrailingZeros_0f7a4_60 : decode cJ6_numberOfTrailingZeros_0f7a4 60 = .ok (.iushr, 1) := by decide +kernel
theorem dJ6_numberOfTrailingZeros_0f7a4_61 : decode cJ6_numberOfTrailingZeros_0f7a4 61 = .ok (.istore_n 0, 1) := by decide +kernel
theorem dJ6_numberOfTrailingZeros_0f7a4_62 : decode cJ6_numberOfTrailingZeros_0f7a4 62 = .ok (.iload_n 0, 1) := by decide +kernel
theorem dJ6_numberOfTrailingZeros_0f7a4_63 : decode cJ6_numberOfTrailingZeros_0f7a4 63 = .ok (.iconst 4, 1) := by decide +kernel
theorem dJ6_numberOfTrailingZeros_0f7a4_64 : decode cJ6_numberOfTrailingZeros_0f7a4 64 = .ok (.if_icmp .le 10, 3) := by decide +kernel
theorem dJ6_numberOfTrailingZeros_0f7a4_67 : decode cJ6_numberOfTrailingZeros_0f7a4 67 = .ok (.iinc 1 2, 3) := by decide +kernel
theorem dJ6_numberOfTrailingZeros_0f7a4_70 : decode cJ6_numberOfTrailingZeros_0f7a4 70 = .ok (.iload_n 0, 1) := by decide +kernel
theorem dJ6_numberOfTrailingZeros_0f7a4_71 : decode cJ6_numberOfTrailingZeros_0f7a4 71 = .ok (.iconst 2, 1) := by decide +kernel
theorem dJ6_numberOfTrailingZeros_0f7a4_72 : decode cJ6_numberOfTrailingZeros_0f7a4 72 = .ok (.iushr, 1) := by decide +kernel
theorem dJ6_numberOfTrailingZeros_0f7a4_73 : decode cJ6_numberOfTrailingZeros_0f7a4 73 = .ok (.istore_n 0, 1) := by decide +kernel
theorem dJ6_numberOfTrailingZeros_0f7a4_74 : decode cJ6_numberOfTrailingZeros_0f7a4 74 = .ok (.iload_n 1, 1) := by decide +kernel
theorem dJ6_numberOfTrailingZeros_0f7a4_75 : decode cJ6_numberOfTrailingZeros_0f7a4 75 = .ok (.iload_n 0, 1) := by decide +kernel
theorem dJ6_numberOfTrailingZeros_0f7a4_76 : decode cJ6_numberOfTrailingZeros_0f7a4 76 = .ok (.iconst 1, 1) := by decide +kernel
theorem dJ6_numberOfTrailingZeros_0f7a4_77 : decode cJ6_numberOfTrailingZeros_0f7a4 77 = .ok (.iushr, 1) := by decide +kernel
theorem dJ6_numberOfTrailingZeros_0f7a4_78 : decode cJ6_numberOfTrailingZeros_0f7a4 78 = .ok (.iadd, 1) := by decide +kernel
theorem dJ6_numberOfTrailingZeros_0f7a4_79 : decode cJ6_numberOfTrailingZeros_0f7a4 79 = .ok (.ireturn, 1) := by decide +kernel
theorem dJ6_bitCount_0f7a4_0 : decode cJ6_bitCount_0f7a4 0 = .ok (.iload_n 0, 1) := by decide +kernel
theorem dJ6_bitCount_0f7a4_1 : decode cJ6_bitCount_0f7a4 1 = .ok (.iload_n 0, 1) := by decide +kernel
theorem dJ6_bitCount_0f7a4_2 : decode cJ6_bitCount_0f7a4 2 = .ok (.iconst 1, 1) := by decide +kernel
theorem dJ6_bitCount_0f7a4_3 : decode cJ6_bitCount_0f7a4 3 = .ok (.iushr, 1) := by decide +kernel
theorem dJ6_bitCount_0f7a4_4 : decode cJ6_bitCount_0f7a4 4 = .ok (.ldc_w 265, 3) := by decide +kernel
theorem dJ6_bitCount_0f7a4_7 : decode cJ6_bitCount_0f7a4 7 = .ok (.iand, 1) := by decide +kernel
theorem dJ6_bitCount_0f7a4_8 : decode cJ6_bitCount_0f7a4 8 = .ok (.isub, 1) := by decide +kernel
theorem dJ6_bitCount_0f7a4_9 : decode cJ6_bitCount_0f7a4 9 = .ok (.istore_n 0, 1) := by decide +kernel
theorem dJ6_bitCount_0f7a4_10 : decode cJ6_bitCount_0f7a4 10 = .ok (.iload_n 0, 1) := by decide +kernel
theorem dJ6_bitCount_0f7a4_11 : decode cJ6_bitCount_0f7a4 11 = .ok (.ldc_w 266, 3) := by decide +kernel
theorem dJ6_bitCount_0f7a4_14 : decode cJ6_bitCount_0f7a4 14 = .ok (.iand, 1) := by decide +kernel
theorem dJ6_bitCount_0f7a4_15 : decode cJ6_bitCount_0f7a4 15 = .ok (.iload_n 0, 1) := by decide +kernel
theorem dJ6_bitCount_0f7a4_16 : decode cJ6_bitCount_0f7a4 16 = .ok (.iconst 2, 1) := by decide +kernel
theorem dJ6_bitCount_0f7a4_17 : decode cJ6_bitCount_0f7a4 17 = .ok (.iushr, 1) := by decide +kernel
theorem dJ6_bitCount_0f7a4_18 : decode cJ6_bitCount_0f7a4 18 = .ok (.ldc_w 266, 3) := by decide +kernel
theorem dJ6_bitCount_0f7a4_21 : decode cJ6_bitCount_0f7a4 21 = .ok (.iand, 1) := by decide +kernel
theorem dJ6_bitCount_0f7a4_22 : decode cJ6_bitCount_0f7a4 22 = .ok (.iadd, 1) := by decide +kernel
theorem dJ6_bitCount_0f7a4_23 : decode cJ6_bitCount_0f7a4 23 = .ok (.istore_n 0, 1) := by decide +kernel
theorem dJ6_bitCount_0f7a4_24 : decode cJ6_bitCount_0f7a4 24 = .ok (.iload_n 0, 1) := by decide +kernel
theorem dJ6_bitCount_0f7a4_25 : decode cJ6_bitCount_0f7a4 25 = .ok (.iload_n 0, 1) := by decide +kernel
theorem dJ6_bitCount_0f7a4_26 : decode cJ6_bitCount_0f7a4 26 = .ok (.iconst 4, 1) := by decide +kernel
theorem dJ6_bitCount_0f7a4_27 : decode cJ6_bitCount_0f7a4 27 = .ok (.iushr, 1) := by decide +kernel
theorem dJ6_bitCount_0f7a4_28 : decode cJ6_bitCount_0f7a4 28 = .ok (.iadd, 1) := by decide +kernel
theorem dJ6_bitCount_0f7a4_29 : decode cJ6_bitCount_0f7a4 29 = .ok (.ldc_w 267, 3) := by decide +kernel
theorem dJ6_bitCount_0f7a4_32 : decode cJ6_bitCount_0f7a4 32 = .ok (.iand, 1) := by decide +kernel
theorem dJ6_bitCount_0f7a4_33 : decode cJ6_bitCount_0f7a4 33 = .ok (.istore_n 0, 1) := by decide +kernel
theorem dJ6_bitCount_0f7a4_34 : decode cJ6_bitCount_0f7a4 34 = .ok (.iload_n 0, 1) := by decide +kernel
theorem dJ6_bitCount_0f7a4_35 : decode cJ6_bitCount_0f7a4 35 = .ok (.iload_n 0, 1) := by decide +kernel
theorem dJ6_bitCount_0f7a4_36 : decode cJ6_bitCount_0f7a4 36 = .ok (.bipush 8, 2) := by decide +kernel
theorem dJ6_bitCount_0f7a4_38 : decode cJ6_bitCount_0f7a4 38 = .ok (.iushr, 1) := by decide +kernel
theorem dJ6_bitCount_0f7a4_39 : decode cJ6_bitCount_0f7a4 39 = .ok (.iadd, 1) := by decide +kernel
theorem dJ6_bitCount_0f7a4_40 : decode cJ6_bitCount_0f7a4 40 = .ok (.istore_n 0, 1) := by decide +kernel
theorem dJ6_bitCount_0f7a4_41 : decode cJ6_bitCount_0f7a4 41 = .ok (.iload_n 0, 1) := by decide +kernel
theorem dJ6_bitCount_0f7a4_42 : decode cJ6_bitCount_0f7a4 42 = .ok (.iload_n 0, 1) := by decide +kernel
theorem dJ6_bitCount_0f7a4_43 : decode cJ6_bitCount_0f7a4 43 = .ok (.bipush 16, 2) := by decide +kernel
theorem dJ6_bitCount_0f7a4_45 : decode cJ6_bitCount_0f7a4 45 = .ok (.iushr, 1) := by decide +kernel
theorem dJ6_bitCount_0f7a4_46 : decode cJ6_bitCount_0f7a4 46 = .ok (.iadd, 1) := by decide +kernel
theorem dJ6_bitCount_0f7a4_47 : decode cJ6_bitCount_0f7a4 47 = .ok (.istore_n 0, 1) := by decide +kernel
theorem dJ6_bitCount_0f7a4_48 : decode cJ6_bitCount_0f7a4 48 = .ok (.iload_n 0, 1) := by decide +kernel
theorem dJ6_bitCount_0f7a4_49 : decode cJ6_bitCount_0f7a4 49 = .ok (.bipush 63, 2) := by decide +kernel
theorem dJ6_bitCount_0f7a4_51 : decode cJ6_bitCount_0f7a4 51 = .ok (.iand, 1) := by decide +kernel
theorem dJ6_bitCount_0f7a4_52 : decode cJ6_bitCount_0f7a4 52 = .ok (.ireturn, 1) := by decide +kernel
theorem dJ13_compare_74951_0 : decode cJ13_compare_74951 0 = .ok (.lload_n 0, 1) := by decide +kernel
theorem dJ13_compare_74951_1 : decode cJ13_compare_74951 1 = .ok (.lload_n 2, 1) := by decide +kernel
theorem dJ13_compare_74951_2 : decode cJ13_compare_74951 2 = .ok (.lcmp, 1) := by decide +kernel
theorem dJ13_compare_74951_3 : decode cJ13_compare_74951 3 = .ok (.ifCond .ge 7, 3) := by decide +kernel
theorem dJ13_compare_74951_6 : decode cJ13_compare_74951 6 = .ok (.iconst (-1), 1) := by decide +kernel
theorem dJ13_compare_74951_7 : decode cJ13_compare_74951 7 = .ok (.goto 14, 3) := by decide +kernel
theorem dJ13_compare_74951_10 : decode cJ13_compare_74951 10 = .ok (.lload_n 0, 1) := by decide +kernel
theorem dJ13_compare_74951_11 : decode cJ13_compare_74951 11 = .ok (.lload_n 2, 1) := by decide +kernel
theorem dJ13_compare_74951_12 : decode cJ13_compare_74951 12 = .ok (.lcmp, 1) := by decide +kernel
theorem dJ13_compare_74951_13 : decode cJ13_compare_74951 13 = .ok (.ifCond .ne 7, 3) := by decide +kernel
theorem dJ13_compare_74951_16 : decode cJ13_compare_74951 16 = .ok (.iconst 0, 1) := by decide +kernel
theorem dJ13_compare_74951_17 : decode cJ13_compare_74951 17 = .ok (.goto 4, 3) := by decide +kernel
theorem dJ13_compare_74951_20 : decode cJ13_compare_74951 20 = .ok (.iconst 1, 1) := by decide +kernel
theorem dJ13_compare_74951_21 : decode cJ13_compare_74951 21 = .ok (.ireturn, 1) := by decide +kernel
theorem dJ9_abs_067f4_0 : decode cJ9_abs_067f4 0 = .ok (.lload_n 0, 1) := by decide +kernel
theorem dJ9_abs_067f4_1 : decode cJ9_abs_067f4 1 = .ok (.lconst 0, 1) := by decide +kernel
theorem dJ9_abs_067f4_2 : decode cJ9_abs_067f4 2 = .ok (.lcmp, 1) := by decide +kernel
theorem dJ9_abs_067f4_3 : decode cJ9_abs_067f4 3 = .ok (.ifCond .ge 8, 3) := by decide +kernel
theorem dJ9_abs_067f4_6 : decode cJ9_abs_067f4 6 = .ok (.lload_n 0, 1) := by decide +kernel
theorem dJ9_abs_067f4_7 : decode cJ9_abs_067f4 7 = .ok (.lneg, 1) := by decide +kernel
theorem dJ9_abs_067f4_8 : decode cJ9_abs_067f4 8 = .ok (.goto 4, 3) := by decide +kernel
theorem dJ9_abs_067f4_11 : decode cJ9_abs_067f4 11 = .ok (.lload_n 0, 1) := by decide +kernel
theorem dJ9_abs_067f4_12 : decode cJ9_abs_067f4 12 = .ok (.lreturn, 1) := by decide +kernel
theorem dJ9_max_7cf53_0 : decode cJ9_max_7cf53 0 = .ok (.iload_n 0, 1) := by decide +kernel
theorem dJ9_max_7cf53_1 : decode cJ9_max_7cf53 1 = .ok (.iload_n 1, 1) := by decide +kernel
theorem dJ9_max_7cf53_2 : decode cJ9_max_7cf53 2 = .ok (.if_icmp .lt 7, 3) := by decide +kernel
theorem dJ9_max_7cf53_5 : decode cJ9_max_7cf53 5 = .ok (.iload_n 0, 1) := by decide +kernel
theorem dJ9_max_7cf53_6 : decode cJ9_max_7cf53 6 = .ok (.goto 4, 3) := by decide +kernel
theorem dJ9_max_7cf53_9 : decode cJ9_max_7cf53 9 = .ok (.iload_n 1, 1) := by decide +kernel
theorem dJ9_max_7cf53_10 : decode cJ9_max_7cf53 10 = .ok (.ireturn, 1) := by decide +kernel
theorem dJ9_max_f86c9_0 : decode cJ9_max_f86c9 0 = .ok (.lload_n 0, 1) := by decide +kernel
theorem dJ9_max_f86c9_1 : decode cJ9_max_f86c9 1 = .ok (.lload_n 2, 1) := by decide +kernel
theorem dJ9_max_f86c9_2 : decode cJ9_max_f86c9 2 = .ok (.lcmp, 1) := by decide +kernel
theorem dJ9_max_f86c9_3 : decode cJ9_max_f86c9 3 = .ok (.ifCond .lt 7, 3) := by decide +kernel
theorem dJ9_max_f86c9_6 : decode cJ9_max_f86c9 6 = .ok (.lload_n 0, 1) := by decide +kernel
theorem dJ9_max_f86c9_7 : decode cJ9_max_f86c9 7 = .ok (.goto 4, 3) := by decide +kernel
theorem dJ9_max_f86c9_10 : decode cJ9_max_f86c9 10 = .ok (.lload_n 2, 1) := by decide +kernel
theorem dJ9_max_f86c9_11 : decode cJ9_max_f86c9 11 = .ok (.lreturn, 1) := by decide +kernel
theorem dJ9_min_7cf53_0 : decode cJ9_min_7cf53 0 = .ok (.iload_n 0, 1) := by decide +kernel
theorem dJ9_min_7cf53_1 : decode cJ9_min_7cf53 1 = .ok (.iload_n 1, 1) := by decide +kernel
theorem dJ9_min_7cf53_2 : decode cJ9_min_7cf53 2 = .ok (.if_icmp .gt 7, 3) := by decide +kernel
theorem dJ9_min_7cf53_5 : decode cJ9_min_7cf53 5 = .ok (.iload_n 0, 1) := by decide +kernel
theorem dJ9_min_7cf53_6 : decode cJ9_min_7cf53 6 = .ok (.goto 4, 3) := by decide +kernel
theorem dJ9_min_7cf53_9 : decode cJ9_min_7cf53 9 = .ok (.iload_n 1, 1) := by decide +kernel
theorem dJ9_min_7cf53_10 : decode cJ9_min_7cf53 10 = .ok (.ireturn, 1) := by decide +kernel
theorem dJ9_min_f86c9_0 : decode cJ9_min_f86c9 0 = .ok (.lload_n 0, 1) := by decide +kernel
theorem dJ9_min_f86c9_1 : decode cJ9_min_f86c9 1 = .ok (.lload_n 2, 1) := by decide +kernel
theorem dJ9_min_f86c9_2 : decode cJ9_min_f86c9 2 = .ok (.lcmp, 1) := by decide +kernel
theorem dJ9_min_f86c9_3 : decode cJ9_min_f86c9 3 = .ok (.ifCond .gt 7, 3) := by decide +kernel
theorem dJ9_min_f86c9_6 : decode cJ9_min_f86c9 6 = .ok (.lload_n 0, 1) := by decide +kernel
theorem dJ9_min_f86c9_7 : decode cJ9_min_f86c9 7 = .ok (.goto 4, 3) := by decide +kernel
theorem dJ9_min_f86c9_10 : decode cJ9_min_f86c9 10 = .ok (.lload_n 2, 1) := by decide +kernel
theorem dJ9_min_f86c9_11 : decode cJ9_min_f86c9 11 = .ok (.lreturn, 1) := by decide +kernel
theorem dJ7_fill_d0a16_0 : decode cJ7_fill_d0a16 0 = .ok (.iconst 0, 1) := by decide +kernel
theorem dJ7_fill_d0a16_1 : decode cJ7_fill_d0a16 1 = .ok (.istore_n 3, 1) := by decide +kernel
theorem dJ7_fill_d0a16_2 : decode cJ7_fill_d0a16 2 = .ok (.aload_n 0, 1) := by decide +kernel
theorem dJ7_fill_d0a16_3 : decode cJ7_fill_d0a16 3 = .ok (.arraylength, 1) := by decide +kernel
theorem dJ7_fill_d0a16_4 : decode cJ7_fill_d0a16 4 = .ok (.istore 4, 2) := by decide +kernel
theorem dJ7_fill_d0a16_6 : decode cJ7_fill_d0a16 6 = .ok (.iload_n 3, 1) := by decide +kernel
theorem dJ7_fill_d0a16_7 : decode cJ7_fill_d0a16 7 = .ok (.iload 4, 2) := by decide +kernel
theorem dJ7_fill_d0a16_9 : decode cJ7_fill_d0a16 9 = .ok (.if_icmp .ge 13, 3) := by decide +kernel
theorem dJ7_fill_d0a16_12 : decode cJ7_fill_d0a16 12 = .ok (.aload_n 0, 1) := by decide +kernel
theorem dJ7_fill_d0a16_13 : decode cJ7_fill_d0a16 13 = .ok (.iload_n 3, 1) := by decide +kernel
theorem dJ7_fill_d0a16_14 : decode cJ7_fill_d0a16 14 = .ok (.lload_n 1, 1) := by decide +kernel
theorem dJ7_fill_d0a16_15 : decode cJ7_fill_d0a16 15 = .ok (.lastore, 1) := by decide +kernel
theorem dJ7_fill_d0a16_16 : decode cJ7_fill_d0a16 16 = .ok (.iinc 3 1, 3) := by decide +kernel
theorem dJ7_fill_d0a16_19 : decode cJ7_fill_d0a16 19 = .ok (.goto (-13), 3) := by decide +kernel
theorem dJ7_fill_d0a16_22 : decode cJ7_fill_d0a16 22 = .ok (.return_, 1) := by decide +kernel
theorem dJ7_fill_53178_0 : decode cJ7_fill_53178 0 = .ok (.iconst 0, 1) := by decide +kernel
theorem dJ7_fill_53178_1 : decode cJ7_fill_53178 1 = .ok (.istore_n 2, 1) := by decide +kernel
theorem dJ7_fill_53178_2 : decode cJ7_fill_53178 2 = .ok (.aload_n 0, 1) := by decide +kernel
theorem dJ7_fill_53178_3 : decode cJ7_fill_53178 3 = .ok (.arraylength, 1) := by decide +kernel
theorem dJ7_fill_53178_4 : decode cJ7_fill_53178 4 = .ok (.istore_n 3, 1) := by decide +kernel
theorem dJ7_fill_53178_5 : decode cJ7_fill_53178 5 = .ok (.iload_n 2, 1) := by decide +kernel
theorem dJ7_fill_53178_6 : decode cJ7_fill_53178 6 = .ok (.iload_n 3, 1) := by decide +kernel
theorem dJ7_fill_53178_7 : decode cJ7_fill_53178 7 = .ok (.if_icmp .ge 13, 3) := by decide +kernel
theorem dJ7_fill_53178_10 : decode cJ7_fill_53178 10 = .ok (.aload_n 0, 1) := by decide +kernel
theorem dJ7_fill_53178_11 : decode cJ7_fill_53178 11 = .ok (.iload_n 2, 1) := by decide +kernel
theorem dJ7_fill_53178_12 : decode cJ7_fill_53178 12 = .ok (.iload_n 1, 1) := by decide +kernel
theorem dJ7_fill_53178_13 : decode cJ7_fill_53178 13 = .ok (.iastore, 1) := by decide +kernel
theorem dJ7_fill_53178_14 : decode cJ7_fill_53178 14 = .ok (.iinc 2 1, 3) := by decide +kernel
theorem dJ7_fill_53178_17 : decode cJ7_fill_53178 17 = .ok (.goto (-12), 3) := by decide +kernel
theorem dJ7_fill_53178_20 : decode cJ7_fill_53178 20 = .ok (.return_, 1) := by decide +kernel
end
section
theorem dX9_init_0 : decode cX9_init 0 = .ok (.aload_n 0, 1) := by decide +kernel
theorem dX9_init_1 : decode cX9_init 1 = .ok (.invokespecial 3, 3) := by decide +kernel
theorem dX9_init_4 : decode cX9_init 4 = .ok (.aload_n 0, 1) := by decide +kernel
theorem dX9_init_5 : decode cX9_init 5 = .ok (.new 9, 3) := by decide +kernel
theorem dX9_init_8 : decode cX9_init 8 = .ok (.dup, 1) := by decide +kernel
theorem dX9_init_9 : decode cX9_init 9 = .ok (.invokespecial 11, 3) := by decide +kernel
theorem dX9_init_12 : decode cX9_init 12 = .ok (.putfield 12, 3) := by decide +kernel
theorem dX9_init_15 : decode cX9_init 15 = .ok (.aload_n 0, 1) := by decide +kernel
theorem dX9_init_16 : decode cX9_init 16 = .ok (.new 16, 3) := by decide +kernel
theorem dX9_init_19 : decode cX9_init 19 = .ok (.dup, 1) := by decide +kernel
theorem dX9_init_20 : decode cX9_init 20 = .ok (.invokespecial 18, 3) := by decide +kernel
theorem dX9_init_23 : decode cX9_init 23 = .ok (.putfield 19, 3) := by decide +kernel
theorem dX9_init_26 : decode cX9_init 26 = .ok (.aload_n 0, 1) := by decide +kernel
theorem dX9_init_27 : decode cX9_init 27 = .ok (.new 23, 3) := by decide +kernel
theorem dX9_init_30 : decode cX9_init 30 = .ok (.dup, 1) := by decide +kernel
theorem dX9_init_31 : decode cX9_init 31 = .ok (.invokespecial 25, 3) := by decide +kernel
theorem dX9_init_34 : decode cX9_init 34 = .ok (.putfield 26, 3) := by decide +kernel
theorem dX9_init_37 : decode cX9_init 37 = .ok (.aload_n 0, 1) := by decide +kernel
theorem dX9_init_38 : decode cX9_init 38 = .ok (.new 30, 3) := by decide +kernel
theorem dX9_init_41 : decode cX9_init 41 = .ok (.dup, 1) := by decide +kernel
theorem dX9_init_42 : decode cX9_init 42 = .ok (.invokespecial 32, 3) := by decide +kernel
theorem dX9_init_45 : decode cX9_init 45 = .ok (.putfield 33, 3) := by decide +kernel
theorem dX9_init_48 : decode cX9_init 48 = .ok (.aload_n 0, 1) := by decide +kernel
theorem dX9_init_49 : decode cX9_init 49 = .ok (.new 37, 3) := by decide +kernel
theorem dX9_init_52 : decode cX9_init 52 = .ok (.dup, 1) := by decide +kernel
theorem dX9_init_53 : decode cX9_init 53 = .ok (.invokespecial 39, 3) := by decide +kernel
theorem dX9_init_56 : decode cX9_init 56 = .ok (.putfield 40, 3) := by decide +kernel
theorem dX9_init_59 : decode cX9_init 59 = .ok (.aload_n 0, 1) := by decide +kernel
theorem dX9_init_60 : decode cX9_init 60 = .ok (.new 44, 3) := by decide +kernel
theorem dX9_init_63 : decode cX9_init 63 = .ok (.dup, 1) := by decide +kernel
theorem dX9_init_64 : decode cX9_init 64 = .ok (.invokespecial 46, 3) := by decide +kernel
theorem dX9_init_67 : decode cX9_init 67 = .ok (.putfield 47, 3) := by decide +kernel
theorem dX9_init_70 : decode cX9_init 70 = .ok (.aload_n 0, 1) := by decide +kernel
theorem dX9_init_71 : decode cX9_init 71 = .ok (.new 51, 3) := by decide +kernel
theorem dX9_init_74 : decode cX9_init 74 = .ok (.dup, 1) := by decide +kernel
theorem dX9_init_75 : decode cX9_init 75 = .ok (.invokespecial 53, 3) := by decide +kernel
theorem dX9_init_78 : decode cX9_init 78 = .ok (.putfield 54, 3) := by decide +kernel
theorem dX9_init_81 : decode cX9_init 81 = .ok (.aload_n 0, 1) := by decide +kernel
theorem dX9_init_82 : decode cX9_init 82 = .ok (.bipush 8, 2) := by decide +kernel
theorem dX9_init_84 : decode cX9_init 84 = .ok (.newarray .int, 2) := by decide +kernel
theorem dX9_init_86 : decode cX9_init 86 = .ok (.putfield 58, 3) := by decide +kernel
theorem dX9_init_89 : decode cX9_init 89 = .ok (.return_, 1) := by decide +kernel
theorem dX9_time_0 : decode cX9_time 0 = .ok (.iload_n 1, 1) := by decide +kernel
theorem dX9_time_1 : decode cX9_time 1 = .ok (.iconst 1, 1) := by decide +kernel
theorem dX9_time_2 : decode cX9_time 2 = .ok (.if_icmp .ge 10, 3) := by decide +kernel
theorem dX9_time_5 : decode cX9_time 5 = .ok (.aload_n 0, 1) := by decide +kernel
theorem dX9_time_6 : decode cX9_time 6 = .ok (.bipush (-4), 2) := by decide +kernel
theorem dX9_time_8 : decode cX9_time 8 = .ok (.invokevirtual 62, 3) := by decide +kernel
theorem dX9_time_11 : decode cX9_time 11 = .ok (.ireturn, 1) := by decide +kernel
theorem dX9_time_12 : decode cX9_time 12 = .ok (.iload_n 1, 1) := by decide +kernel
theorem dX9_time_13 : decode cX9_time 13 = .ok (.ldc 66, 2) := by decide +kernel
theorem dX9_time_15 : decode cX9_time 15 = .ok (.aload_n 0, 1) := by decide +kernel
theorem dX9_time_16 : decode cX9_time 16 = .ok (.getfield 12, 3) := by decide +kernel
theorem dX9_time_19 : decode cX9_time 19 = .ok (.getfield 67, 3) := by decide +kernel
theorem dX9_time_22 : decode cX9_time 22 = .ok (.isub, 1) := by decide +kernel
theorem dX9_time_23 : decode cX9_time 23 = .ok (.if_icmp .le 10, 3) := by decide +kernel
theorem dX9_time_26 : decode cX9_time 26 = .ok (.aload_n 0, 1) := by decide +kernel
theorem dX9_time_27 : decode cX9_time 27 = .ok (.bipush (-6), 2) := by decide +kernel
theorem dX9_time_29 : decode cX9_time 29 = .ok (.invokevirtual 62, 3) := by decide +kernel
theorem dX9_time_32 : decode cX9_time 32 = .ok (.ireturn, 1) := by decide +kernel
theorem dX9_time_33 : decode cX9_time 33 = .ok (.aload_n 0, 1) := by decide +kernel
theorem dX9_time_34 : decode cX9_time 34 = .ok (.getfield 12, 3) := by decide +kernel
theorem dX9_time_37 : decode cX9_time 37 = .ok (.dup, 1) := by decide +kernel
theorem dX9_time_38 : decode cX9_time 38 = .ok (.getfield 67, 3) := by decide +kernel
theorem dX9_time_41 : decode cX9_time 41 = .ok (.iload_n 1, 1) := by decide +kernel
theorem dX9_time_42 : decode cX9_time 42 = .ok (.iadd, 1) := by decide +kernel
theorem dX9_time_43 : decode cX9_time 43 = .ok (.putfield 67, 3) := by decide +kernel
theorem dX9_time_46 : decode cX9_time 46 = .ok (.aload_n 0, 1) := by decide +kernel
theorem dX9_time_47 : decode cX9_time 47 = .ok (.getfield 12, 3) := by decide +kernel
theorem dX9_time_50 : decode cX9_time 50 = .ok (.getfield 67, 3) := by decide +kernel
theorem dX9_time_53 : decode cX9_time 53 = .ok (.ireturn, 1) := by decide +kernel
theorem dX9_rate_0 : decode cX9_rate 0 = .ok (.iload_n 1, 1) := by decide +kernel
theorem dX9_rate_1 : decode cX9_rate 1 = .ok (.iconst 1, 1) := by decide +kernel
theorem dX9_rate_2 : decode cX9_rate 2 = .ok (.if_icmp .lt 8, 3) := by decide +kernel
theorem dX9_rate_5 : decode cX9_rate 5 = .ok (.iload_n 1, 1) := by decide +kernel
theorem dX9_rate_6 : decode cX9_rate 6 = .ok (.iconst 4, 1) := by decide +kernel
theorem dX9_rate_7 : decode cX9_rate 7 = .ok (.if_icmp .lt 9, 3) := by decide +kernel
theorem dX9_rate_10 : decode cX9_rate 10 = .ok (.aload_n 0, 1) := by decide +kernel
theorem dX9_rate_11 : decode cX9_rate 11 = .ok (.iconst (-1), 1) := by decide +kernel
theorem dX9_rate_12 : decode cX9_rate 12 = .ok (.invokevirtual 62, 3) := by decide +kernel
theorem dX9_rate_15 : decode cX9_rate 15 = .ok (.ireturn, 1) := by decide +kernel
theorem dX9_rate_16 : decode cX9_rate 16 = .ok (.aload_n 0, 1) := by decide +kernel
theorem dX9_rate_17 : decode cX9_rate 17 = .ok (.getfield 12, 3) := by decide +kernel
theorem dX9_rate_20 : decode cX9_rate 20 = .ok (.invokevirtual 71, 3) := by decide +kernel
theorem dX9_rate_23 : decode cX9_rate 23 = .ok (.ifCond .ne 10, 3) := by decide +kernel
theorem dX9_rate_26 : decode cX9_rate 26 = .ok (.aload_n 0, 1) := by decide +kernel
theorem dX9_rate_27 : decode cX9_rate 27 = .ok (.bipush (-3), 2) := by decide +kernel
theorem dX9_rate_29 : decode cX9_rate 29 = .ok (.invokevirtual 62, 3) := by decide +kernel
theorem dX9_rate_32 : decode cX9_rate 32 = .ok (.ireturn, 1) := by decide +kernel
theorem dX9_rate_33 : decode cX9_rate 33 = .ok (.iload_n 2, 1) := by decide +kernel
theorem dX9_rate_34 : decode cX9_rate 34 = .ok (.iconst 1, 1) := by decide +kernel
theorem dX9_rate_35 : decode cX9_rate 35 = .ok (.ldc 75, 2) := by decide +kernel
theorem dX9_rate_37 : decode cX9_rate 37 = .ok (.invokestatic 76, 3) := by decide +kernel
theorem dX9_rate_40 : decode cX9_rate 40 = .ok (.istore_n 3, 1) := by decide +kernel
theorem dX9_rate_41 : decode cX9_rate 41 = .ok (.iload_n 3, 1) := by decide +kernel
theorem dX9_rate_42 : decode cX9_rate 42 = .ok (.ifCond .eq 9, 3) := by decide +kernel
theorem dX9_rate_45 : decode cX9_rate 45 = .ok (.aload_n 0, 1) := by decide +kernel
theorem dX9_rate_46 : decode cX9_rate 46 = .ok (.iload_n 3, 1) := by decide +kernel
theorem dX9_rate_47 : decode cX9_rate 47 = .ok (.invokevirtual 62, 3) := by decide +kernel
theorem dX9_rate_50 : decode cX9_rate 50 = .ok (.ireturn, 1) := by decide +kernel
theorem dX9_rate_51 : decode cX9_rate 51 = .ok (.aload_n 0, 1) := by decide +kernel
theorem dX9_rate_52 : decode cX9_rate 52 = .ok (.getfield 12, 3) := by decide +kernel
theorem dX9_rate_55 : decode cX9_rate 55 = .ok (.getfield 80, 3) := by decide +kernel
theorem dX9_rate_58 : decode cX9_rate 58 = .ok (.iload_n 1, 1) := by decide +kernel
theorem dX9_rate_59 : decode cX9_rate 59 = .ok (.iaload, 1) := by decide +kernel
theorem dX9_rate_60 : decode cX9_rate 60 = .ok (.istore 4, 2) := by decide +kernel
theorem dX9_rate_62 : decode cX9_rate 62 = .ok (.aload_n 0, 1) := by decide +kernel
theorem dX9_rate_63 : decode cX9_rate 63 = .ok (.getfield 12, 3) := by decide +kernel
theorem dX9_rate_66 : decode cX9_rate 66 = .ok (.getfield 80, 3) := by decide +kernel
theorem dX9_rate_69 : decode cX9_rate 69 = .ok (.iload_n 1, 1) := by decide +kernel
theorem dX9_rate_70 : decode cX9_rate 70 = .ok (.iload_n 2, 1) := by decide +kernel
theorem dX9_rate_71 : decode cX9_rate 71 = .ok (.iastore, 1) := by decide +kernel
theorem dX9_rate_72 : decode cX9_rate 72 = .ok (.iload 4, 2) := by decide +kernel
theorem dX9_rate_74 : decode cX9_rate 74 = .ok (.ireturn, 1) := by decide +kernel
theorem dX9_lots_0 : decode cX9_lots 0 = .ok (.aload_n 0, 1) := by decide +kernel
theorem dX9_lots_1 : decode cX9_lots 1 = .ok (.getfield 12, 3) := by decide +kernel
theorem dX9_lots_4 : decode cX9_lots 4 = .ok (.invokevirtual 71, 3) := by decide +kernel
theorem dX9_lots_7 : decode cX9_lots 7 = .ok (.ifCond .ne 10, 3) := by decide +kernel
theorem dX9_lots_10 : decode cX9_lots 10 = .ok (.aload_n 0, 1) := by decide +kernel
theorem dX9_lots_11 : decode cX9_lots 11 = .ok (.bipush (-3), 2) := by decide +kernel
theorem dX9_lots_13 : decode cX9_lots 13 = .ok (.invokevirtual 62, 3) := by decide +kernel
theorem dX9_lots_16 : decode cX9_lots 16 = .ok (.ireturn, 1) := by decide +kernel
theorem dX9_lots_17 : decode cX9_lots 17 = .ok (.iload_n 1, 1) := by decide +kernel
theorem dX9_lots_18 : decode cX9_lots 18 = .ok (.iconst 1, 1) := by decide +kernel
theorem dX9_lots_19 : decode cX9_lots 19 = .ok (.bipush 6, 2) := by decide +kernel
theorem dX9_lots_21 : decode cX9_lots 21 = .ok (.invokestatic 76, 3) := by decide +kernel
theorem dX9_lots_24 : decode cX9_lots 24 = .ok (.istore_n 2, 1) := by decide +kernel
theorem dX9_lots_25 : decode cX9_lots 25 = .ok (.iload_n 2, 1) := by decide +kernel
theorem dX9_lots_26 : decode cX9_lots 26 = .ok (.ifCond .eq 9, 3) := by decide +kernel
theorem dX9_lots_29 : decode cX9_lots 29 = .ok (.aload_n 0, 1) := by decide +kernel
theorem dX9_lots_30 : decode cX9_lots 30 = .ok (.iload_n 2, 1) := by decide +kernel
theorem dX9_lots_31 : decode cX9_lots 31 = .ok (.invokevirtual 62, 3) := by decide +kernel
theorem dX9_lots_34 : decode cX9_lots 34 = .ok (.ireturn, 1) := by decide +kernel
theorem dX9_lots_35 : decode cX9_lots 35 = .ok (.aload_n 0, 1) := by decide +kernel
theorem dX9_lots_36 : decode cX9_lots 36 = .ok (.getfield 12, 3) := by decide +kernel
theorem dX9_lots_39 : decode cX9_lots 39 = .ok (.getfield 83, 3) := by decide +kernel
theorem dX9_lots_42 : decode cX9_lots 42 = .ok (.istore_n 3, 1) := by decide +kernel
theorem dX9_lots_43 : decode cX9_lots 43 = .ok (.aload_n 0, 1) := by decide +kernel
theorem dX9_lots_44 : decode cX9_lots 44 = .ok (.getfield 12, 3) := by decide +kernel
theorem dX9_lots_47 : decode cX9_lots 47 = .ok (.iload_n 1, 1) := by decide +kernel
theorem dX9_lots_48 : decode cX9_lots 48 = .ok (.invokevirtual 86, 3) := by decide +kernel
theorem dX9_lots_51 : decode cX9_lots 51 = .ok (.iload_n 3, 1) := by decide +kernel
theorem dX9_lots_52 : decode cX9_lots 52 = .ok (.ireturn, 1) := by decide +kernel
theorem dX9_closing_0 : decode cX9_closing 0 = .ok (.aload_n 0, 1) := by decide +kernel
theorem dX9_closing_1 : decode cX9_closing 1 = .ok (.getfield 12, 3) := by decide +kernel
theorem dX9_closing_4 : decode cX9_closing 4 = .ok (.getfield 90, 3) := by decide +kernel
theorem dX9_closing_7 : decode cX9_closing 7 = .ok (.iconst (-1), 1) := by decide +kernel
theorem dX9_closing_8 : decode cX9_closing 8 = .ok (.if_icmp .eq 10, 3) := by decide +kernel
theorem dX9_closing_11 : decode cX9_closing 11 = .ok (.aload_n 0, 1) := by decide +kernel
theorem dX9_closing_12 : decode cX9_closing 12 = .ok (.bipush (-3), 2) := by decide +kernel
theorem dX9_closing_14 : decode cX9_closing 14 = .ok (.invokevirtual 62, 3) := by decide +kernel
theorem dX9_closing_17 : decode cX9_closing 17 = .ok (.ireturn, 1) := by decide +kernel
theorem dX9_closing_18 : decode cX9_closing 18 = .ok (.iload_n 1, 1) := by decide +kernel
theorem dX9_closing_19 : decode cX9_closing 19 = .ok (.aload_n 0, 1) := by decide +kernel
theorem dX9_closing_20 : decode cX9_closing 20 = .ok (.getfield 12, 3) := by decide +kernel
theorem dX9_closing_23 : decode cX9_closing 23 = .ok (.getfield 67, 3) := by decide +kernel
theorem dX9_closing_26 : decode cX9_closing 26 = .ok (.ldc 66, 2) := by decide +kernel
theorem dX9_closing_28 : decode cX9_closing 28 = .ok (.invokestatic 76, 3) := by decide +kernel
theorem dX9_closing_31 : decode cX9_closing 31 = .ok (.istore_n 2, 1) := by decide +kernel
theorem dX9_closing_32 : decode cX9_closing 32 = .ok (.iload_n 2, 1) := by decide +kernel
theorem dX9_closing_33 : decode cX9_closing 33 = .ok (.ifCond .eq 9, 3) := by decide +kernel
theorem dX9_closing_36 : decode cX9_closing 36 = .ok (.aload_n 0, 1) := by decide +kernel
theorem dX9_closing_37 : decode cX9_closing 37 = .ok (.iload_n 2, 1) := by decide +kernel
theorem dX9_closing_38 : decode cX9_closing 38 = .ok (.invokevirtual 62, 3) := by decide +kernel
theorem dX9_closing_41 : decode cX9_closing 41 = .ok (.ireturn, 1) := by decide +kernel
theorem dX9_closing_42 : decode cX9_closing 42 = .ok (.aload_n 0, 1) := by decide +kernel
theorem dX9_closing_43 : decode cX9_closing 43 = .ok (.getfield 12, 3) := by decide +kernel
theorem dX9_closing_46 : decode cX9_closing 46 = .ok (.iload_n 1, 1) := by decide +kernel
theorem dX9_closing_47 : decode cX9_closing 47 = .ok (.putfield 90, 3) := by decide +kernel
theorem dX9_closing_50 : decode cX9_closing 50 = .ok (.iconst 1, 1) := by decide +kernel
theorem dX9_closing_51 : decode cX9_closing 51 = .ok (.ireturn, 1) := by decide +kernel
theorem dX9_bid_0 : decode cX9_bid 0 = .ok (.aload_n 0, 1) := by decide +kernel
theorem dX9_bid_1 : decode cX9_bid 1 = .ok (.iload_n 1, 1) := by decide +kernel
theorem dX9_bid_2 : decode cX9_bid 2 = .ok (.iload_n 2, 1) := by decide +kernel
theorem dX9_bid_3 : decode cX9_bid 3 = .ok (.invokevirtual 93, 3) := by decide +kernel
theorem dX9_bid_6 : decode cX9_bid 6 = .ok (.ifCond .ne 12, 3) := by decide +kernel
theorem dX9_bid_9 : decode cX9_bid 9 = .ok (.iload_n 3, 1) := by decide +kernel
theorem dX9_bid_10 : decode cX9_bid 10 = .ok (.ifCond .lt 8, 3) := by decide +kernel
theorem dX9_bid_13 : decode cX9_bid 13 = .ok (.iload_n 3, 1) := by decide +kernel
theorem dX9_bid_14 : decode cX9_bid 14 = .ok (.iconst 4, 1) := by decide +kernel
theorem dX9_bid_15 : decode cX9_bid 15 = .ok (.if_icmp .lt 9, 3) := by decide +kernel
theorem dX9_bid_18 : decode cX9_bid 18 = .ok (.aload_n 0, 1) := by decide +kernel
theorem dX9_bid_19 : decode cX9_bid 19 = .ok (.iconst (-1), 1) := by decide +kernel
theorem dX9_bid_20 : decode cX9_bid 20 = .ok (.invokevirtual 62, 3) := by decide +kernel
theorem dX9_bid_23 : decode cX9_bid 23 = .ok (.ireturn, 1) := by decide +kernel
theorem dX9_bid_24 : decode cX9_bid 24 = .ok (.iload 4, 2) := by decide +kernel
theorem dX9_bid_26 : decode cX9_bid 26 = .ok (.iload 5, 2) := by decide +kernel
theorem dX9_bid_28 : decode cX9_bid 28 = .ok (.invokestatic 97, 3) := by decide +kernel
theorem dX9_bid_31 : decode cX9_bid 31 = .ok (.iload 6, 2) := by decide +kernel
theorem dX9_bid_33 : decode cX9_bid 33 = .ok (.iload 7, 2) := by decide +kernel
theorem dX9_bid_35 : decode cX9_bid 35 = .ok (.invokestatic 97, 3) := by decide +kernel
theorem dX9_bid_38 : decode cX9_bid 38 = .ok (.invokestatic 97, 3) := by decide +kernel
theorem dX9_bid_41 : decode cX9_bid 41 = .ok (.istore 10, 2) := by decide +kernel
theorem dX9_bid_43 : decode cX9_bid 43 = .ok (.iload 10, 2) := by decide +kernel
theorem dX9_bid_45 : decode cX9_bid 45 = .ok (.ifCond .lt 13, 3) := by decide +kernel
theorem dX9_bid_48 : decode cX9_bid 48 = .ok (.iload 8, 2) := by decide +kernel
theorem dX9_bid_50 : decode cX9_bid 50 = .ok (.ifCond .lt 8, 3) := by decide +kernel
theorem dX9_bid_53 : decode cX9_bid 53 = .ok (.iload 9, 2) := by decide +kernel
theorem dX9_bid_55 : decode cX9_bid 55 = .ok (.ifCond .ge 10, 3) := by decide +kernel
theorem dX9_bid_58 : decode cX9_bid 58 = .ok (.aload_n 0, 1) := by decide +kernel
theorem dX9_bid_59 : decode cX9_bid 59 = .ok (.bipush (-4), 2) := by decide +kernel
theorem dX9_bid_61 : decode cX9_bid 61 = .ok (.invokevirtual 62, 3) := by decide +kernel
theorem dX9_bid_64 : decode cX9_bid 64 = .ok (.ireturn, 1) := by decide +kernel
theorem dX9_bid_65 : decode cX9_bid 65 = .ok (.iload 4, 2) := by decide +kernel
theorem dX9_bid_67 : decode cX9_bid 67 = .ok (.iload 5, 2) := by decide +kernel
theorem dX9_bid_69 : decode cX9_bid 69 = .ok (.invokestatic 103, 3) := by decide +kernel
theorem dX9_bid_72 : decode cX9_bid 72 = .ok (.iload 6, 2) := by decide +kernel
theorem dX9_bid_74 : decode cX9_bid 74 = .ok (.iload 7, 2) := by decide +kernel
theorem dX9_bid_76 : decode cX9_bid 76 = .ok (.invokestatic 103, 3) := by decide +kernel
theorem dX9_bid_79 : decode cX9_bid 79 = .ok (.invokestatic 103, 3) := by decide +kernel
theorem dX9_bid_82 : decode cX9_bid 82 = .ok (.istore 11, 2) := by decide +kernel
theorem dX9_bid_84 : decode cX9_bid 84 = .ok (.iload 11, 2) := by decide +kernel
theorem dX9_bid_86 : decode cX9_bid 86 = .ok (.ldc 106, 2) := by decide +kernel
theorem dX9_bid_88 : decode cX9_bid 88 = .ok (.if_icmp .gt 17, 3) := by decide +kernel
theorem dX9_bid_91 : decode cX9_bid 91 = .ok (.iload 8, 2) := by decide +kernel
theorem dX9_bid_93 : decode cX9_bid 93 = .ok (.ldc 66, 2) := by decide +kernel
theorem dX9_bid_95 : decode cX9_bid 95 = .ok (.if_icmp .gt 10, 3) := by decide +kernel
theorem dX9_bid_98 : decode cX9_bid 98 = .ok (.iload 9, 2) := by decide +kernel
theorem dX9_bid_100 : decode cX9_bid 100 = .ok (.ldc 106, 2) := by decide +kernel
theorem dX9_bid_102 : decode cX9_bid 102 = .ok (.if_icmp .le 10, 3) := by decide +kernel
theorem dX9_bid_105 : decode cX9_bid 105 = .ok (.aload_n 0, 1) := by decide +kernel
theorem dX9_bid_106 : decode cX9_bid 106 = .ok (.bipush (-6), 2) := by decide +kernel
theorem dX9_bid_108 : decode cX9_bid 108 = .ok (.invokevirtual 62, 3) := by decide +kernel
theorem dX9_bid_111 : decode cX9_bid 111 = .ok (.ireturn, 1) := by decide +kernel
theorem dX9_bid_112 : decode cX9_bid 112 = .ok (.aload_n 0, 1) := by decide +kernel
theorem dX9_bid_113 : decode cX9_bid 113 = .ok (.getfield 12, 3) := by decide +kernel
theorem dX9_bid_116 : decode cX9_bid 116 = .ok (.invokevirtual 71, 3) := by decide +kernel
theorem dX9_bid_119 : decode cX9_bid 119 = .ok (.ifCond .ne 19, 3) := by decide +kernel
theorem dX9_bid_122 : decode cX9_bid 122 = .ok (.aload_n 0, 1) := by decide +kernel
theorem dX9_bid_123 : decode cX9_bid 123 = .ok (.getfield 12, 3) := by decide +kernel
theorem dX9_bid_126 : decode cX9_bid 126 = .ok (.dup, 1) := by decide +kernel
theorem dX9_bid_127 : decode cX9_bid 127 = .ok (.getfield 107, 3) := by decide +kernel
theorem dX9_bid_130 : decode cX9_bid 130 = .ok (.iconst 1, 1) := by decide +kernel
theorem dX9_bid_131 : decode cX9_bid 131 = .ok (.iadd, 1) := by decide +kernel
theorem dX9_bid_132 : decode cX9_bid 132 = .ok (.putfield 107, 3) := by decide +kernel
theorem dX9_bid_135 : decode cX9_bid 135 = .ok (.bipush (-9), 2) := by decide +kernel
theorem dX9_bid_137 : decode cX9_bid 137 = .ok (.ireturn, 1) := by decide +kernel
theorem dX9_bid_138 : decode cX9_bid 138 = .ok (.iload_n 1, 1) := by decide +kernel
theorem dX9_bid_139 : decode cX9_bid 139 = .ok (.iload_n 2, 1) := by decide +kernel
theorem dX9_bid_140 : decode cX9_bid 140 = .ok (.invokestatic 110, 3) := by decide +kernel
theorem dX9_bid_143 : decode cX9_bid 143 = .ok (.istore 12, 2) := by decide +kernel
theorem dX9_bid_145 : decode cX9_bid 145 = .ok (.aload_n 0, 1) := by decide +kernel
theorem dX9_bid_146 : decode cX9_bid 146 = .ok (.getfield 12, 3) := by decide +kernel
theorem dX9_bid_149 : decode cX9_bid 149 = .ok (.getfield 113, 3) := by decide +kernel
theorem dX9_bid_152 : decode cX9_bid 152 = .ok (.iload 12, 2) := by decide +kernel
theorem dX9_bid_154 : decode cX9_bid 154 = .ok (.baload, 1) := by decide +kernel
theorem dX9_bid_155 : decode cX9_bid 155 = .ok (.istore 13, 2) := by decide +kernel
theorem dX9_bid_157 : decode cX9_bid 157 = .ok (.aload_n 0, 1) := by decide +kernel
theorem dX9_bid_158 : decode cX9_bid 158 = .ok (.getfield 12, 3) := by decide +kernel
theorem dX9_bid_161 : decode cX9_bid 161 = .ok (.iload 12, 2) := by decide +kernel
theorem dX9_bid_163 : decode cX9_bid 163 = .ok (.invokevirtual 117, 3) := by decide +kernel
theorem dX9_bid_166 : decode cX9_bid 166 = .ok (.aload_n 0, 1) := by decide +kernel
theorem dX9_bid_167 : decode cX9_bid 167 = .ok (.getfield 12, 3) := by decide +kernel
theorem dX9_bid_170 : decode cX9_bid 170 = .ok (.iload 12, 2) := by decide +kernel
theorem dX9_bid_172 : decode cX9_bid 172 = .ok (.iload_n 3, 1) := by decide +kernel
theorem dX9_bid_173 : decode cX9_bid 173 = .ok (.iload 8, 2) := by decide +kernel
theorem dX9_bid_175 : decode cX9_bid 175 = .ok (.iload 9, 2) := by decide +kernel
theorem dX9_bid_177 : decode cX9_bid 177 = .ok (.invokevirtual 120, 3) := by decide +kernel
theorem dX9_bid_180 : decode cX9_bid 180 = .ok (.aload_n 0, 1) := by decide +kernel
theorem dX9_bid_181 : decode cX9_bid 181 = .ok (.getfield 12, 3) := by decide +kernel
theorem dX9_bid_184 : decode cX9_bid 184 = .ok (.iload 12, 2) := by decide +kernel
theorem dX9_bid_186 : decode cX9_bid 186 = .ok (.iload 4, 2) := by decide +kernel
theorem dX9_bid_188 : decode cX9_bid 188 = .ok (.iload 5, 2) := by decide +kernel
theorem dX9_bid_190 : decode cX9_bid 190 = .ok (.iload 6, 2) := by decide +kernel
theorem dX9_bid_192 : decode cX9_bid 192 = .ok (.iload 7, 2) := by decide +kernel
theorem dX9_bid_194 : decode cX9_bid 194 = .ok (.invokevirtual 124, 3) := by decide +kernel
theorem dX9_bid_197 : decode cX9_bid 197 = .ok (.iload 13, 2) := by decide +kernel
theorem dX9_bid_199 : decode cX9_bid 199 = .ok (.ifCond .eq 7, 3) := by decide +kernel
theorem dX9_bid_202 : decode cX9_bid 202 = .ok (.iconst 0, 1) := by decide +kernel
theorem dX9_bid_203 : decode cX9_bid 203 = .ok (.goto 4, 3) := by decide +kernel
theorem dX9_bid_206 : decode cX9_bid 206 = .ok (.iconst 1, 1) := by decide +kernel
theorem dX9_bid_207 : decode cX9_bid 207 = .ok (.ireturn, 1) := by decide +kernel
theorem dX9_withdraw_0 : decode cX9_withdraw 0 = .ok (.aload_n 0, 1) := by decide +kernel
theorem dX9_withdraw_1 : decode cX9_withdraw 1 = .ok (.iload_n 1, 1) := by decide +kernel
theorem dX9_withdraw_2 : decode cX9_withdraw 2 = .ok (.iload_n 2, 1) := by decide +kernel
theorem dX9_withdraw_3 : decode cX9_withdraw 3 = .ok (.invokevirtual 93, 3) := by decide +kernel
theorem dX9_withdraw_6 : decode cX9_withdraw 6 = .ok (.ifCond .eq 9, 3) := by decide +kernel
theorem dX9_withdraw_9 : decode cX9_withdraw 9 = .ok (.aload_n 0, 1) := by decide +kernel
theorem dX9_withdraw_10 : decode cX9_withdraw 10 = .ok (.iconst (-1), 1) := by decide +kernel
theorem dX9_withdraw_11 : decode cX9_withdraw 11 = .ok (.invokevirtual 62, 3) := by decide +kernel
theorem dX9_withdraw_14 : decode cX9_withdraw 14 = .ok (.ireturn, 1) := by decide +kernel
theorem dX9_withdraw_15 : decode cX9_withdraw 15 = .ok (.iload_n 1, 1) := by decide +kernel
theorem dX9_withdraw_16 : decode cX9_withdraw 16 = .ok (.iload_n 2, 1) := by decide +kernel
theorem dX9_withdraw_17 : decode cX9_withdraw 17 = .ok (.invokestatic 110, 3) := by decide +kernel
theorem dX9_withdraw_20 : decode cX9_withdraw 20 = .ok (.istore_n 3, 1) := by decide +kernel
theorem dX9_withdraw_21 : decode cX9_withdraw 21 = .ok (.aload_n 0, 1) := by decide +kernel
theorem dX9_withdraw_22 : decode cX9_withdraw 22 = .ok (.getfield 12, 3) := by decide +kernel
theorem dX9_withdraw_25 : decode cX9_withdraw 25 = .ok (.getfield 113, 3) := by decide +kernel
theorem dX9_withdraw_28 : decode cX9_withdraw 28 = .ok (.iload_n 3, 1) := by decide +kernel
theorem dX9_withdraw_29 : decode cX9_withdraw 29 = .ok (.baload, 1) := by decide +kernel
theorem dX9_withdraw_30 : decode cX9_withdraw 30 = .ok (.ifCond .ne 10, 3) := by decide +kernel
theorem dX9_withdraw_33 : decode cX9_withdraw 33 = .ok (.aload_n 0, 1) := by decide +kernel
theorem dX9_withdraw_34 : decode cX9_withdraw 34 = .ok (.bipush (-5), 2) := by decide +kernel
theorem dX9_withdraw_36 : decode cX9_withdraw 36 = .ok (.invokevirtual 62, 3) := by decide +kernel
theorem dX9_withdraw_39 : decode cX9_withdraw 39 = .ok (.ireturn, 1) := by decide +kernel
theorem dX9_withdraw_40 : decode cX9_withdraw 40 = .ok (.aload_n 0, 1) := by decide +kernel
theorem dX9_withdraw_41 : decode cX9_withdraw 41 = .ok (.getfield 12, 3) := by decide +kernel
theorem dX9_withdraw_44 : decode cX9_withdraw 44 = .ok (.invokevirtual 71, 3) := by decide +kernel
theorem dX9_withdraw_47 : decode cX9_withdraw 47 = .ok (.ifCond .ne 19, 3) := by decide +kernel
theorem dX9_withdraw_50 : decode cX9_withdraw 50 = .ok (.aload_n 0, 1) := by decide +kernel
theorem dX9_withdraw_51 : decode cX9_withdraw 51 = .ok (.getfield 12, 3) := by decide +kernel
theorem dX9_withdraw_54 : decode cX9_withdraw 54 = .ok (.dup, 1) := by decide +kernel
theorem dX9_withdraw_55 : decode cX9_withdraw 55 = .ok (.getfield 107, 3) := by decide +kernel
theorem dX9_withdraw_58 : decode cX9_withdraw 58 = .ok (.iconst 1, 1) := by decide +kernel
theorem dX9_withdraw_59 : decode cX9_withdraw 59 = .ok (.iadd, 1) := by decide +kernel
theorem dX9_withdraw_60 : decode cX9_withdraw 60 = .ok (.putfield 107, 3) := by decide +kernel
theorem dX9_withdraw_63 : decode cX9_withdraw 63 = .ok (.bipush (-9), 2) := by decide +kernel
theorem dX9_withdraw_65 : decode cX9_withdraw 65 = .ok (.ireturn, 1) := by decide +kernel
theorem dX9_withdraw_66 : decode cX9_withdraw 66 = .ok (.aload_n 0, 1) := by decide +kernel
theorem dX9_withdraw_67 : decode cX9_withdraw 67 = .ok (.getfield 12, 3) := by decide +kernel
theorem dX9_withdraw_70 : decode cX9_withdraw 70 = .ok (.iload_n 3, 1) := by decide +kernel
theorem dX9_withdraw_71 : decode cX9_withdraw 71 = .ok (.invokevirtual 117, 3) := by decide +kernel
theorem dX9_withdraw_74 : decode cX9_withdraw 74 = .ok (.iconst 1, 1) := by decide +kernel
theorem dX9_withdraw_75 : decode cX9_withdraw 75 = .ok (.ireturn, 1) := by decide +kernel
theorem dX9_set_0 : decode cX9_set 0 = .ok (.iload_n 1, 1) := by decide +kernel
theorem dX9_set_1 : decode cX9_set 1 = .ok (.ifCond .lt 15, 3) := by decide +kernel
theorem dX9_set_4 : decode cX9_set 4 = .ok (.iload_n 1, 1) := by decide +kernel
theorem dX9_set_5 : decode cX9_set 5 = .ok (.aload_n 0, 1) := by decide +kernel
theorem dX9_set_6 : decode cX9_set 6 = .ok (.getfield 12, 3) := by decide +kernel
theorem dX9_set_9 : decode cX9_set 9 = .ok (.getfield 128, 3) := by decide +kernel
theorem dX9_set_12 : decode cX9_set 12 = .ok (.arraylength, 1) := by decide +kernel
theorem dX9_set_13 : decode cX9_set 13 = .ok (.if_icmp .lt 10, 3) := by decide +kernel
theorem dX9_set_16 : decode cX9_set 16 = .ok (.aload_n 0, 1) := by decide +kernel
theorem dX9_set_17 : decode cX9_set 17 = .ok (.bipush (-2), 2) := by decide +kernel
theorem dX9_set_19 : decode cX9_set 19 = .ok (.invokevirtual 62, 3) := by decide +kernel
theorem dX9_set_22 : decode cX9_set 22 = .ok (.ireturn, 1) := by decide +kernel
theorem dX9_set_23 : decode cX9_set 23 = .ok (.iload_n 2, 1) := by decide +kernel
theorem dX9_set_24 : decode cX9_set 24 = .ok (.iconst 0, 1) := by decide +kernel
theorem dX9_set_25 : decode cX9_set 25 = .ok (.iload_n 1, 1) := by decide +kernel
theorem dX9_set_26 : decode cX9_set 26 = .ok (.ifCond .ne 7, 3) := by decide +kernel
theorem dX9_set_29 : decode cX9_set 29 = .ok (.iconst 2, 1) := by decide +kernel
theorem dX9_set_30 : decode cX9_set 30 = .ok (.goto 5, 3) := by decide +kernel
theorem dX9_set_33 : decode cX9_set 33 = .ok (.bipush 100, 2) := by decide +kernel
theorem dX9_set_35 : decode cX9_set 35 = .ok (.invokestatic 76, 3) := by decide +kernel
theorem dX9_set_38 : decode cX9_set 38 = .ok (.istore_n 3, 1) := by decide +kernel
theorem dX9_set_39 : decode cX9_set 39 = .ok (.iload_n 3, 1) := by decide +kernel
theorem dX9_set_40 : decode cX9_set 40 = .ok (.ifCond .eq 9, 3) := by decide +kernel
theorem dX9_set_43 : decode cX9_set 43 = .ok (.aload_n 0, 1) := by decide +kernel
theorem dX9_set_44 : decode cX9_set 44 = .ok (.iload_n 3, 1) := by decide +kernel
theorem dX9_set_45 : decode cX9_set 45 = .ok (.invokevirtual 62, 3) := by decide +kernel
theorem dX9_set_48 : decode cX9_set 48 = .ok (.ireturn, 1) := by decide +kernel
theorem dX9_set_49 : decode cX9_set 49 = .ok (.aload_n 0, 1) := by decide +kernel
theorem dX9_set_50 : decode cX9_set 50 = .ok (.getfield 12, 3) := by decide +kernel
theorem dX9_set_53 : decode cX9_set 53 = .ok (.getfield 128, 3) := by decide +kernel
theorem dX9_set_56 : decode cX9_set 56 = .ok (.iload_n 1, 1) := by decide +kernel
theorem dX9_set_57 : decode cX9_set 57 = .ok (.iaload, 1) := by decide +kernel
theorem dX9_set_58 : decode cX9_set 58 = .ok (.istore 4, 2) := by decide +kernel
theorem dX9_set_60 : decode cX9_set 60 = .ok (.aload_n 0, 1) := by decide +kernel
theorem dX9_set_61 : decode cX9_set 61 = .ok (.getfield 12, 3) := by decide +kernel
theorem dX9_set_64 : decode cX9_set 64 = .ok (.getfield 128, 3) := by decide +kernel
theorem dX9_set_67 : decode cX9_set 67 = .ok (.iload_n 1, 1) := by decide +kernel
theorem dX9_set_68 : decode cX9_set 68 = .ok (.iload_n 2, 1) := by decide +kernel
theorem dX9_set_69 : decode cX9_set 69 = .ok (.iastore, 1) := by decide +kernel
theorem dX9_set_70 : decode cX9_set 70 = .ok (.iload 4, 2) := by decide +kernel
theorem dX9_set_72 : decode cX9_set 72 = .ok (.ireturn, 1) := by decide +kernel
theorem dX9_price_0 : decode cX9_price 0 = .ok (.aload_n 0, 1) := by decide +kernel
theorem dX9_price_1 : decode cX9_price 1 = .ok (.iload_n 1, 1) := by decide +kernel
theorem dX9_price_2 : decode cX9_price 2 = .ok (.iload_n 2, 1) := by decide +kernel
theorem dX9_price_3 : decode cX9_price 3 = .ok (.invokevirtual 93, 3) := by decide +kernel
theorem dX9_price_6 : decode cX9_price 6 = .ok (.ifCond .eq 9, 3) := by decide +kernel
theorem dX9_price_9 : decode cX9_price 9 = .ok (.aload_n 0, 1) := by decide +kernel
theorem dX9_price_10 : decode cX9_price 10 = .ok (.iconst (-1), 1) := by decide +kernel
theorem dX9_price_11 : decode cX9_price 11 = .ok (.invokevirtual 62, 3) := by decide +kernel
theorem dX9_price_14 : decode cX9_price 14 = .ok (.ireturn, 1) := by decide +kernel
theorem dX9_price_15 : decode cX9_price 15 = .ok (.iload_n 1, 1) := by decide +kernel
theorem dX9_price_16 : decode cX9_price 16 = .ok (.iload_n 2, 1) := by decide +kernel
theorem dX9_price_17 : decode cX9_price 17 = .ok (.invokestatic 110, 3) := by decide +kernel
theorem dX9_price_20 : decode cX9_price 20 = .ok (.istore_n 3, 1) := by decide +kernel
theorem dX9_price_21 : decode cX9_price 21 = .ok (.aload_n 0, 1) := by decide +kernel
theorem dX9_price_22 : decode cX9_price 22 = .ok (.getfield 12, 3) := by decide +kernel
theorem dX9_price_25 : decode cX9_price 25 = .ok (.getfield 113, 3) := by decide +kernel
theorem dX9_price_28 : decode cX9_price 28 = .ok (.iload_n 3, 1) := by decide +kernel
theorem dX9_price_29 : decode cX9_price 29 = .ok (.baload, 1) := by decide +kernel
theorem dX9_price_30 : decode cX9_price 30 = .ok (.ifCond .ne 10, 3) := by decide +kernel
theorem dX9_price_33 : decode cX9_price 33 = .ok (.aload_n 0, 1) := by decide +kernel
theorem dX9_price_34 : decode cX9_price 34 = .ok (.bipush (-5), 2) := by decide +kernel
theorem dX9_price_36 : decode cX9_price 36 = .ok (.invokevirtual 62, 3) := by decide +kernel
theorem dX9_price_39 : decode cX9_price 39 = .ok (.ireturn, 1) := by decide +kernel
theorem dX9_price_40 : decode cX9_price 40 = .ok (.aload_n 0, 1) := by decide +kernel
theorem dX9_price_41 : decode cX9_price 41 = .ok (.getfield 12, 3) := by decide +kernel
theorem dX9_price_44 : decode cX9_price 44 = .ok (.iload_n 3, 1) := by decide +kernel
theorem dX9_price_45 : decode cX9_price 45 = .ok (.invokevirtual 131, 3) := by decide +kernel
theorem dX9_price_48 : decode cX9_price 48 = .ok (.ireturn, 1) := by decide +kernel
theorem dX9_note_0 : decode cX9_note 0 = .ok (.iload_n 1, 1) := by decide +kernel
theorem dX9_note_1 : decode cX9_note 1 = .ok (.invokestatic 134, 3) := by decide +kernel
theorem dX9_note_4 : decode cX9_note 4 = .ok (.ifCond .ne 12, 3) := by decide +kernel
theorem dX9_note_7 : decode cX9_note 7 = .ok (.aload_n 0, 1) := by decide +kernel
theorem dX9_note_8 : decode cX9_note 8 = .ok (.iload_n 2, 1) := by decide +kernel
theorem dX9_note_9 : decode cX9_note 9 = .ok (.iload_n 3, 1) := by decide +kernel
theorem dX9_note_10 : decode cX9_note 10 = .ok (.invokevirtual 93, 3) := by decide +kernel
theorem dX9_note_13 : decode cX9_note 13 = .ok (.ifCond .eq 9, 3) := by decide +kernel
theorem dX9_note_16 : decode cX9_note 16 = .ok (.aload_n 0, 1) := by decide +kernel
theorem dX9_note_17 : decode cX9_note 17 = .ok (.iconst (-1), 1) := by decide +kernel
theorem dX9_note_18 : decode cX9_note 18 = .ok (.invokevirtual 62, 3) := by decide +kernel
theorem dX9_note_21 : decode cX9_note 21 = .ok (.ireturn, 1) := by decide +kernel
theorem dX9_note_22 : decode cX9_note 22 = .ok (.iload_n 2, 1) := by decide +kernel
theorem dX9_note_23 : decode cX9_note 23 = .ok (.iload_n 3, 1) := by decide +kernel
theorem dX9_note_24 : decode cX9_note 24 = .ok (.invokestatic 110, 3) := by decide +kernel
theorem dX9_note_27 : decode cX9_note 27 = .ok (.istore 5, 2) := by decide +kernel
theorem dX9_note_29 : decode cX9_note 29 = .ok (.aload_n 0, 1) := by decide +kernel
theorem dX9_note_30 : decode cX9_note 30 = .ok (.getfield 12, 3) := by decide +kernel
theorem dX9_note_33 : decode cX9_note 33 = .ok (.iload 5, 2) := by decide +kernel
theorem dX9_note_35 : decode cX9_note 35 = .ok (.invokevirtual 138, 3) := by decide +kernel
theorem dX9_note_38 : decode cX9_note 38 = .ok (.ifCond .ne 10, 3) := by decide +kernel
theorem dX9_note_41 : decode cX9_note 41 = .ok (.aload_n 0, 1) := by decide +kernel
theorem dX9_note_42 : decode cX9_note 42 = .ok (.bipush (-5), 2) := by decide +kernel
theorem dX9_note_44 : decode cX9_note 44 = .ok (.invokevirtual 62, 3) := by decide +kernel
theorem dX9_note_47 : decode cX9_note 47 = .ok (.ireturn, 1) := by decide +kernel
theorem dX9_note_48 : decode cX9_note 48 = .ok (.aload_n 0, 1) := by decide +kernel
theorem dX9_note_49 : decode cX9_note 49 = .ok (.getfield 12, 3) := by decide +kernel
theorem dX9_note_52 : decode cX9_note 52 = .ok (.invokevirtual 71, 3) := by decide +kernel
theorem dX9_note_55 : decode cX9_note 55 = .ok (.ifCond .eq 10, 3) := by decide +kernel
theorem dX9_note_58 : decode cX9_note 58 = .ok (.aload_n 0, 1) := by decide +kernel
theorem dX9_note_59 : decode cX9_note 59 = .ok (.bipush (-3), 2) := by decide +kernel
theorem dX9_note_61 : decode cX9_note 61 = .ok (.invokevirtual 62, 3) := by decide +kernel
theorem dX9_note_64 : decode cX9_note 64 = .ok (.ireturn, 1) := by decide +kernel
theorem dX9_note_65 : decode cX9_note 65 = .ok (.iload 4, 2) := by decide +kernel
theorem dX9_note_67 : decode cX9_note 67 = .ok (.iconst 0, 1) := by decide +kernel
theorem dX9_note_68 : decode cX9_note 68 = .ok (.bipush 100, 2) := by decide +kernel
theorem dX9_note_70 : decode cX9_note 70 = .ok (.invokestatic 76, 3) := by decide +kernel
theorem dX9_note_73 : decode cX9_note 73 = .ok (.istore 6, 2) := by decide +kernel
theorem dX9_note_75 : decode cX9_note 75 = .ok (.iload 6, 2) := by decide +kernel
theorem dX9_note_77 : decode cX9_note 77 = .ok (.ifCond .eq 10, 3) := by decide +kernel
theorem dX9_note_80 : decode cX9_note 80 = .ok (.aload_n 0, 1) := by decide +kernel
theorem dX9_note_81 : decode cX9_note 81 = .ok (.iload 6, 2) := by decide +kernel
theorem dX9_note_83 : decode cX9_note 83 = .ok (.invokevirtual 62, 3) := by decide +kernel
theorem dX9_note_86 : decode cX9_note 86 = .ok (.ireturn, 1) := by decide +kernel
theorem dX9_note_87 : decode cX9_note 87 = .ok (.aload_n 0, 1) := by decide +kernel
theorem dX9_note_88 : decode cX9_note 88 = .ok (.getfield 19, 3) := by decide +kernel
theorem dX9_note_91 : decode cX9_note 91 = .ok (.iload_n 1, 1) := by decide +kernel
theorem dX9_note_92 : decode cX9_note 92 = .ok (.iload 5, 2) := by decide +kernel
theorem dX9_note_94 : decode cX9_note 94 = .ok (.iload 4, 2) := by decide +kernel
theorem dX9_note_96 : decode cX9_note 96 = .ok (.invokevirtual 141, 3) := by decide +kernel
theorem dX9_note_99 : decode cX9_note 99 = .ok (.ireturn, 1) := by decide +kernel
theorem dX9_bar_0 : decode cX9_bar 0 = .ok (.iload_n 1, 1) := by decide +kernel
theorem dX9_bar_1 : decode cX9_bar 1 = .ok (.invokestatic 134, 3) := by decide +kernel
theorem dX9_bar_4 : decode cX9_bar 4 = .ok (.ifCond .ne 10, 3) := by decide +kernel
theorem dX9_bar_7 : decode cX9_bar 7 = .ok (.iload_n 2, 1) := by decide +kernel
theorem dX9_bar_8 : decode cX9_bar 8 = .ok (.invokestatic 144, 3) := by decide +kernel
theorem dX9_bar_11 : decode cX9_bar 11 = .ok (.ifCond .eq 9, 3) := by decide +kernel
theorem dX9_bar_14 : decode cX9_bar 14 = .ok (.aload_n 0, 1) := by decide +kernel
theorem dX9_bar_15 : decode cX9_bar 15 = .ok (.iconst (-1), 1) := by decide +kernel
theorem dX9_bar_16 : decode cX9_bar 16 = .ok (.invokevirtual 62, 3) := by decide +kernel
theorem dX9_bar_19 : decode cX9_bar 19 = .ok (.ireturn, 1) := by decide +kernel
theorem dX9_bar_20 : decode cX9_bar 20 = .ok (.aload_n 0, 1) := by decide +kernel
theorem dX9_bar_21 : decode cX9_bar 21 = .ok (.getfield 19, 3) := by decide +kernel
theorem dX9_bar_24 : decode cX9_bar 24 = .ok (.iload_n 1, 1) := by decide +kernel
theorem dX9_bar_25 : decode cX9_bar 25 = .ok (.iload_n 2, 1) := by decide +kernel
theorem dX9_bar_26 : decode cX9_bar 26 = .ok (.iload_n 3, 1) := by decide +kernel
theorem dX9_bar_27 : decode cX9_bar 27 = .ok (.invokevirtual 147, 3) := by decide +kernel
theorem dX9_bar_30 : decode cX9_bar 30 = .ok (.ifCond .eq 7, 3) := by decide +kernel
theorem dX9_bar_33 : decode cX9_bar 33 = .ok (.iconst 1, 1) := by decide +kernel
theorem dX9_bar_34 : decode cX9_bar 34 = .ok (.goto 4, 3) := by decide +kernel
theorem dX9_bar_37 : decode cX9_bar 37 = .ok (.iconst 0, 1) := by decide +kernel
theorem dX9_bar_38 : decode cX9_bar 38 = .ok (.ireturn, 1) := by decide +kernel
theorem dX9_quality_0 : decode cX9_quality 0 = .ok (.aload_n 0, 1) := by decide +kernel
theorem dX9_quality_1 : decode cX9_quality 1 = .ok (.iload_n 1, 1) := by decide +kernel
theorem dX9_quality_2 : decode cX9_quality 2 = .ok (.iload_n 2, 1) := by decide +kernel
theorem dX9_quality_3 : decode cX9_quality 3 = .ok (.invokevirtual 93, 3) := by decide +kernel
theorem dX9_quality_6 : decode cX9_quality 6 = .ok (.ifCond .eq 9, 3) := by decide +kernel
theorem dX9_quality_9 : decode cX9_quality 9 = .ok (.aload_n 0, 1) := by decide +kernel
theorem dX9_quality_10 : decode cX9_quality 10 = .ok (.iconst (-1), 1) := by decide +kernel
theorem dX9_quality_11 : decode cX9_quality 11 = .ok (.invokevirtual 62, 3) := by decide +kernel
theorem dX9_quality_14 : decode cX9_quality 14 = .ok (.ireturn, 1) := by decide +kernel
theorem dX9_quality_15 : decode cX9_quality 15 = .ok (.iload_n 3, 1) := by decide +kernel
theorem dX9_quality_16 : decode cX9_quality 16 = .ok (.invokestatic 151, 3) := by decide +kernel
theorem dX9_quality_19 : decode cX9_quality 19 = .ok (.ifCond .eq 10, 3) := by decide +kernel
theorem dX9_quality_22 : decode cX9_quality 22 = .ok (.aload_n 0, 1) := by decide +kernel
theorem dX9_quality_23 : decode cX9_quality 23 = .ok (.bipush (-2), 2) := by decide +kernel
theorem dX9_quality_25 : decode cX9_quality 25 = .ok (.invokevirtual 62, 3) := by decide +kernel
theorem dX9_quality_28 : decode cX9_quality 28 = .ok (.ireturn, 1) := by decide +kernel
theorem dX9_quality_29 : decode cX9_quality 29 = .ok (.aload_n 0, 1) := by decide +kernel
theorem dX9_quality_30 : decode cX9_quality 30 = .ok (.getfield 12, 3) := by decide +kernel
theorem dX9_quality_33 : decode cX9_quality 33 = .ok (.getfield 113, 3) := by decide +kernel
theorem dX9_quality_36 : decode cX9_quality 36 = .ok (.iload_n 1, 1) := by decide +kernel
theorem dX9_quality_37 : decode cX9_quality 37 = .ok (.iload_n 2, 1) := by decide +kernel
theorem dX9_quality_38 : decode cX9_quality 38 = .ok (.invokestatic 110, 3) := by decide +kernel
theorem dX9_quality_41 : decode cX9_quality 41 = .ok (.baload, 1) := by decide +kernel
theorem dX9_quality_42 : decode cX9_quality 42 = .ok (.ifCond .ne 10, 3) := by decide +kernel
theorem dX9_quality_45 : decode cX9_quality 45 = .ok (.aload_n 0, 1) := by decide +kernel
theorem dX9_quality_46 : decode cX9_quality 46 = .ok (.bipush (-5), 2) := by decide +kernel
theorem dX9_quality_48 : decode cX9_quality 48 = .ok (.invokevirtual 62, 3) := by decide +kernel
theorem dX9_quality_51 : decode cX9_quality 51 = .ok (.ireturn, 1) := by decide +kernel
theorem dX9_quality_52 : decode cX9_quality 52 = .ok (.aload_n 0, 1) := by decide +kernel
theorem dX9_quality_53 : decode cX9_quality 53 = .ok (.getfield 33, 3) := by decide +kernel
theorem dX9_quality_56 : decode cX9_quality 56 = .ok (.aload_n 0, 1) := by decide +kernel
theorem dX9_quality_57 : decode cX9_quality 57 = .ok (.getfield 12, 3) := by decide +kernel
theorem dX9_quality_60 : decode cX9_quality 60 = .ok (.aload_n 0, 1) := by decide +kernel
theorem dX9_quality_61 : decode cX9_quality 61 = .ok (.getfield 19, 3) := by decide +kernel
theorem dX9_quality_64 : decode cX9_quality 64 = .ok (.iload_n 2, 1) := by decide +kernel
theorem dX9_quality_65 : decode cX9_quality 65 = .ok (.iconst (-1), 1) := by decide +kernel
theorem dX9_quality_66 : decode cX9_quality 66 = .ok (.invokevirtual 154, 3) := by decide +kernel
theorem dX9_quality_69 : decode cX9_quality 69 = .ok (.iload_n 3, 1) := by decide +kernel
theorem dX9_quality_70 : decode cX9_quality 70 = .ok (.ifCond .ne 15, 3) := by decide +kernel
theorem dX9_quality_73 : decode cX9_quality 73 = .ok (.aload_n 0, 1) := by decide +kernel
theorem dX9_quality_74 : decode cX9_quality 74 = .ok (.getfield 33, 3) := by decide +kernel
theorem dX9_quality_77 : decode cX9_quality 77 = .ok (.getfield 158, 3) := by decide +kernel
theorem dX9_quality_80 : decode cX9_quality 80 = .ok (.iload_n 1, 1) := by decide +kernel
theorem dX9_quality_81 : decode cX9_quality 81 = .ok (.laload, 1) := by decide +kernel
theorem dX9_quality_82 : decode cX9_quality 82 = .ok (.goto 12, 3) := by decide +kernel
theorem dX9_quality_85 : decode cX9_quality 85 = .ok (.aload_n 0, 1) := by decide +kernel
theorem dX9_quality_86 : decode cX9_quality 86 = .ok (.getfield 33, 3) := by decide +kernel
theorem dX9_quality_89 : decode cX9_quality 89 = .ok (.getfield 162, 3) := by decide +kernel
theorem dX9_quality_92 : decode cX9_quality 92 = .ok (.iload_n 1, 1) := by decide +kernel
theorem dX9_quality_93 : decode cX9_quality 93 = .ok (.laload, 1) := by decide +kernel
theorem dX9_quality_94 : decode cX9_quality 94 = .ok (.l2i, 1) := by decide +kernel
theorem dX9_quality_95 : decode cX9_quality 95 = .ok (.ireturn, 1) := by decide +kernel
theorem dX9_feed_0 : decode cX9_feed 0 = .ok (.iload_n 1, 1) := by decide +kernel
theorem dX9_feed_1 : decode cX9_feed 1 = .ok (.iconst 1, 1) := by decide +kernel
theorem dX9_feed_2 : decode cX9_feed 2 = .ok (.bipush 8, 2) := by decide +kernel
theorem dX9_feed_4 : decode cX9_feed 4 = .ok (.invokestatic 76, 3) := by decide +kernel
theorem dX9_feed_7 : decode cX9_feed 7 = .ok (.istore 4, 2) := by decide +kernel
theorem dX9_feed_9 : decode cX9_feed 9 = .ok (.iload 4, 2) := by decide +kernel
theorem dX9_feed_11 : decode cX9_feed 11 = .ok (.ifCond .eq 10, 3) := by decide +kernel
theorem dX9_feed_14 : decode cX9_feed 14 = .ok (.aload_n 0, 1) := by decide +kernel
theorem dX9_feed_15 : decode cX9_feed 15 = .ok (.iload 4, 2) := by decide +kernel
theorem dX9_feed_17 : decode cX9_feed 17 = .ok (.invokevirtual 62, 3) := by decide +kernel
theorem dX9_feed_20 : decode cX9_feed 20 = .ok (.ireturn, 1) := by decide +kernel
theorem dX9_feed_21 : decode cX9_feed 21 = .ok (.iload_n 1, 1) := by decide +kernel
theorem dX9_feed_22 : decode cX9_feed 22 = .ok (.bipush 80, 2) := by decide +kernel
theorem dX9_feed_24 : decode cX9_feed 24 = .ok (.aload_n 0, 1) := by decide +kernel
theorem dX9_feed_25 : decode cX9_feed 25 = .ok (.getfield 26, 3) := by decide +kernel
theorem dX9_feed_28 : decode cX9_feed 28 = .ok (.getfield 165, 3) := by decide +kernel
theorem dX9_feed_31 : decode cX9_feed 31 = .ok (.isub, 1) := by decide +kernel
theorem dX9_feed_32 : decode cX9_feed 32 = .ok (.if_icmp .le 10, 3) := by decide +kernel
theorem dX9_feed_35 : decode cX9_feed 35 = .ok (.aload_n 0, 1) := by decide +kernel
theorem dX9_feed_36 : decode cX9_feed 36 = .ok (.bipush (-6), 2) := by decide +kernel
theorem dX9_feed_38 : decode cX9_feed 38 = .ok (.invokevirtual 62, 3) := by decide +kernel
theorem dX9_feed_41 : decode cX9_feed 41 = .ok (.ireturn, 1) := by decide +kernel
theorem dX9_feed_42 : decode cX9_feed 42 = .ok (.aload_n 0, 1) := by decide +kernel
theorem dX9_feed_43 : decode cX9_feed 43 = .ok (.getfield 26, 3) := by decide +kernel
theorem dX9_feed_46 : decode cX9_feed 46 = .ok (.iload_n 1, 1) := by decide +kernel
theorem dX9_feed_47 : decode cX9_feed 47 = .ok (.lload_n 2, 1) := by decide +kernel
theorem dX9_feed_48 : decode cX9_feed 48 = .ok (.invokevirtual 168, 3) := by decide +kernel
theorem dX9_feed_51 : decode cX9_feed 51 = .ok (.ireturn, 1) := by decide +kernel
theorem dX9_formula_0 : decode cX9_formula 0 = .ok (.aload_n 0, 1) := by decide +kernel
theorem dX9_formula_1 : decode cX9_formula 1 = .ok (.getfield 26, 3) := by decide +kernel
theorem dX9_formula_4 : decode cX9_formula 4 = .ok (.invokevirtual 172, 3) := by decide +kernel
theorem dX9_formula_7 : decode cX9_formula 7 = .ok (.ireturn, 1) := by decide +kernel
theorem dX9_points_0 : decode cX9_points 0 = .ok (.aload_n 0, 1) := by decide +kernel
theorem dX9_points_1 : decode cX9_points 1 = .ok (.iload_n 1, 1) := by decide +kernel
theorem dX9_points_2 : decode cX9_points 2 = .ok (.iload_n 2, 1) := by decide +kernel
theorem dX9_points_3 : decode cX9_points 3 = .ok (.invokevirtual 93, 3) := by decide +kernel
theorem dX9_points_6 : decode cX9_points 6 = .ok (.ifCond .eq 9, 3) := by decide +kernel
theorem dX9_points_9 : decode cX9_points 9 = .ok (.aload_n 0, 1) := by decide +kernel
theorem dX9_points_10 : decode cX9_points 10 = .ok (.iconst (-1), 1) := by decide +kernel
theorem dX9_points_11 : decode cX9_points 11 = .ok (.invokevirtual 176, 3) := by decide +kernel
theorem dX9_points_14 : decode cX9_points 14 = .ok (.lreturn, 1) := by decide +kernel
theorem dX9_points_15 : decode cX9_points 15 = .ok (.iload_n 3, 1) := by decide +kernel
theorem dX9_points_16 : decode cX9_points 16 = .ok (.invokestatic 151, 3) := by decide +kernel
theorem dX9_points_19 : decode cX9_points 19 = .ok (.ifCond .eq 10, 3) := by decide +kernel
theorem dX9_points_22 : decode cX9_points 22 = .ok (.aload_n 0, 1) := by decide +kernel
theorem dX9_points_23 : decode cX9_points 23 = .ok (.bipush (-2), 2) := by decide +kernel
theorem dX9_points_25 : decode cX9_points 25 = .ok (.invokevirtual 176, 3) := by decide +kernel
theorem dX9_points_28 : decode cX9_points 28 = .ok (.lreturn, 1) := by decide +kernel
theorem dX9_points_29 : decode cX9_points 29 = .ok (.aload_n 0, 1) := by decide +kernel
theorem dX9_points_30 : decode cX9_points 30 = .ok (.getfield 12, 3) := by decide +kernel
theorem dX9_points_33 : decode cX9_points 33 = .ok (.iload_n 1, 1) := by decide +kernel
theorem dX9_points_34 : decode cX9_points 34 = .ok (.iload_n 2, 1) := by decide +kernel
theorem dX9_points_35 : decode cX9_points 35 = .ok (.invokestatic 110, 3) := by decide +kernel
theorem dX9_points_38 : decode cX9_points 38 = .ok (.invokevirtual 138, 3) := by decide +kernel
theorem dX9_points_41 : decode cX9_points 41 = .ok (.ifCond .ne 10, 3) := by decide +kernel
theorem dX9_points_44 : decode cX9_points 44 = .ok (.aload_n 0, 1) := by decide +kernel
theorem dX9_points_45 : decode cX9_points 45 = .ok (.bipush (-5), 2) := by decide +kernel
theorem dX9_points_47 : decode cX9_points 47 = .ok (.invokevirtual 176, 3) := by decide +kernel
theorem dX9_points_50 : decode cX9_points 50 = .ok (.lreturn, 1) := by decide +kernel
theorem dX9_points_51 : decode cX9_points 51 = .ok (.aload_n 0, 1) := by decide +kernel
theorem dX9_points_52 : decode cX9_points 52 = .ok (.getfield 33, 3) := by decide +kernel
theorem dX9_points_55 : decode cX9_points 55 = .ok (.aload_n 0, 1) := by decide +kernel
theorem dX9_points_56 : decode cX9_points 56 = .ok (.getfield 12, 3) := by decide +kernel
theorem dX9_points_59 : decode cX9_points 59 = .ok (.aload_n 0, 1) := by decide +kernel
theorem dX9_points_60 : decode cX9_points 60 = .ok (.getfield 19, 3) := by decide +kernel
theorem dX9_points_63 : decode cX9_points 63 = .ok (.iload_n 2, 1) := by decide +kernel
theorem dX9_points_64 : decode cX9_points 64 = .ok (.iconst (-1), 1) := by decide +kernel
theorem dX9_points_65 : decode cX9_points 65 = .ok (.invokevirtual 154, 3) := by decide +kernel
theorem dX9_points_68 : decode cX9_points 68 = .ok (.aload_n 0, 1) := by decide +kernel
theorem dX9_points_69 : decode cX9_points 69 = .ok (.getfield 33, 3) := by decide +kernel
theorem dX9_points_72 : decode cX9_points 72 = .ok (.aload_n 0, 1) := by decide +kernel
theorem dX9_points_73 : decode cX9_points 73 = .ok (.getfield 26, 3) := by decide +kernel
theorem dX9_points_76 : decode cX9_points 76 = .ok (.iload_n 1, 1) := by decide +kernel
theorem dX9_points_77 : decode cX9_points 77 = .ok (.invokevirtual 180, 3) := by decide +kernel
theorem dX9_points_80 : decode cX9_points 80 = .ok (.aload_n 0, 1) := by decide +kernel
theorem dX9_points_81 : decode cX9_points 81 = .ok (.getfield 33, 3) := by decide +kernel
theorem dX9_points_84 : decode cX9_points 84 = .ok (.getfield 184, 3) := by decide +kernel
theorem dX9_points_87 : decode cX9_points 87 = .ok (.iload_n 1, 1) := by decide +kernel
theorem dX9_points_88 : decode cX9_points 88 = .ok (.baload, 1) := by decide +kernel
theorem dX9_points_89 : decode cX9_points 89 = .ok (.ifCond .eq 10, 3) := by decide +kernel
theorem dX9_points_92 : decode cX9_points 92 = .ok (.aload_n 0, 1) := by decide +kernel
theorem dX9_points_93 : decode cX9_points 93 = .ok (.bipush (-7), 2) := by decide +kernel
theorem dX9_points_95 : decode cX9_points 95 = .ok (.invokevirtual 176, 3) := by decide +kernel
theorem dX9_points_98 : decode cX9_points 98 = .ok (.lreturn, 1) := by decide +kernel
theorem dX9_points_99 : decode cX9_points 99 = .ok (.iload_n 3, 1) := by decide +kernel
theorem dX9_points_100 : decode cX9_points 100 = .ok (.ifCond .ne 15, 3) := by decide +kernel
theorem dX9_points_103 : decode cX9_points 103 = .ok (.aload_n 0, 1) := by decide +kernel
theorem dX9_points_104 : decode cX9_points 104 = .ok (.getfield 33, 3) := by decide +kernel
theorem dX9_points_107 : decode cX9_points 107 = .ok (.getfield 187, 3) := by decide +kernel
theorem dX9_points_110 : decode cX9_points 110 = .ok (.iload_n 1, 1) := by decide +kernel
theorem dX9_points_111 : decode cX9_points 111 = .ok (.laload, 1) := by decide +kernel
theorem dX9_points_112 : decode cX9_points 112 = .ok (.goto 12, 3) := by decide +kernel
theorem dX9_points_115 : decode cX9_points 115 = .ok (.aload_n 0, 1) := by decide +kernel
theorem dX9_points_116 : decode cX9_points 116 = .ok (.getfield 33, 3) := by decide +kernel
theorem dX9_points_119 : decode cX9_points 119 = .ok (.getfield 190, 3) := by decide +kernel
theorem dX9_points_122 : decode cX9_points 122 = .ok (.iload_n 1, 1) := by decide +kernel
theorem dX9_points_123 : decode cX9_points 123 = .ok (.laload, 1) := by decide +kernel
theorem dX9_points_124 : decode cX9_points 124 = .ok (.lreturn, 1) := by decide +kernel
theorem dX9_order_0 : decode cX9_order 0 = .ok (.aload_n 0, 1) := by decide +kernel
theorem dX9_order_1 : decode cX9_order 1 = .ok (.iload_n 1, 1) := by decide +kernel
theorem dX9_order_2 : decode cX9_order 2 = .ok (.invokevirtual 193, 3) := by decide +kernel
theorem dX9_order_5 : decode cX9_order 5 = .ok (.ifCond .eq 9, 3) := by decide +kernel
theorem dX9_order_8 : decode cX9_order 8 = .ok (.aload_n 0, 1) := by decide +kernel
theorem dX9_order_9 : decode cX9_order 9 = .ok (.iconst (-1), 1) := by decide +kernel
theorem dX9_order_10 : decode cX9_order 10 = .ok (.invokevirtual 62, 3) := by decide +kernel
theorem dX9_order_13 : decode cX9_order 13 = .ok (.ireturn, 1) := by decide +kernel
theorem dX9_order_14 : decode cX9_order 14 = .ok (.aload_n 0, 1) := by decide +kernel
theorem dX9_order_15 : decode cX9_order 15 = .ok (.getfield 33, 3) := by decide +kernel
theorem dX9_order_18 : decode cX9_order 18 = .ok (.aload_n 0, 1) := by decide +kernel
theorem dX9_order_19 : decode cX9_order 19 = .ok (.getfield 12, 3) := by decide +kernel
theorem dX9_order_22 : decode cX9_order 22 = .ok (.aload_n 0, 1) := by decide +kernel
theorem dX9_order_23 : decode cX9_order 23 = .ok (.getfield 19, 3) := by decide +kernel
theorem dX9_order_26 : decode cX9_order 26 = .ok (.iload_n 1, 1) := by decide +kernel
theorem dX9_order_27 : decode cX9_order 27 = .ok (.iconst (-1), 1) := by decide +kernel
theorem dX9_order_28 : decode cX9_order 28 = .ok (.invokevirtual 154, 3) := by decide +kernel
theorem dX9_order_31 : decode cX9_order 31 = .ok (.aload_n 0, 1) := by decide +kernel
theorem dX9_order_32 : decode cX9_order 32 = .ok (.getfield 33, 3) := by decide +kernel
theorem dX9_order_35 : decode cX9_order 35 = .ok (.aload_n 0, 1) := by decide +kernel
theorem dX9_order_36 : decode cX9_order 36 = .ok (.getfield 26, 3) := by decide +kernel
theorem dX9_order_39 : decode cX9_order 39 = .ok (.invokevirtual 196, 3) := by decide +kernel
theorem dX9_order_42 : decode cX9_order 42 = .ok (.iload_n 2, 1) := by decide +kernel
theorem dX9_order_43 : decode cX9_order 43 = .ok (.ifCond .lt 14, 3) := by decide +kernel
theorem dX9_order_46 : decode cX9_order 46 = .ok (.iload_n 2, 1) := by decide +kernel
theorem dX9_order_47 : decode cX9_order 47 = .ok (.aload_n 0, 1) := by decide +kernel
theorem dX9_order_48 : decode cX9_order 48 = .ok (.getfield 33, 3) := by decide +kernel
theorem dX9_order_51 : decode cX9_order 51 = .ok (.getfield 200, 3) := by decide +kernel
theorem dX9_order_54 : decode cX9_order 54 = .ok (.if_icmp .lt 8, 3) := by decide +kernel
theorem dX9_order_57 : decode cX9_order 57 = .ok (.bipush (-9), 2) := by decide +kernel
theorem dX9_order_59 : decode cX9_order 59 = .ok (.goto 12, 3) := by decide +kernel
theorem dX9_order_62 : decode cX9_order 62 = .ok (.aload_n 0, 1) := by decide +kernel
theorem dX9_order_63 : decode cX9_order 63 = .ok (.getfield 33, 3) := by decide +kernel
theorem dX9_order_66 : decode cX9_order 66 = .ok (.getfield 203, 3) := by decide +kernel
theorem dX9_order_69 : decode cX9_order 69 = .ok (.iload_n 2, 1) := by decide +kernel
theorem dX9_order_70 : decode cX9_order 70 = .ok (.iaload, 1) := by decide +kernel
theorem dX9_order_71 : decode cX9_order 71 = .ok (.ireturn, 1) := by decide +kernel
theorem dX9_gain_0 : decode cX9_gain 0 = .ok (.aload_n 0, 1) := by decide +kernel
theorem dX9_gain_1 : decode cX9_gain 1 = .ok (.iload_n 1, 1) := by decide +kernel
theorem dX9_gain_2 : decode cX9_gain 2 = .ok (.iload_n 2, 1) := by decide +kernel
theorem dX9_gain_3 : decode cX9_gain 3 = .ok (.invokevirtual 93, 3) := by decide +kernel
theorem dX9_gain_6 : decode cX9_gain 6 = .ok (.ifCond .eq 9, 3) := by decide +kernel
theorem dX9_gain_9 : decode cX9_gain 9 = .ok (.aload_n 0, 1) := by decide +kernel
theorem dX9_gain_10 : decode cX9_gain 10 = .ok (.iconst (-1), 1) := by decide +kernel
theorem dX9_gain_11 : decode cX9_gain 11 = .ok (.invokevirtual 176, 3) := by decide +kernel
theorem dX9_gain_14 : decode cX9_gain 14 = .ok (.lreturn, 1) := by decide +kernel
theorem dX9_gain_15 : decode cX9_gain 15 = .ok (.iload 4, 2) := by decide +kernel
theorem dX9_gain_17 : decode cX9_gain 17 = .ok (.invokestatic 151, 3) := by decide +kernel
theorem dX9_gain_20 : decode cX9_gain 20 = .ok (.ifCond .eq 10, 3) := by decide +kernel
theorem dX9_gain_23 : decode cX9_gain 23 = .ok (.aload_n 0, 1) := by decide +kernel
theorem dX9_gain_24 : decode cX9_gain 24 = .ok (.bipush (-2), 2) := by decide +kernel
theorem dX9_gain_26 : decode cX9_gain 26 = .ok (.invokevirtual 176, 3) := by decide +kernel
theorem dX9_gain_29 : decode cX9_gain 29 = .ok (.lreturn, 1) := by decide +kernel
theorem dX9_gain_30 : decode cX9_gain 30 = .ok (.aload_n 0, 1) := by decide +kernel
theorem dX9_gain_31 : decode cX9_gain 31 = .ok (.getfield 12, 3) := by decide +kernel
theorem dX9_gain_34 : decode cX9_gain 34 = .ok (.iload_n 1, 1) := by decide +kernel
theorem dX9_gain_35 : decode cX9_gain 35 = .ok (.iload_n 2, 1) := by decide +kernel
theorem dX9_gain_36 : decode cX9_gain 36 = .ok (.invokestatic 110, 3) := by decide +kernel
theorem dX9_gain_39 : decode cX9_gain 39 = .ok (.invokevirtual 138, 3) := by decide +kernel
theorem dX9_gain_42 : decode cX9_gain 42 = .ok (.ifCond .ne 10, 3) := by decide +kernel
theorem dX9_gain_45 : decode cX9_gain 45 = .ok (.aload_n 0, 1) := by decide +kernel
theorem dX9_gain_46 : decode cX9_gain 46 = .ok (.bipush (-5), 2) := by decide +kernel
theorem dX9_gain_48 : decode cX9_gain 48 = .ok (.invokevirtual 176, 3) := by decide +kernel
theorem dX9_gain_51 : decode cX9_gain 51 = .ok (.lreturn, 1) := by decide +kernel
theorem dX9_gain_52 : decode cX9_gain 52 = .ok (.iload_n 3, 1) := by decide +kernel
theorem dX9_gain_53 : decode cX9_gain 53 = .ok (.iconst 1, 1) := by decide +kernel
theorem dX9_gain_54 : decode cX9_gain 54 = .ok (.ldc 106, 2) := by decide +kernel
theorem dX9_gain_56 : decode cX9_gain 56 = .ok (.invokestatic 76, 3) := by decide +kernel
theorem dX9_gain_59 : decode cX9_gain 59 = .ok (.istore 5, 2) := by decide +kernel
theorem dX9_gain_61 : decode cX9_gain 61 = .ok (.iload 5, 2) := by decide +kernel
theorem dX9_gain_63 : decode cX9_gain 63 = .ok (.ifCond .eq 10, 3) := by decide +kernel
theorem dX9_gain_66 : decode cX9_gain 66 = .ok (.aload_n 0, 1) := by decide +kernel
theorem dX9_gain_67 : decode cX9_gain 67 = .ok (.iload 5, 2) := by decide +kernel
theorem dX9_gain_69 : decode cX9_gain 69 = .ok (.invokevirtual 176, 3) := by decide +kernel
theorem dX9_gain_72 : decode cX9_gain 72 = .ok (.lreturn, 1) := by decide +kernel
theorem dX9_gain_73 : decode cX9_gain 73 = .ok (.aload_n 0, 1) := by decide +kernel
theorem dX9_gain_74 : decode cX9_gain 74 = .ok (.getfield 33, 3) := by decide +kernel
theorem dX9_gain_77 : decode cX9_gain 77 = .ok (.aload_n 0, 1) := by decide +kernel
theorem dX9_gain_78 : decode cX9_gain 78 = .ok (.getfield 12, 3) := by decide +kernel
theorem dX9_gain_81 : decode cX9_gain 81 = .ok (.aload_n 0, 1) := by decide +kernel
theorem dX9_gain_82 : decode cX9_gain 82 = .ok (.getfield 19, 3) := by decide +kernel
theorem dX9_gain_85 : decode cX9_gain 85 = .ok (.iload_n 2, 1) := by decide +kernel
theorem dX9_gain_86 : decode cX9_gain 86 = .ok (.iconst (-1), 1) := by decide +kernel
theorem dX9_gain_87 : decode cX9_gain 87 = .ok (.invokevirtual 154, 3) := by decide +kernel
theorem dX9_gain_90 : decode cX9_gain 90 = .ok (.aload_n 0, 1) := by decide +kernel
theorem dX9_gain_91 : decode cX9_gain 91 = .ok (.getfield 33, 3) := by decide +kernel
theorem dX9_gain_94 : decode cX9_gain 94 = .ok (.aload_n 0, 1) := by decide +kernel
theorem dX9_gain_95 : decode cX9_gain 95 = .ok (.getfield 26, 3) := by decide +kernel
theorem dX9_gain_98 : decode cX9_gain 98 = .ok (.iload_n 1, 1) := by decide +kernel
theorem dX9_gain_99 : decode cX9_gain 99 = .ok (.iload_n 3, 1) := by decide +kernel
theorem dX9_gain_100 : decode cX9_gain 100 = .ok (.invokevirtual 206, 3) := by decide +kernel
theorem dX9_gain_103 : decode cX9_gain 103 = .ok (.ifCond .ne 10, 3) := by decide +kernel
theorem dX9_gain_106 : decode cX9_gain 106 = .ok (.aload_n 0, 1) := by decide +kernel
theorem dX9_gain_107 : decode cX9_gain 107 = .ok (.bipush (-7), 2) := by decide +kernel
theorem dX9_gain_109 : decode cX9_gain 109 = .ok (.invokevirtual 176, 3) := by decide +kernel
theorem dX9_gain_112 : decode cX9_gain 112 = .ok (.lreturn, 1) := by decide +kernel
theorem dX9_gain_113 : decode cX9_gain 113 = .ok (.iload 4, 2) := by decide +kernel
theorem dX9_gain_115 : decode cX9_gain 115 = .ok (.ifCond .ne 16, 3) := by decide +kernel
theorem dX9_gain_118 : decode cX9_gain 118 = .ok (.aload_n 0, 1) := by decide +kernel
theorem dX9_gain_119 : decode cX9_gain 119 = .ok (.getfield 33, 3) := by decide +kernel
theorem dX9_gain_122 : decode cX9_gain 122 = .ok (.getfield 210, 3) := by decide +kernel
theorem dX9_gain_125 : decode cX9_gain 125 = .ok (.getfield 214, 3) := by decide +kernel
theorem dX9_gain_128 : decode cX9_gain 128 = .ok (.goto 13, 3) := by decide +kernel
theorem dX9_gain_131 : decode cX9_gain 131 = .ok (.aload_n 0, 1) := by decide +kernel
theorem dX9_gain_132 : decode cX9_gain 132 = .ok (.getfield 33, 3) := by decide +kernel
theorem dX9_gain_135 : decode cX9_gain 135 = .ok (.getfield 210, 3) := by decide +kernel
theorem dX9_gain_138 : decode cX9_gain 138 = .ok (.getfield 220, 3) := by decide +kernel
theorem dX9_gain_141 : decode cX9_gain 141 = .ok (.lreturn, 1) := by decide +kernel
theorem dX9_turned_0 : decode cX9_turned 0 = .ok (.aload_n 0, 1) := by decide +kernel
theorem dX9_turned_1 : decode cX9_turned 1 = .ok (.iload_n 1, 1) := by decide +kernel
theorem dX9_turned_2 : decode cX9_turned 2 = .ok (.iload_n 2, 1) := by decide +kernel
theorem dX9_turned_3 : decode cX9_turned 3 = .ok (.iload_n 3, 1) := by decide +kernel
theorem dX9_turned_4 : decode cX9_turned 4 = .ok (.invokevirtual 223, 3) := by decide +kernel
theorem dX9_turned_7 : decode cX9_turned 7 = .ok (.ifCond .eq 9, 3) := by decide +kernel
theorem dX9_turned_10 : decode cX9_turned 10 = .ok (.aload_n 0, 1) := by decide +kernel
theorem dX9_turned_11 : decode cX9_turned 11 = .ok (.iconst (-1), 1) := by decide +kernel
theorem dX9_turned_12 : decode cX9_turned 12 = .ok (.invokevirtual 62, 3) := by decide +kernel
theorem dX9_turned_15 : decode cX9_turned 15 = .ok (.ireturn, 1) := by decide +kernel
theorem dX9_turned_16 : decode cX9_turned 16 = .ok (.aload_n 0, 1) := by decide +kernel
theorem dX9_turned_17 : decode cX9_turned 17 = .ok (.getfield 12, 3) := by decide +kernel
theorem dX9_turned_20 : decode cX9_turned 20 = .ok (.iload_n 2, 1) := by decide +kernel
theorem dX9_turned_21 : decode cX9_turned 21 = .ok (.iload_n 1, 1) := by decide +kernel
theorem dX9_turned_22 : decode cX9_turned 22 = .ok (.invokestatic 110, 3) := by decide +kernel
theorem dX9_turned_25 : decode cX9_turned 25 = .ok (.invokevirtual 138, 3) := by decide +kernel
theorem dX9_turned_28 : decode cX9_turned 28 = .ok (.ifCond .eq 18, 3) := by decide +kernel
theorem dX9_turned_31 : decode cX9_turned 31 = .ok (.aload_n 0, 1) := by decide +kernel
theorem dX9_turned_32 : decode cX9_turned 32 = .ok (.getfield 12, 3) := by decide +kernel
theorem dX9_turned_35 : decode cX9_turned 35 = .ok (.iload_n 3, 1) := by decide +kernel
theorem dX9_turned_36 : decode cX9_turned 36 = .ok (.iload_n 1, 1) := by decide +kernel
theorem dX9_turned_37 : decode cX9_turned 37 = .ok (.invokestatic 110, 3) := by decide +kernel
theorem dX9_turned_40 : decode cX9_turned 40 = .ok (.invokevirtual 138, 3) := by decide +kernel
theorem dX9_turned_43 : decode cX9_turned 43 = .ok (.ifCond .ne 10, 3) := by decide +kernel
theorem dX9_turned_46 : decode cX9_turned 46 = .ok (.aload_n 0, 1) := by decide +kernel
theorem dX9_turned_47 : decode cX9_turned 47 = .ok (.bipush (-5), 2) := by decide +kernel
theorem dX9_turned_49 : decode cX9_turned 49 = .ok (.invokevirtual 62, 3) := by decide +kernel
theorem dX9_turned_52 : decode cX9_turned 52 = .ok (.ireturn, 1) := by decide +kernel
theorem dX9_turned_53 : decode cX9_turned 53 = .ok (.aload_n 0, 1) := by decide +kernel
theorem dX9_turned_54 : decode cX9_turned 54 = .ok (.iload_n 1, 1) := by decide +kernel
theorem dX9_turned_55 : decode cX9_turned 55 = .ok (.iload_n 2, 1) := by decide +kernel
theorem dX9_turned_56 : decode cX9_turned 56 = .ok (.iload_n 3, 1) := by decide +kernel
theorem dX9_turned_57 : decode cX9_turned 57 = .ok (.iconst (-1), 1) := by decide +kernel
theorem dX9_turned_58 : decode cX9_turned 58 = .ok (.invokevirtual 227, 3) := by decide +kernel
theorem dX9_turned_61 : decode cX9_turned 61 = .ok (.aload_n 0, 1) := by decide +kernel
theorem dX9_turned_62 : decode cX9_turned 62 = .ok (.getfield 33, 3) := by decide +kernel
theorem dX9_turned_65 : decode cX9_turned 65 = .ok (.getfield 184, 3) := by decide +kernel
theorem dX9_turned_68 : decode cX9_turned 68 = .ok (.iload_n 2, 1) := by decide +kernel
theorem dX9_turned_69 : decode cX9_turned 69 = .ok (.baload, 1) := by decide +kernel
theorem dX9_turned_70 : decode cX9_turned 70 = .ok (.ifCond .ne 15, 3) := by decide +kernel
theorem dX9_turned_73 : decode cX9_turned 73 = .ok (.aload_n 0, 1) := by decide +kernel
theorem dX9_turned_74 : decode cX9_turned 74 = .ok (.getfield 33, 3) := by decide +kernel
theorem dX9_turned_77 : decode cX9_turned 77 = .ok (.getfield 184, 3) := by decide +kernel
theorem dX9_turned_80 : decode cX9_turned 80 = .ok (.iload_n 3, 1) := by decide +kernel
theorem dX9_turned_81 : decode cX9_turned 81 = .ok (.baload, 1) := by decide +kernel
theorem dX9_turned_82 : decode cX9_turned 82 = .ok (.ifCond .eq 10, 3) := by decide +kernel
theorem dX9_turned_85 : decode cX9_turned 85 = .ok (.aload_n 0, 1) := by decide +kernel
theorem dX9_turned_86 : decode cX9_turned 86 = .ok (.bipush (-7), 2) := by decide +kernel
theorem dX9_turned_88 : decode cX9_turned 88 = .ok (.invokevirtual 62, 3) := by decide +kernel
theorem dX9_turned_91 : decode cX9_turned 91 = .ok (.ireturn, 1) := by decide +kernel
theorem dX9_turned_92 : decode cX9_turned 92 = .ok (.aload_n 0, 1) := by decide +kernel
theorem dX9_turned_93 : decode cX9_turned 93 = .ok (.getfield 33, 3) := by decide +kernel
theorem dX9_turned_96 : decode cX9_turned 96 = .ok (.iload_n 2, 1) := by decide +kernel
theorem dX9_turned_97 : decode cX9_turned 97 = .ok (.iload_n 3, 1) := by decide +kernel
theorem dX9_turned_98 : decode cX9_turned 98 = .ok (.invokevirtual 230, 3) := by decide +kernel
theorem dX9_turned_101 : decode cX9_turned 101 = .ok (.ifCond .ne 10, 3) := by decide +kernel
theorem dX9_turned_104 : decode cX9_turned 104 = .ok (.aload_n 0, 1) := by decide +kernel
theorem dX9_turned_105 : decode cX9_turned 105 = .ok (.bipush (-3), 2) := by decide +kernel
theorem dX9_turned_107 : decode cX9_turned 107 = .ok (.invokevirtual 62, 3) := by decide +kernel
theorem dX9_turned_110 : decode cX9_turned 110 = .ok (.ireturn, 1) := by decide +kernel
theorem dX9_turned_111 : decode cX9_turned 111 = .ok (.iconst 0, 1) := by decide +kernel
theorem dX9_turned_112 : decode cX9_turned 112 = .ok (.istore 4, 2) := by decide +kernel
theorem dX9_turned_114 : decode cX9_turned 114 = .ok (.iload 4, 2) := by decide +kernel
theorem dX9_turned_116 : decode cX9_turned 116 = .ok (.bipush 8, 2) := by decide +kernel
theorem dX9_turned_118 : decode cX9_turned 118 = .ok (.if_icmp .ge 85, 3) := by decide +kernel
theorem dX9_turned_121 : decode cX9_turned 121 = .ok (.iload 4, 2) := by decide +kernel
theorem dX9_turned_123 : decode cX9_turned 123 = .ok (.iload_n 2, 1) := by decide +kernel
theorem dX9_turned_124 : decode cX9_turned 124 = .ok (.if_icmp .eq 73, 3) := by decide +kernel
theorem dX9_turned_127 : decode cX9_turned 127 = .ok (.iload 4, 2) := by decide +kernel
theorem dX9_turned_129 : decode cX9_turned 129 = .ok (.iload_n 3, 1) := by decide +kernel
theorem dX9_turned_130 : decode cX9_turned 130 = .ok (.if_icmp .eq 67, 3) := by decide +kernel
theorem dX9_turned_133 : decode cX9_turned 133 = .ok (.aload_n 0, 1) := by decide +kernel
theorem dX9_turned_134 : decode cX9_turned 134 = .ok (.getfield 12, 3) := by decide +kernel
theorem dX9_turned_137 : decode cX9_turned 137 = .ok (.iload 4, 2) := by decide +kernel
theorem dX9_turned_139 : decode cX9_turned 139 = .ok (.iload_n 1, 1) := by decide +kernel
theorem dX9_turned_140 : decode cX9_turned 140 = .ok (.invokestatic 110, 3) := by decide +kernel
theorem dX9_turned_143 : decode cX9_turned 143 = .ok (.invokevirtual 138, 3) := by decide +kernel
theorem dX9_turned_146 : decode cX9_turned 146 = .ok (.ifCond .eq 51, 3) := by decide +kernel
theorem dX9_turned_149 : decode cX9_turned 149 = .ok (.aload_n 0, 1) := by decide +kernel
theorem dX9_turned_150 : decode cX9_turned 150 = .ok (.iload_n 1, 1) := by decide +kernel
theorem dX9_turned_151 : decode cX9_turned 151 = .ok (.iload_n 2, 1) := by decide +kernel
theorem dX9_turned_152 : decode cX9_turned 152 = .ok (.iload_n 3, 1) := by decide +kernel
theorem dX9_turned_153 : decode cX9_turned 153 = .ok (.iload 4, 2) := by decide +kernel
theorem dX9_turned_155 : decode cX9_turned 155 = .ok (.invokevirtual 227, 3) := by decide +kernel
theorem dX9_turned_158 : decode cX9_turned 158 = .ok (.aload_n 0, 1) := by decide +kernel
theorem dX9_turned_159 : decode cX9_turned 159 = .ok (.getfield 33, 3) := by decide +kernel
theorem dX9_turned_162 : decode cX9_turned 162 = .ok (.getfield 184, 3) := by decide +kernel
theorem dX9_turned_165 : decode cX9_turned 165 = .ok (.iload_n 2, 1) := by decide +kernel
theorem dX9_turned_166 : decode cX9_turned 166 = .ok (.baload, 1) := by decide +kernel
theorem dX9_turned_167 : decode cX9_turned 167 = .ok (.ifCond .ne 30, 3) := by decide +kernel
theorem dX9_turned_170 : decode cX9_turned 170 = .ok (.aload_n 0, 1) := by decide +kernel
theorem dX9_turned_171 : decode cX9_turned 171 = .ok (.getfield 33, 3) := by decide +kernel
theorem dX9_turned_174 : decode cX9_turned 174 = .ok (.getfield 184, 3) := by decide +kernel
theorem dX9_turned_177 : decode cX9_turned 177 = .ok (.iload_n 3, 1) := by decide +kernel
theorem dX9_turned_178 : decode cX9_turned 178 = .ok (.baload, 1) := by decide +kernel
theorem dX9_turned_179 : decode cX9_turned 179 = .ok (.ifCond .ne 18, 3) := by decide +kernel
theorem dX9_turned_182 : decode cX9_turned 182 = .ok (.aload_n 0, 1) := by decide +kernel
theorem dX9_turned_183 : decode cX9_turned 183 = .ok (.getfield 33, 3) := by decide +kernel
theorem dX9_turned_186 : decode cX9_turned 186 = .ok (.iload_n 3, 1) := by decide +kernel
theorem dX9_turned_187 : decode cX9_turned 187 = .ok (.iload_n 2, 1) := by decide +kernel
theorem dX9_turned_188 : decode cX9_turned 188 = .ok (.invokevirtual 230, 3) := by decide +kernel
theorem dX9_turned_191 : decode cX9_turned 191 = .ok (.ifCond .eq 6, 3) := by decide +kernel
theorem dX9_turned_194 : decode cX9_turned 194 = .ok (.iload 4, 2) := by decide +kernel
theorem dX9_turned_196 : decode cX9_turned 196 = .ok (.ireturn, 1) := by decide +kernel
theorem dX9_turned_197 : decode cX9_turned 197 = .ok (.iinc 4 1, 3) := by decide +kernel
theorem dX9_turned_200 : decode cX9_turned 200 = .ok (.goto (-86), 3) := by decide +kernel
theorem dX9_turned_203 : decode cX9_turned 203 = .ok (.bipush (-9), 2) := by decide +kernel
theorem dX9_turned_205 : decode cX9_turned 205 = .ok (.ireturn, 1) := by decide +kernel
theorem dX9_low_0 : decode cX9_low 0 = .ok (.aload_n 0, 1) := by decide +kernel
theorem dX9_low_1 : decode cX9_low 1 = .ok (.iload_n 1, 1) := by decide +kernel
theorem dX9_low_2 : decode cX9_low 2 = .ok (.iload_n 2, 1) := by decide +kernel
theorem dX9_low_3 : decode cX9_low 3 = .ok (.invokevirtual 93, 3) := by decide +kernel
theorem dX9_low_6 : decode cX9_low 6 = .ok (.ifCond .eq 9, 3) := by decide +kernel
theorem dX9_low_9 : decode cX9_low 9 = .ok (.aload_n 0, 1) := by decide +kernel
theorem dX9_low_10 : decode cX9_low 10 = .ok (.iconst (-1), 1) := by decide +kernel
theorem dX9_low_11 : decode cX9_low 11 = .ok (.invokevirtual 62, 3) := by decide +kernel
theorem dX9_low_14 : decode cX9_low 14 = .ok (.ireturn, 1) := by decide +kernel
theorem dX9_low_15 : decode cX9_low 15 = .ok (.aload_n 0, 1) := by decide +kernel
theorem dX9_low_16 : decode cX9_low 16 = .ok (.getfield 12, 3) := by decide +kernel
theorem dX9_low_19 : decode cX9_low 19 = .ok (.iload_n 1, 1) := by decide +kernel
theorem dX9_low_20 : decode cX9_low 20 = .ok (.iload_n 2, 1) := by decide +kernel
theorem dX9_low_21 : decode cX9_low 21 = .ok (.invokestatic 110, 3) := by decide +kernel
theorem dX9_low_24 : decode cX9_low 24 = .ok (.invokevirtual 138, 3) := by decide +kernel
theorem dX9_low_27 : decode cX9_low 27 = .ok (.ifCond .ne 10, 3) := by decide +kernel
theorem dX9_low_30 : decode cX9_low 30 = .ok (.aload_n 0, 1) := by decide +kernel
theorem dX9_low_31 : decode cX9_low 31 = .ok (.bipush (-5), 2) := by decide +kernel
theorem dX9_low_33 : decode cX9_low 33 = .ok (.invokevirtual 62, 3) := by decide +kernel
theorem dX9_low_36 : decode cX9_low 36 = .ok (.ireturn, 1) := by decide +kernel
theorem dX9_low_37 : decode cX9_low 37 = .ok (.aload_n 0, 1) := by decide +kernel
theorem dX9_low_38 : decode cX9_low 38 = .ok (.getfield 12, 3) := by decide +kernel
theorem dX9_low_41 : decode cX9_low 41 = .ok (.iload_n 1, 1) := by decide +kernel
theorem dX9_low_42 : decode cX9_low 42 = .ok (.iload_n 2, 1) := by decide +kernel
theorem dX9_low_43 : decode cX9_low 43 = .ok (.invokevirtual 233, 3) := by decide +kernel
theorem dX9_low_46 : decode cX9_low 46 = .ok (.ifCond .eq 7, 3) := by decide +kernel
theorem dX9_low_49 : decode cX9_low 49 = .ok (.iconst 1, 1) := by decide +kernel
theorem dX9_low_50 : decode cX9_low 50 = .ok (.goto 4, 3) := by decide +kernel
theorem dX9_low_53 : decode cX9_low 53 = .ok (.iconst 0, 1) := by decide +kernel
theorem dX9_low_54 : decode cX9_low 54 = .ok (.ireturn, 1) := by decide +kernel
theorem dX9_ask_0 : decode cX9_ask 0 = .ok (.aload_n 0, 1) := by decide +kernel
theorem dX9_ask_1 : decode cX9_ask 1 = .ok (.iload_n 1, 1) := by decide +kernel
theorem dX9_ask_2 : decode cX9_ask 2 = .ok (.iload_n 2, 1) := by decide +kernel
theorem dX9_ask_3 : decode cX9_ask 3 = .ok (.invokevirtual 93, 3) := by decide +kernel
theorem dX9_ask_6 : decode cX9_ask 6 = .ok (.ifCond .eq 9, 3) := by decide +kernel
theorem dX9_ask_9 : decode cX9_ask 9 = .ok (.aload_n 0, 1) := by decide +kernel
theorem dX9_ask_10 : decode cX9_ask 10 = .ok (.iconst (-1), 1) := by decide +kernel
theorem dX9_ask_11 : decode cX9_ask 11 = .ok (.invokevirtual 62, 3) := by decide +kernel
theorem dX9_ask_14 : decode cX9_ask 14 = .ok (.ireturn, 1) := by decide +kernel
theorem dX9_ask_15 : decode cX9_ask 15 = .ok (.iload_n 1, 1) := by decide +kernel
theorem dX9_ask_16 : decode cX9_ask 16 = .ok (.iload_n 2, 1) := by decide +kernel
theorem dX9_ask_17 : decode cX9_ask 17 = .ok (.invokestatic 110, 3) := by decide +kernel
theorem dX9_ask_20 : decode cX9_ask 20 = .ok (.istore 4, 2) := by decide +kernel
theorem dX9_ask_22 : decode cX9_ask 22 = .ok (.aload_n 0, 1) := by decide +kernel
theorem dX9_ask_23 : decode cX9_ask 23 = .ok (.getfield 12, 3) := by decide +kernel
theorem dX9_ask_26 : decode cX9_ask 26 = .ok (.iload 4, 2) := by decide +kernel
theorem dX9_ask_28 : decode cX9_ask 28 = .ok (.invokevirtual 138, 3) := by decide +kernel
theorem dX9_ask_31 : decode cX9_ask 31 = .ok (.ifCond .ne 10, 3) := by decide +kernel
theorem dX9_ask_34 : decode cX9_ask 34 = .ok (.aload_n 0, 1) := by decide +kernel
theorem dX9_ask_35 : decode cX9_ask 35 = .ok (.bipush (-5), 2) := by decide +kernel
theorem dX9_ask_37 : decode cX9_ask 37 = .ok (.invokevirtual 62, 3) := by decide +kernel
theorem dX9_ask_40 : decode cX9_ask 40 = .ok (.ireturn, 1) := by decide +kernel
theorem dX9_ask_41 : decode cX9_ask 41 = .ok (.aload_n 0, 1) := by decide +kernel
theorem dX9_ask_42 : decode cX9_ask 42 = .ok (.getfield 12, 3) := by decide +kernel
theorem dX9_ask_45 : decode cX9_ask 45 = .ok (.getfield 236, 3) := by decide +kernel
theorem dX9_ask_48 : decode cX9_ask 48 = .ok (.iload 4, 2) := by decide +kernel
theorem dX9_ask_50 : decode cX9_ask 50 = .ok (.iaload, 1) := by decide +kernel
theorem dX9_ask_51 : decode cX9_ask 51 = .ok (.ifCond .ne 15, 3) := by decide +kernel
theorem dX9_ask_54 : decode cX9_ask 54 = .ok (.aload_n 0, 1) := by decide +kernel
theorem dX9_ask_55 : decode cX9_ask 55 = .ok (.getfield 12, 3) := by decide +kernel
theorem dX9_ask_58 : decode cX9_ask 58 = .ok (.iload_n 1, 1) := by decide +kernel
theorem dX9_ask_59 : decode cX9_ask 59 = .ok (.iload_n 2, 1) := by decide +kernel
theorem dX9_ask_60 : decode cX9_ask 60 = .ok (.invokevirtual 233, 3) := by decide +kernel
theorem dX9_ask_63 : decode cX9_ask 63 = .ok (.ifCond .ne 10, 3) := by decide +kernel
theorem dX9_ask_66 : decode cX9_ask 66 = .ok (.aload_n 0, 1) := by decide +kernel
theorem dX9_ask_67 : decode cX9_ask 67 = .ok (.bipush (-3), 2) := by decide +kernel
theorem dX9_ask_69 : decode cX9_ask 69 = .ok (.invokevirtual 62, 3) := by decide +kernel
theorem dX9_ask_72 : decode cX9_ask 72 = .ok (.ireturn, 1) := by decide +kernel
theorem dX9_ask_73 : decode cX9_ask 73 = .ok (.iload_n 3, 1) := by decide +kernel
theorem dX9_ask_74 : decode cX9_ask 74 = .ok (.aload_n 0, 1) := by decide +kernel
theorem dX9_ask_75 : decode cX9_ask 75 = .ok (.getfield 12, 3) := by decide +kernel
theorem dX9_ask_78 : decode cX9_ask 78 = .ok (.getfield 67, 3) := by decide +kernel
theorem dX9_ask_81 : decode cX9_ask 81 = .ok (.iconst 1, 1) := by decide +kernel
theorem dX9_ask_82 : decode cX9_ask 82 = .ok (.iadd, 1) := by decide +kernel
theorem dX9_ask_83 : decode cX9_ask 83 = .ok (.ldc 66, 2) := by decide +kernel
theorem dX9_ask_85 : decode cX9_ask 85 = .ok (.invokestatic 76, 3) := by decide +kernel
theorem dX9_ask_88 : decode cX9_ask 88 = .ok (.istore 5, 2) := by decide +kernel
theorem dX9_ask_90 : decode cX9_ask 90 = .ok (.iload 5, 2) := by decide +kernel
theorem dX9_ask_92 : decode cX9_ask 92 = .ok (.ifCond .eq 10, 3) := by decide +kernel
theorem dX9_ask_95 : decode cX9_ask 95 = .ok (.aload_n 0, 1) := by decide +kernel
theorem dX9_ask_96 : decode cX9_ask 96 = .ok (.iload 5, 2) := by decide +kernel
theorem dX9_ask_98 : decode cX9_ask 98 = .ok (.invokevirtual 62, 3) := by decide +kernel
theorem dX9_ask_101 : decode cX9_ask 101 = .ok (.ireturn, 1) := by decide +kernel
theorem dX9_ask_102 : decode cX9_ask 102 = .ok (.aload_n 0, 1) := by decide +kernel
theorem dX9_ask_103 : decode cX9_ask 103 = .ok (.getfield 12, 3) := by decide +kernel
theorem dX9_ask_106 : decode cX9_ask 106 = .ok (.getfield 236, 3) := by decide +kernel
theorem dX9_ask_109 : decode cX9_ask 109 = .ok (.iload 4, 2) := by decide +kernel
theorem dX9_ask_111 : decode cX9_ask 111 = .ok (.iload_n 3, 1) := by decide +kernel
theorem dX9_ask_112 : decode cX9_ask 112 = .ok (.iastore, 1) := by decide +kernel
theorem dX9_ask_113 : decode cX9_ask 113 = .ok (.iconst 1, 1) := by decide +kernel
theorem dX9_ask_114 : decode cX9_ask 114 = .ok (.ireturn, 1) := by decide +kernel
theorem dX9_answer_0 : decode cX9_answer 0 = .ok (.aload_n 0, 1) := by decide +kernel
theorem dX9_answer_1 : decode cX9_answer 1 = .ok (.iload_n 1, 1) := by decide +kernel
theorem dX9_answer_2 : decode cX9_answer 2 = .ok (.iload_n 2, 1) := by decide +kernel
theorem dX9_answer_3 : decode cX9_answer 3 = .ok (.invokevirtual 93, 3) := by decide +kernel
theorem dX9_answer_6 : decode cX9_answer 6 = .ok (.ifCond .eq 9, 3) := by decide +kernel
theorem dX9_answer_9 : decode cX9_answer 9 = .ok (.aload_n 0, 1) := by decide +kernel
theorem dX9_answer_10 : decode cX9_answer 10 = .ok (.iconst (-1), 1) := by decide +kernel
theorem dX9_answer_11 : decode cX9_answer 11 = .ok (.invokevirtual 62, 3) := by decide +kernel
theorem dX9_answer_14 : decode cX9_answer 14 = .ok (.ireturn, 1) := by decide +kernel
theorem dX9_answer_15 : decode cX9_answer 15 = .ok (.iload_n 1, 1) := by decide +kernel
theorem dX9_answer_16 : decode cX9_answer 16 = .ok (.iload_n 2, 1) := by decide +kernel
theorem dX9_answer_17 : decode cX9_answer 17 = .ok (.invokestatic 110, 3) := by decide +kernel
theorem dX9_answer_20 : decode cX9_answer 20 = .ok (.istore_n 3, 1) := by decide +kernel
theorem dX9_answer_21 : decode cX9_answer 21 = .ok (.aload_n 0, 1) := by decide +kernel
theorem dX9_answer_22 : decode cX9_answer 22 = .ok (.getfield 12, 3) := by decide +kernel
theorem dX9_answer_25 : decode cX9_answer 25 = .ok (.iload_n 3, 1) := by decide +kernel
theorem dX9_answer_26 : decode cX9_answer 26 = .ok (.invokevirtual 138, 3) := by decide +kernel
theorem dX9_answer_29 : decode cX9_answer 29 = .ok (.ifCond .ne 10, 3) := by decide +kernel
theorem dX9_answer_32 : decode cX9_answer 32 = .ok (.aload_n 0, 1) := by decide +kernel
theorem dX9_answer_33 : decode cX9_answer 33 = .ok (.bipush (-5), 2) := by decide +kernel
theorem dX9_answer_35 : decode cX9_answer 35 = .ok (.invokevirtual 62, 3) := by decide +kernel
theorem dX9_answer_38 : decode cX9_answer 38 = .ok (.ireturn, 1) := by decide +kernel
theorem dX9_answer_39 : decode cX9_answer 39 = .ok (.aload_n 0, 1) := by decide +kernel
theorem dX9_answer_40 : decode cX9_answer 40 = .ok (.getfield 12, 3) := by decide +kernel
theorem dX9_answer_43 : decode cX9_answer 43 = .ok (.getfield 236, 3) := by decide +kernel
theorem dX9_answer_46 : decode cX9_answer 46 = .ok (.iload_n 3, 1) := by decide +kernel
theorem dX9_answer_47 : decode cX9_answer 47 = .ok (.iaload, 1) := by decide +kernel
theorem dX9_answer_48 : decode cX9_answer 48 = .ok (.ifCond .ne 10, 3) := by decide +kernel
theorem dX9_answer_51 : decode cX9_answer 51 = .ok (.aload_n 0, 1) := by decide +kernel
theorem dX9_answer_52 : decode cX9_answer 52 = .ok (.bipush (-3), 2) := by decide +kernel
theorem dX9_answer_54 : decode cX9_answer 54 = .ok (.invokevirtual 62, 3) := by decide +kernel
theorem dX9_answer_57 : decode cX9_answer 57 = .ok (.ireturn, 1) := by decide +kernel
theorem dX9_answer_58 : decode cX9_answer 58 = .ok (.aload_n 0, 1) := by decide +kernel
theorem dX9_answer_59 : decode cX9_answer 59 = .ok (.getfield 12, 3) := by decide +kernel
theorem dX9_answer_62 : decode cX9_answer 62 = .ok (.getfield 236, 3) := by decide +kernel
theorem dX9_answer_65 : decode cX9_answer 65 = .ok (.iload_n 3, 1) := by decide +kernel
theorem dX9_answer_66 : decode cX9_answer 66 = .ok (.iconst 0, 1) := by decide +kernel
theorem dX9_answer_67 : decode cX9_answer 67 = .ok (.iastore, 1) := by decide +kernel
theorem dX9_answer_68 : decode cX9_answer 68 = .ok (.iconst 1, 1) := by decide +kernel
theorem dX9_answer_69 : decode cX9_answer 69 = .ok (.ireturn, 1) := by decide +kernel
theorem dX9_out_0 : decode cX9_out 0 = .ok (.aload_n 0, 1) := by decide +kernel
theorem dX9_out_1 : decode cX9_out 1 = .ok (.iload_n 1, 1) := by decide +kernel
theorem dX9_out_2 : decode cX9_out 2 = .ok (.iload_n 2, 1) := by decide +kernel
theorem dX9_out_3 : decode cX9_out 3 = .ok (.invokevirtual 93, 3) := by decide +kernel
theorem dX9_out_6 : decode cX9_out 6 = .ok (.ifCond .eq 9, 3) := by decide +kernel
theorem dX9_out_9 : decode cX9_out 9 = .ok (.aload_n 0, 1) := by decide +kernel
theorem dX9_out_10 : decode cX9_out 10 = .ok (.iconst (-1), 1) := by decide +kernel
theorem dX9_out_11 : decode cX9_out 11 = .ok (.invokevirtual 62, 3) := by decide +kernel
theorem dX9_out_14 : decode cX9_out 14 = .ok (.ireturn, 1) := by decide +kernel
theorem dX9_out_15 : decode cX9_out 15 = .ok (.iload_n 1, 1) := by decide +kernel
theorem dX9_out_16 : decode cX9_out 16 = .ok (.iload_n 2, 1) := by decide +kernel
theorem dX9_out_17 : decode cX9_out 17 = .ok (.invokestatic 110, 3) := by decide +kernel
theorem dX9_out_20 : decode cX9_out 20 = .ok (.istore 4, 2) := by decide +kernel
theorem dX9_out_22 : decode cX9_out 22 = .ok (.aload_n 0, 1) := by decide +kernel
theorem dX9_out_23 : decode cX9_out 23 = .ok (.getfield 12, 3) := by decide +kernel
theorem dX9_out_26 : decode cX9_out 26 = .ok (.iload 4, 2) := by decide +kernel
theorem dX9_out_28 : decode cX9_out 28 = .ok (.invokevirtual 239, 3) := by decide +kernel
theorem dX9_out_31 : decode cX9_out 31 = .ok (.istore 5, 2) := by decide +kernel
theorem dX9_out_33 : decode cX9_out 33 = .ok (.iload_n 3, 1) := by decide +kernel
theorem dX9_out_34 : decode cX9_out 34 = .ok (.ifCond .eq 17, 3) := by decide +kernel
theorem dX9_out_37 : decode cX9_out 37 = .ok (.aload_n 0, 1) := by decide +kernel
theorem dX9_out_38 : decode cX9_out 38 = .ok (.getfield 12, 3) := by decide +kernel
theorem dX9_out_41 : decode cX9_out 41 = .ok (.getfield 242, 3) := by decide +kernel
theorem dX9_out_44 : decode cX9_out 44 = .ok (.iload 4, 2) := by decide +kernel
theorem dX9_out_46 : decode cX9_out 46 = .ok (.iconst 1, 1) := by decide +kernel
theorem dX9_out_47 : decode cX9_out 47 = .ok (.bastore, 1) := by decide +kernel
theorem dX9_out_48 : decode cX9_out 48 = .ok (.goto 12, 3) := by decide +kernel
theorem dX9_out_51 : decode cX9_out 51 = .ok (.aload_n 0, 1) := by decide +kernel
theorem dX9_out_52 : decode cX9_out 52 = .ok (.getfield 12, 3) := by decide +kernel
theorem dX9_out_55 : decode cX9_out 55 = .ok (.iload 4, 2) := by decide +kernel
theorem dX9_out_57 : decode cX9_out 57 = .ok (.invokevirtual 245, 3) := by decide +kernel
theorem dX9_out_60 : decode cX9_out 60 = .ok (.iload 5, 2) := by decide +kernel
theorem dX9_out_62 : decode cX9_out 62 = .ok (.iload_n 3, 1) := by decide +kernel
theorem dX9_out_63 : decode cX9_out 63 = .ok (.if_icmp .ne 7, 3) := by decide +kernel
theorem dX9_out_66 : decode cX9_out 66 = .ok (.iconst 0, 1) := by decide +kernel
theorem dX9_out_67 : decode cX9_out 67 = .ok (.goto 4, 3) := by decide +kernel
theorem dX9_out_70 : decode cX9_out 70 = .ok (.iconst 1, 1) := by decide +kernel
theorem dX9_out_71 : decode cX9_out 71 = .ok (.ireturn, 1) := by decide +kernel
theorem dX9_most_0 : decode cX9_most 0 = .ok (.iload_n 1, 1) := by decide +kernel
theorem dX9_most_1 : decode cX9_most 1 = .ok (.invokestatic 144, 3) := by decide +kernel
theorem dX9_most_4 : decode cX9_most 4 = .ok (.ifCond .eq 9, 3) := by decide +kernel
theorem dX9_most_7 : decode cX9_most 7 = .ok (.aload_n 0, 1) := by decide +kernel
theorem dX9_most_8 : decode cX9_most 8 = .ok (.iconst (-1), 1) := by decide +kernel
theorem dX9_most_9 : decode cX9_most 9 = .ok (.invokevirtual 62, 3) := by decide +kernel
theorem dX9_most_12 : decode cX9_most 12 = .ok (.ireturn, 1) := by decide +kernel
theorem dX9_most_13 : decode cX9_most 13 = .ok (.iload_n 2, 1) := by decide +kernel
theorem dX9_most_14 : decode cX9_most 14 = .ok (.iconst 0, 1) := by decide +kernel
theorem dX9_most_15 : decode cX9_most 15 = .ok (.bipush 6, 2) := by decide +kernel
theorem dX9_most_17 : decode cX9_most 17 = .ok (.invokestatic 76, 3) := by decide +kernel
theorem dX9_most_20 : decode cX9_most 20 = .ok (.istore_n 3, 1) := by decide +kernel
theorem dX9_most_21 : decode cX9_most 21 = .ok (.iload_n 3, 1) := by decide +kernel
theorem dX9_most_22 : decode cX9_most 22 = .ok (.ifCond .eq 9, 3) := by decide +kernel
theorem dX9_most_25 : decode cX9_most 25 = .ok (.aload_n 0, 1) := by decide +kernel
theorem dX9_most_26 : decode cX9_most 26 = .ok (.iload_n 3, 1) := by decide +kernel
theorem dX9_most_27 : decode cX9_most 27 = .ok (.invokevirtual 62, 3) := by decide +kernel
theorem dX9_most_30 : decode cX9_most 30 = .ok (.ireturn, 1) := by decide +kernel
theorem dX9_most_31 : decode cX9_most 31 = .ok (.aload_n 0, 1) := by decide +kernel
theorem dX9_most_32 : decode cX9_most 32 = .ok (.getfield 40, 3) := by decide +kernel
theorem dX9_most_35 : decode cX9_most 35 = .ok (.getfield 248, 3) := by decide +kernel
theorem dX9_most_38 : decode cX9_most 38 = .ok (.iload_n 1, 1) := by decide +kernel
theorem dX9_most_39 : decode cX9_most 39 = .ok (.iaload, 1) := by decide +kernel
theorem dX9_most_40 : decode cX9_most 40 = .ok (.istore 4, 2) := by decide +kernel
theorem dX9_most_42 : decode cX9_most 42 = .ok (.aload_n 0, 1) := by decide +kernel
theorem dX9_most_43 : decode cX9_most 43 = .ok (.getfield 40, 3) := by decide +kernel
theorem dX9_most_46 : decode cX9_most 46 = .ok (.getfield 248, 3) := by decide +kernel
theorem dX9_most_49 : decode cX9_most 49 = .ok (.iload_n 1, 1) := by decide +kernel
theorem dX9_most_50 : decode cX9_most 50 = .ok (.iload_n 2, 1) := by decide +kernel
theorem dX9_most_51 : decode cX9_most 51 = .ok (.iastore, 1) := by decide +kernel
theorem dX9_most_52 : decode cX9_most 52 = .ok (.iload 4, 2) := by decide +kernel
theorem dX9_most_54 : decode cX9_most 54 = .ok (.ireturn, 1) := by decide +kernel
theorem dX9_rebate_0 : decode cX9_rebate 0 = .ok (.iload_n 1, 1) := by decide +kernel
theorem dX9_rebate_1 : decode cX9_rebate 1 = .ok (.invokestatic 144, 3) := by decide +kernel
theorem dX9_rebate_4 : decode cX9_rebate 4 = .ok (.ifCond .eq 9, 3) := by decide +kernel
theorem dX9_rebate_7 : decode cX9_rebate 7 = .ok (.aload_n 0, 1) := by decide +kernel
theorem dX9_rebate_8 : decode cX9_rebate 8 = .ok (.iconst (-1), 1) := by decide +kernel
theorem dX9_rebate_9 : decode cX9_rebate 9 = .ok (.invokevirtual 62, 3) := by decide +kernel
theorem dX9_rebate_12 : decode cX9_rebate 12 = .ok (.ireturn, 1) := by decide +kernel
theorem dX9_rebate_13 : decode cX9_rebate 13 = .ok (.iload_n 2, 1) := by decide +kernel
theorem dX9_rebate_14 : decode cX9_rebate 14 = .ok (.iconst 1, 1) := by decide +kernel
theorem dX9_rebate_15 : decode cX9_rebate 15 = .ok (.if_icmp .lt 7, 3) := by decide +kernel
theorem dX9_rebate_18 : decode cX9_rebate 18 = .ok (.iload_n 3, 1) := by decide +kernel
theorem dX9_rebate_19 : decode cX9_rebate 19 = .ok (.ifCond .ge 10, 3) := by decide +kernel
theorem dX9_rebate_22 : decode cX9_rebate 22 = .ok (.aload_n 0, 1) := by decide +kernel
theorem dX9_rebate_23 : decode cX9_rebate 23 = .ok (.bipush (-4), 2) := by decide +kernel
theorem dX9_rebate_25 : decode cX9_rebate 25 = .ok (.invokevirtual 62, 3) := by decide +kernel
theorem dX9_rebate_28 : decode cX9_rebate 28 = .ok (.ireturn, 1) := by decide +kernel
theorem dX9_rebate_29 : decode cX9_rebate 29 = .ok (.iload_n 2, 1) := by decide +kernel
theorem dX9_rebate_30 : decode cX9_rebate 30 = .ok (.bipush 6, 2) := by decide +kernel
theorem dX9_rebate_32 : decode cX9_rebate 32 = .ok (.if_icmp .gt 9, 3) := by decide +kernel
theorem dX9_rebate_35 : decode cX9_rebate 35 = .ok (.iload_n 3, 1) := by decide +kernel
theorem dX9_rebate_36 : decode cX9_rebate 36 = .ok (.bipush 50, 2) := by decide +kernel
theorem dX9_rebate_38 : decode cX9_rebate 38 = .ok (.if_icmp .le 10, 3) := by decide +kernel
theorem dX9_rebate_41 : decode cX9_rebate 41 = .ok (.aload_n 0, 1) := by decide +kernel
theorem dX9_rebate_42 : decode cX9_rebate 42 = .ok (.bipush (-6), 2) := by decide +kernel
theorem dX9_rebate_44 : decode cX9_rebate 44 = .ok (.invokevirtual 62, 3) := by decide +kernel
theorem dX9_rebate_47 : decode cX9_rebate 47 = .ok (.ireturn, 1) := by decide +kernel
theorem dX9_rebate_48 : decode cX9_rebate 48 = .ok (.aload_n 0, 1) := by decide +kernel
theorem dX9_rebate_49 : decode cX9_rebate 49 = .ok (.getfield 40, 3) := by decide +kernel
theorem dX9_rebate_52 : decode cX9_rebate 52 = .ok (.iload_n 1, 1) := by decide +kernel
theorem dX9_rebate_53 : decode cX9_rebate 53 = .ok (.iload_n 2, 1) := by decide +kernel
theorem dX9_rebate_54 : decode cX9_rebate 54 = .ok (.iload_n 3, 1) := by decide +kernel
theorem dX9_rebate_55 : decode cX9_rebate 55 = .ok (.invokevirtual 251, 3) := by decide +kernel
theorem dX9_rebate_58 : decode cX9_rebate 58 = .ok (.ireturn, 1) := by decide +kernel
theorem dX9_whole_0 : decode cX9_whole 0 = .ok (.iload_n 1, 1) := by decide +kernel
theorem dX9_whole_1 : decode cX9_whole 1 = .ok (.ifCond .lt 8, 3) := by decide +kernel
theorem dX9_whole_4 : decode cX9_whole 4 = .ok (.iload_n 1, 1) := by decide +kernel
theorem dX9_whole_5 : decode cX9_whole 5 = .ok (.iconst 1, 1) := by decide +kernel
theorem dX9_whole_6 : decode cX9_whole 6 = .ok (.if_icmp .le 10, 3) := by decide +kernel
theorem dX9_whole_9 : decode cX9_whole 9 = .ok (.aload_n 0, 1) := by decide +kernel
theorem dX9_whole_10 : decode cX9_whole 10 = .ok (.bipush (-2), 2) := by decide +kernel
theorem dX9_whole_12 : decode cX9_whole 12 = .ok (.invokevirtual 62, 3) := by decide +kernel
theorem dX9_whole_15 : decode cX9_whole 15 = .ok (.ireturn, 1) := by decide +kernel
theorem dX9_whole_16 : decode cX9_whole 16 = .ok (.aload_n 0, 1) := by decide +kernel
theorem dX9_whole_17 : decode cX9_whole 17 = .ok (.getfield 12, 3) := by decide +kernel
theorem dX9_whole_20 : decode cX9_whole 20 = .ok (.invokevirtual 71, 3) := by decide +kernel
theorem dX9_whole_23 : decode cX9_whole 23 = .ok (.ifCond .eq 10, 3) := by decide +kernel
theorem dX9_whole_26 : decode cX9_whole 26 = .ok (.aload_n 0, 1) := by decide +kernel
theorem dX9_whole_27 : decode cX9_whole 27 = .ok (.bipush (-3), 2) := by decide +kernel
theorem dX9_whole_29 : decode cX9_whole 29 = .ok (.invokevirtual 62, 3) := by decide +kernel
theorem dX9_whole_32 : decode cX9_whole 32 = .ok (.ireturn, 1) := by decide +kernel
theorem dX9_whole_33 : decode cX9_whole 33 = .ok (.aload_n 0, 1) := by decide +kernel
theorem dX9_whole_34 : decode cX9_whole 34 = .ok (.invokevirtual 254, 3) := by decide +kernel
theorem dX9_whole_37 : decode cX9_whole 37 = .ok (.iload_n 1, 1) := by decide +kernel
theorem dX9_whole_38 : decode cX9_whole 38 = .ok (.ifCond .ne 13, 3) := by decide +kernel
theorem dX9_whole_41 : decode cX9_whole 41 = .ok (.aload_n 0, 1) := by decide +kernel
theorem dX9_whole_42 : decode cX9_whole 42 = .ok (.getfield 40, 3) := by decide +kernel
theorem dX9_whole_45 : decode cX9_whole 45 = .ok (.getfield 257, 3) := by decide +kernel
theorem dX9_whole_48 : decode cX9_whole 48 = .ok (.goto 10, 3) := by decide +kernel
theorem dX9_whole_51 : decode cX9_whole 51 = .ok (.aload_n 0, 1) := by decide +kernel
theorem dX9_whole_52 : decode cX9_whole 52 = .ok (.getfield 40, 3) := by decide +kernel
theorem dX9_whole_55 : decode cX9_whole 55 = .ok (.getfield 260, 3) := by decide +kernel
theorem dX9_whole_58 : decode cX9_whole 58 = .ok (.ireturn, 1) := by decide +kernel
theorem dX9_winner_0 : decode cX9_winner 0 = .ok (.aload_n 0, 1) := by decide +kernel
theorem dX9_winner_1 : decode cX9_winner 1 = .ok (.iload_n 1, 1) := by decide +kernel
theorem dX9_winner_2 : decode cX9_winner 2 = .ok (.invokevirtual 193, 3) := by decide +kernel
theorem dX9_winner_5 : decode cX9_winner 5 = .ok (.ifCond .eq 9, 3) := by decide +kernel
theorem dX9_winner_8 : decode cX9_winner 8 = .ok (.aload_n 0, 1) := by decide +kernel
theorem dX9_winner_9 : decode cX9_winner 9 = .ok (.iconst (-1), 1) := by decide +kernel
theorem dX9_winner_10 : decode cX9_winner 10 = .ok (.invokevirtual 62, 3) := by decide +kernel
theorem dX9_winner_13 : decode cX9_winner 13 = .ok (.ireturn, 1) := by decide +kernel
theorem dX9_winner_14 : decode cX9_winner 14 = .ok (.aload_n 0, 1) := by decide +kernel
theorem dX9_winner_15 : decode cX9_winner 15 = .ok (.getfield 12, 3) := by decide +kernel
theorem dX9_winner_18 : decode cX9_winner 18 = .ok (.invokevirtual 71, 3) := by decide +kernel
theorem dX9_winner_21 : decode cX9_winner 21 = .ok (.ifCond .eq 10, 3) := by decide +kernel
theorem dX9_winner_24 : decode cX9_winner 24 = .ok (.aload_n 0, 1) := by decide +kernel
theorem dX9_winner_25 : decode cX9_winner 25 = .ok (.bipush (-3), 2) := by decide +kernel
theorem dX9_winner_27 : decode cX9_winner 27 = .ok (.invokevirtual 62, 3) := by decide +kernel
theorem dX9_winner_30 : decode cX9_winner 30 = .ok (.ireturn, 1) := by decide +kernel
theorem dX9_winner_31 : decode cX9_winner 31 = .ok (.aload_n 0, 1) := by decide +kernel
theorem dX9_winner_32 : decode cX9_winner 32 = .ok (.invokevirtual 254, 3) := by decide +kernel
theorem dX9_winner_35 : decode cX9_winner 35 = .ok (.aload_n 0, 1) := by decide +kernel
theorem dX9_winner_36 : decode cX9_winner 36 = .ok (.getfield 40, 3) := by decide +kernel
theorem dX9_winner_39 : decode cX9_winner 39 = .ok (.getfield 263, 3) := by decide +kernel
theorem dX9_winner_42 : decode cX9_winner 42 = .ok (.iload_n 1, 1) := by decide +kernel
theorem dX9_winner_43 : decode cX9_winner 43 = .ok (.iaload, 1) := by decide +kernel
theorem dX9_winner_44 : decode cX9_winner 44 = .ok (.ireturn, 1) := by decide +kernel
theorem dX9_award_0 : decode cX9_award 0 = .ok (.iload_n 1, 1) := by decide +kernel
theorem dX9_award_1 : decode cX9_award 1 = .ok (.ifCond .lt 8, 3) := by decide +kernel
theorem dX9_award_4 : decode cX9_award 4 = .ok (.iload_n 1, 1) := by decide +kernel
theorem dX9_award_5 : decode cX9_award 5 = .ok (.iconst 1, 1) := by decide +kernel
theorem dX9_award_6 : decode cX9_award 6 = .ok (.if_icmp .le 10, 3) := by decide +kernel
theorem dX9_award_9 : decode cX9_award 9 = .ok (.aload_n 0, 1) := by decide +kernel
theorem dX9_award_10 : decode cX9_award 10 = .ok (.bipush (-2), 2) := by decide +kernel
theorem dX9_award_12 : decode cX9_award 12 = .ok (.invokevirtual 62, 3) := by decide +kernel
theorem dX9_award_15 : decode cX9_award 15 = .ok (.ireturn, 1) := by decide +kernel
theorem dX9_award_16 : decode cX9_award 16 = .ok (.aload_n 0, 1) := by decide +kernel
theorem dX9_award_17 : decode cX9_award 17 = .ok (.getfield 12, 3) := by decide +kernel
theorem dX9_award_20 : decode cX9_award 20 = .ok (.invokevirtual 71, 3) := by decide +kernel
theorem dX9_award_23 : decode cX9_award 23 = .ok (.ifCond .ne 13, 3) := by decide +kernel
theorem dX9_award_26 : decode cX9_award 26 = .ok (.aload_n 0, 1) := by decide +kernel
theorem dX9_award_27 : decode cX9_award 27 = .ok (.getfield 47, 3) := by decide +kernel
theorem dX9_award_30 : decode cX9_award 30 = .ok (.getfield 266, 3) := by decide +kernel
theorem dX9_award_33 : decode cX9_award 33 = .ok (.ifCond .eq 10, 3) := by decide +kernel
theorem dX9_award_36 : decode cX9_award 36 = .ok (.aload_n 0, 1) := by decide +kernel
theorem dX9_award_37 : decode cX9_award 37 = .ok (.bipush (-3), 2) := by decide +kernel
theorem dX9_award_39 : decode cX9_award 39 = .ok (.invokevirtual 62, 3) := by decide +kernel
theorem dX9_award_42 : decode cX9_award 42 = .ok (.ireturn, 1) := by decide +kernel
theorem dX9_award_43 : decode cX9_award 43 = .ok (.aload_n 0, 1) := by decide +kernel
theorem dX9_award_44 : decode cX9_award 44 = .ok (.invokevirtual 254, 3) := by decide +kernel
theorem dX9_award_47 : decode cX9_award 47 = .ok (.aload_n 0, 1) := by decide +kernel
theorem dX9_award_48 : decode cX9_award 48 = .ok (.getfield 47, 3) := by decide +kernel
theorem dX9_award_51 : decode cX9_award 51 = .ok (.aload_n 0, 1) := by decide +kernel
theorem dX9_award_52 : decode cX9_award 52 = .ok (.getfield 12, 3) := by decide +kernel
theorem dX9_award_55 : decode cX9_award 55 = .ok (.getfield 67, 3) := by decide +kernel
theorem dX9_award_58 : decode cX9_award 58 = .ok (.iload_n 1, 1) := by decide +kernel
theorem dX9_award_59 : decode cX9_award 59 = .ok (.ifCond .ne 8, 3) := by decide +kernel
theorem dX9_award_62 : decode cX9_award 62 = .ok (.bipush 10, 2) := by decide +kernel
theorem dX9_award_64 : decode cX9_award 64 = .ok (.goto 5, 3) := by decide +kernel
theorem dX9_award_67 : decode cX9_award 67 = .ok (.bipush 13, 2) := by decide +kernel
theorem dX9_award_69 : decode cX9_award 69 = .ok (.sipush 1440, 3) := by decide +kernel
theorem dX9_award_72 : decode cX9_award 72 = .ok (.imul, 1) := by decide +kernel
theorem dX9_award_73 : decode cX9_award 73 = .ok (.iadd, 1) := by decide +kernel
theorem dX9_award_74 : decode cX9_award 74 = .ok (.invokevirtual 270, 3) := by decide +kernel
theorem dX9_award_77 : decode cX9_award 77 = .ok (.iconst 0, 1) := by decide +kernel
theorem dX9_award_78 : decode cX9_award 78 = .ok (.istore_n 2, 1) := by decide +kernel
theorem dX9_award_79 : decode cX9_award 79 = .ok (.iload_n 2, 1) := by decide +kernel
theorem dX9_award_80 : decode cX9_award 80 = .ok (.bipush 6, 2) := by decide +kernel
theorem dX9_award_82 : decode cX9_award 82 = .ok (.if_icmp .ge 50, 3) := by decide +kernel
theorem dX9_award_85 : decode cX9_award 85 = .ok (.aload_n 0, 1) := by decide +kernel
theorem dX9_award_86 : decode cX9_award 86 = .ok (.getfield 40, 3) := by decide +kernel
theorem dX9_award_89 : decode cX9_award 89 = .ok (.getfield 263, 3) := by decide +kernel
theorem dX9_award_92 : decode cX9_award 92 = .ok (.iload_n 2, 1) := by decide +kernel
theorem dX9_award_93 : decode cX9_award 93 = .ok (.iaload, 1) := by decide +kernel
theorem dX9_award_94 : decode cX9_award 94 = .ok (.istore_n 3, 1) := by decide +kernel
theorem dX9_award_95 : decode cX9_award 95 = .ok (.aload_n 0, 1) := by decide +kernel
theorem dX9_award_96 : decode cX9_award 96 = .ok (.getfield 47, 3) := by decide +kernel
theorem dX9_award_99 : decode cX9_award 99 = .ok (.iload_n 2, 1) := by decide +kernel
theorem dX9_award_100 : decode cX9_award 100 = .ok (.iload_n 3, 1) := by decide +kernel
theorem dX9_award_101 : decode cX9_award 101 = .ok (.iload_n 3, 1) := by decide +kernel
theorem dX9_award_102 : decode cX9_award 102 = .ok (.bipush (-9), 2) := by decide +kernel
theorem dX9_award_104 : decode cX9_award 104 = .ok (.if_icmp .ne 7, 3) := by decide +kernel
theorem dX9_award_107 : decode cX9_award 107 = .ok (.iconst 0, 1) := by decide +kernel
theorem dX9_award_108 : decode cX9_award 108 = .ok (.goto 15, 3) := by decide +kernel
theorem dX9_award_111 : decode cX9_award 111 = .ok (.aload_n 0, 1) := by decide +kernel
theorem dX9_award_112 : decode cX9_award 112 = .ok (.getfield 12, 3) := by decide +kernel
theorem dX9_award_115 : decode cX9_award 115 = .ok (.iload_n 3, 1) := by decide +kernel
theorem dX9_award_116 : decode cX9_award 116 = .ok (.iload_n 2, 1) := by decide +kernel
theorem dX9_award_117 : decode cX9_award 117 = .ok (.invokestatic 110, 3) := by decide +kernel
theorem dX9_award_120 : decode cX9_award 120 = .ok (.invokevirtual 131, 3) := by decide +kernel
theorem dX9_award_123 : decode cX9_award 123 = .ok (.invokevirtual 273, 3) := by decide +kernel
theorem dX9_award_126 : decode cX9_award 126 = .ok (.iinc 2 1, 3) := by decide +kernel
theorem dX9_award_129 : decode cX9_award 129 = .ok (.goto (-50), 3) := by decide +kernel
theorem dX9_award_132 : decode cX9_award 132 = .ok (.aload_n 0, 1) := by decide +kernel
theorem dX9_award_133 : decode cX9_award 133 = .ok (.getfield 40, 3) := by decide +kernel
theorem dX9_award_136 : decode cX9_award 136 = .ok (.getfield 257, 3) := by decide +kernel
theorem dX9_award_139 : decode cX9_award 139 = .ok (.ireturn, 1) := by decide +kernel
theorem dX9_awarded_0 : decode cX9_awarded 0 = .ok (.aload_n 0, 1) := by decide +kernel
theorem dX9_awarded_1 : decode cX9_awarded 1 = .ok (.iload_n 1, 1) := by decide +kernel
theorem dX9_awarded_2 : decode cX9_awarded 2 = .ok (.invokevirtual 193, 3) := by decide +kernel
theorem dX9_awarded_5 : decode cX9_awarded 5 = .ok (.ifCond .eq 9, 3) := by decide +kernel
theorem dX9_awarded_8 : decode cX9_awarded 8 = .ok (.aload_n 0, 1) := by decide +kernel
theorem dX9_awarded_9 : decode cX9_awarded 9 = .ok (.iconst (-1), 1) := by decide +kernel
theorem dX9_awarded_10 : decode cX9_awarded 10 = .ok (.invokevirtual 62, 3) := by decide +kernel
theorem dX9_awarded_13 : decode cX9_awarded 13 = .ok (.ireturn, 1) := by decide +kernel
theorem dX9_awarded_14 : decode cX9_awarded 14 = .ok (.aload_n 0, 1) := by decide +kernel
theorem dX9_awarded_15 : decode cX9_awarded 15 = .ok (.getfield 47, 3) := by decide +kernel
theorem dX9_awarded_18 : decode cX9_awarded 18 = .ok (.getfield 266, 3) := by decide +kernel
theorem dX9_awarded_21 : decode cX9_awarded 21 = .ok (.ifCond .ne 10, 3) := by decide +kernel
theorem dX9_awarded_24 : decode cX9_awarded 24 = .ok (.aload_n 0, 1) := by decide +kernel
theorem dX9_awarded_25 : decode cX9_awarded 25 = .ok (.bipush (-3), 2) := by decide +kernel
theorem dX9_awarded_27 : decode cX9_awarded 27 = .ok (.invokevirtual 62, 3) := by decide +kernel
theorem dX9_awarded_30 : decode cX9_awarded 30 = .ok (.ireturn, 1) := by decide +kernel
theorem dX9_awarded_31 : decode cX9_awarded 31 = .ok (.aload_n 0, 1) := by decide +kernel
theorem dX9_awarded_32 : decode cX9_awarded 32 = .ok (.getfield 47, 3) := by decide +kernel
theorem dX9_awarded_35 : decode cX9_awarded 35 = .ok (.getfield 277, 3) := by decide +kernel
theorem dX9_awarded_38 : decode cX9_awarded 38 = .ok (.iload_n 1, 1) := by decide +kernel
theorem dX9_awarded_39 : decode cX9_awarded 39 = .ok (.iaload, 1) := by decide +kernel
theorem dX9_awarded_40 : decode cX9_awarded 40 = .ok (.ireturn, 1) := by decide +kernel
theorem dX9_challenge_0 : decode cX9_challenge 0 = .ok (.aload_n 0, 1) := by decide +kernel
theorem dX9_challenge_1 : decode cX9_challenge 1 = .ok (.iload_n 1, 1) := by decide +kernel
theorem dX9_challenge_2 : decode cX9_challenge 2 = .ok (.invokevirtual 193, 3) := by decide +kernel
theorem dX9_challenge_5 : decode cX9_challenge 5 = .ok (.ifCond .eq 9, 3) := by decide +kernel
theorem dX9_challenge_8 : decode cX9_challenge 8 = .ok (.aload_n 0, 1) := by decide +kernel
theorem dX9_challenge_9 : decode cX9_challenge 9 = .ok (.iconst (-1), 1) := by decide +kernel
theorem dX9_challenge_10 : decode cX9_challenge 10 = .ok (.invokevirtual 62, 3) := by decide +kernel
theorem dX9_challenge_13 : decode cX9_challenge 13 = .ok (.ireturn, 1) := by decide +kernel
theorem dX9_challenge_14 : decode cX9_challenge 14 = .ok (.iload_n 2, 1) := by decide +kernel
theorem dX9_challenge_15 : decode cX9_challenge 15 = .ok (.ifCond .lt 8, 3) := by decide +kernel
theorem dX9_challenge_18 : decode cX9_challenge 18 = .ok (.iload_n 2, 1) := by decide +kernel
theorem dX9_challenge_19 : decode cX9_challenge 19 = .ok (.iconst 3, 1) := by decide +kernel
theorem dX9_challenge_20 : decode cX9_challenge 20 = .ok (.if_icmp .lt 10, 3) := by decide +kernel
theorem dX9_challenge_23 : decode cX9_challenge 23 = .ok (.aload_n 0, 1) := by decide +kernel
theorem dX9_challenge_24 : decode cX9_challenge 24 = .ok (.bipush (-2), 2) := by decide +kernel
theorem dX9_challenge_26 : decode cX9_challenge 26 = .ok (.invokevirtual 62, 3) := by decide +kernel
theorem dX9_challenge_29 : decode cX9_challenge 29 = .ok (.ireturn, 1) := by decide +kernel
theorem dX9_challenge_30 : decode cX9_challenge 30 = .ok (.aload_n 0, 1) := by decide +kernel
theorem dX9_challenge_31 : decode cX9_challenge 31 = .ok (.getfield 47, 3) := by decide +kernel
theorem dX9_challenge_34 : decode cX9_challenge 34 = .ok (.getfield 266, 3) := by decide +kernel
theorem dX9_challenge_37 : decode cX9_challenge 37 = .ok (.ifCond .eq 30, 3) := by decide +kernel
theorem dX9_challenge_40 : decode cX9_challenge 40 = .ok (.aload_n 0, 1) := by decide +kernel
theorem dX9_challenge_41 : decode cX9_challenge 41 = .ok (.getfield 47, 3) := by decide +kernel
theorem dX9_challenge_44 : decode cX9_challenge 44 = .ok (.getfield 278, 3) := by decide +kernel
theorem dX9_challenge_47 : decode cX9_challenge 47 = .ok (.ifCond .ne 20, 3) := by decide +kernel
theorem dX9_challenge_50 : decode cX9_challenge 50 = .ok (.aload_n 0, 1) := by decide +kernel
theorem dX9_challenge_51 : decode cX9_challenge 51 = .ok (.getfield 47, 3) := by decide +kernel
theorem dX9_challenge_54 : decode cX9_challenge 54 = .ok (.aload_n 0, 1) := by decide +kernel
theorem dX9_challenge_55 : decode cX9_challenge 55 = .ok (.getfield 12, 3) := by decide +kernel
theorem dX9_challenge_58 : decode cX9_challenge 58 = .ok (.getfield 67, 3) := by decide +kernel
theorem dX9_challenge_61 : decode cX9_challenge 61 = .ok (.invokevirtual 281, 3) := by decide +kernel
theorem dX9_challenge_64 : decode cX9_challenge 64 = .ok (.ifCond .eq 10, 3) := by decide +kernel
theorem dX9_challenge_67 : decode cX9_challenge 67 = .ok (.aload_n 0, 1) := by decide +kernel
theorem dX9_challenge_68 : decode cX9_challenge 68 = .ok (.bipush (-3), 2) := by decide +kernel
theorem dX9_challenge_70 : decode cX9_challenge 70 = .ok (.invokevirtual 62, 3) := by decide +kernel
theorem dX9_challenge_73 : decode cX9_challenge 73 = .ok (.ireturn, 1) := by decide +kernel
theorem dX9_challenge_74 : decode cX9_challenge 74 = .ok (.aload_n 0, 1) := by decide +kernel
theorem dX9_challenge_75 : decode cX9_challenge 75 = .ok (.getfield 47, 3) := by decide +kernel
theorem dX9_challenge_78 : decode cX9_challenge 78 = .ok (.getfield 284, 3) := by decide +kernel
theorem dX9_challenge_81 : decode cX9_challenge 81 = .ok (.bipush 20, 2) := by decide +kernel
theorem dX9_challenge_83 : decode cX9_challenge 83 = .ok (.if_icmp .lt 10, 3) := by decide +kernel
theorem dX9_challenge_86 : decode cX9_challenge 86 = .ok (.aload_n 0, 1) := by decide +kernel
theorem dX9_challenge_87 : decode cX9_challenge 87 = .ok (.bipush (-6), 2) := by decide +kernel
theorem dX9_challenge_89 : decode cX9_challenge 89 = .ok (.invokevirtual 62, 3) := by decide +kernel
theorem dX9_challenge_92 : decode cX9_challenge 92 = .ok (.ireturn, 1) := by decide +kernel
theorem dX9_challenge_93 : decode cX9_challenge 93 = .ok (.aload_n 0, 1) := by decide +kernel
theorem dX9_challenge_94 : decode cX9_challenge 94 = .ok (.getfield 47, 3) := by decide +kernel
theorem dX9_challenge_97 : decode cX9_challenge 97 = .ok (.iload_n 1, 1) := by decide +kernel
theorem dX9_challenge_98 : decode cX9_challenge 98 = .ok (.iload_n 2, 1) := by decide +kernel
theorem dX9_challenge_99 : decode cX9_challenge 99 = .ok (.invokevirtual 287, 3) := by decide +kernel
theorem dX9_challenge_102 : decode cX9_challenge 102 = .ok (.ireturn, 1) := by decide +kernel
theorem dX9_judge_0 : decode cX9_judge 0 = .ok (.iload_n 1, 1) := by decide +kernel
theorem dX9_judge_1 : decode cX9_judge 1 = .ok (.ifCond .lt 14, 3) := by decide +kernel
theorem dX9_judge_4 : decode cX9_judge 4 = .ok (.iload_n 1, 1) := by decide +kernel
theorem dX9_judge_5 : decode cX9_judge 5 = .ok (.aload_n 0, 1) := by decide +kernel
theorem dX9_judge_6 : decode cX9_judge 6 = .ok (.getfield 47, 3) := by decide +kernel
theorem dX9_judge_9 : decode cX9_judge 9 = .ok (.getfield 284, 3) := by decide +kernel
theorem dX9_judge_12 : decode cX9_judge 12 = .ok (.if_icmp .lt 9, 3) := by decide +kernel
theorem dX9_judge_15 : decode cX9_judge 15 = .ok (.aload_n 0, 1) := by decide +kernel
theorem dX9_judge_16 : decode cX9_judge 16 = .ok (.iconst (-1), 1) := by decide +kernel
theorem dX9_judge_17 : decode cX9_judge 17 = .ok (.invokevirtual 62, 3) := by decide +kernel
theorem dX9_judge_20 : decode cX9_judge 20 = .ok (.ireturn, 1) := by decide +kernel
theorem dX9_judge_21 : decode cX9_judge 21 = .ok (.aload_n 0, 1) := by decide +kernel
theorem dX9_judge_22 : decode cX9_judge 22 = .ok (.getfield 47, 3) := by decide +kernel
theorem dX9_judge_25 : decode cX9_judge 25 = .ok (.iload_n 1, 1) := by decide +kernel
theorem dX9_judge_26 : decode cX9_judge 26 = .ok (.invokevirtual 290, 3) := by decide +kernel
theorem dX9_judge_29 : decode cX9_judge 29 = .ok (.ifCond .ne 10, 3) := by decide +kernel
theorem dX9_judge_32 : decode cX9_judge 32 = .ok (.aload_n 0, 1) := by decide +kernel
theorem dX9_judge_33 : decode cX9_judge 33 = .ok (.bipush (-3), 2) := by decide +kernel
theorem dX9_judge_35 : decode cX9_judge 35 = .ok (.invokevirtual 62, 3) := by decide +kernel
theorem dX9_judge_38 : decode cX9_judge 38 = .ok (.ireturn, 1) := by decide +kernel
theorem dX9_judge_39 : decode cX9_judge 39 = .ok (.aload_n 0, 1) := by decide +kernel
theorem dX9_judge_40 : decode cX9_judge 40 = .ok (.getfield 47, 3) := by decide +kernel
theorem dX9_judge_43 : decode cX9_judge 43 = .ok (.getfield 293, 3) := by decide +kernel
theorem dX9_judge_46 : decode cX9_judge 46 = .ok (.iload_n 1, 1) := by decide +kernel
theorem dX9_judge_47 : decode cX9_judge 47 = .ok (.iconst 1, 1) := by decide +kernel
theorem dX9_judge_48 : decode cX9_judge 48 = .ok (.bastore, 1) := by decide +kernel
theorem dX9_judge_49 : decode cX9_judge 49 = .ok (.iload_n 2, 1) := by decide +kernel
theorem dX9_judge_50 : decode cX9_judge 50 = .ok (.ifCond .eq 33, 3) := by decide +kernel
theorem dX9_judge_53 : decode cX9_judge 53 = .ok (.aload_n 0, 1) := by decide +kernel
theorem dX9_judge_54 : decode cX9_judge 54 = .ok (.aload_n 0, 1) := by decide +kernel
theorem dX9_judge_55 : decode cX9_judge 55 = .ok (.getfield 47, 3) := by decide +kernel
theorem dX9_judge_58 : decode cX9_judge 58 = .ok (.getfield 296, 3) := by decide +kernel
theorem dX9_judge_61 : decode cX9_judge 61 = .ok (.iload_n 1, 1) := by decide +kernel
theorem dX9_judge_62 : decode cX9_judge 62 = .ok (.iaload, 1) := by decide +kernel
theorem dX9_judge_63 : decode cX9_judge 63 = .ok (.aload_n 0, 1) := by decide +kernel
theorem dX9_judge_64 : decode cX9_judge 64 = .ok (.getfield 47, 3) := by decide +kernel
theorem dX9_judge_67 : decode cX9_judge 67 = .ok (.getfield 299, 3) := by decide +kernel
theorem dX9_judge_70 : decode cX9_judge 70 = .ok (.iload_n 1, 1) := by decide +kernel
theorem dX9_judge_71 : decode cX9_judge 71 = .ok (.iaload, 1) := by decide +kernel
theorem dX9_judge_72 : decode cX9_judge 72 = .ok (.invokevirtual 302, 3) := by decide +kernel
theorem dX9_judge_75 : decode cX9_judge 75 = .ok (.aload_n 0, 1) := by decide +kernel
theorem dX9_judge_76 : decode cX9_judge 76 = .ok (.getfield 47, 3) := by decide +kernel
theorem dX9_judge_79 : decode cX9_judge 79 = .ok (.iconst 0, 1) := by decide +kernel
theorem dX9_judge_80 : decode cX9_judge 80 = .ok (.putfield 266, 3) := by decide +kernel
theorem dX9_judge_83 : decode cX9_judge 83 = .ok (.iconst 1, 1) := by decide +kernel
theorem dX9_judge_84 : decode cX9_judge 84 = .ok (.ireturn, 1) := by decide +kernel
theorem dX9_sign_0 : decode cX9_sign 0 = .ok (.aload_n 0, 1) := by decide +kernel
theorem dX9_sign_1 : decode cX9_sign 1 = .ok (.getfield 47, 3) := by decide +kernel
theorem dX9_sign_4 : decode cX9_sign 4 = .ok (.getfield 266, 3) := by decide +kernel
theorem dX9_sign_7 : decode cX9_sign 7 = .ok (.ifCond .eq 40, 3) := by decide +kernel
theorem dX9_sign_10 : decode cX9_sign 10 = .ok (.aload_n 0, 1) := by decide +kernel
theorem dX9_sign_11 : decode cX9_sign 11 = .ok (.getfield 47, 3) := by decide +kernel
theorem dX9_sign_14 : decode cX9_sign 14 = .ok (.getfield 278, 3) := by decide +kernel
theorem dX9_sign_17 : decode cX9_sign 17 = .ok (.ifCond .ne 30, 3) := by decide +kernel
theorem dX9_sign_20 : decode cX9_sign 20 = .ok (.aload_n 0, 1) := by decide +kernel
theorem dX9_sign_21 : decode cX9_sign 21 = .ok (.getfield 47, 3) := by decide +kernel
theorem dX9_sign_24 : decode cX9_sign 24 = .ok (.aload_n 0, 1) := by decide +kernel
theorem dX9_sign_25 : decode cX9_sign 25 = .ok (.getfield 12, 3) := by decide +kernel
theorem dX9_sign_28 : decode cX9_sign 28 = .ok (.getfield 67, 3) := by decide +kernel
theorem dX9_sign_31 : decode cX9_sign 31 = .ok (.invokevirtual 281, 3) := by decide +kernel
theorem dX9_sign_34 : decode cX9_sign 34 = .ok (.ifCond .eq 13, 3) := by decide +kernel
theorem dX9_sign_37 : decode cX9_sign 37 = .ok (.aload_n 0, 1) := by decide +kernel
theorem dX9_sign_38 : decode cX9_sign 38 = .ok (.getfield 47, 3) := by decide +kernel
theorem dX9_sign_41 : decode cX9_sign 41 = .ok (.invokevirtual 306, 3) := by decide +kernel
theorem dX9_sign_44 : decode cX9_sign 44 = .ok (.ifCond .le 10, 3) := by decide +kernel
theorem dX9_sign_47 : decode cX9_sign 47 = .ok (.aload_n 0, 1) := by decide +kernel
theorem dX9_sign_48 : decode cX9_sign 48 = .ok (.bipush (-3), 2) := by decide +kernel
theorem dX9_sign_50 : decode cX9_sign 50 = .ok (.invokevirtual 62, 3) := by decide +kernel
theorem dX9_sign_53 : decode cX9_sign 53 = .ok (.ireturn, 1) := by decide +kernel
theorem dX9_sign_54 : decode cX9_sign 54 = .ok (.aload_n 0, 1) := by decide +kernel
theorem dX9_sign_55 : decode cX9_sign 55 = .ok (.getfield 47, 3) := by decide +kernel
theorem dX9_sign_58 : decode cX9_sign 58 = .ok (.iconst 1, 1) := by decide +kernel
theorem dX9_sign_59 : decode cX9_sign 59 = .ok (.putfield 278, 3) := by decide +kernel
theorem dX9_sign_62 : decode cX9_sign 62 = .ok (.iconst 1, 1) := by decide +kernel
theorem dX9_sign_63 : decode cX9_sign 63 = .ok (.ireturn, 1) := by decide +kernel
theorem dX9_change_0 : decode cX9_change 0 = .ok (.aload_n 0, 1) := by decide +kernel
theorem dX9_change_1 : decode cX9_change 1 = .ok (.iload_n 1, 1) := by decide +kernel
theorem dX9_change_2 : decode cX9_change 2 = .ok (.invokevirtual 193, 3) := by decide +kernel
theorem dX9_change_5 : decode cX9_change 5 = .ok (.ifCond .eq 9, 3) := by decide +kernel
theorem dX9_change_8 : decode cX9_change 8 = .ok (.aload_n 0, 1) := by decide +kernel
theorem dX9_change_9 : decode cX9_change 9 = .ok (.iconst (-1), 1) := by decide +kernel
theorem dX9_change_10 : decode cX9_change 10 = .ok (.invokevirtual 62, 3) := by decide +kernel
theorem dX9_change_13 : decode cX9_change 13 = .ok (.ireturn, 1) := by decide +kernel
theorem dX9_change_14 : decode cX9_change 14 = .ok (.aload_n 0, 1) := by decide +kernel
theorem dX9_change_15 : decode cX9_change 15 = .ok (.getfield 47, 3) := by decide +kernel
theorem dX9_change_18 : decode cX9_change 18 = .ok (.getfield 278, 3) := by decide +kernel
theorem dX9_change_21 : decode cX9_change 21 = .ok (.ifCond .eq 17, 3) := by decide +kernel
theorem dX9_change_24 : decode cX9_change 24 = .ok (.aload_n 0, 1) := by decide +kernel
theorem dX9_change_25 : decode cX9_change 25 = .ok (.getfield 47, 3) := by decide +kernel
theorem dX9_change_28 : decode cX9_change 28 = .ok (.getfield 277, 3) := by decide +kernel
theorem dX9_change_31 : decode cX9_change 31 = .ok (.iload_n 1, 1) := by decide +kernel
theorem dX9_change_32 : decode cX9_change 32 = .ok (.iaload, 1) := by decide +kernel
theorem dX9_change_33 : decode cX9_change 33 = .ok (.bipush (-9), 2) := by decide +kernel
theorem dX9_change_35 : decode cX9_change 35 = .ok (.if_icmp .ne 10, 3) := by decide +kernel
theorem dX9_change_38 : decode cX9_change 38 = .ok (.aload_n 0, 1) := by decide +kernel
theorem dX9_change_39 : decode cX9_change 39 = .ok (.bipush (-3), 2) := by decide +kernel
theorem dX9_change_41 : decode cX9_change 41 = .ok (.invokevirtual 62, 3) := by decide +kernel
theorem dX9_change_44 : decode cX9_change 44 = .ok (.ireturn, 1) := by decide +kernel
theorem dX9_change_45 : decode cX9_change 45 = .ok (.iload_n 2, 1) := by decide +kernel
theorem dX9_change_46 : decode cX9_change 46 = .ok (.iconst 1, 1) := by decide +kernel
theorem dX9_change_47 : decode cX9_change 47 = .ok (.ldc 66, 2) := by decide +kernel
theorem dX9_change_49 : decode cX9_change 49 = .ok (.invokestatic 76, 3) := by decide +kernel
theorem dX9_change_52 : decode cX9_change 52 = .ok (.istore_n 3, 1) := by decide +kernel
theorem dX9_change_53 : decode cX9_change 53 = .ok (.iload_n 3, 1) := by decide +kernel
theorem dX9_change_54 : decode cX9_change 54 = .ok (.ifCond .eq 9, 3) := by decide +kernel
theorem dX9_change_57 : decode cX9_change 57 = .ok (.aload_n 0, 1) := by decide +kernel
theorem dX9_change_58 : decode cX9_change 58 = .ok (.iload_n 3, 1) := by decide +kernel
theorem dX9_change_59 : decode cX9_change 59 = .ok (.invokevirtual 62, 3) := by decide +kernel
theorem dX9_change_62 : decode cX9_change 62 = .ok (.ireturn, 1) := by decide +kernel
theorem dX9_change_63 : decode cX9_change 63 = .ok (.aload_n 0, 1) := by decide +kernel
theorem dX9_change_64 : decode cX9_change 64 = .ok (.getfield 47, 3) := by decide +kernel
theorem dX9_change_67 : decode cX9_change 67 = .ok (.iload_n 1, 1) := by decide +kernel
theorem dX9_change_68 : decode cX9_change 68 = .ok (.iload_n 2, 1) := by decide +kernel
theorem dX9_change_69 : decode cX9_change 69 = .ok (.aload_n 0, 1) := by decide +kernel
theorem dX9_change_70 : decode cX9_change 70 = .ok (.getfield 12, 3) := by decide +kernel
theorem dX9_change_73 : decode cX9_change 73 = .ok (.getfield 128, 3) := by decide +kernel
theorem dX9_change_76 : decode cX9_change 76 = .ok (.iconst 3, 1) := by decide +kernel
theorem dX9_change_77 : decode cX9_change 77 = .ok (.iaload, 1) := by decide +kernel
theorem dX9_change_78 : decode cX9_change 78 = .ok (.invokevirtual 309, 3) := by decide +kernel
theorem dX9_change_81 : decode cX9_change 81 = .ok (.ireturn, 1) := by decide +kernel
theorem dX9_likeness_0 : decode cX9_likeness 0 = .ok (.aload_n 0, 1) := by decide +kernel
theorem dX9_likeness_1 : decode cX9_likeness 1 = .ok (.iload_n 1, 1) := by decide +kernel
theorem dX9_likeness_2 : decode cX9_likeness 2 = .ok (.iload_n 2, 1) := by decide +kernel
theorem dX9_likeness_3 : decode cX9_likeness 3 = .ok (.iload_n 3, 1) := by decide +kernel
theorem dX9_likeness_4 : decode cX9_likeness 4 = .ok (.invokevirtual 223, 3) := by decide +kernel
theorem dX9_likeness_7 : decode cX9_likeness 7 = .ok (.ifCond .eq 9, 3) := by decide +kernel
theorem dX9_likeness_10 : decode cX9_likeness 10 = .ok (.aload_n 0, 1) := by decide +kernel
theorem dX9_likeness_11 : decode cX9_likeness 11 = .ok (.iconst (-1), 1) := by decide +kernel
theorem dX9_likeness_12 : decode cX9_likeness 12 = .ok (.invokevirtual 176, 3) := by decide +kernel
theorem dX9_likeness_15 : decode cX9_likeness 15 = .ok (.lreturn, 1) := by decide +kernel
theorem dX9_likeness_16 : decode cX9_likeness 16 = .ok (.aload_n 0, 1) := by decide +kernel
theorem dX9_likeness_17 : decode cX9_likeness 17 = .ok (.getfield 12, 3) := by decide +kernel
theorem dX9_likeness_20 : decode cX9_likeness 20 = .ok (.getfield 113, 3) := by decide +kernel
theorem dX9_likeness_23 : decode cX9_likeness 23 = .ok (.iload_n 2, 1) := by decide +kernel
theorem dX9_likeness_24 : decode cX9_likeness 24 = .ok (.iload_n 1, 1) := by decide +kernel
theorem dX9_likeness_25 : decode cX9_likeness 25 = .ok (.invokestatic 110, 3) := by decide +kernel
theorem dX9_likeness_28 : decode cX9_likeness 28 = .ok (.baload, 1) := by decide +kernel
theorem dX9_likeness_29 : decode cX9_likeness 29 = .ok (.ifCond .eq 19, 3) := by decide +kernel
theorem dX9_likeness_32 : decode cX9_likeness 32 = .ok (.aload_n 0, 1) := by decide +kernel
theorem dX9_likeness_33 : decode cX9_likeness 33 = .ok (.getfield 12, 3) := by decide +kernel
theorem dX9_likeness_36 : decode cX9_likeness 36 = .ok (.getfield 113, 3) := by decide +kernel
theorem dX9_likeness_39 : decode cX9_likeness 39 = .ok (.iload_n 3, 1) := by decide +kernel
theorem dX9_likeness_40 : decode cX9_likeness 40 = .ok (.iload_n 1, 1) := by decide +kernel
theorem dX9_likeness_41 : decode cX9_likeness 41 = .ok (.invokestatic 110, 3) := by decide +kernel
theorem dX9_likeness_44 : decode cX9_likeness 44 = .ok (.baload, 1) := by decide +kernel
theorem dX9_likeness_45 : decode cX9_likeness 45 = .ok (.ifCond .ne 10, 3) := by decide +kernel
theorem dX9_likeness_48 : decode cX9_likeness 48 = .ok (.aload_n 0, 1) := by decide +kernel
theorem dX9_likeness_49 : decode cX9_likeness 49 = .ok (.bipush (-5), 2) := by decide +kernel
theorem dX9_likeness_51 : decode cX9_likeness 51 = .ok (.invokevirtual 176, 3) := by decide +kernel
theorem dX9_likeness_54 : decode cX9_likeness 54 = .ok (.lreturn, 1) := by decide +kernel
theorem dX9_likeness_55 : decode cX9_likeness 55 = .ok (.aload_n 0, 1) := by decide +kernel
theorem dX9_likeness_56 : decode cX9_likeness 56 = .ok (.getfield 12, 3) := by decide +kernel
theorem dX9_likeness_59 : decode cX9_likeness 59 = .ok (.iload_n 2, 1) := by decide +kernel
theorem dX9_likeness_60 : decode cX9_likeness 60 = .ok (.iload_n 1, 1) := by decide +kernel
theorem dX9_likeness_61 : decode cX9_likeness 61 = .ok (.invokestatic 110, 3) := by decide +kernel
theorem dX9_likeness_64 : decode cX9_likeness 64 = .ok (.iload_n 3, 1) := by decide +kernel
theorem dX9_likeness_65 : decode cX9_likeness 65 = .ok (.iload_n 1, 1) := by decide +kernel
theorem dX9_likeness_66 : decode cX9_likeness 66 = .ok (.invokestatic 110, 3) := by decide +kernel
theorem dX9_likeness_69 : decode cX9_likeness 69 = .ok (.invokestatic 312, 3) := by decide +kernel
theorem dX9_likeness_72 : decode cX9_likeness 72 = .ok (.lreturn, 1) := by decide +kernel
theorem dX9_chance_0 : decode cX9_chance 0 = .ok (.aload_n 0, 1) := by decide +kernel
theorem dX9_chance_1 : decode cX9_chance 1 = .ok (.iload_n 1, 1) := by decide +kernel
theorem dX9_chance_2 : decode cX9_chance 2 = .ok (.iload_n 2, 1) := by decide +kernel
theorem dX9_chance_3 : decode cX9_chance 3 = .ok (.iload_n 3, 1) := by decide +kernel
theorem dX9_chance_4 : decode cX9_chance 4 = .ok (.invokevirtual 223, 3) := by decide +kernel
theorem dX9_chance_7 : decode cX9_chance 7 = .ok (.ifCond .eq 9, 3) := by decide +kernel
theorem dX9_chance_10 : decode cX9_chance 10 = .ok (.aload_n 0, 1) := by decide +kernel
theorem dX9_chance_11 : decode cX9_chance 11 = .ok (.iconst (-1), 1) := by decide +kernel
theorem dX9_chance_12 : decode cX9_chance 12 = .ok (.invokevirtual 62, 3) := by decide +kernel
theorem dX9_chance_15 : decode cX9_chance 15 = .ok (.ireturn, 1) := by decide +kernel
theorem dX9_chance_16 : decode cX9_chance 16 = .ok (.aload_n 0, 1) := by decide +kernel
theorem dX9_chance_17 : decode cX9_chance 17 = .ok (.getfield 12, 3) := by decide +kernel
theorem dX9_chance_20 : decode cX9_chance 20 = .ok (.getfield 113, 3) := by decide +kernel
theorem dX9_chance_23 : decode cX9_chance 23 = .ok (.iload_n 2, 1) := by decide +kernel
theorem dX9_chance_24 : decode cX9_chance 24 = .ok (.iload_n 1, 1) := by decide +kernel
theorem dX9_chance_25 : decode cX9_chance 25 = .ok (.invokestatic 110, 3) := by decide +kernel
theorem dX9_chance_28 : decode cX9_chance 28 = .ok (.baload, 1) := by decide +kernel
theorem dX9_chance_29 : decode cX9_chance 29 = .ok (.ifCond .eq 19, 3) := by decide +kernel
theorem dX9_chance_32 : decode cX9_chance 32 = .ok (.aload_n 0, 1) := by decide +kernel
theorem dX9_chance_33 : decode cX9_chance 33 = .ok (.getfield 12, 3) := by decide +kernel
theorem dX9_chance_36 : decode cX9_chance 36 = .ok (.getfield 113, 3) := by decide +kernel
theorem dX9_chance_39 : decode cX9_chance 39 = .ok (.iload_n 3, 1) := by decide +kernel
theorem dX9_chance_40 : decode cX9_chance 40 = .ok (.iload_n 1, 1) := by decide +kernel
theorem dX9_chance_41 : decode cX9_chance 41 = .ok (.invokestatic 110, 3) := by decide +kernel
theorem dX9_chance_44 : decode cX9_chance 44 = .ok (.baload, 1) := by decide +kernel
theorem dX9_chance_45 : decode cX9_chance 45 = .ok (.ifCond .ne 10, 3) := by decide +kernel
theorem dX9_chance_48 : decode cX9_chance 48 = .ok (.aload_n 0, 1) := by decide +kernel
theorem dX9_chance_49 : decode cX9_chance 49 = .ok (.bipush (-5), 2) := by decide +kernel
theorem dX9_chance_51 : decode cX9_chance 51 = .ok (.invokevirtual 62, 3) := by decide +kernel
theorem dX9_chance_54 : decode cX9_chance 54 = .ok (.ireturn, 1) := by decide +kernel
theorem dX9_chance_55 : decode cX9_chance 55 = .ok (.aload_n 0, 1) := by decide +kernel
theorem dX9_chance_56 : decode cX9_chance 56 = .ok (.getfield 12, 3) := by decide +kernel
theorem dX9_chance_59 : decode cX9_chance 59 = .ok (.iload_n 2, 1) := by decide +kernel
theorem dX9_chance_60 : decode cX9_chance 60 = .ok (.iload_n 1, 1) := by decide +kernel
theorem dX9_chance_61 : decode cX9_chance 61 = .ok (.invokestatic 110, 3) := by decide +kernel
theorem dX9_chance_64 : decode cX9_chance 64 = .ok (.iload_n 3, 1) := by decide +kernel
theorem dX9_chance_65 : decode cX9_chance 65 = .ok (.iload_n 1, 1) := by decide +kernel
theorem dX9_chance_66 : decode cX9_chance 66 = .ok (.invokestatic 110, 3) := by decide +kernel
theorem dX9_chance_69 : decode cX9_chance 69 = .ok (.invokestatic 318, 3) := by decide +kernel
theorem dX9_chance_72 : decode cX9_chance 72 = .ok (.ireturn, 1) := by decide +kernel
theorem dX9_ring_0 : decode cX9_ring 0 = .ok (.aload_n 0, 1) := by decide +kernel
theorem dX9_ring_1 : decode cX9_ring 1 = .ok (.iload_n 2, 1) := by decide +kernel
theorem dX9_ring_2 : decode cX9_ring 2 = .ok (.iload_n 1, 1) := by decide +kernel
theorem dX9_ring_3 : decode cX9_ring 3 = .ok (.invokevirtual 93, 3) := by decide +kernel
theorem dX9_ring_6 : decode cX9_ring 6 = .ok (.ifCond .eq 9, 3) := by decide +kernel
theorem dX9_ring_9 : decode cX9_ring 9 = .ok (.aload_n 0, 1) := by decide +kernel
theorem dX9_ring_10 : decode cX9_ring 10 = .ok (.iconst (-1), 1) := by decide +kernel
theorem dX9_ring_11 : decode cX9_ring 11 = .ok (.invokevirtual 62, 3) := by decide +kernel
theorem dX9_ring_14 : decode cX9_ring 14 = .ok (.ireturn, 1) := by decide +kernel
theorem dX9_ring_15 : decode cX9_ring 15 = .ok (.aload_n 0, 1) := by decide +kernel
theorem dX9_ring_16 : decode cX9_ring 16 = .ok (.getfield 12, 3) := by decide +kernel
theorem dX9_ring_19 : decode cX9_ring 19 = .ok (.getfield 113, 3) := by decide +kernel
theorem dX9_ring_22 : decode cX9_ring 22 = .ok (.iload_n 2, 1) := by decide +kernel
theorem dX9_ring_23 : decode cX9_ring 23 = .ok (.iload_n 1, 1) := by decide +kernel
theorem dX9_ring_24 : decode cX9_ring 24 = .ok (.invokestatic 110, 3) := by decide +kernel
theorem dX9_ring_27 : decode cX9_ring 27 = .ok (.baload, 1) := by decide +kernel
theorem dX9_ring_28 : decode cX9_ring 28 = .ok (.ifCond .ne 10, 3) := by decide +kernel
theorem dX9_ring_31 : decode cX9_ring 31 = .ok (.aload_n 0, 1) := by decide +kernel
theorem dX9_ring_32 : decode cX9_ring 32 = .ok (.bipush (-5), 2) := by decide +kernel
theorem dX9_ring_34 : decode cX9_ring 34 = .ok (.invokevirtual 62, 3) := by decide +kernel
theorem dX9_ring_37 : decode cX9_ring 37 = .ok (.ireturn, 1) := by decide +kernel
theorem dX9_ring_38 : decode cX9_ring 38 = .ok (.aload_n 0, 1) := by decide +kernel
theorem dX9_ring_39 : decode cX9_ring 39 = .ok (.getfield 12, 3) := by decide +kernel
theorem dX9_ring_42 : decode cX9_ring 42 = .ok (.iload_n 1, 1) := by decide +kernel
theorem dX9_ring_43 : decode cX9_ring 43 = .ok (.iload_n 2, 1) := by decide +kernel
theorem dX9_ring_44 : decode cX9_ring 44 = .ok (.invokestatic 322, 3) := by decide +kernel
theorem dX9_ring_47 : decode cX9_ring 47 = .ok (.ireturn, 1) := by decide +kernel
theorem dX9_join_0 : decode cX9_join 0 = .ok (.iload_n 1, 1) := by decide +kernel
theorem dX9_join_1 : decode cX9_join 1 = .ok (.invokestatic 144, 3) := by decide +kernel
theorem dX9_join_4 : decode cX9_join 4 = .ok (.ifCond .eq 9, 3) := by decide +kernel
theorem dX9_join_7 : decode cX9_join 7 = .ok (.aload_n 0, 1) := by decide +kernel
theorem dX9_join_8 : decode cX9_join 8 = .ok (.iconst (-1), 1) := by decide +kernel
theorem dX9_join_9 : decode cX9_join 9 = .ok (.invokevirtual 62, 3) := by decide +kernel
theorem dX9_join_12 : decode cX9_join 12 = .ok (.ireturn, 1) := by decide +kernel
theorem dX9_join_13 : decode cX9_join 13 = .ok (.aload_n 0, 1) := by decide +kernel
theorem dX9_join_14 : decode cX9_join 14 = .ok (.getfield 54, 3) := by decide +kernel
theorem dX9_join_17 : decode cX9_join 17 = .ok (.iload_n 1, 1) := by decide +kernel
theorem dX9_join_18 : decode cX9_join 18 = .ok (.invokevirtual 325, 3) := by decide +kernel
theorem dX9_join_21 : decode cX9_join 21 = .ok (.iconst (-1), 1) := by decide +kernel
theorem dX9_join_22 : decode cX9_join 22 = .ok (.if_icmp .eq 10, 3) := by decide +kernel
theorem dX9_join_25 : decode cX9_join 25 = .ok (.aload_n 0, 1) := by decide +kernel
theorem dX9_join_26 : decode cX9_join 26 = .ok (.bipush (-3), 2) := by decide +kernel
theorem dX9_join_28 : decode cX9_join 28 = .ok (.invokevirtual 62, 3) := by decide +kernel
theorem dX9_join_31 : decode cX9_join 31 = .ok (.ireturn, 1) := by decide +kernel
theorem dX9_join_32 : decode cX9_join 32 = .ok (.iload_n 2, 1) := by decide +kernel
theorem dX9_join_33 : decode cX9_join 33 = .ok (.iconst 1, 1) := by decide +kernel
theorem dX9_join_34 : decode cX9_join 34 = .ok (.sipush 999, 3) := by decide +kernel
theorem dX9_join_37 : decode cX9_join 37 = .ok (.invokestatic 76, 3) := by decide +kernel
theorem dX9_join_40 : decode cX9_join 40 = .ok (.istore_n 3, 1) := by decide +kernel
theorem dX9_join_41 : decode cX9_join 41 = .ok (.iload_n 3, 1) := by decide +kernel
theorem dX9_join_42 : decode cX9_join 42 = .ok (.ifCond .eq 9, 3) := by decide +kernel
theorem dX9_join_45 : decode cX9_join 45 = .ok (.aload_n 0, 1) := by decide +kernel
theorem dX9_join_46 : decode cX9_join 46 = .ok (.iload_n 3, 1) := by decide +kernel
theorem dX9_join_47 : decode cX9_join 47 = .ok (.invokevirtual 62, 3) := by decide +kernel
theorem dX9_join_50 : decode cX9_join 50 = .ok (.ireturn, 1) := by decide +kernel
theorem dX9_join_51 : decode cX9_join 51 = .ok (.aload_n 0, 1) := by decide +kernel
theorem dX9_join_52 : decode cX9_join 52 = .ok (.getfield 54, 3) := by decide +kernel
theorem dX9_join_55 : decode cX9_join 55 = .ok (.iload_n 1, 1) := by decide +kernel
theorem dX9_join_56 : decode cX9_join 56 = .ok (.iload_n 2, 1) := by decide +kernel
theorem dX9_join_57 : decode cX9_join 57 = .ok (.invokevirtual 328, 3) := by decide +kernel
theorem dX9_join_60 : decode cX9_join 60 = .ok (.ireturn, 1) := by decide +kernel
theorem dX9_call_0 : decode cX9_call 0 = .ok (.iload_n 1, 1) := by decide +kernel
theorem dX9_call_1 : decode cX9_call 1 = .ok (.iconst 1, 1) := by decide +kernel
theorem dX9_call_2 : decode cX9_call 2 = .ok (.sipush 999, 3) := by decide +kernel
theorem dX9_call_5 : decode cX9_call 5 = .ok (.invokestatic 76, 3) := by decide +kernel
theorem dX9_call_8 : decode cX9_call 8 = .ok (.istore_n 2, 1) := by decide +kernel
theorem dX9_call_9 : decode cX9_call 9 = .ok (.iload_n 2, 1) := by decide +kernel
theorem dX9_call_10 : decode cX9_call 10 = .ok (.ifCond .eq 9, 3) := by decide +kernel
theorem dX9_call_13 : decode cX9_call 13 = .ok (.aload_n 0, 1) := by decide +kernel
theorem dX9_call_14 : decode cX9_call 14 = .ok (.iload_n 2, 1) := by decide +kernel
theorem dX9_call_15 : decode cX9_call 15 = .ok (.invokevirtual 62, 3) := by decide +kernel
theorem dX9_call_18 : decode cX9_call 18 = .ok (.ireturn, 1) := by decide +kernel
theorem dX9_call_19 : decode cX9_call 19 = .ok (.aload_n 0, 1) := by decide +kernel
theorem dX9_call_20 : decode cX9_call 20 = .ok (.getfield 54, 3) := by decide +kernel
theorem dX9_call_23 : decode cX9_call 23 = .ok (.iload_n 1, 1) := by decide +kernel
theorem dX9_call_24 : decode cX9_call 24 = .ok (.invokevirtual 331, 3) := by decide +kernel
theorem dX9_call_27 : decode cX9_call 27 = .ok (.ireturn, 1) := by decide +kernel
theorem dX9_decline_0 : decode cX9_decline 0 = .ok (.aload_n 0, 1) := by decide +kernel
theorem dX9_decline_1 : decode cX9_decline 1 = .ok (.getfield 54, 3) := by decide +kernel
theorem dX9_decline_4 : decode cX9_decline 4 = .ok (.getfield 334, 3) := by decide +kernel
theorem dX9_decline_7 : decode cX9_decline 7 = .ok (.iconst (-1), 1) := by decide +kernel
theorem dX9_decline_8 : decode cX9_decline 8 = .ok (.if_icmp .ne 10, 3) := by decide +kernel
theorem dX9_decline_11 : decode cX9_decline 11 = .ok (.aload_n 0, 1) := by decide +kernel
theorem dX9_decline_12 : decode cX9_decline 12 = .ok (.bipush (-3), 2) := by decide +kernel
theorem dX9_decline_14 : decode cX9_decline 14 = .ok (.invokevirtual 62, 3) := by decide +kernel
theorem dX9_decline_17 : decode cX9_decline 17 = .ok (.ireturn, 1) := by decide +kernel
theorem dX9_decline_18 : decode cX9_decline 18 = .ok (.aload_n 0, 1) := by decide +kernel
theorem dX9_decline_19 : decode cX9_decline 19 = .ok (.getfield 54, 3) := by decide +kernel
theorem dX9_decline_22 : decode cX9_decline 22 = .ok (.invokevirtual 337, 3) := by decide +kernel
theorem dX9_decline_25 : decode cX9_decline 25 = .ok (.ireturn, 1) := by decide +kernel
theorem dX9_room_0 : decode cX9_room 0 = .ok (.iload_n 1, 1) := by decide +kernel
theorem dX9_room_1 : decode cX9_room 1 = .ok (.invokestatic 144, 3) := by decide +kernel
theorem dX9_room_4 : decode cX9_room 4 = .ok (.ifCond .eq 9, 3) := by decide +kernel
theorem dX9_room_7 : decode cX9_room 7 = .ok (.aload_n 0, 1) := by decide +kernel
theorem dX9_room_8 : decode cX9_room 8 = .ok (.iconst (-1), 1) := by decide +kernel
theorem dX9_room_9 : decode cX9_room 9 = .ok (.invokevirtual 62, 3) := by decide +kernel
theorem dX9_room_12 : decode cX9_room 12 = .ok (.ireturn, 1) := by decide +kernel
theorem dX9_room_13 : decode cX9_room 13 = .ok (.aload_n 0, 1) := by decide +kernel
theorem dX9_room_14 : decode cX9_room 14 = .ok (.getfield 54, 3) := by decide +kernel
theorem dX9_room_17 : decode cX9_room 17 = .ok (.iload_n 1, 1) := by decide +kernel
theorem dX9_room_18 : decode cX9_room 18 = .ok (.invokevirtual 325, 3) := by decide +kernel
theorem dX9_room_21 : decode cX9_room 21 = .ok (.istore_n 2, 1) := by decide +kernel
theorem dX9_room_22 : decode cX9_room 22 = .ok (.iload_n 2, 1) := by decide +kernel
theorem dX9_room_23 : decode cX9_room 23 = .ok (.iconst (-1), 1) := by decide +kernel
theorem dX9_room_24 : decode cX9_room 24 = .ok (.if_icmp .ne 10, 3) := by decide +kernel
theorem dX9_room_27 : decode cX9_room 27 = .ok (.aload_n 0, 1) := by decide +kernel
theorem dX9_room_28 : decode cX9_room 28 = .ok (.bipush (-3), 2) := by decide +kernel
theorem dX9_room_30 : decode cX9_room 30 = .ok (.invokevirtual 62, 3) := by decide +kernel
theorem dX9_room_33 : decode cX9_room 33 = .ok (.ireturn, 1) := by decide +kernel
theorem dX9_room_34 : decode cX9_room 34 = .ok (.aload_n 0, 1) := by decide +kernel
theorem dX9_room_35 : decode cX9_room 35 = .ok (.getfield 54, 3) := by decide +kernel
theorem dX9_room_38 : decode cX9_room 38 = .ok (.getfield 340, 3) := by decide +kernel
theorem dX9_room_41 : decode cX9_room 41 = .ok (.iload_n 2, 1) := by decide +kernel
theorem dX9_room_42 : decode cX9_room 42 = .ok (.iaload, 1) := by decide +kernel
theorem dX9_room_43 : decode cX9_room 43 = .ok (.ireturn, 1) := by decide +kernel
theorem dX9_count_0 : decode cX9_count 0 = .ok (.iload_n 1, 1) := by decide +kernel
theorem dX9_count_1 : decode cX9_count 1 = .ok (.bipush 11, 2) := by decide +kernel
theorem dX9_count_3 : decode cX9_count 3 = .ok (.if_icmp .lt 19, 3) := by decide +kernel
theorem dX9_count_6 : decode cX9_count 6 = .ok (.iload_n 1, 1) := by decide +kernel
theorem dX9_count_7 : decode cX9_count 7 = .ok (.bipush 17, 2) := by decide +kernel
theorem dX9_count_9 : decode cX9_count 9 = .ok (.if_icmp .gt 13, 3) := by decide +kernel
theorem dX9_count_12 : decode cX9_count 12 = .ok (.aload_n 0, 1) := by decide +kernel
theorem dX9_count_13 : decode cX9_count 13 = .ok (.getfield 58, 3) := by decide +kernel
theorem dX9_count_16 : decode cX9_count 16 = .ok (.iload_n 1, 1) := by decide +kernel
theorem dX9_count_17 : decode cX9_count 17 = .ok (.bipush 10, 2) := by decide +kernel
theorem dX9_count_19 : decode cX9_count 19 = .ok (.isub, 1) := by decide +kernel
theorem dX9_count_20 : decode cX9_count 20 = .ok (.iaload, 1) := by decide +kernel
theorem dX9_count_21 : decode cX9_count 21 = .ok (.ireturn, 1) := by decide +kernel
theorem dX9_count_22 : decode cX9_count 22 = .ok (.iload_n 1, 1) := by decide +kernel
theorem dX9_count_23 : decode cX9_count 23 = .ok (.tableswitch 157 0 9 #[53, 61, 69, 77, 85, 93, 109, 125, 141, 149], 53) := by decide +kernel
theorem dX9_count_76 : decode cX9_count 76 = .ok (.aload_n 0, 1) := by decide +kernel
theorem dX9_count_77 : decode cX9_count 77 = .ok (.getfield 12, 3) := by decide +kernel
theorem dX9_count_80 : decode cX9_count 80 = .ok (.getfield 67, 3) := by decide +kernel
theorem dX9_count_83 : decode cX9_count 83 = .ok (.ireturn, 1) := by decide +kernel
theorem dX9_count_84 : decode cX9_count 84 = .ok (.aload_n 0, 1) := by decide +kernel
theorem dX9_count_85 : decode cX9_count 85 = .ok (.getfield 12, 3) := by decide +kernel
theorem dX9_count_88 : decode cX9_count 88 = .ok (.getfield 83, 3) := by decide +kernel
theorem dX9_count_91 : decode cX9_count 91 = .ok (.ireturn, 1) := by decide +kernel
theorem dX9_count_92 : decode cX9_count 92 = .ok (.aload_n 0, 1) := by decide +kernel
theorem dX9_count_93 : decode cX9_count 93 = .ok (.getfield 12, 3) := by decide +kernel
theorem dX9_count_96 : decode cX9_count 96 = .ok (.invokevirtual 343, 3) := by decide +kernel
theorem dX9_count_99 : decode cX9_count 99 = .ok (.ireturn, 1) := by decide +kernel
theorem dX9_count_100 : decode cX9_count 100 = .ok (.aload_n 0, 1) := by decide +kernel
theorem dX9_count_101 : decode cX9_count 101 = .ok (.getfield 12, 3) := by decide +kernel
theorem dX9_count_104 : decode cX9_count 104 = .ok (.invokevirtual 346, 3) := by decide +kernel
theorem dX9_count_107 : decode cX9_count 107 = .ok (.ireturn, 1) := by decide +kernel
theorem dX9_count_108 : decode cX9_count 108 = .ok (.aload_n 0, 1) := by decide +kernel
theorem dX9_count_109 : decode cX9_count 109 = .ok (.getfield 12, 3) := by decide +kernel
theorem dX9_count_112 : decode cX9_count 112 = .ok (.getfield 107, 3) := by decide +kernel
theorem dX9_count_115 : decode cX9_count 115 = .ok (.ireturn, 1) := by decide +kernel
theorem dX9_count_116 : decode cX9_count 116 = .ok (.aload_n 0, 1) := by decide +kernel
theorem dX9_count_117 : decode cX9_count 117 = .ok (.getfield 12, 3) := by decide +kernel
theorem dX9_count_120 : decode cX9_count 120 = .ok (.invokevirtual 71, 3) := by decide +kernel
theorem dX9_count_123 : decode cX9_count 123 = .ok (.ifCond .eq 7, 3) := by decide +kernel
theorem dX9_count_126 : decode cX9_count 126 = .ok (.iconst 1, 1) := by decide +kernel
theorem dX9_count_127 : decode cX9_count 127 = .ok (.goto 4, 3) := by decide +kernel
theorem dX9_count_130 : decode cX9_count 130 = .ok (.iconst 0, 1) := by decide +kernel
theorem dX9_count_131 : decode cX9_count 131 = .ok (.ireturn, 1) := by decide +kernel
theorem dX9_count_132 : decode cX9_count 132 = .ok (.aload_n 0, 1) := by decide +kernel
theorem dX9_count_133 : decode cX9_count 133 = .ok (.getfield 47, 3) := by decide +kernel
theorem dX9_count_136 : decode cX9_count 136 = .ok (.getfield 266, 3) := by decide +kernel
theorem dX9_count_139 : decode cX9_count 139 = .ok (.ifCond .eq 7, 3) := by decide +kernel
theorem dX9_count_142 : decode cX9_count 142 = .ok (.iconst 1, 1) := by decide +kernel
theorem dX9_count_143 : decode cX9_count 143 = .ok (.goto 4, 3) := by decide +kernel
theorem dX9_count_146 : decode cX9_count 146 = .ok (.iconst 0, 1) := by decide +kernel
theorem dX9_count_147 : decode cX9_count 147 = .ok (.ireturn, 1) := by decide +kernel
theorem dX9_count_148 : decode cX9_count 148 = .ok (.aload_n 0, 1) := by decide +kernel
theorem dX9_count_149 : decode cX9_count 149 = .ok (.getfield 47, 3) := by decide +kernel
theorem dX9_count_152 : decode cX9_count 152 = .ok (.getfield 278, 3) := by decide +kernel
theorem dX9_count_155 : decode cX9_count 155 = .ok (.ifCond .eq 7, 3) := by decide +kernel
theorem dX9_count_158 : decode cX9_count 158 = .ok (.iconst 1, 1) := by decide +kernel
theorem dX9_count_159 : decode cX9_count 159 = .ok (.goto 4, 3) := by decide +kernel
theorem dX9_count_162 : decode cX9_count 162 = .ok (.iconst 0, 1) := by decide +kernel
theorem dX9_count_163 : decode cX9_count 163 = .ok (.ireturn, 1) := by decide +kernel
theorem dX9_count_164 : decode cX9_count 164 = .ok (.aload_n 0, 1) := by decide +kernel
theorem dX9_count_165 : decode cX9_count 165 = .ok (.getfield 47, 3) := by decide +kernel
theorem dX9_count_168 : decode cX9_count 168 = .ok (.invokevirtual 306, 3) := by decide +kernel
theorem dX9_count_171 : decode cX9_count 171 = .ok (.ireturn, 1) := by decide +kernel
theorem dX9_count_172 : decode cX9_count 172 = .ok (.aload_n 0, 1) := by decide +kernel
theorem dX9_count_173 : decode cX9_count 173 = .ok (.getfield 26, 3) := by decide +kernel
theorem dX9_count_176 : decode cX9_count 176 = .ok (.getfield 165, 3) := by decide +kernel
theorem dX9_count_179 : decode cX9_count 179 = .ok (.ireturn, 1) := by decide +kernel
theorem dX9_count_180 : decode cX9_count 180 = .ok (.bipush (-9), 2) := by decide +kernel
theorem dX9_count_182 : decode cX9_count 182 = .ok (.ireturn, 1) := by decide +kernel
theorem dX9_refuse_0 : decode cX9_refuse 0 = .ok (.iload_n 1, 1) := by decide +kernel
theorem dX9_refuse_1 : decode cX9_refuse 1 = .ok (.ifCond .ge 24, 3) := by decide +kernel
theorem dX9_refuse_4 : decode cX9_refuse 4 = .ok (.iload_n 1, 1) := by decide +kernel
theorem dX9_refuse_5 : decode cX9_refuse 5 = .ok (.ineg, 1) := by decide +kernel
theorem dX9_refuse_6 : decode cX9_refuse 6 = .ok (.aload_n 0, 1) := by decide +kernel
theorem dX9_refuse_7 : decode cX9_refuse 7 = .ok (.getfield 58, 3) := by decide +kernel
theorem dX9_refuse_10 : decode cX9_refuse 10 = .ok (.arraylength, 1) := by decide +kernel
theorem dX9_refuse_11 : decode cX9_refuse 11 = .ok (.if_icmp .ge 14, 3) := by decide +kernel
theorem dX9_refuse_14 : decode cX9_refuse 14 = .ok (.aload_n 0, 1) := by decide +kernel
theorem dX9_refuse_15 : decode cX9_refuse 15 = .ok (.getfield 58, 3) := by decide +kernel
theorem dX9_refuse_18 : decode cX9_refuse 18 = .ok (.iload_n 1, 1) := by decide +kernel
theorem dX9_refuse_19 : decode cX9_refuse 19 = .ok (.ineg, 1) := by decide +kernel
theorem dX9_refuse_20 : decode cX9_refuse 20 = .ok (.dup2, 1) := by decide +kernel
theorem dX9_refuse_21 : decode cX9_refuse 21 = .ok (.iaload, 1) := by decide +kernel
theorem dX9_refuse_22 : decode cX9_refuse 22 = .ok (.iconst 1, 1) := by decide +kernel
theorem dX9_refuse_23 : decode cX9_refuse 23 = .ok (.iadd, 1) := by decide +kernel
theorem dX9_refuse_24 : decode cX9_refuse 24 = .ok (.iastore, 1) := by decide +kernel
theorem dX9_refuse_25 : decode cX9_refuse 25 = .ok (.iload_n 1, 1) := by decide +kernel
theorem dX9_refuse_26 : decode cX9_refuse 26 = .ok (.ireturn, 1) := by decide +kernel
theorem dX9_refuseLong_0 : decode cX9_refuseLong 0 = .ok (.ldc2_w 349, 3) := by decide +kernel
theorem dX9_refuseLong_3 : decode cX9_refuseLong 3 = .ok (.aload_n 0, 1) := by decide +kernel
theorem dX9_refuseLong_4 : decode cX9_refuseLong 4 = .ok (.iload_n 1, 1) := by decide +kernel
theorem dX9_refuseLong_5 : decode cX9_refuseLong 5 = .ok (.invokevirtual 62, 3) := by decide +kernel
theorem dX9_refuseLong_8 : decode cX9_refuseLong 8 = .ok (.i2l, 1) := by decide +kernel
theorem dX9_refuseLong_9 : decode cX9_refuseLong 9 = .ok (.lsub, 1) := by decide +kernel
theorem dX9_refuseLong_10 : decode cX9_refuseLong 10 = .ok (.lreturn, 1) := by decide +kernel
theorem dX9_inRange_0 : decode cX9_inRange 0 = .ok (.iload_n 0, 1) := by decide +kernel
theorem dX9_inRange_1 : decode cX9_inRange 1 = .ok (.iload_n 1, 1) := by decide +kernel
theorem dX9_inRange_2 : decode cX9_inRange 2 = .ok (.if_icmp .ge 6, 3) := by decide +kernel
theorem dX9_inRange_5 : decode cX9_inRange 5 = .ok (.bipush (-4), 2) := by decide +kernel
theorem dX9_inRange_7 : decode cX9_inRange 7 = .ok (.ireturn, 1) := by decide +kernel
theorem dX9_inRange_8 : decode cX9_inRange 8 = .ok (.iload_n 0, 1) := by decide +kernel
theorem dX9_inRange_9 : decode cX9_inRange 9 = .ok (.iload_n 2, 1) := by decide +kernel
theorem dX9_inRange_10 : decode cX9_inRange 10 = .ok (.if_icmp .le 8, 3) := by decide +kernel
theorem dX9_inRange_13 : decode cX9_inRange 13 = .ok (.bipush (-6), 2) := by decide +kernel
theorem dX9_inRange_15 : decode cX9_inRange 15 = .ok (.goto 4, 3) := by decide +kernel
theorem dX9_inRange_18 : decode cX9_inRange 18 = .ok (.iconst 0, 1) := by decide +kernel
theorem dX9_inRange_19 : decode cX9_inRange 19 = .ok (.ireturn, 1) := by decide +kernel
theorem dX9_cell_0 : decode cX9_cell 0 = .ok (.iload_n 0, 1) := by decide +kernel
theorem dX9_cell_1 : decode cX9_cell 1 = .ok (.bipush 6, 2) := by decide +kernel
theorem dX9_cell_3 : decode cX9_cell 3 = .ok (.imul, 1) := by decide +kernel
theorem dX9_cell_4 : decode cX9_cell 4 = .ok (.iload_n 1, 1) := by decide +kernel
theorem dX9_cell_5 : decode cX9_cell 5 = .ok (.iadd, 1) := by decide +kernel
theorem dX9_cell_6 : decode cX9_cell 6 = .ok (.ireturn, 1) := by decide +kernel
theorem dX9_noBidder_0 : decode cX9_noBidder 0 = .ok (.iload_n 0, 1) := by decide +kernel
theorem dX9_noBidder_1 : decode cX9_noBidder 1 = .ok (.ifCond .lt 9, 3) := by decide +kernel
theorem dX9_noBidder_4 : decode cX9_noBidder 4 = .ok (.iload_n 0, 1) := by decide +kernel
theorem dX9_noBidder_5 : decode cX9_noBidder 5 = .ok (.bipush 8, 2) := by decide +kernel
theorem dX9_noBidder_7 : decode cX9_noBidder 7 = .ok (.if_icmp .lt 7, 3) := by decide +kernel
theorem dX9_noBidder_10 : decode cX9_noBidder 10 = .ok (.iconst 1, 1) := by decide +kernel
theorem dX9_noBidder_11 : decode cX9_noBidder 11 = .ok (.goto 4, 3) := by decide +kernel
theorem dX9_noBidder_14 : decode cX9_noBidder 14 = .ok (.iconst 0, 1) := by decide +kernel
theorem dX9_noBidder_15 : decode cX9_noBidder 15 = .ok (.ireturn, 1) := by decide +kernel
theorem dX9_noScorer_0 : decode cX9_noScorer 0 = .ok (.iload_n 0, 1) := by decide +kernel
theorem dX9_noScorer_1 : decode cX9_noScorer 1 = .ok (.ifCond .lt 9, 3) := by decide +kernel
theorem dX9_noScorer_4 : decode cX9_noScorer 4 = .ok (.iload_n 0, 1) := by decide +kernel
theorem dX9_noScorer_5 : decode cX9_noScorer 5 = .ok (.bipush 6, 2) := by decide +kernel
theorem dX9_noScorer_7 : decode cX9_noScorer 7 = .ok (.if_icmp .lt 7, 3) := by decide +kernel
theorem dX9_noScorer_10 : decode cX9_noScorer 10 = .ok (.iconst 1, 1) := by decide +kernel
theorem dX9_noScorer_11 : decode cX9_noScorer 11 = .ok (.goto 4, 3) := by decide +kernel
theorem dX9_noScorer_14 : decode cX9_noScorer 14 = .ok (.iconst 0, 1) := by decide +kernel
theorem dX9_noScorer_15 : decode cX9_noScorer 15 = .ok (.ireturn, 1) := by decide +kernel
theorem dX9_noPart_0 : decode cX9_noPart 0 = .ok (.iload_n 0, 1) := by decide +kernel
theorem dX9_noPart_1 : decode cX9_noPart 1 = .ok (.ifCond .lt 8, 3) := by decide +kernel
theorem dX9_noPart_4 : decode cX9_noPart 4 = .ok (.iload_n 0, 1) := by decide +kernel
theorem dX9_noPart_5 : decode cX9_noPart 5 = .ok (.iconst 1, 1) := by decide +kernel
theorem dX9_noPart_6 : decode cX9_noPart 6 = .ok (.if_icmp .le 7, 3) := by decide +kernel
theorem dX9_noPart_9 : decode cX9_noPart 9 = .ok (.iconst 1, 1) := by decide +kernel
theorem dX9_noPart_10 : decode cX9_noPart 10 = .ok (.goto 4, 3) := by decide +kernel
theorem dX9_noPart_13 : decode cX9_noPart 13 = .ok (.iconst 0, 1) := by decide +kernel
theorem dX9_noPart_14 : decode cX9_noPart 14 = .ok (.ireturn, 1) := by decide +kernel
theorem dX9_noLot_0 : decode cX9_noLot 0 = .ok (.iload_n 1, 1) := by decide +kernel
theorem dX9_noLot_1 : decode cX9_noLot 1 = .ok (.ifCond .lt 14, 3) := by decide +kernel
theorem dX9_noLot_4 : decode cX9_noLot 4 = .ok (.iload_n 1, 1) := by decide +kernel
theorem dX9_noLot_5 : decode cX9_noLot 5 = .ok (.aload_n 0, 1) := by decide +kernel
theorem dX9_noLot_6 : decode cX9_noLot 6 = .ok (.getfield 12, 3) := by decide +kernel
theorem dX9_noLot_9 : decode cX9_noLot 9 = .ok (.getfield 83, 3) := by decide +kernel
theorem dX9_noLot_12 : decode cX9_noLot 12 = .ok (.if_icmp .lt 7, 3) := by decide +kernel
theorem dX9_noLot_15 : decode cX9_noLot 15 = .ok (.iconst 1, 1) := by decide +kernel
theorem dX9_noLot_16 : decode cX9_noLot 16 = .ok (.goto 4, 3) := by decide +kernel
theorem dX9_noLot_19 : decode cX9_noLot 19 = .ok (.iconst 0, 1) := by decide +kernel
theorem dX9_noLot_20 : decode cX9_noLot 20 = .ok (.ireturn, 1) := by decide +kernel
theorem dX9_noBid_0 : decode cX9_noBid 0 = .ok (.iload_n 1, 1) := by decide +kernel
theorem dX9_noBid_1 : decode cX9_noBid 1 = .ok (.invokestatic 144, 3) := by decide +kernel
theorem dX9_noBid_4 : decode cX9_noBid 4 = .ok (.ifCond .ne 11, 3) := by decide +kernel
theorem dX9_noBid_7 : decode cX9_noBid 7 = .ok (.aload_n 0, 1) := by decide +kernel
theorem dX9_noBid_8 : decode cX9_noBid 8 = .ok (.iload_n 2, 1) := by decide +kernel
theorem dX9_noBid_9 : decode cX9_noBid 9 = .ok (.invokevirtual 193, 3) := by decide +kernel
theorem dX9_noBid_12 : decode cX9_noBid 12 = .ok (.ifCond .eq 7, 3) := by decide +kernel
theorem dX9_noBid_15 : decode cX9_noBid 15 = .ok (.iconst 1, 1) := by decide +kernel
theorem dX9_noBid_16 : decode cX9_noBid 16 = .ok (.goto 4, 3) := by decide +kernel
theorem dX9_noBid_19 : decode cX9_noBid 19 = .ok (.iconst 0, 1) := by decide +kernel
theorem dX9_noBid_20 : decode cX9_noBid 20 = .ok (.ireturn, 1) := by decide +kernel
theorem dX9_noPair_0 : decode cX9_noPair 0 = .ok (.aload_n 0, 1) := by decide +kernel
theorem dX9_noPair_1 : decode cX9_noPair 1 = .ok (.iload_n 1, 1) := by decide +kernel
theorem dX9_noPair_2 : decode cX9_noPair 2 = .ok (.invokevirtual 193, 3) := by decide +kernel
theorem dX9_noPair_5 : decode cX9_noPair 5 = .ok (.ifCond .ne 22, 3) := by decide +kernel
theorem dX9_noPair_8 : decode cX9_noPair 8 = .ok (.iload_n 2, 1) := by decide +kernel
theorem dX9_noPair_9 : decode cX9_noPair 9 = .ok (.invokestatic 144, 3) := by decide +kernel
theorem dX9_noPair_12 : decode cX9_noPair 12 = .ok (.ifCond .ne 15, 3) := by decide +kernel
theorem dX9_noPair_15 : decode cX9_noPair 15 = .ok (.iload_n 3, 1) := by decide +kernel
theorem dX9_noPair_16 : decode cX9_noPair 16 = .ok (.invokestatic 144, 3) := by decide +kernel
theorem dX9_noPair_19 : decode cX9_noPair 19 = .ok (.ifCond .ne 8, 3) := by decide +kernel
theorem dX9_noPair_22 : decode cX9_noPair 22 = .ok (.iload_n 2, 1) := by decide +kernel
theorem dX9_noPair_23 : decode cX9_noPair 23 = .ok (.iload_n 3, 1) := by decide +kernel
theorem dX9_noPair_24 : decode cX9_noPair 24 = .ok (.if_icmp .ne 7, 3) := by decide +kernel
theorem dX9_noPair_27 : decode cX9_noPair 27 = .ok (.iconst 1, 1) := by decide +kernel
theorem dX9_noPair_28 : decode cX9_noPair 28 = .ok (.goto 4, 3) := by decide +kernel
theorem dX9_noPair_31 : decode cX9_noPair 31 = .ok (.iconst 0, 1) := by decide +kernel
theorem dX9_noPair_32 : decode cX9_noPair 32 = .ok (.ireturn, 1) := by decide +kernel
theorem dX9_workPair_0 : decode cX9_workPair 0 = .ok (.aload_n 0, 1) := by decide +kernel
theorem dX9_workPair_1 : decode cX9_workPair 1 = .ok (.getfield 33, 3) := by decide +kernel
theorem dX9_workPair_4 : decode cX9_workPair 4 = .ok (.aload_n 0, 1) := by decide +kernel
theorem dX9_workPair_5 : decode cX9_workPair 5 = .ok (.getfield 12, 3) := by decide +kernel
theorem dX9_workPair_8 : decode cX9_workPair 8 = .ok (.aload_n 0, 1) := by decide +kernel
theorem dX9_workPair_9 : decode cX9_workPair 9 = .ok (.getfield 19, 3) := by decide +kernel
theorem dX9_workPair_12 : decode cX9_workPair 12 = .ok (.iload_n 1, 1) := by decide +kernel
theorem dX9_workPair_13 : decode cX9_workPair 13 = .ok (.iload 4, 2) := by decide +kernel
theorem dX9_workPair_15 : decode cX9_workPair 15 = .ok (.invokevirtual 154, 3) := by decide +kernel
theorem dX9_workPair_18 : decode cX9_workPair 18 = .ok (.aload_n 0, 1) := by decide +kernel
theorem dX9_workPair_19 : decode cX9_workPair 19 = .ok (.getfield 33, 3) := by decide +kernel
theorem dX9_workPair_22 : decode cX9_workPair 22 = .ok (.aload_n 0, 1) := by decide +kernel
theorem dX9_workPair_23 : decode cX9_workPair 23 = .ok (.getfield 26, 3) := by decide +kernel
theorem dX9_workPair_26 : decode cX9_workPair 26 = .ok (.iload_n 2, 1) := by decide +kernel
theorem dX9_workPair_27 : decode cX9_workPair 27 = .ok (.invokevirtual 180, 3) := by decide +kernel
theorem dX9_workPair_30 : decode cX9_workPair 30 = .ok (.aload_n 0, 1) := by decide +kernel
theorem dX9_workPair_31 : decode cX9_workPair 31 = .ok (.getfield 33, 3) := by decide +kernel
theorem dX9_workPair_34 : decode cX9_workPair 34 = .ok (.aload_n 0, 1) := by decide +kernel
theorem dX9_workPair_35 : decode cX9_workPair 35 = .ok (.getfield 26, 3) := by decide +kernel
theorem dX9_workPair_38 : decode cX9_workPair 38 = .ok (.iload_n 3, 1) := by decide +kernel
theorem dX9_workPair_39 : decode cX9_workPair 39 = .ok (.invokevirtual 180, 3) := by decide +kernel
theorem dX9_workPair_42 : decode cX9_workPair 42 = .ok (.return_, 1) := by decide +kernel
theorem dX9_findBest_0 : decode cX9_findBest 0 = .ok (.aload_n 0, 1) := by decide +kernel
theorem dX9_findBest_1 : decode cX9_findBest 1 = .ok (.getfield 40, 3) := by decide +kernel
theorem dX9_findBest_4 : decode cX9_findBest 4 = .ok (.invokevirtual 351, 3) := by decide +kernel
theorem dX9_findBest_7 : decode cX9_findBest 7 = .ok (.iconst 0, 1) := by decide +kernel
theorem dX9_findBest_8 : decode cX9_findBest 8 = .ok (.istore_n 1, 1) := by decide +kernel
theorem dX9_findBest_9 : decode cX9_findBest 9 = .ok (.iload_n 1, 1) := by decide +kernel
theorem dX9_findBest_10 : decode cX9_findBest 10 = .ok (.aload_n 0, 1) := by decide +kernel
theorem dX9_findBest_11 : decode cX9_findBest 11 = .ok (.getfield 12, 3) := by decide +kernel
theorem dX9_findBest_14 : decode cX9_findBest 14 = .ok (.getfield 83, 3) := by decide +kernel
theorem dX9_findBest_17 : decode cX9_findBest 17 = .ok (.if_icmp .ge 85, 3) := by decide +kernel
theorem dX9_findBest_20 : decode cX9_findBest 20 = .ok (.aload_n 0, 1) := by decide +kernel
theorem dX9_findBest_21 : decode cX9_findBest 21 = .ok (.getfield 33, 3) := by decide +kernel
theorem dX9_findBest_24 : decode cX9_findBest 24 = .ok (.aload_n 0, 1) := by decide +kernel
theorem dX9_findBest_25 : decode cX9_findBest 25 = .ok (.getfield 12, 3) := by decide +kernel
theorem dX9_findBest_28 : decode cX9_findBest 28 = .ok (.aload_n 0, 1) := by decide +kernel
theorem dX9_findBest_29 : decode cX9_findBest 29 = .ok (.getfield 19, 3) := by decide +kernel
theorem dX9_findBest_32 : decode cX9_findBest 32 = .ok (.iload_n 1, 1) := by decide +kernel
theorem dX9_findBest_33 : decode cX9_findBest 33 = .ok (.iconst (-1), 1) := by decide +kernel
theorem dX9_findBest_34 : decode cX9_findBest 34 = .ok (.invokevirtual 154, 3) := by decide +kernel
theorem dX9_findBest_37 : decode cX9_findBest 37 = .ok (.aload_n 0, 1) := by decide +kernel
theorem dX9_findBest_38 : decode cX9_findBest 38 = .ok (.getfield 33, 3) := by decide +kernel
theorem dX9_findBest_41 : decode cX9_findBest 41 = .ok (.aload_n 0, 1) := by decide +kernel
theorem dX9_findBest_42 : decode cX9_findBest 42 = .ok (.getfield 26, 3) := by decide +kernel
theorem dX9_findBest_45 : decode cX9_findBest 45 = .ok (.invokevirtual 196, 3) := by decide +kernel
theorem dX9_findBest_48 : decode cX9_findBest 48 = .ok (.iconst 0, 1) := by decide +kernel
theorem dX9_findBest_49 : decode cX9_findBest 49 = .ok (.istore_n 2, 1) := by decide +kernel
theorem dX9_findBest_50 : decode cX9_findBest 50 = .ok (.iload_n 2, 1) := by decide +kernel
theorem dX9_findBest_51 : decode cX9_findBest 51 = .ok (.aload_n 0, 1) := by decide +kernel
theorem dX9_findBest_52 : decode cX9_findBest 52 = .ok (.getfield 33, 3) := by decide +kernel
theorem dX9_findBest_55 : decode cX9_findBest 55 = .ok (.getfield 200, 3) := by decide +kernel
theorem dX9_findBest_58 : decode cX9_findBest 58 = .ok (.if_icmp .ge 38, 3) := by decide +kernel
theorem dX9_findBest_61 : decode cX9_findBest 61 = .ok (.aload_n 0, 1) := by decide +kernel
theorem dX9_findBest_62 : decode cX9_findBest 62 = .ok (.getfield 33, 3) := by decide +kernel
theorem dX9_findBest_65 : decode cX9_findBest 65 = .ok (.getfield 203, 3) := by decide +kernel
theorem dX9_findBest_68 : decode cX9_findBest 68 = .ok (.iload_n 2, 1) := by decide +kernel
theorem dX9_findBest_69 : decode cX9_findBest 69 = .ok (.iaload, 1) := by decide +kernel
theorem dX9_findBest_70 : decode cX9_findBest 70 = .ok (.istore_n 3, 1) := by decide +kernel
theorem dX9_findBest_71 : decode cX9_findBest 71 = .ok (.aload_n 0, 1) := by decide +kernel
theorem dX9_findBest_72 : decode cX9_findBest 72 = .ok (.getfield 40, 3) := by decide +kernel
theorem dX9_findBest_75 : decode cX9_findBest 75 = .ok (.iload_n 1, 1) := by decide +kernel
theorem dX9_findBest_76 : decode cX9_findBest 76 = .ok (.iload_n 3, 1) := by decide +kernel
theorem dX9_findBest_77 : decode cX9_findBest 77 = .ok (.iload_n 2, 1) := by decide +kernel
theorem dX9_findBest_78 : decode cX9_findBest 78 = .ok (.aload_n 0, 1) := by decide +kernel
theorem dX9_findBest_79 : decode cX9_findBest 79 = .ok (.getfield 33, 3) := by decide +kernel
theorem dX9_findBest_82 : decode cX9_findBest 82 = .ok (.getfield 354, 3) := by decide +kernel
theorem dX9_findBest_85 : decode cX9_findBest 85 = .ok (.iload_n 3, 1) := by decide +kernel
theorem dX9_findBest_86 : decode cX9_findBest 86 = .ok (.iaload, 1) := by decide +kernel
theorem dX9_findBest_87 : decode cX9_findBest 87 = .ok (.invokevirtual 357, 3) := by decide +kernel
theorem dX9_findBest_90 : decode cX9_findBest 90 = .ok (.iinc 2 1, 3) := by decide +kernel
theorem dX9_findBest_93 : decode cX9_findBest 93 = .ok (.goto (-43), 3) := by decide +kernel
theorem dX9_findBest_96 : decode cX9_findBest 96 = .ok (.iinc 1 1, 3) := by decide +kernel
theorem dX9_findBest_99 : decode cX9_findBest 99 = .ok (.goto (-90), 3) := by decide +kernel
theorem dX9_findBest_102 : decode cX9_findBest 102 = .ok (.aload_n 0, 1) := by decide +kernel
theorem dX9_findBest_103 : decode cX9_findBest 103 = .ok (.getfield 40, 3) := by decide +kernel
theorem dX9_findBest_106 : decode cX9_findBest 106 = .ok (.aload_n 0, 1) := by decide +kernel
theorem dX9_findBest_107 : decode cX9_findBest 107 = .ok (.getfield 12, 3) := by decide +kernel
theorem dX9_findBest_110 : decode cX9_findBest 110 = .ok (.getfield 83, 3) := by decide +kernel
theorem dX9_findBest_113 : decode cX9_findBest 113 = .ok (.invokevirtual 360, 3) := by decide +kernel
theorem dX9_findBest_116 : decode cX9_findBest 116 = .ok (.return_, 1) := by decide +kernel
theorem dX9_makeAnew_0 : decode cX9_makeAnew 0 = .ok (.iload_n 2, 1) := by decide +kernel
theorem dX9_makeAnew_1 : decode cX9_makeAnew 1 = .ok (.ifCond .ne 11, 3) := by decide +kernel
theorem dX9_makeAnew_4 : decode cX9_makeAnew 4 = .ok (.aload_n 0, 1) := by decide +kernel
theorem dX9_makeAnew_5 : decode cX9_makeAnew 5 = .ok (.getfield 26, 3) := by decide +kernel
theorem dX9_makeAnew_8 : decode cX9_makeAnew 8 = .ok (.invokevirtual 363, 3) := by decide +kernel
theorem dX9_makeAnew_11 : decode cX9_makeAnew 11 = .ok (.return_, 1) := by decide +kernel
theorem dX9_makeAnew_12 : decode cX9_makeAnew 12 = .ok (.aload_n 0, 1) := by decide +kernel
theorem dX9_makeAnew_13 : decode cX9_makeAnew 13 = .ok (.getfield 19, 3) := by decide +kernel
theorem dX9_makeAnew_16 : decode cX9_makeAnew 16 = .ok (.iload_n 1, 1) := by decide +kernel
theorem dX9_makeAnew_17 : decode cX9_makeAnew 17 = .ok (.invokevirtual 366, 3) := by decide +kernel
theorem dX9_makeAnew_20 : decode cX9_makeAnew 20 = .ok (.iload_n 2, 1) := by decide +kernel
theorem dX9_makeAnew_21 : decode cX9_makeAnew 21 = .ok (.iconst 2, 1) := by decide +kernel
theorem dX9_makeAnew_22 : decode cX9_makeAnew 22 = .ok (.if_icmp .ne 11, 3) := by decide +kernel
theorem dX9_makeAnew_25 : decode cX9_makeAnew 25 = .ok (.aload_n 0, 1) := by decide +kernel
theorem dX9_makeAnew_26 : decode cX9_makeAnew 26 = .ok (.getfield 12, 3) := by decide +kernel
theorem dX9_makeAnew_29 : decode cX9_makeAnew 29 = .ok (.iload_n 1, 1) := by decide +kernel
theorem dX9_makeAnew_30 : decode cX9_makeAnew 30 = .ok (.invokevirtual 369, 3) := by decide +kernel
theorem dX9_makeAnew_33 : decode cX9_makeAnew 33 = .ok (.return_, 1) := by decide +kernel
end
section
/-! ===== the words that hold at every call: those of the tables that last ===== -/
def lw_g : List Cond := lw_tbl.filter goodWord
theorem mg {w : Cond} (i : Nat) (h : lw_tbl[i]? = some w) (g : goodWord w = true) : w ∈ lw_g := List.mem_filter.mpr ⟨List.mem_of_getElem? h, g⟩
theorem good_1 {c : Cond} {ws : List Cond} (hc : c ∈ lw_g) (h : GoodIn lw_g ws) : GoodIn lw_g (c :: ws) := fun w hw => (List.mem_cons.mp hw).elim (fun e => e ▸ ⟨hc, good_of_word (List.mem_filter.mp hc).2⟩) (h w)
theorem good_g : GoodIn lw_g lw_g := fun _ h => ⟨h, good_of_word (List.mem_filter.mp h).2⟩
/-! ===== a state: whole fields, long fields, rows of ints, rows of longs ===== -/
abbrev SS : Type := (Nat → Int32) × (Nat → Int64) × (Nat → Nat → Int32) × (Nat → Nat → Int64)
def gI (u : SS) (k : Nat) : Int32 := u.1 k
def gJ (u : SS) (k : Nat) : Int64 := u.2.1 k
def gA (u : SS) (a : Nat) : Nat → Int32 := u.2.2.1 a
def gL (u : SS) (a : Nat) : Nat → Int64 := u.2.2.2 a
def sI (u : SS) (k : Nat) (v : Int32) : SS := (va_up u.1 k v, u.2)
def sJ (u : SS) (k : Nat) (v : Int64) : SS := (u.1, va_up u.2.1 k v, u.2.2)
def sA (u : SS) (a : Nat) (f : Nat → Int32) : SS := (u.1, u.2.1, va_up u.2.2.1 a f, u.2.2.2)
def sL (u : SS) (a : Nat) (f : Nat → Int64) : SS := (u.1, u.2.1, u.2.2.1, va_up u.2.2.2 a f)
def tA (u : SS) (a : Nat) (i : Int32) (x : Int32) : SS := sA u a (upd (gA u a) i.toNatClampNeg x)
def tZ (u : SS) (a : Nat) (i : Int32) (x : Int32) : SS := sA u a (upd (gA u a) i.toNatClampNeg (vp_nar .boolean x))
def tL (u : SS) (a : Nat) (i : Int32) (x : Int64) : SS := sL u a (vp_updL (gL u a) i.toNatClampNeg x)
/-! ===== what a method does, as a function: nothing where it would go wrong ===== -/
def lt {α β : Type} (e : α) (k : α → β) : β := k e
def ob {α β : Type} (o : Option (α × SS)) (k : α → SS → Option β) : Option β := match o with
  | none => none
  | some (a, u) => k a u
def ov {β : Type} (o : Option SS) (k : SS → Option β) : Option β := match o with
  | none => none
  | some u => k u
def oi {β : Type} (i : Int32) (n : Nat) (k : Option β) : Option β := if i < 0 ∨ n ≤ i.toNatClampNeg then none else k
theorem lt_some {α β : Type} {e : α} {k : α → Option β} {r : β} (h : lt e k = some r) : ∃ x, x = e ∧ k x = some r := ⟨e, rfl, h⟩
theorem ob_some {α β : Type} {o : Option (α × SS)} {k : α → SS → Option β} {r : β} (h : ob o k = some r) : ∃ a u, o = some (a, u) ∧ k a u = some r := by
  match o, h with
  | some (a, u), h => exact ⟨a, u, rfl, h⟩
theorem ov_some {β : Type} {o : Option SS} {k : SS → Option β} {r : β} (h : ov o k = some r) : ∃ u, o = some u ∧ k u = some r := by
  match o, h with
  | some u, h => exact ⟨u, rfl, h⟩
theorem oi_some {β : Type} {i : Int32} {n : Nat} {k : Option β} {r : β} (h : oi i n k = some r) : vp_in i n ∧ k = some r := by
  unfold oi at h
  by_cases c : i < 0 ∨ n ≤ i.toNatClampNeg
  · rw [if_pos c] at h; cases h
  · rw [if_neg c] at h; exact ⟨c, h⟩
theorem it_pos {β : Type} {c : Prop} [d : Decidable c] {a b : Option β} {r : β} (h : c) (e : (if c then a else b) = some r) : a = some r := by rw [if_pos h] at e; exact e
theorem it_neg {β : Type} {c : Prop} [d : Decidable c] {a b : Option β} {r : β} (h : ¬ c) (e : (if c then a else b) = some r) : b = some r := by rw [if_neg h] at e; exact e
theorem it_none {β : Type} {c : Prop} [d : Decidable c] {b : Option β} {r : β} (e : (if c then none else b) = some r) : ¬ c ∧ b = some r := by
  by_cases h : c
  · rw [if_pos h] at e; cases e
  · rw [if_neg h] at e; exact ⟨h, e⟩
theorem bo_nar {v : Int32} (h : ¬ ¬ (v = 0 ∨ v = 1)) : narrow .boolean (.int v) = .int v := by
  rcases Classical.not_not.mp h with h | h <;> subst h <;> decide +kernel
theorem bo_fit {v : Int32} (h : ¬ ¬ (v = 0 ∨ v = 1)) : fits .boolean (.int v) = true := by
  rcases Classical.not_not.mp h with h | h <;> subst h <;> decide +kernel
/-! ===== worlds ===== -/
abbrev EV : Type := va_G × (Nat → Nat) × (Nat → ClassId) × Nat
def tyl (ev : EV) : List (ClassId × FieldType) := [(ev.2.2.1 0, .int), (ev.2.2.1 1, .long), (ev.2.2.1 2, .boolean)]
abbrev WD : Type := (EV → SS → va_W) × Nat × (EV → (Nat → Prop) → State → Prop)
def aN (n : Nat) (ev : EV) (sz : Nat) : Nat → Prop := fun q => (∃ k, k < n ∧ q = ev.2.1 k) ∨ sz ≤ q
theorem aN_mono {n : Nat} {ev : EV} {a b q : Nat} (h : a ≤ b) (hq : aN n ev b q) : aN n ev a q := hq.elim Or.inl (fun z => Or.inr (Nat.le_trans h z))
theorem aN_lt {n : Nat} {ev : EV} {a b q : Nat} (hl : q < b) (hq : aN n ev b q) : aN n ev a q := hq.elim Or.inl (fun z => absurd z (Nat.not_le.mpr hl))
def wOK (wd : WD) : Prop :=
  (∀ (ev : EV) (A B : Nat → Prop) (s U : State), wd.2.2 ev A s → s.WarmedH U.vm → (∀ a : Nat, a < s.heap.size → ¬ A a → U.heap[a]? = s.heap[a]?) → (∀ q, B q → A q) → wd.2.2 ev B U) ∧
  (∀ (ev : EV) (A : Nat → Prop) (s U : State), wd.2.2 ev A s → s.vm = U.vm → U.heap = s.heap → wd.2.2 ev A U) ∧
  (∀ (ev : EV) (u : SS) (k : Nat) (q : Nat × va_E), (wd.1 ev u)[k]? = some q → ∃ j, j < wd.2.1 ∧ q.1 = ev.2.1 j)
def PW (wd : WD) (ev : EV) (sz : Nat) (u : SS) (U : State) : Prop := U.heap.size = sz ∧ va_P ev.1 vwCl (wd.1 ev u) U.heap ∧ va_K ev.1 vwCl (tyl ev) U ∧ va_D (aN wd.2.1 ev sz) (wd.1 ev u) ∧ wd.2.2 ev (aN wd.2.1 ev sz) U
def QB (wd : WD) (ev : EV) (sz : Nat) (u : SS) (t : State) : Prop := va_P ev.1 vwCl (wd.1 ev u) t.heap ∧ va_K ev.1 vwCl (tyl ev) t ∧ va_D (aN wd.2.1 ev sz) (wd.1 ev u)
def rmk (d : Nat) : Room := { frames := d, cells := 0, slots := 0, locals := 40 * d }
def MI (wd : WD) (l : Launch) (y : MethodName) (c : ByteArray) (mL : Nat) (rt : Option FieldType) (d : Nat) (ev : EV) (av : List Value) (u : SS) (r : Int32) (u' : SS) : Prop := ∀ sz : Nat, Met l y (Cond.code y c mL rt :: lw_g) (rmk d) (va_Pc av (PW wd ev sz u)) (va_Qi (fun x z => x = r ∧ z = u') (QB wd ev sz) (aN wd.2.1 ev sz)) 0 0 (aN wd.2.1 ev sz)
def ML (wd : WD) (l : Launch) (y : MethodName) (c : ByteArray) (mL : Nat) (rt : Option FieldType) (d : Nat) (ev : EV) (av : List Value) (u : SS) (r : Int64) (u' : SS) : Prop := ∀ sz : Nat, Met l y (Cond.code y c mL rt :: lw_g) (rmk d) (va_Pc av (PW wd ev sz u)) (va_Ql (fun x z => x = r ∧ z = u') (QB wd ev sz) (aN wd.2.1 ev sz)) 0 0 (aN wd.2.1 ev sz)
def MV (wd : WD) (l : Launch) (y : MethodName) (c : ByteArray) (mL : Nat) (rt : Option FieldType) (d : Nat) (ev : EV) (av : List Value) (u : SS) (u' : SS) : Prop := ∀ sz : Nat, Met l y (Cond.code y c mL rt :: lw_g) (rmk d) (va_Pc av (PW wd ev sz u)) (va_Qv (fun z => z = u') (QB wd ev sz) (aN wd.2.1 ev sz)) 0 0 (aN wd.2.1 ev sz)
def VW (wd : WD) (ev : EV) (s : State) (u : SS) (H : Heap) (locs : List Loc) : Prop := va_P ev.1 vwCl (wd.1 ev u) H ∧ va_D (aN wd.2.1 ev s.heap.size) (wd.1 ev u) ∧ va_S (aN wd.2.1 ev s.heap.size) s.heap H locs
theorem VW.nm {wd : WD} {ev : EV} {s : State} {u v : SS} {H : Heap} {locs : List Loc} (e : v = u) (h : VW wd ev s u H locs) : VW wd ev s v H locs := e ▸ h
def CX (wd : WD) (ev : EV) (p : Program) (s : State) (m : MethodId) (c : Code) (cc : ByteArray) (nL : Nat) (own : String) (args : Array Value) : Prop := p.tables.exec = Jvm.exec ∧ c.code = cc ∧ c.maxLocals = nL ∧ s.vm.findClass own = some m.cls ∧ (∀ w ∈ lw_g, w.before args s = true) ∧ va_K ev.1 vwCl (tyl ev) s ∧ wd.2.2 ev (aN wd.2.1 ev s.heap.size) s
def ZI (wd : WD) (ev : EV) (s : State) (below : List Frame) (a : Array Value) (r : Int32) (u' : SS) : State → Prop := MQ below (va_Qi (fun x z => x = r ∧ z = u') (QB wd ev s.heap.size) (aN wd.2.1 ev s.heap.size)) a s 0 0 (aN wd.2.1 ev s.heap.size)
def ZL (wd : WD) (ev : EV) (s : State) (below : List Frame) (a : Array Value) (r : Int64) (u' : SS) : State → Prop := MQ below (va_Ql (fun x z => x = r ∧ z = u') (QB wd ev s.heap.size) (aN wd.2.1 ev s.heap.size)) a s 0 0 (aN wd.2.1 ev s.heap.size)
def ZV (wd : WD) (ev : EV) (s : State) (below : List Frame) (a : Array Value) (u' : SS) : State → Prop := MQ below (va_Qv (fun z => z = u') (QB wd ev s.heap.size) (aN wd.2.1 ev s.heap.size)) a s 0 0 (aN wd.2.1 ev s.heap.size)
/-! ===== a method's body ===== -/
section BODY
variable {wd : WD} {l : Launch} {y : MethodName} {c : ByteArray} {mL d : Nat} {rt : Option FieldType} {ev : EV} {av : List Value} {u u' : SS} {own : String}
theorem bodyI {r : Int32} (hy : plainName y.cls = true) (ho : y.cls = own) (hn : (lg_sl av).length ≤ mL)
    (body : ∀ (p : Program) (e : Env) (s : State) (m : MethodId) (below : List Frame) (meth : Method) (cd : Code) (ls : Array Slot) (H : Heap) (locs : List Loc), CX wd ev p s m cd c mL own av.toArray → meth.sig.returnType = rt → meth.locks = false → VW wd ev s u H locs → lv_has ls mL (lv_args 0 av) →
      W p l e (rmk d) s m av.toArray below meth cd H locs 0 0 (ZI wd ev s below av.toArray r u') (F0 m 0 ls [])) : MI wd l y c mL rt d ev av u r u' := by
  intro sz
  refine Met.ofW (cc := c) (maxL := mL) (ret := rt) hy rfl ?_
  intro p e s m args below meth cd s₁ B hml hv
  obtain ⟨rfl, rfl, hP, hK, hD, hZ⟩ := hv
  have hts := atoms_spec (ws := Cond.code y c mL rt :: lw_g) B.pre
  rw [lg_entry_eq]
  exact body p e s m below meth cd _ s.heap [] ⟨B.exec, B.bytes, hml, ho ▸ findClass_of_methodNamed B.named, fun w h => hts w (List.mem_cons_of_mem _ h), hK, hZ⟩ B.returns B.notSynchronized ⟨hP, hD, va_S.rf⟩ (lv_entry av hn)
theorem bodyL {r : Int64} (hy : plainName y.cls = true) (ho : y.cls = own) (hn : (lg_sl av).length ≤ mL)
    (body : ∀ (p : Program) (e : Env) (s : State) (m : MethodId) (below : List Frame) (meth : Method) (cd : Code) (ls : Array Slot) (H : Heap) (locs : List Loc), CX wd ev p s m cd c mL own av.toArray → meth.sig.returnType = rt → meth.locks = false → VW wd ev s u H locs → lv_has ls mL (lv_args 0 av) →
      W p l e (rmk d) s m av.toArray below meth cd H locs 0 0 (ZL wd ev s below av.toArray r u') (F0 m 0 ls [])) : ML wd l y c mL rt d ev av u r u' := by
  intro sz
  refine Met.ofW (cc := c) (maxL := mL) (ret := rt) hy rfl ?_
  intro p e s m args below meth cd s₁ B hml hv
  obtain ⟨rfl, rfl, hP, hK, hD, hZ⟩ := hv
  have hts := atoms_spec (ws := Cond.code y c mL rt :: lw_g) B.pre
  rw [lg_entry_eq]
  exact body p e s m below meth cd _ s.heap [] ⟨B.exec, B.bytes, hml, ho ▸ findClass_of_methodNamed B.named, fun w h => hts w (List.mem_cons_of_mem _ h), hK, hZ⟩ B.returns B.notSynchronized ⟨hP, hD, va_S.rf⟩ (lv_entry av hn)
theorem bodyV (hy : plainName y.cls = true) (ho : y.cls = own) (hn : (lg_sl av).length ≤ mL)
    (body : ∀ (p : Program) (e : Env) (s : State) (m : MethodId) (below : List Frame) (meth : Method) (cd : Code) (ls : Array Slot) (H : Heap) (locs : List Loc), CX wd ev p s m cd c mL own av.toArray → meth.sig.returnType = rt → meth.locks = false → VW wd ev s u H locs → lv_has ls mL (lv_args 0 av) →
      W p l e (rmk d) s m av.toArray below meth cd H locs 0 0 (ZV wd ev s below av.toArray u') (F0 m 0 ls [])) : MV wd l y c mL rt d ev av u u' := by
  intro sz
  refine Met.ofW (cc := c) (maxL := mL) (ret := rt) hy rfl ?_
  intro p e s m args below meth cd s₁ B hml hv
  obtain ⟨rfl, rfl, hP, hK, hD, hZ⟩ := hv
  have hts := atoms_spec (ws := Cond.code y c mL rt :: lw_g) B.pre
  rw [lg_entry_eq]
  exact body p e s m below meth cd _ s.heap [] ⟨B.exec, B.bytes, hml, ho ▸ findClass_of_methodNamed B.named, fun w h => hts w (List.mem_cons_of_mem _ h), hK, hZ⟩ B.returns B.notSynchronized ⟨hP, hD, va_S.rf⟩ (lv_entry av hn)
end BODY
/-! ===== ends, calls ===== -/
section ROWS
variable {wd : WD} {ev : EV} {p : Program} {l : Launch} {e : Env} {R : Room} {s : State} {m : MethodId} {args : Array Value} {below : List Frame} {meth : Method} {c : Code} {cc : ByteArray} {nL : Nat} {own : String} {H : Heap} {locs : List Loc} {Q : State → Prop} {pc : Nat} {ls : Array Slot} {u u' u1 : SS}
theorem tope {rest : List Value} {x x' : Int32} (h : x' = x) (k : W p l e R s m args below meth c H locs 0 0 Q (F0 m pc ls (.int x' :: rest))) : W p l e R s m args below meth c H locs 0 0 Q (F0 m pc ls (.int x :: rest)) := h ▸ k
theorem topel {rest : List Value} {x x' : Int64} (h : x' = x) (k : W p l e R s m args below meth c H locs 0 0 Q (F0 m pc ls (.long x' :: rest))) : W p l e R s m args below meth c H locs 0 0 Q (F0 m pc ls (.long x :: rest)) := h ▸ k
theorem retI {r v : Int32} (hc : CX wd ev p s m c cc nL own args) (hr : meth.sig.returnType = some .int) (hlk : meth.locks = false) (hw : VW wd ev s u H locs) (hf : (some (v, u) : Option (Int32 × SS)) = some (r, u')) (hd : decode cc pc = .ok (.ireturn, 1)) : W p l e R s m args below meth c H locs 0 0 (ZI wd ev s below args r u') (F0 m pc ls [.int v]) := by
  obtain ⟨rfl, rfl⟩ := Prod.mk.inj (Option.some.inj hf)
  exact W.iret hc.1 hc.2.1 hr (fun t ht hW => ⟨⟨v, u, rfl, ⟨rfl, rfl⟩, by rw [ht]; exact hw.1, va_K.moved hW.alike hc.2.2.2.2.2.1, hw.2.1⟩, hw.2.2.F ht⟩) hw.2.2.2.2 hd hlk
theorem retZ {r v : Int32} (hc : CX wd ev p s m c cc nL own args) (hr : meth.sig.returnType = some .boolean) (hlk : meth.locks = false) (hw : VW wd ev s u H locs) (hn : narrow .boolean (.int v) = .int v) (hf : (some (v, u) : Option (Int32 × SS)) = some (r, u')) (hd : decode cc pc = .ok (.ireturn, 1)) : W p l e R s m args below meth c H locs 0 0 (ZI wd ev s below args r u') (F0 m pc ls [.int v]) := by
  obtain ⟨rfl, rfl⟩ := Prod.mk.inj (Option.some.inj hf)
  exact W.zret hc.1 hc.2.1 hr hn (fun t ht hW => ⟨⟨v, u, rfl, ⟨rfl, rfl⟩, by rw [ht]; exact hw.1, va_K.moved hW.alike hc.2.2.2.2.2.1, hw.2.1⟩, hw.2.2.F ht⟩) hw.2.2.2.2 hd hlk
theorem retL {r v : Int64} (hc : CX wd ev p s m c cc nL own args) (hr : meth.sig.returnType = some .long) (hlk : meth.locks = false) (hw : VW wd ev s u H locs) (hf : (some (v, u) : Option (Int64 × SS)) = some (r, u')) (hd : decode cc pc = .ok (.lreturn, 1)) : W p l e R s m args below meth c H locs 0 0 (ZL wd ev s below args r u') (F0 m pc ls [.long v]) := by
  obtain ⟨rfl, rfl⟩ := Prod.mk.inj (Option.some.inj hf)
  exact W.lret hc.1 hc.2.1 hr (fun t ht hW => ⟨⟨v, u, rfl, ⟨rfl, rfl⟩, by rw [ht]; exact hw.1, va_K.moved hW.alike hc.2.2.2.2.2.1, hw.2.1⟩, hw.2.2.F ht⟩) hw.2.2.2.2 hd hlk
theorem retV (hc : CX wd ev p s m c cc nL own args) (hr : meth.sig.returnType = none) (hlk : meth.locks = false) (hw : VW wd ev s u H locs) (hf : (some u : Option SS) = some u') (hd : decode cc pc = .ok (.return_, 1)) : W p l e R s m args below meth c H locs 0 0 (ZV wd ev s below args u') (F0 m pc ls []) := by
  obtain rfl := Option.some.inj hf
  exact W.vret hc.1 hc.2.1 hr (fun t ht hW => ⟨⟨u, rfl, rfl, by rw [ht]; exact hw.1, va_K.moved hW.alike hc.2.2.2.2.2.1, hw.2.1⟩, hw.2.2.F ht⟩) hw.2.2.2.2 hd hlk
/-- what a callee needs: its words -/
def lkV (y : MethodName) (bytes : ByteArray) (maxL : Nat) (rt : Option FieldType) (n : Nat) : Prop := Cond.instanceMethod y ∈ lw_g ∧ Cond.selects y.cls y y ∈ lw_g ∧ Cond.initialized y.cls ∈ lw_g ∧ Cond.code y bytes maxL rt ∈ lw_g ∧ (y.cls ≠ "java/lang/invoke/MethodHandle" ∧ y.cls ≠ "java/lang/invoke/VarHandle" ∧ (parseMethodDescriptor y.desc).map (fun d => d.parameters.length) = some n)
def lkS (y : MethodName) (bytes : ByteArray) (maxL : Nat) (rt : Option FieldType) (n : Nat) : Prop := Cond.static y ∈ lw_g ∧ Cond.initialized y.cls ∈ lw_g ∧ Cond.code y bytes maxL rt ∈ lw_g ∧ (y.cls ≠ "java/lang/invoke/MethodHandle" ∧ y.cls ≠ "java/lang/invoke/VarHandle" ∧ (parseMethodDescriptor y.desc).map (fun d => d.parameters.length) = some n)
def RV (wd : WD) (ev : EV) (u : SS) (b : Nat) (C : String) : Prop := ∃ (q0 ci : Nat) (fs : List Value) (q : vw_C), (wd.1 ev u)[q0]? = some (b, .inr (ci, fs)) ∧ vwCl[ci]? = some q ∧ q.1 = C
theorem PW_blind (ok : wOK wd) {sz : Nat} {av : List Value} : FrameBlind (va_Pc av (PW wd ev sz u)) := by
  intro a U g mk q
  obtain ⟨q0, q1, qP, qK, qD, qZ⟩ := q
  exact ⟨q0, q1, qP, va_K.moved (u := U) (U := U.calling g mk a) (Vm.Alike.refl U.vm) qK, qD, ok.2.1 ev _ U _ qZ rfl rfl⟩
theorem PW_at (ok : wOK wd) (hc : CX wd ev p s m c cc nL own args) (hw : VW wd ev s u H locs) {U : State} (hU : U.heap = H) (hW : s.WarmedH U.vm) : PW wd ev H.size u U := by
  refine ⟨by rw [hU], by rw [hU]; exact hw.1, va_K.moved hW.alike hc.2.2.2.2.2.1, ⟨hw.2.1.1, fun k q hk => ?_⟩, ok.1 ev _ _ s U hc.2.2.2.2.2.2 hW (fun a h1 h2 => by rw [hU]; exact hw.2.2.2.1 a h1 h2) (fun q hq => aN_mono hw.2.2.1 hq)⟩
  obtain ⟨j, hj, e⟩ := ok.2.2 ev u k q hk
  exact Or.inl ⟨j, hj, e⟩
theorem VW_back (ok : wOK wd) (hw : VW wd ev s u H locs) {t : State} {H1 : Heap} {locs1 : List Loc} (ht : t.heap = H1) (hB : QB wd ev H.size u1 t) (hS : va_S (aN wd.2.1 ev s.heap.size) s.heap H1 locs1) : VW wd ev s u1 H1 locs1 := by
  refine ⟨by rw [← ht]; exact hB.1, ⟨hB.2.2.1, fun k q hk => ?_⟩, hS⟩
  obtain ⟨j, hj, e⟩ := ok.2.2 ev u1 k q hk
  exact Or.inl ⟨j, hj, e⟩
variable {y : MethodName} {bytes : ByteArray} {maxL d n index : Nat} {rt : Option FieldType} {b : Nat} {As rest stk : List Value}
theorem runV_ok {Qc : Array Value → State → Outcome → State → Prop} (ok : wOK wd) (hc : CX wd ev p s m c cc nL own args) (hw : VW wd ev s u H locs) (hM : Met l y (Cond.code y bytes maxL rt :: lw_g) (rmk d) (va_Pc (.ref b :: As) (PW wd ev H.size u)) Qc 0 0 (aN wd.2.1 ev H.size)) (hk : lkV y bytes maxL rt n) (hl : Cond.methodLink own index y ∈ lw_g) (hv : RV wd ev u b y.cls) (hsz : ls.size = nL) (hn : As.length = n) (hst : stk = As.reverse ++ .ref b :: rest) (hrm : (rest.map fun v => v.category).sum ≤ 8) (hR : (rmk d).frames + 1 ≤ R.frames ∧ 8 + (maxL + 11) + (rmk d).locals ≤ R.locals) (hd : decode cc pc = .ok (.invokevirtual index, 3)) :
    va_Run p l e R s m args below meth c H locs 0 0 0 0 (F0 m pc ls stk) rest (Qc (Value.ref b :: As).toArray) (aN wd.2.1 ev H.size) := by
  obtain ⟨h1, h2, h3, h4, h5⟩ := hk
  obtain ⟨q0, ci, fs, q, g1, g2, g3⟩ := hv
  have hcw : CallW R s args own y.cls index y bytes maxL rt (Cond.code y bytes maxL rt :: lw_g) (rmk d) 0 0 n :=
    cwV n hc.2.2.2.2.1 (good_1 hl (good_1 h1 (good_1 h2 (good_1 h3 (good_1 h4 good_g))))) rfl rfl rfl ⟨rfl, h5⟩ hR
  exact va_runV (As := As) (rest := rest) ⟨hc.1, hc.2.1, hc.2.2.1, hc.2.2.2.1, hc.2.2.2.2.1⟩ hM hcw ⟨PW_blind ok, g3 ▸ va_recv hc.2.2.2.2.2.1 hw.1 g2 g1, fun U hU hW => ⟨rfl, PW_at ok hc hw hU hW⟩⟩ rfl hn hsz hst (lv_room hrm) hd ⟨Nat.zero_le _, Nat.zero_le _⟩
theorem runS_ok {Qc : Array Value → State → Outcome → State → Prop} (ok : wOK wd) (hc : CX wd ev p s m c cc nL own args) (hw : VW wd ev s u H locs) (hM : Met l y (Cond.code y bytes maxL rt :: lw_g) (rmk d) (va_Pc As (PW wd ev H.size u)) Qc 0 0 (aN wd.2.1 ev H.size)) (hk : lkS y bytes maxL rt n) (hl : Cond.methodLink own index y ∈ lw_g) (hsz : ls.size = nL) (hn : As.length = n) (hst : stk = As.reverse ++ rest) (hrm : (rest.map fun v => v.category).sum ≤ 8) (hR : (rmk d).frames + 1 ≤ R.frames ∧ 8 + (maxL + 11) + (rmk d).locals ≤ R.locals) (hd : decode cc pc = .ok (.invokestatic index, 3)) :
    va_Run p l e R s m args below meth c H locs 0 0 0 0 (F0 m pc ls stk) rest (Qc As.toArray) (aN wd.2.1 ev H.size) := by
  obtain ⟨h1, h3, h4, h5⟩ := hk
  have hcw := va_cwS (R := R) (own := own) (index := index) (rm := rmk d) (ret := rt) (maxL := maxL) (bytes := bytes) (mc := 0) (ms := 0) (ws := Cond.code y bytes maxL rt :: lw_g) n hc.2.2.2.2.1 (good_1 hl (good_1 h1 (good_1 h3 (good_1 h4 good_g)))) rfl rfl rfl h5 hR
  exact va_runS (As := As) (rest := rest) ⟨hc.1, hc.2.1, hc.2.2.1, hc.2.2.2.1, hc.2.2.2.2.1⟩ hM hcw ⟨PW_blind ok, fun U hU hW => ⟨rfl, PW_at ok hc hw hU hW⟩⟩ rfl hn hsz hst (lv_room hrm) hd ⟨Nat.zero_le _, Nat.zero_le _⟩
theorem runN_ok {Qc : Array Value → State → Outcome → State → Prop} {host : String} (ok : wOK wd) (hc : CX wd ev p s m c cc nL own args) (hw : VW wd ev s u H locs) (hM : Met l y (Cond.code y bytes maxL rt :: lw_g) (rmk d) (va_Pc As (PW wd ev H.size u)) Qc 0 0 (aN wd.2.1 ev H.size)) (hk : lkS y bytes maxL rt n) (hl : va_Nw (.methodLinkNest own index y host) s) (hsz : ls.size = nL) (hn : As.length = n) (hst : stk = As.reverse ++ rest) (hrm : (rest.map fun v => v.category).sum ≤ 8) (hR : (rmk d).frames + 1 ≤ R.frames ∧ 8 + (maxL + 11) + (rmk d).locals ≤ R.locals) (hd : decode cc pc = .ok (.invokestatic index, 3)) :
    va_Run p l e R s m args below meth c H locs 0 0 0 0 (F0 m pc ls stk) rest (Qc As.toArray) (aN wd.2.1 ev H.size) := by
  obtain ⟨h1, h3, h4, h5⟩ := hk
  exact va_runSN (As := As) (rest := rest) (host := host) ⟨hc.1, hc.2.1, hc.2.2.1, hc.2.2.2.1, hc.2.2.2.2.1⟩ hM ⟨va_cnB (ret := rt) n hc.2.2.2.2.1 (good_1 h4 good_g) rfl rfl rfl hl (hc.2.2.2.2.1 _ h3) h5 hR, hc.2.2.2.2.1 _ h1, trivial⟩ ⟨PW_blind ok, fun U hU hW => ⟨rfl, PW_at ok hc hw hU hW⟩⟩ rfl hn hsz hst (lv_room hrm) hd ⟨Nat.zero_le _, Nat.zero_le _⟩
theorem endI {r : Int32} {a : Array Value} (ok : wOK wd) (hw : VW wd ev s u H locs) (hr : va_Run p l e R s m args below meth c H locs 0 0 0 0 (F0 m pc ls stk) rest (va_Qi (fun x z => x = r ∧ z = u1) (QB wd ev H.size) (aN wd.2.1 ev H.size) a) (aN wd.2.1 ev H.size)) (k : ∀ (H1 : Heap) (locs1 : List Loc), VW wd ev s u1 H1 locs1 → W p l e R s m args below meth c H1 locs1 0 0 Q (F0 m (pc + 3) ls (.int r :: rest))) : W p l e R s m args below meth c H locs 0 0 Q (F0 m pc ls stk) := by
  refine va_calli hr hw.2.2 (fun q h1 h2 => aN_lt h1 h2) (fun q h => aN_mono hw.2.2.1 h) (fun x z t H1 locs1 ht hvm hp hB hz hk hS => ?_)
  obtain ⟨rfl, rfl⟩ := hp
  exact k H1 locs1 (VW_back ok hw ht hB hS)
theorem endL {r : Int64} {a : Array Value} (ok : wOK wd) (hw : VW wd ev s u H locs) (hr : va_Run p l e R s m args below meth c H locs 0 0 0 0 (F0 m pc ls stk) rest (va_Ql (fun x z => x = r ∧ z = u1) (QB wd ev H.size) (aN wd.2.1 ev H.size) a) (aN wd.2.1 ev H.size)) (k : ∀ (H1 : Heap) (locs1 : List Loc), VW wd ev s u1 H1 locs1 → W p l e R s m args below meth c H1 locs1 0 0 Q (F0 m (pc + 3) ls (.long r :: rest))) : W p l e R s m args below meth c H locs 0 0 Q (F0 m pc ls stk) := by
  refine va_calll hr hw.2.2 (fun q h1 h2 => aN_lt h1 h2) (fun q h => aN_mono hw.2.2.1 h) (fun x z t H1 locs1 ht hvm hp hB hz hk hS => ?_)
  obtain ⟨rfl, rfl⟩ := hp
  exact k H1 locs1 (VW_back ok hw ht hB hS)
theorem endV {a : Array Value} (ok : wOK wd) (hw : VW wd ev s u H locs) (hr : va_Run p l e R s m args below meth c H locs 0 0 0 0 (F0 m pc ls stk) rest (va_Qv (fun z => z = u1) (QB wd ev H.size) (aN wd.2.1 ev H.size) a) (aN wd.2.1 ev H.size)) (k : ∀ (H1 : Heap) (locs1 : List Loc), VW wd ev s u1 H1 locs1 → W p l e R s m args below meth c H1 locs1 0 0 Q (F0 m (pc + 3) ls rest)) : W p l e R s m args below meth c H locs 0 0 Q (F0 m pc ls stk) := by
  refine va_callv hr hw.2.2 (fun q h1 h2 => aN_lt h1 h2) (fun q h => aN_mono hw.2.2.1 h) (fun z t H1 locs1 ht hvm hp hB hz hk hS => ?_)
  obtain rfl := hp
  exact k H1 locs1 (VW_back ok hw ht hB hS)
end ROWS
end
section
theorem in_g {ws : List Cond} (ps : List Nat) (hp : ws = ps.filterMap (fun i => lw_tbl[i]?)) (h : ws.all goodWord = true) : ∀ w ∈ ws, w ∈ lw_g := by
  intro w hw
  have h1 := List.all_eq_true.mp h w hw
  rw [hp] at hw
  obtain ⟨i, -, hi⟩ := List.mem_filterMap.mp hw
  exact mg i hi h1
theorem rm_le {a b mL : Nat} (h : a < b) (hm : mL ≤ 21) : (rmk a).frames + 1 ≤ (rmk b).frames ∧ 8 + (mL + 11) + (rmk a).locals ≤ (rmk b).locals := by
  refine ⟨h, ?_⟩
  show 8 + (mL + 11) + 40 * a ≤ 40 * b
  omega
theorem nz0 : narrow .boolean (.int 0) = .int 0 := by decide +kernel
theorem nz1 : narrow .boolean (.int 1) = .int 1 := by decide +kernel
theorem fz0 : fits .boolean (.int 0) = true := by decide +kernel
theorem fz1 : fits .boolean (.int 1) = true := by decide +kernel
def wB (ev : EV) (u : SS) : va_W := [(ev.2.1 0, .inr (8, [.ref (ev.2.1 1), .ref (ev.2.1 2), .ref (ev.2.1 3), .ref (ev.2.1 4), .ref (ev.2.1 5), .ref (ev.2.1 6), .ref (ev.2.1 7), .ref (ev.2.1 9)])),
  (ev.2.1 1, .inr (1, [.ref (ev.2.1 10), .ref (ev.2.1 11), .ref (ev.2.1 12), .ref (ev.2.1 13), .ref (ev.2.1 14), .ref (ev.2.1 15), .ref (ev.2.1 16), .ref (ev.2.1 17), .ref (ev.2.1 18), .int (gI u 0), .int (gI u 1), .int (gI u 2), .int (gI u 3)])),
  (ev.2.1 2, .inr (5, [.ref (ev.2.1 19), .ref (ev.2.1 20), .ref (ev.2.1 21)])),
  (ev.2.1 3, .inr (2, [.ref (ev.2.1 22), .int (gI u 4), .int (gI u 5), .ref (ev.2.1 23), .ref (ev.2.1 24), .int (gI u 6), .int (gI u 7), .int (gI u 8), .int (gI u 9)])),
  (ev.2.1 4, .inr (6, [.ref (ev.2.1 8), .ref (ev.2.1 25), .ref (ev.2.1 26), .ref (ev.2.1 27), .ref (ev.2.1 28), .ref (ev.2.1 29), .ref (ev.2.1 30), .ref (ev.2.1 31), .ref (ev.2.1 32), .int (gI u 10), .ref (ev.2.1 33), .ref (ev.2.1 34), .int (gI u 11), .long (gJ u 0), .long (gJ u 1), .long (gJ u 2), .long (gJ u 3), .int (gI u 12), .long (gJ u 4), .long (gJ u 5)])),
  (ev.2.1 5, .inr (7, [.ref (ev.2.1 35), .ref (ev.2.1 36), .int (gI u 13), .int (gI u 14), .ref (ev.2.1 37), .ref (ev.2.1 38), .ref (ev.2.1 39), .ref (ev.2.1 40), .ref (ev.2.1 41)])),
  (ev.2.1 6, .inr (0, [.int (gI u 15), .int (gI u 16), .int (gI u 17), .ref (ev.2.1 42), .ref (ev.2.1 43), .ref (ev.2.1 44), .ref (ev.2.1 45), .ref (ev.2.1 46), .ref (ev.2.1 47), .ref (ev.2.1 48), .int (gI u 18), .int (gI u 19)])),
  (ev.2.1 7, .inr (4, [.ref (ev.2.1 49), .int (gI u 20), .ref (ev.2.1 50), .int (gI u 21), .int (gI u 22), .int (gI u 23), .int (gI u 24)])),
  (ev.2.1 8, .inr (3, [.long (gJ u 6), .long (gJ u 7), .int (gI u 25)])),
  (ev.2.1 9, .inl (ev.2.2.1 0, 8, .inl (gA u 0))),
  (ev.2.1 10, .inl (ev.2.2.1 0, 4, .inl (gA u 1))),
  (ev.2.1 11, .inl (ev.2.2.1 0, 4, .inl (gA u 2))),
  (ev.2.1 12, .inl (ev.2.2.1 2, 48, .inl (gA u 3))),
  (ev.2.1 13, .inl (ev.2.2.1 2, 48, .inl (gA u 4))),
  (ev.2.1 14, .inl (ev.2.2.1 0, 48, .inl (gA u 5))),
  (ev.2.1 15, .inl (ev.2.2.1 0, 192, .inl (gA u 6))),
  (ev.2.1 16, .inl (ev.2.2.1 0, 48, .inl (gA u 7))),
  (ev.2.1 17, .inl (ev.2.2.1 0, 48, .inl (gA u 8))),
  (ev.2.1 18, .inl (ev.2.2.1 0, 48, .inl (gA u 9))),
  (ev.2.1 19, .inl (ev.2.2.1 0, 288, .inl (gA u 10))),
  (ev.2.1 20, .inl (ev.2.2.1 2, 48, .inl (gA u 11))),
  (ev.2.1 21, .inl (ev.2.2.1 2, 6, .inl (gA u 12))),
  (ev.2.1 22, .inl (ev.2.2.1 0, 80, .inl (gA u 13))),
  (ev.2.1 23, .inl (ev.2.2.1 0, 80, .inl (gA u 14))),
  (ev.2.1 24, .inl (ev.2.2.1 0, 80, .inl (gA u 15))),
  (ev.2.1 25, .inl (ev.2.2.1 2, 8, .inl (gA u 16))),
  (ev.2.1 26, .inl (ev.2.2.1 0, 8, .inl (gA u 17))),
  (ev.2.1 27, .inl (ev.2.2.1 1, 8, .inr (.inl (gL u 0)))),
  (ev.2.1 28, .inl (ev.2.2.1 1, 8, .inr (.inl (gL u 1)))),
  (ev.2.1 29, .inl (ev.2.2.1 1, 8, .inr (.inl (gL u 2)))),
  (ev.2.1 30, .inl (ev.2.2.1 1, 8, .inr (.inl (gL u 3)))),
  (ev.2.1 31, .inl (ev.2.2.1 2, 8, .inl (gA u 18))),
  (ev.2.1 32, .inl (ev.2.2.1 0, 8, .inl (gA u 19))),
  (ev.2.1 33, .inl (ev.2.2.1 1, 80, .inr (.inl (gL u 4)))),
  (ev.2.1 34, .inl (ev.2.2.1 1, 80, .inr (.inl (gL u 5)))),
  (ev.2.1 35, .inl (ev.2.2.1 0, 8, .inl (gA u 20))),
  (ev.2.1 36, .inl (ev.2.2.1 0, 6, .inl (gA u 21))),
  (ev.2.1 37, .inl (ev.2.2.1 0, 56, .inl (gA u 22))),
  (ev.2.1 38, .inl (ev.2.2.1 0, 48, .inl (gA u 23))),
  (ev.2.1 39, .inl (ev.2.2.1 0, 48, .inl (gA u 24))),
  (ev.2.1 40, .inl (ev.2.2.1 1, 64, .inr (.inl (gL u 6)))),
  (ev.2.1 41, .inl (ev.2.2.1 1, 64, .inr (.inl (gL u 7)))),
  (ev.2.1 42, .inl (ev.2.2.1 0, 6, .inl (gA u 25))),
  (ev.2.1 43, .inl (ev.2.2.1 0, 20, .inl (gA u 26))),
  (ev.2.1 44, .inl (ev.2.2.1 0, 20, .inl (gA u 27))),
  (ev.2.1 45, .inl (ev.2.2.1 2, 20, .inl (gA u 28))),
  (ev.2.1 46, .inl (ev.2.2.1 0, 20, .inl (gA u 29))),
  (ev.2.1 47, .inl (ev.2.2.1 0, 6, .inl (gA u 30))),
  (ev.2.1 48, .inl (ev.2.2.1 1, 6, .inr (.inl (gL u 8)))),
  (ev.2.1 49, .inl (ev.2.2.1 0, 8, .inl (gA u 31))),
  (ev.2.1 50, .inl (ev.2.2.1 0, 8, .inl (gA u 32)))]
def dig : Nat → Value := fun k => match k with
  | 0 => .int 59049
  | 1 => .int 6561
  | 2 => .int 729
  | 3 => .int 81
  | 4 => .int 9
  | _ => .int 1
def nestL : List (String × Nat) := [("BidsJudged$Table", 51), ("BidsJudged$Book", 79), ("BidsJudged$Whole", 42), ("BidsJudged$Rings", 50)]
def zB (ev : EV) (A : Nat → Prop) (s : State) : Prop := va_Z "BidsJudged$Whole" "DIGITS" "[I" (.ref ev.2.2.2) A s s.heap ∧ va_T .int ev.2.2.2 6 dig A s s.heap ∧ ∀ q ∈ nestL, va_Nw (.methodLinkNest q.1 q.2 yX9_cell "BidsJudged") s
abbrev wdB : WD := (wB, 51, zB)
theorem adB (ev : EV) (u : SS) (k : Nat) (q : Nat × va_E) (h : (wB ev u)[k]? = some q) : ∃ j, j < 51 ∧ q.1 = ev.2.1 j := by
  have e : (wB ev u).map (fun q => q.1) = (List.range 51).map ev.2.1 := rfl
  have h1 : ((wB ev u).map (fun q => q.1))[k]? = some q.1 := by rw [List.getElem?_map, h]; rfl
  rw [e, List.getElem?_map] at h1
  cases hr : (List.range 51)[k]? with
  | none => rw [hr] at h1; cases h1
  | some j =>
    rw [hr] at h1
    exact ⟨j, List.mem_range.mp (List.mem_of_getElem? hr), (Option.some.inj h1).symm⟩
theorem okB : wOK wdB := by
  refine ⟨fun ev A B s U h hW hk hAB => ⟨?_, ?_, ?_⟩, fun ev A s U h hv hh => ⟨?_, ?_, ?_⟩, adB⟩
  · exact ((va_Z.moved hW.alike h.1).kept hk).narrow hAB
  · exact ((va_T.moved hW.alike h.2.1).kept hk).narrow hAB
  · exact fun q hq => va_Nw.warmM hW (h.2.2 q hq)
  · rw [hh]; exact va_Z.moved (by rw [← hv]; exact Vm.Alike.refl _) h.1
  · rw [hh]; exact va_T.moved (by rw [← hv]; exact Vm.Alike.refl _) h.2.1
  · exact fun q hq => va_Nw.same rfl hv (h.2.2 q hq)
set_option maxRecDepth 20000 in
theorem inX9 : ∀ w ∈ u_ws RX9 TX9 8, w ∈ lw_g := in_g [429, 431, 433, 435, 437, 439, 441, 443] (by decide +kernel) (by decide +kernel)
set_option maxRecDepth 20000 in
theorem inX1 : ∀ w ∈ u_ws RX1 TX1 13, w ∈ lw_g := in_g [120, 122, 124, 126, 128, 130, 132, 134, 136, 138, 140, 142, 144] (by decide +kernel) (by decide +kernel)
set_option maxRecDepth 20000 in
theorem inX5 : ∀ w ∈ u_ws RX5 TX5 3, w ∈ lw_g := in_g [161, 163, 165] (by decide +kernel) (by decide +kernel)
set_option maxRecDepth 20000 in
theorem inX2 : ∀ w ∈ u_ws RX2 TX2 9, w ∈ lw_g := in_g [186, 188, 190, 192, 194, 196, 198, 200, 202] (by decide +kernel) (by decide +kernel)
set_option maxRecDepth 20000 in
theorem inX7 : ∀ w ∈ u_ws RX7 TX7 20, w ∈ lw_g := in_g [261, 263, 265, 267, 269, 271, 273, 275, 277, 279, 281, 283, 285, 287, 289, 291, 293, 295, 297, 299] (by decide +kernel) (by decide +kernel)
set_option maxRecDepth 20000 in
theorem inX8 : ∀ w ∈ u_ws RX8 TX8 9, w ∈ lw_g := in_g [323, 325, 327, 329, 331, 333, 335, 337, 339] (by decide +kernel) (by decide +kernel)
set_option maxRecDepth 20000 in
theorem inX0 : ∀ w ∈ u_ws RX0 TX0 12, w ∈ lw_g := in_g [366, 368, 370, 372, 374, 376, 378, 380, 382, 384, 386, 388] (by decide +kernel) (by decide +kernel)
set_option maxRecDepth 20000 in
theorem inX4 : ∀ w ∈ u_ws RX4 TX4 7, w ∈ lw_g := in_g [406, 408, 410, 412, 414, 416, 418] (by decide +kernel) (by decide +kernel)
set_option maxRecDepth 20000 in
theorem inX3 : ∀ w ∈ u_ws RX3 TX3 3, w ∈ lw_g := in_g [225, 227, 229] (by decide +kernel) (by decide +kernel)
theorem rvB0 (ev : EV) (u : SS) : RV wdB ev u (ev.2.1 0) RX9 := ⟨0, 8, _, _, rfl, rfl, rfl⟩
theorem rvB1 (ev : EV) (u : SS) : RV wdB ev u (ev.2.1 1) RX1 := ⟨1, 1, _, _, rfl, rfl, rfl⟩
theorem rvB2 (ev : EV) (u : SS) : RV wdB ev u (ev.2.1 2) RX5 := ⟨2, 5, _, _, rfl, rfl, rfl⟩
theorem rvB3 (ev : EV) (u : SS) : RV wdB ev u (ev.2.1 3) RX2 := ⟨3, 2, _, _, rfl, rfl, rfl⟩
theorem rvB4 (ev : EV) (u : SS) : RV wdB ev u (ev.2.1 4) RX7 := ⟨4, 6, _, _, rfl, rfl, rfl⟩
theorem rvB5 (ev : EV) (u : SS) : RV wdB ev u (ev.2.1 5) RX8 := ⟨5, 7, _, _, rfl, rfl, rfl⟩
theorem rvB6 (ev : EV) (u : SS) : RV wdB ev u (ev.2.1 6) RX0 := ⟨6, 0, _, _, rfl, rfl, rfl⟩
theorem rvB7 (ev : EV) (u : SS) : RV wdB ev u (ev.2.1 7) RX4 := ⟨7, 4, _, _, rfl, rfl, rfl⟩
theorem rvB8 (ev : EV) (u : SS) : RV wdB ev u (ev.2.1 8) RX3 := ⟨8, 3, _, _, rfl, rfl, rfl⟩
section FLDB
variable {ev : EV} {p : Program} {l : Launch} {e : Env} {R : Room} {s : State} {m : MethodId} {args : Array Value} {below : List Frame} {meth : Method} {c : Code} {cc : ByteArray} {nL index : Nat} {own : String} {H : Heap} {locs : List Loc} {Q : State → Prop} {pc : Nat} {ls : Array Slot} {u : SS} {rest : List Value}
theorem gB0_0 (hc : CX wdB ev p s m c cc nL own args) (hw : VW wdB ev s u H locs) (hl : Cond.fieldLink own index "BidsJudged" "book" "LBidsJudged$Book;" ∈ lw_g) (hd : decode cc pc = .ok (.getfield index, 3)) (k : W p l e R s m args below meth c H locs 0 0 Q (F0 m (pc + 3) ls (.ref (ev.2.1 1) :: rest))) : W p l e R s m args below meth c H locs 0 0 Q (F0 m pc ls (.ref (ev.2.1 0) :: rest)) :=
  va_get (D := ev.1) (cl := vwCl) (tys := tyl ev) (ws := wB ev u) (ci := 8) (C := RX9) (T := TX9) (N := 8) hc.1 hc.2.1 hc.2.2.2.2.1 inX9 hc.2.2.2.1 hc.2.2.2.2.2.1 hw.1 0 rfl rfl 0 (by decide) (hc.2.2.2.2.1 _ hl) (fun _ h => h) rfl hd k
theorem gB0_1 (hc : CX wdB ev p s m c cc nL own args) (hw : VW wdB ev s u H locs) (hl : Cond.fieldLink own index "BidsJudged" "notes" "LBidsJudged$Notes;" ∈ lw_g) (hd : decode cc pc = .ok (.getfield index, 3)) (k : W p l e R s m args below meth c H locs 0 0 Q (F0 m (pc + 3) ls (.ref (ev.2.1 2) :: rest))) : W p l e R s m args below meth c H locs 0 0 Q (F0 m pc ls (.ref (ev.2.1 0) :: rest)) :=
  va_get (D := ev.1) (cl := vwCl) (tys := tyl ev) (ws := wB ev u) (ci := 8) (C := RX9) (T := TX9) (N := 8) hc.1 hc.2.1 hc.2.2.2.2.1 inX9 hc.2.2.2.1 hc.2.2.2.2.2.1 hw.1 0 rfl rfl 1 (by decide) (hc.2.2.2.2.1 _ hl) (fun _ h => h) rfl hd k
theorem gB0_2 (hc : CX wdB ev p s m c cc nL own args) (hw : VW wdB ev s u H locs) (hl : Cond.fieldLink own index "BidsJudged" "text" "LBidsJudged$Formula;" ∈ lw_g) (hd : decode cc pc = .ok (.getfield index, 3)) (k : W p l e R s m args below meth c H locs 0 0 Q (F0 m (pc + 3) ls (.ref (ev.2.1 3) :: rest))) : W p l e R s m args below meth c H locs 0 0 Q (F0 m pc ls (.ref (ev.2.1 0) :: rest)) :=
  va_get (D := ev.1) (cl := vwCl) (tys := tyl ev) (ws := wB ev u) (ci := 8) (C := RX9) (T := TX9) (N := 8) hc.1 hc.2.1 hc.2.2.2.2.1 inX9 hc.2.2.2.1 hc.2.2.2.2.2.1 hw.1 0 rfl rfl 2 (by decide) (hc.2.2.2.2.1 _ hl) (fun _ h => h) rfl hd k
theorem gB0_3 (hc : CX wdB ev p s m c cc nL own args) (hw : VW wdB ev s u H locs) (hl : Cond.fieldLink own index "BidsJudged" "table" "LBidsJudged$Table;" ∈ lw_g) (hd : decode cc pc = .ok (.getfield index, 3)) (k : W p l e R s m args below meth c H locs 0 0 Q (F0 m (pc + 3) ls (.ref (ev.2.1 4) :: rest))) : W p l e R s m args below meth c H locs 0 0 Q (F0 m pc ls (.ref (ev.2.1 0) :: rest)) :=
  va_get (D := ev.1) (cl := vwCl) (tys := tyl ev) (ws := wB ev u) (ci := 8) (C := RX9) (T := TX9) (N := 8) hc.1 hc.2.1 hc.2.2.2.2.1 inX9 hc.2.2.2.1 hc.2.2.2.2.2.1 hw.1 0 rfl rfl 3 (by decide) (hc.2.2.2.2.1 _ hl) (fun _ h => h) rfl hd k
theorem gB0_4 (hc : CX wdB ev p s m c cc nL own args) (hw : VW wdB ev s u H locs) (hl : Cond.fieldLink own index "BidsJudged" "best" "LBidsJudged$Whole;" ∈ lw_g) (hd : decode cc pc = .ok (.getfield index, 3)) (k : W p l e R s m args below meth c H locs 0 0 Q (F0 m (pc + 3) ls (.ref (ev.2.1 5) :: rest))) : W p l e R s m args below meth c H locs 0 0 Q (F0 m pc ls (.ref (ev.2.1 0) :: rest)) :=
  va_get (D := ev.1) (cl := vwCl) (tys := tyl ev) (ws := wB ev u) (ci := 8) (C := RX9) (T := TX9) (N := 8) hc.1 hc.2.1 hc.2.2.2.2.1 inX9 hc.2.2.2.1 hc.2.2.2.2.2.1 hw.1 0 rfl rfl 4 (by decide) (hc.2.2.2.2.1 _ hl) (fun _ h => h) rfl hd k
theorem gB0_5 (hc : CX wdB ev p s m c cc nL own args) (hw : VW wdB ev s u H locs) (hl : Cond.fieldLink own index "BidsJudged" "told" "LBidsJudged$Award;" ∈ lw_g) (hd : decode cc pc = .ok (.getfield index, 3)) (k : W p l e R s m args below meth c H locs 0 0 Q (F0 m (pc + 3) ls (.ref (ev.2.1 6) :: rest))) : W p l e R s m args below meth c H locs 0 0 Q (F0 m pc ls (.ref (ev.2.1 0) :: rest)) :=
  va_get (D := ev.1) (cl := vwCl) (tys := tyl ev) (ws := wB ev u) (ci := 8) (C := RX9) (T := TX9) (N := 8) hc.1 hc.2.1 hc.2.2.2.2.1 inX9 hc.2.2.2.1 hc.2.2.2.2.2.1 hw.1 0 rfl rfl 5 (by decide) (hc.2.2.2.2.1 _ hl) (fun _ h => h) rfl hd k
theorem gB0_6 (hc : CX wdB ev p s m c cc nL own args) (hw : VW wdB ev s u H locs) (hl : Cond.fieldLink own index "BidsJudged" "row" "LBidsJudged$Framework;" ∈ lw_g) (hd : decode cc pc = .ok (.getfield index, 3)) (k : W p l e R s m args below meth c H locs 0 0 Q (F0 m (pc + 3) ls (.ref (ev.2.1 7) :: rest))) : W p l e R s m args below meth c H locs 0 0 Q (F0 m pc ls (.ref (ev.2.1 0) :: rest)) :=
  va_get (D := ev.1) (cl := vwCl) (tys := tyl ev) (ws := wB ev u) (ci := 8) (C := RX9) (T := TX9) (N := 8) hc.1 hc.2.1 hc.2.2.2.2.1 inX9 hc.2.2.2.1 hc.2.2.2.2.2.1 hw.1 0 rfl rfl 6 (by decide) (hc.2.2.2.2.1 _ hl) (fun _ h => h) rfl hd k
theorem gB0_7 (hc : CX wdB ev p s m c cc nL own args) (hw : VW wdB ev s u H locs) (hl : Cond.fieldLink own index "BidsJudged" "refusals" "[I" ∈ lw_g) (hd : decode cc pc = .ok (.getfield index, 3)) (k : W p l e R s m args below meth c H locs 0 0 Q (F0 m (pc + 3) ls (.ref (ev.2.1 9) :: rest))) : W p l e R s m args below meth c H locs 0 0 Q (F0 m pc ls (.ref (ev.2.1 0) :: rest)) :=
  va_get (D := ev.1) (cl := vwCl) (tys := tyl ev) (ws := wB ev u) (ci := 8) (C := RX9) (T := TX9) (N := 8) hc.1 hc.2.1 hc.2.2.2.2.1 inX9 hc.2.2.2.1 hc.2.2.2.2.2.1 hw.1 0 rfl rfl 7 (by decide) (hc.2.2.2.2.1 _ hl) (fun _ h => h) rfl hd k
theorem gB1_0 (hc : CX wdB ev p s m c cc nL own args) (hw : VW wdB ev s u H locs) (hl : Cond.fieldLink own index "BidsJudged$Book" "settings" "[I" ∈ lw_g) (hd : decode cc pc = .ok (.getfield index, 3)) (k : W p l e R s m args below meth c H locs 0 0 Q (F0 m (pc + 3) ls (.ref (ev.2.1 10) :: rest))) : W p l e R s m args below meth c H locs 0 0 Q (F0 m pc ls (.ref (ev.2.1 1) :: rest)) :=
  va_get (D := ev.1) (cl := vwCl) (tys := tyl ev) (ws := wB ev u) (ci := 1) (C := RX1) (T := TX1) (N := 13) hc.1 hc.2.1 hc.2.2.2.2.1 inX1 hc.2.2.2.1 hc.2.2.2.2.2.1 hw.1 1 rfl rfl 0 (by decide) (hc.2.2.2.2.1 _ hl) (fun _ h => h) rfl hd k
theorem gB1_1 (hc : CX wdB ev p s m c cc nL own args) (hw : VW wdB ev s u H locs) (hl : Cond.fieldLink own index "BidsJudged$Book" "rates" "[I" ∈ lw_g) (hd : decode cc pc = .ok (.getfield index, 3)) (k : W p l e R s m args below meth c H locs 0 0 Q (F0 m (pc + 3) ls (.ref (ev.2.1 11) :: rest))) : W p l e R s m args below meth c H locs 0 0 Q (F0 m pc ls (.ref (ev.2.1 1) :: rest)) :=
  va_get (D := ev.1) (cl := vwCl) (tys := tyl ev) (ws := wB ev u) (ci := 1) (C := RX1) (T := TX1) (N := 13) hc.1 hc.2.1 hc.2.2.2.2.1 inX1 hc.2.2.2.1 hc.2.2.2.2.2.1 hw.1 1 rfl rfl 1 (by decide) (hc.2.2.2.2.1 _ hl) (fun _ h => h) rfl hd k
theorem gB1_2 (hc : CX wdB ev p s m c cc nL own args) (hw : VW wdB ev s u H locs) (hl : Cond.fieldLink own index "BidsJudged$Book" "there" "[Z" ∈ lw_g) (hd : decode cc pc = .ok (.getfield index, 3)) (k : W p l e R s m args below meth c H locs 0 0 Q (F0 m (pc + 3) ls (.ref (ev.2.1 12) :: rest))) : W p l e R s m args below meth c H locs 0 0 Q (F0 m pc ls (.ref (ev.2.1 1) :: rest)) :=
  va_get (D := ev.1) (cl := vwCl) (tys := tyl ev) (ws := wB ev u) (ci := 1) (C := RX1) (T := TX1) (N := 13) hc.1 hc.2.1 hc.2.2.2.2.1 inX1 hc.2.2.2.1 hc.2.2.2.2.2.1 hw.1 1 rfl rfl 2 (by decide) (hc.2.2.2.2.1 _ hl) (fun _ h => h) rfl hd k
theorem gB1_3 (hc : CX wdB ev p s m c cc nL own args) (hw : VW wdB ev s u H locs) (hl : Cond.fieldLink own index "BidsJudged$Book" "toldOut" "[Z" ∈ lw_g) (hd : decode cc pc = .ok (.getfield index, 3)) (k : W p l e R s m args below meth c H locs 0 0 Q (F0 m (pc + 3) ls (.ref (ev.2.1 13) :: rest))) : W p l e R s m args below meth c H locs 0 0 Q (F0 m pc ls (.ref (ev.2.1 1) :: rest)) :=
  va_get (D := ev.1) (cl := vwCl) (tys := tyl ev) (ws := wB ev u) (ci := 1) (C := RX1) (T := TX1) (N := 13) hc.1 hc.2.1 hc.2.2.2.2.1 inX1 hc.2.2.2.1 hc.2.2.2.2.2.1 hw.1 1 rfl rfl 3 (by decide) (hc.2.2.2.2.1 _ hl) (fun _ h => h) rfl hd k
theorem gB1_4 (hc : CX wdB ev p s m c cc nL own args) (hw : VW wdB ev s u H locs) (hl : Cond.fieldLink own index "BidsJudged$Book" "askedUntil" "[I" ∈ lw_g) (hd : decode cc pc = .ok (.getfield index, 3)) (k : W p l e R s m args below meth c H locs 0 0 Q (F0 m (pc + 3) ls (.ref (ev.2.1 14) :: rest))) : W p l e R s m args below meth c H locs 0 0 Q (F0 m pc ls (.ref (ev.2.1 1) :: rest)) :=
  va_get (D := ev.1) (cl := vwCl) (tys := tyl ev) (ws := wB ev u) (ci := 1) (C := RX1) (T := TX1) (N := 13) hc.1 hc.2.1 hc.2.2.2.2.1 inX1 hc.2.2.2.1 hc.2.2.2.2.2.1 hw.1 1 rfl rfl 4 (by decide) (hc.2.2.2.2.1 _ hl) (fun _ h => h) rfl hd k
theorem gB1_5 (hc : CX wdB ev p s m c cc nL own args) (hw : VW wdB ev s u H locs) (hl : Cond.fieldLink own index "BidsJudged$Book" "items" "[I" ∈ lw_g) (hd : decode cc pc = .ok (.getfield index, 3)) (k : W p l e R s m args below meth c H locs 0 0 Q (F0 m (pc + 3) ls (.ref (ev.2.1 15) :: rest))) : W p l e R s m args below meth c H locs 0 0 Q (F0 m pc ls (.ref (ev.2.1 1) :: rest)) :=
  va_get (D := ev.1) (cl := vwCl) (tys := tyl ev) (ws := wB ev u) (ci := 1) (C := RX1) (T := TX1) (N := 13) hc.1 hc.2.1 hc.2.2.2.2.1 inX1 hc.2.2.2.1 hc.2.2.2.2.2.1 hw.1 1 rfl rfl 5 (by decide) (hc.2.2.2.2.1 _ hl) (fun _ h => h) rfl hd k
theorem gB1_6 (hc : CX wdB ev p s m c cc nL own args) (hw : VW wdB ev s u H locs) (hl : Cond.fieldLink own index "BidsJudged$Book" "moneys" "[I" ∈ lw_g) (hd : decode cc pc = .ok (.getfield index, 3)) (k : W p l e R s m args below meth c H locs 0 0 Q (F0 m (pc + 3) ls (.ref (ev.2.1 16) :: rest))) : W p l e R s m args below meth c H locs 0 0 Q (F0 m pc ls (.ref (ev.2.1 1) :: rest)) :=
  va_get (D := ev.1) (cl := vwCl) (tys := tyl ev) (ws := wB ev u) (ci := 1) (C := RX1) (T := TX1) (N := 13) hc.1 hc.2.1 hc.2.2.2.2.1 inX1 hc.2.2.2.1 hc.2.2.2.2.2.1 hw.1 1 rfl rfl 6 (by decide) (hc.2.2.2.2.1 _ hl) (fun _ h => h) rfl hd k
theorem gB1_7 (hc : CX wdB ev p s m c cc nL own args) (hw : VW wdB ev s u H locs) (hl : Cond.fieldLink own index "BidsJudged$Book" "sums" "[I" ∈ lw_g) (hd : decode cc pc = .ok (.getfield index, 3)) (k : W p l e R s m args below meth c H locs 0 0 Q (F0 m (pc + 3) ls (.ref (ev.2.1 17) :: rest))) : W p l e R s m args below meth c H locs 0 0 Q (F0 m pc ls (.ref (ev.2.1 1) :: rest)) :=
  va_get (D := ev.1) (cl := vwCl) (tys := tyl ev) (ws := wB ev u) (ci := 1) (C := RX1) (T := TX1) (N := 13) hc.1 hc.2.1 hc.2.2.2.2.1 inX1 hc.2.2.2.1 hc.2.2.2.2.2.1 hw.1 1 rfl rfl 7 (by decide) (hc.2.2.2.2.1 _ hl) (fun _ h => h) rfl hd k
theorem gB1_8 (hc : CX wdB ev p s m c cc nL own args) (hw : VW wdB ev s u H locs) (hl : Cond.fieldLink own index "BidsJudged$Book" "options" "[I" ∈ lw_g) (hd : decode cc pc = .ok (.getfield index, 3)) (k : W p l e R s m args below meth c H locs 0 0 Q (F0 m (pc + 3) ls (.ref (ev.2.1 18) :: rest))) : W p l e R s m args below meth c H locs 0 0 Q (F0 m pc ls (.ref (ev.2.1 1) :: rest)) :=
  va_get (D := ev.1) (cl := vwCl) (tys := tyl ev) (ws := wB ev u) (ci := 1) (C := RX1) (T := TX1) (N := 13) hc.1 hc.2.1 hc.2.2.2.2.1 inX1 hc.2.2.2.1 hc.2.2.2.2.2.1 hw.1 1 rfl rfl 8 (by decide) (hc.2.2.2.2.1 _ hl) (fun _ h => h) rfl hd k
theorem gB1_9 (hc : CX wdB ev p s m c cc nL own args) (hw : VW wdB ev s u H locs) (hl : Cond.fieldLink own index "BidsJudged$Book" "now" "I" ∈ lw_g) (hd : decode cc pc = .ok (.getfield index, 3)) (k : W p l e R s m args below meth c H locs 0 0 Q (F0 m (pc + 3) ls (.int (gI u 0) :: rest))) : W p l e R s m args below meth c H locs 0 0 Q (F0 m pc ls (.ref (ev.2.1 1) :: rest)) :=
  va_get (D := ev.1) (cl := vwCl) (tys := tyl ev) (ws := wB ev u) (ci := 1) (C := RX1) (T := TX1) (N := 13) hc.1 hc.2.1 hc.2.2.2.2.1 inX1 hc.2.2.2.1 hc.2.2.2.2.2.1 hw.1 1 rfl rfl 9 (by decide) (hc.2.2.2.2.1 _ hl) (fun _ h => h) rfl hd k
theorem pB1_9 {v : Int32} (hc : CX wdB ev p s m c cc nL own args) (hw : VW wdB ev s u H locs) (hl : Cond.fieldLink own index "BidsJudged$Book" "now" "I" ∈ lw_g) (hd : decode cc pc = .ok (.putfield index, 3)) (k : ∀ (H1 : Heap) (locs1 : List Loc), VW wdB ev s (sI u 0 v) H1 locs1 → W p l e R s m args below meth c H1 locs1 0 0 Q (F0 m (pc + 3) ls rest)) : W p l e R s m args below meth c H locs 0 0 Q (F0 m pc ls (.int v :: .ref (ev.2.1 1) :: rest)) :=
  va_put (D := ev.1) (cl := vwCl) (tys := tyl ev) (ws := wB ev u) (ci := 1) (v := .int v) (ty := .int) (C := RX1) (T := TX1) (N := 13) hc.1 hc.2.1 hc.2.2.2.2.1 inX1 tyX1 tyX1_ok nmX1 hc.2.2.2.1 hc.2.2.2.2.2.1 hw.1 hw.2.1 hw.2.2 1 rfl rfl 9 (by decide) (hc.2.2.2.2.1 _ hl) (fun _ h => h) rfl (by decide +kernel) rfl rfl (Nat.le_of_ble_eq_true rfl) hd (fun H1 locs1 hP hD hS => k H1 locs1 ⟨hP, hD, hS⟩)
theorem gB1_10 (hc : CX wdB ev p s m c cc nL own args) (hw : VW wdB ev s u H locs) (hl : Cond.fieldLink own index "BidsJudged$Book" "closingAt" "I" ∈ lw_g) (hd : decode cc pc = .ok (.getfield index, 3)) (k : W p l e R s m args below meth c H locs 0 0 Q (F0 m (pc + 3) ls (.int (gI u 1) :: rest))) : W p l e R s m args below meth c H locs 0 0 Q (F0 m pc ls (.ref (ev.2.1 1) :: rest)) :=
  va_get (D := ev.1) (cl := vwCl) (tys := tyl ev) (ws := wB ev u) (ci := 1) (C := RX1) (T := TX1) (N := 13) hc.1 hc.2.1 hc.2.2.2.2.1 inX1 hc.2.2.2.1 hc.2.2.2.2.2.1 hw.1 1 rfl rfl 10 (by decide) (hc.2.2.2.2.1 _ hl) (fun _ h => h) rfl hd k
theorem pB1_10 {v : Int32} (hc : CX wdB ev p s m c cc nL own args) (hw : VW wdB ev s u H locs) (hl : Cond.fieldLink own index "BidsJudged$Book" "closingAt" "I" ∈ lw_g) (hd : decode cc pc = .ok (.putfield index, 3)) (k : ∀ (H1 : Heap) (locs1 : List Loc), VW wdB ev s (sI u 1 v) H1 locs1 → W p l e R s m args below meth c H1 locs1 0 0 Q (F0 m (pc + 3) ls rest)) : W p l e R s m args below meth c H locs 0 0 Q (F0 m pc ls (.int v :: .ref (ev.2.1 1) :: rest)) :=
  va_put (D := ev.1) (cl := vwCl) (tys := tyl ev) (ws := wB ev u) (ci := 1) (v := .int v) (ty := .int) (C := RX1) (T := TX1) (N := 13) hc.1 hc.2.1 hc.2.2.2.2.1 inX1 tyX1 tyX1_ok nmX1 hc.2.2.2.1 hc.2.2.2.2.2.1 hw.1 hw.2.1 hw.2.2 1 rfl rfl 10 (by decide) (hc.2.2.2.2.1 _ hl) (fun _ h => h) rfl (by decide +kernel) rfl rfl (Nat.le_of_ble_eq_true rfl) hd (fun H1 locs1 hP hD hS => k H1 locs1 ⟨hP, hD, hS⟩)
theorem gB1_11 (hc : CX wdB ev p s m c cc nL own args) (hw : VW wdB ev s u H locs) (hl : Cond.fieldLink own index "BidsJudged$Book" "lotCount" "I" ∈ lw_g) (hd : decode cc pc = .ok (.getfield index, 3)) (k : W p l e R s m args below meth c H locs 0 0 Q (F0 m (pc + 3) ls (.int (gI u 2) :: rest))) : W p l e R s m args below meth c H locs 0 0 Q (F0 m pc ls (.ref (ev.2.1 1) :: rest)) :=
  va_get (D := ev.1) (cl := vwCl) (tys := tyl ev) (ws := wB ev u) (ci := 1) (C := RX1) (T := TX1) (N := 13) hc.1 hc.2.1 hc.2.2.2.2.1 inX1 hc.2.2.2.1 hc.2.2.2.2.2.1 hw.1 1 rfl rfl 11 (by decide) (hc.2.2.2.2.1 _ hl) (fun _ h => h) rfl hd k
theorem pB1_11 {v : Int32} (hc : CX wdB ev p s m c cc nL own args) (hw : VW wdB ev s u H locs) (hl : Cond.fieldLink own index "BidsJudged$Book" "lotCount" "I" ∈ lw_g) (hd : decode cc pc = .ok (.putfield index, 3)) (k : ∀ (H1 : Heap) (locs1 : List Loc), VW wdB ev s (sI u 2 v) H1 locs1 → W p l e R s m args below meth c H1 locs1 0 0 Q (F0 m (pc + 3) ls rest)) : W p l e R s m args below meth c H locs 0 0 Q (F0 m pc ls (.int v :: .ref (ev.2.1 1) :: rest)) :=
  va_put (D := ev.1) (cl := vwCl) (tys := tyl ev) (ws := wB ev u) (ci := 1) (v := .int v) (ty := .int) (C := RX1) (T := TX1) (N := 13) hc.1 hc.2.1 hc.2.2.2.2.1 inX1 tyX1 tyX1_ok nmX1 hc.2.2.2.1 hc.2.2.2.2.2.1 hw.1 hw.2.1 hw.2.2 1 rfl rfl 11 (by decide) (hc.2.2.2.2.1 _ hl) (fun _ h => h) rfl (by decide +kernel) rfl rfl (Nat.le_of_ble_eq_true rfl) hd (fun H1 locs1 hP hD hS => k H1 locs1 ⟨hP, hD, hS⟩)
theorem gB1_12 (hc : CX wdB ev p s m c cc nL own args) (hw : VW wdB ev s u H locs) (hl : Cond.fieldLink own index "BidsJudged$Book" "late" "I" ∈ lw_g) (hd : decode cc pc = .ok (.getfield index, 3)) (k : W p l e R s m args below meth c H locs 0 0 Q (F0 m (pc + 3) ls (.int (gI u 3) :: rest))) : W p l e R s m args below meth c H locs 0 0 Q (F0 m pc ls (.ref (ev.2.1 1) :: rest)) :=
  va_get (D := ev.1) (cl := vwCl) (tys := tyl ev) (ws := wB ev u) (ci := 1) (C := RX1) (T := TX1) (N := 13) hc.1 hc.2.1 hc.2.2.2.2.1 inX1 hc.2.2.2.1 hc.2.2.2.2.2.1 hw.1 1 rfl rfl 12 (by decide) (hc.2.2.2.2.1 _ hl) (fun _ h => h) rfl hd k
theorem pB1_12 {v : Int32} (hc : CX wdB ev p s m c cc nL own args) (hw : VW wdB ev s u H locs) (hl : Cond.fieldLink own index "BidsJudged$Book" "late" "I" ∈ lw_g) (hd : decode cc pc = .ok (.putfield index, 3)) (k : ∀ (H1 : Heap) (locs1 : List Loc), VW wdB ev s (sI u 3 v) H1 locs1 → W p l e R s m args below meth c H1 locs1 0 0 Q (F0 m (pc + 3) ls rest)) : W p l e R s m args below meth c H locs 0 0 Q (F0 m pc ls (.int v :: .ref (ev.2.1 1) :: rest)) :=
  va_put (D := ev.1) (cl := vwCl) (tys := tyl ev) (ws := wB ev u) (ci := 1) (v := .int v) (ty := .int) (C := RX1) (T := TX1) (N := 13) hc.1 hc.2.1 hc.2.2.2.2.1 inX1 tyX1 tyX1_ok nmX1 hc.2.2.2.1 hc.2.2.2.2.2.1 hw.1 hw.2.1 hw.2.2 1 rfl rfl 12 (by decide) (hc.2.2.2.2.1 _ hl) (fun _ h => h) rfl (by decide +kernel) rfl rfl (Nat.le_of_ble_eq_true rfl) hd (fun H1 locs1 hP hD hS => k H1 locs1 ⟨hP, hD, hS⟩)
theorem gB2_0 (hc : CX wdB ev p s m c cc nL own args) (hw : VW wdB ev s u H locs) (hl : Cond.fieldLink own index "BidsJudged$Notes" "marks" "[I" ∈ lw_g) (hd : decode cc pc = .ok (.getfield index, 3)) (k : W p l e R s m args below meth c H locs 0 0 Q (F0 m (pc + 3) ls (.ref (ev.2.1 19) :: rest))) : W p l e R s m args below meth c H locs 0 0 Q (F0 m pc ls (.ref (ev.2.1 2) :: rest)) :=
  va_get (D := ev.1) (cl := vwCl) (tys := tyl ev) (ws := wB ev u) (ci := 5) (C := RX5) (T := TX5) (N := 3) hc.1 hc.2.1 hc.2.2.2.2.1 inX5 hc.2.2.2.1 hc.2.2.2.2.2.1 hw.1 2 rfl rfl 0 (by decide) (hc.2.2.2.2.1 _ hl) (fun _ h => h) rfl hd k
theorem gB2_1 (hc : CX wdB ev p s m c cc nL own args) (hw : VW wdB ev s u H locs) (hl : Cond.fieldLink own index "BidsJudged$Notes" "barred" "[Z" ∈ lw_g) (hd : decode cc pc = .ok (.getfield index, 3)) (k : W p l e R s m args below meth c H locs 0 0 Q (F0 m (pc + 3) ls (.ref (ev.2.1 20) :: rest))) : W p l e R s m args below meth c H locs 0 0 Q (F0 m pc ls (.ref (ev.2.1 2) :: rest)) :=
  va_get (D := ev.1) (cl := vwCl) (tys := tyl ev) (ws := wB ev u) (ci := 5) (C := RX5) (T := TX5) (N := 3) hc.1 hc.2.1 hc.2.2.2.2.1 inX5 hc.2.2.2.1 hc.2.2.2.2.2.1 hw.1 2 rfl rfl 1 (by decide) (hc.2.2.2.2.1 _ hl) (fun _ h => h) rfl hd k
theorem gB2_2 (hc : CX wdB ev p s m c cc nL own args) (hw : VW wdB ev s u H locs) (hl : Cond.fieldLink own index "BidsJudged$Notes" "silent" "[Z" ∈ lw_g) (hd : decode cc pc = .ok (.getfield index, 3)) (k : W p l e R s m args below meth c H locs 0 0 Q (F0 m (pc + 3) ls (.ref (ev.2.1 21) :: rest))) : W p l e R s m args below meth c H locs 0 0 Q (F0 m pc ls (.ref (ev.2.1 2) :: rest)) :=
  va_get (D := ev.1) (cl := vwCl) (tys := tyl ev) (ws := wB ev u) (ci := 5) (C := RX5) (T := TX5) (N := 3) hc.1 hc.2.1 hc.2.2.2.2.1 inX5 hc.2.2.2.1 hc.2.2.2.2.2.1 hw.1 2 rfl rfl 2 (by decide) (hc.2.2.2.2.1 _ hl) (fun _ h => h) rfl hd k
theorem gB3_0 (hc : CX wdB ev p s m c cc nL own args) (hw : VW wdB ev s u H locs) (hl : Cond.fieldLink own index "BidsJudged$Formula" "codes" "[I" ∈ lw_g) (hd : decode cc pc = .ok (.getfield index, 3)) (k : W p l e R s m args below meth c H locs 0 0 Q (F0 m (pc + 3) ls (.ref (ev.2.1 22) :: rest))) : W p l e R s m args below meth c H locs 0 0 Q (F0 m pc ls (.ref (ev.2.1 3) :: rest)) :=
  va_get (D := ev.1) (cl := vwCl) (tys := tyl ev) (ws := wB ev u) (ci := 2) (C := RX2) (T := TX2) (N := 9) hc.1 hc.2.1 hc.2.2.2.2.1 inX2 hc.2.2.2.1 hc.2.2.2.2.2.1 hw.1 3 rfl rfl 0 (by decide) (hc.2.2.2.2.1 _ hl) (fun _ h => h) rfl hd k
theorem gB3_1 (hc : CX wdB ev p s m c cc nL own args) (hw : VW wdB ev s u H locs) (hl : Cond.fieldLink own index "BidsJudged$Formula" "size" "I" ∈ lw_g) (hd : decode cc pc = .ok (.getfield index, 3)) (k : W p l e R s m args below meth c H locs 0 0 Q (F0 m (pc + 3) ls (.int (gI u 4) :: rest))) : W p l e R s m args below meth c H locs 0 0 Q (F0 m pc ls (.ref (ev.2.1 3) :: rest)) :=
  va_get (D := ev.1) (cl := vwCl) (tys := tyl ev) (ws := wB ev u) (ci := 2) (C := RX2) (T := TX2) (N := 9) hc.1 hc.2.1 hc.2.2.2.2.1 inX2 hc.2.2.2.1 hc.2.2.2.2.2.1 hw.1 3 rfl rfl 1 (by decide) (hc.2.2.2.2.1 _ hl) (fun _ h => h) rfl hd k
theorem pB3_1 {v : Int32} (hc : CX wdB ev p s m c cc nL own args) (hw : VW wdB ev s u H locs) (hl : Cond.fieldLink own index "BidsJudged$Formula" "size" "I" ∈ lw_g) (hd : decode cc pc = .ok (.putfield index, 3)) (k : ∀ (H1 : Heap) (locs1 : List Loc), VW wdB ev s (sI u 4 v) H1 locs1 → W p l e R s m args below meth c H1 locs1 0 0 Q (F0 m (pc + 3) ls rest)) : W p l e R s m args below meth c H locs 0 0 Q (F0 m pc ls (.int v :: .ref (ev.2.1 3) :: rest)) :=
  va_put (D := ev.1) (cl := vwCl) (tys := tyl ev) (ws := wB ev u) (ci := 2) (v := .int v) (ty := .int) (C := RX2) (T := TX2) (N := 9) hc.1 hc.2.1 hc.2.2.2.2.1 inX2 tyX2 tyX2_ok nmX2 hc.2.2.2.1 hc.2.2.2.2.2.1 hw.1 hw.2.1 hw.2.2 3 rfl rfl 1 (by decide) (hc.2.2.2.2.1 _ hl) (fun _ h => h) rfl (by decide +kernel) rfl rfl (Nat.le_of_ble_eq_true rfl) hd (fun H1 locs1 hP hD hS => k H1 locs1 ⟨hP, hD, hS⟩)
theorem gB3_2 (hc : CX wdB ev p s m c cc nL own args) (hw : VW wdB ev s u H locs) (hl : Cond.fieldLink own index "BidsJudged$Formula" "bytes" "I" ∈ lw_g) (hd : decode cc pc = .ok (.getfield index, 3)) (k : W p l e R s m args below meth c H locs 0 0 Q (F0 m (pc + 3) ls (.int (gI u 5) :: rest))) : W p l e R s m args below meth c H locs 0 0 Q (F0 m pc ls (.ref (ev.2.1 3) :: rest)) :=
  va_get (D := ev.1) (cl := vwCl) (tys := tyl ev) (ws := wB ev u) (ci := 2) (C := RX2) (T := TX2) (N := 9) hc.1 hc.2.1 hc.2.2.2.2.1 inX2 hc.2.2.2.1 hc.2.2.2.2.2.1 hw.1 3 rfl rfl 2 (by decide) (hc.2.2.2.2.1 _ hl) (fun _ h => h) rfl hd k
theorem pB3_2 {v : Int32} (hc : CX wdB ev p s m c cc nL own args) (hw : VW wdB ev s u H locs) (hl : Cond.fieldLink own index "BidsJudged$Formula" "bytes" "I" ∈ lw_g) (hd : decode cc pc = .ok (.putfield index, 3)) (k : ∀ (H1 : Heap) (locs1 : List Loc), VW wdB ev s (sI u 5 v) H1 locs1 → W p l e R s m args below meth c H1 locs1 0 0 Q (F0 m (pc + 3) ls rest)) : W p l e R s m args below meth c H locs 0 0 Q (F0 m pc ls (.int v :: .ref (ev.2.1 3) :: rest)) :=
  va_put (D := ev.1) (cl := vwCl) (tys := tyl ev) (ws := wB ev u) (ci := 2) (v := .int v) (ty := .int) (C := RX2) (T := TX2) (N := 9) hc.1 hc.2.1 hc.2.2.2.2.1 inX2 tyX2 tyX2_ok nmX2 hc.2.2.2.1 hc.2.2.2.2.2.1 hw.1 hw.2.1 hw.2.2 3 rfl rfl 2 (by decide) (hc.2.2.2.2.1 _ hl) (fun _ h => h) rfl (by decide +kernel) rfl rfl (Nat.le_of_ble_eq_true rfl) hd (fun H1 locs1 hP hD hS => k H1 locs1 ⟨hP, hD, hS⟩)
theorem gB3_3 (hc : CX wdB ev p s m c cc nL own args) (hw : VW wdB ev s u H locs) (hl : Cond.fieldLink own index "BidsJudged$Formula" "tape" "[I" ∈ lw_g) (hd : decode cc pc = .ok (.getfield index, 3)) (k : W p l e R s m args below meth c H locs 0 0 Q (F0 m (pc + 3) ls (.ref (ev.2.1 23) :: rest))) : W p l e R s m args below meth c H locs 0 0 Q (F0 m pc ls (.ref (ev.2.1 3) :: rest)) :=
  va_get (D := ev.1) (cl := vwCl) (tys := tyl ev) (ws := wB ev u) (ci := 2) (C := RX2) (T := TX2) (N := 9) hc.1 hc.2.1 hc.2.2.2.2.1 inX2 hc.2.2.2.1 hc.2.2.2.2.2.1 hw.1 3 rfl rfl 3 (by decide) (hc.2.2.2.2.1 _ hl) (fun _ h => h) rfl hd k
theorem gB3_4 (hc : CX wdB ev p s m c cc nL own args) (hw : VW wdB ev s u H locs) (hl : Cond.fieldLink own index "BidsJudged$Formula" "draft" "[I" ∈ lw_g) (hd : decode cc pc = .ok (.getfield index, 3)) (k : W p l e R s m args below meth c H locs 0 0 Q (F0 m (pc + 3) ls (.ref (ev.2.1 24) :: rest))) : W p l e R s m args below meth c H locs 0 0 Q (F0 m pc ls (.ref (ev.2.1 3) :: rest)) :=
  va_get (D := ev.1) (cl := vwCl) (tys := tyl ev) (ws := wB ev u) (ci := 2) (C := RX2) (T := TX2) (N := 9) hc.1 hc.2.1 hc.2.2.2.2.1 inX2 hc.2.2.2.1 hc.2.2.2.2.2.1 hw.1 3 rfl rfl 4 (by decide) (hc.2.2.2.2.1 _ hl) (fun _ h => h) rfl hd k
theorem gB3_5 (hc : CX wdB ev p s m c cc nL own args) (hw : VW wdB ev s u H locs) (hl : Cond.fieldLink own index "BidsJudged$Formula" "drafted" "I" ∈ lw_g) (hd : decode cc pc = .ok (.getfield index, 3)) (k : W p l e R s m args below meth c H locs 0 0 Q (F0 m (pc + 3) ls (.int (gI u 6) :: rest))) : W p l e R s m args below meth c H locs 0 0 Q (F0 m pc ls (.ref (ev.2.1 3) :: rest)) :=
  va_get (D := ev.1) (cl := vwCl) (tys := tyl ev) (ws := wB ev u) (ci := 2) (C := RX2) (T := TX2) (N := 9) hc.1 hc.2.1 hc.2.2.2.2.1 inX2 hc.2.2.2.1 hc.2.2.2.2.2.1 hw.1 3 rfl rfl 5 (by decide) (hc.2.2.2.2.1 _ hl) (fun _ h => h) rfl hd k
theorem pB3_5 {v : Int32} (hc : CX wdB ev p s m c cc nL own args) (hw : VW wdB ev s u H locs) (hl : Cond.fieldLink own index "BidsJudged$Formula" "drafted" "I" ∈ lw_g) (hd : decode cc pc = .ok (.putfield index, 3)) (k : ∀ (H1 : Heap) (locs1 : List Loc), VW wdB ev s (sI u 6 v) H1 locs1 → W p l e R s m args below meth c H1 locs1 0 0 Q (F0 m (pc + 3) ls rest)) : W p l e R s m args below meth c H locs 0 0 Q (F0 m pc ls (.int v :: .ref (ev.2.1 3) :: rest)) :=
  va_put (D := ev.1) (cl := vwCl) (tys := tyl ev) (ws := wB ev u) (ci := 2) (v := .int v) (ty := .int) (C := RX2) (T := TX2) (N := 9) hc.1 hc.2.1 hc.2.2.2.2.1 inX2 tyX2 tyX2_ok nmX2 hc.2.2.2.1 hc.2.2.2.2.2.1 hw.1 hw.2.1 hw.2.2 3 rfl rfl 5 (by decide) (hc.2.2.2.2.1 _ hl) (fun _ h => h) rfl (by decide +kernel) rfl rfl (Nat.le_of_ble_eq_true rfl) hd (fun H1 locs1 hP hD hS => k H1 locs1 ⟨hP, hD, hS⟩)
theorem gB3_6 (hc : CX wdB ev p s m c cc nL own args) (hw : VW wdB ev s u H locs) (hl : Cond.fieldLink own index "BidsJudged$Formula" "units" "I" ∈ lw_g) (hd : decode cc pc = .ok (.getfield index, 3)) (k : W p l e R s m args below meth c H locs 0 0 Q (F0 m (pc + 3) ls (.int (gI u 7) :: rest))) : W p l e R s m args below meth c H locs 0 0 Q (F0 m pc ls (.ref (ev.2.1 3) :: rest)) :=
  va_get (D := ev.1) (cl := vwCl) (tys := tyl ev) (ws := wB ev u) (ci := 2) (C := RX2) (T := TX2) (N := 9) hc.1 hc.2.1 hc.2.2.2.2.1 inX2 hc.2.2.2.1 hc.2.2.2.2.2.1 hw.1 3 rfl rfl 6 (by decide) (hc.2.2.2.2.1 _ hl) (fun _ h => h) rfl hd k
theorem pB3_6 {v : Int32} (hc : CX wdB ev p s m c cc nL own args) (hw : VW wdB ev s u H locs) (hl : Cond.fieldLink own index "BidsJudged$Formula" "units" "I" ∈ lw_g) (hd : decode cc pc = .ok (.putfield index, 3)) (k : ∀ (H1 : Heap) (locs1 : List Loc), VW wdB ev s (sI u 7 v) H1 locs1 → W p l e R s m args below meth c H1 locs1 0 0 Q (F0 m (pc + 3) ls rest)) : W p l e R s m args below meth c H locs 0 0 Q (F0 m pc ls (.int v :: .ref (ev.2.1 3) :: rest)) :=
  va_put (D := ev.1) (cl := vwCl) (tys := tyl ev) (ws := wB ev u) (ci := 2) (v := .int v) (ty := .int) (C := RX2) (T := TX2) (N := 9) hc.1 hc.2.1 hc.2.2.2.2.1 inX2 tyX2 tyX2_ok nmX2 hc.2.2.2.1 hc.2.2.2.2.2.1 hw.1 hw.2.1 hw.2.2 3 rfl rfl 6 (by decide) (hc.2.2.2.2.1 _ hl) (fun _ h => h) rfl (by decide +kernel) rfl rfl (Nat.le_of_ble_eq_true rfl) hd (fun H1 locs1 hP hD hS => k H1 locs1 ⟨hP, hD, hS⟩)
theorem gB3_7 (hc : CX wdB ev p s m c cc nL own args) (hw : VW wdB ev s u H locs) (hl : Cond.fieldLink own index "BidsJudged$Formula" "place" "I" ∈ lw_g) (hd : decode cc pc = .ok (.getfield index, 3)) (k : W p l e R s m args below meth c H locs 0 0 Q (F0 m (pc + 3) ls (.int (gI u 8) :: rest))) : W p l e R s m args below meth c H locs 0 0 Q (F0 m pc ls (.ref (ev.2.1 3) :: rest)) :=
  va_get (D := ev.1) (cl := vwCl) (tys := tyl ev) (ws := wB ev u) (ci := 2) (C := RX2) (T := TX2) (N := 9) hc.1 hc.2.1 hc.2.2.2.2.1 inX2 hc.2.2.2.1 hc.2.2.2.2.2.1 hw.1 3 rfl rfl 7 (by decide) (hc.2.2.2.2.1 _ hl) (fun _ h => h) rfl hd k
theorem pB3_7 {v : Int32} (hc : CX wdB ev p s m c cc nL own args) (hw : VW wdB ev s u H locs) (hl : Cond.fieldLink own index "BidsJudged$Formula" "place" "I" ∈ lw_g) (hd : decode cc pc = .ok (.putfield index, 3)) (k : ∀ (H1 : Heap) (locs1 : List Loc), VW wdB ev s (sI u 8 v) H1 locs1 → W p l e R s m args below meth c H1 locs1 0 0 Q (F0 m (pc + 3) ls rest)) : W p l e R s m args below meth c H locs 0 0 Q (F0 m pc ls (.int v :: .ref (ev.2.1 3) :: rest)) :=
  va_put (D := ev.1) (cl := vwCl) (tys := tyl ev) (ws := wB ev u) (ci := 2) (v := .int v) (ty := .int) (C := RX2) (T := TX2) (N := 9) hc.1 hc.2.1 hc.2.2.2.2.1 inX2 tyX2 tyX2_ok nmX2 hc.2.2.2.1 hc.2.2.2.2.2.1 hw.1 hw.2.1 hw.2.2 3 rfl rfl 7 (by decide) (hc.2.2.2.2.1 _ hl) (fun _ h => h) rfl (by decide +kernel) rfl rfl (Nat.le_of_ble_eq_true rfl) hd (fun H1 locs1 hP hD hS => k H1 locs1 ⟨hP, hD, hS⟩)
theorem gB3_8 (hc : CX wdB ev p s m c cc nL own args) (hw : VW wdB ev s u H locs) (hl : Cond.fieldLink own index "BidsJudged$Formula" "fault" "I" ∈ lw_g) (hd : decode cc pc = .ok (.getfield index, 3)) (k : W p l e R s m args below meth c H locs 0 0 Q (F0 m (pc + 3) ls (.int (gI u 9) :: rest))) : W p l e R s m args below meth c H locs 0 0 Q (F0 m pc ls (.ref (ev.2.1 3) :: rest)) :=
  va_get (D := ev.1) (cl := vwCl) (tys := tyl ev) (ws := wB ev u) (ci := 2) (C := RX2) (T := TX2) (N := 9) hc.1 hc.2.1 hc.2.2.2.2.1 inX2 hc.2.2.2.1 hc.2.2.2.2.2.1 hw.1 3 rfl rfl 8 (by decide) (hc.2.2.2.2.1 _ hl) (fun _ h => h) rfl hd k
theorem pB3_8 {v : Int32} (hc : CX wdB ev p s m c cc nL own args) (hw : VW wdB ev s u H locs) (hl : Cond.fieldLink own index "BidsJudged$Formula" "fault" "I" ∈ lw_g) (hd : decode cc pc = .ok (.putfield index, 3)) (k : ∀ (H1 : Heap) (locs1 : List Loc), VW wdB ev s (sI u 9 v) H1 locs1 → W p l e R s m args below meth c H1 locs1 0 0 Q (F0 m (pc + 3) ls rest)) : W p l e R s m args below meth c H locs 0 0 Q (F0 m pc ls (.int v :: .ref (ev.2.1 3) :: rest)) :=
  va_put (D := ev.1) (cl := vwCl) (tys := tyl ev) (ws := wB ev u) (ci := 2) (v := .int v) (ty := .int) (C := RX2) (T := TX2) (N := 9) hc.1 hc.2.1 hc.2.2.2.2.1 inX2 tyX2 tyX2_ok nmX2 hc.2.2.2.1 hc.2.2.2.2.2.1 hw.1 hw.2.1 hw.2.2 3 rfl rfl 8 (by decide) (hc.2.2.2.2.1 _ hl) (fun _ h => h) rfl (by decide +kernel) rfl rfl (Nat.le_of_ble_eq_true rfl) hd (fun H1 locs1 hP hD hS => k H1 locs1 ⟨hP, hD, hS⟩)
theorem gB4_0 (hc : CX wdB ev p s m c cc nL own args) (hw : VW wdB ev s u H locs) (hl : Cond.fieldLink own index "BidsJudged$Table" "fraction" "LBidsJudged$Fraction;" ∈ lw_g) (hd : decode cc pc = .ok (.getfield index, 3)) (k : W p l e R s m args below meth c H locs 0 0 Q (F0 m (pc + 3) ls (.ref (ev.2.1 8) :: rest))) : W p l e R s m args below meth c H locs 0 0 Q (F0 m pc ls (.ref (ev.2.1 4) :: rest)) :=
  va_get (D := ev.1) (cl := vwCl) (tys := tyl ev) (ws := wB ev u) (ci := 6) (C := RX7) (T := TX7) (N := 20) hc.1 hc.2.1 hc.2.2.2.2.1 inX7 hc.2.2.2.1 hc.2.2.2.2.2.1 hw.1 4 rfl rfl 0 (by decide) (hc.2.2.2.2.1 _ hl) (fun _ h => h) rfl hd k
theorem gB4_1 (hc : CX wdB ev p s m c cc nL own args) (hw : VW wdB ev s u H locs) (hl : Cond.fieldLink own index "BidsJudged$Table" "in" "[Z" ∈ lw_g) (hd : decode cc pc = .ok (.getfield index, 3)) (k : W p l e R s m args below meth c H locs 0 0 Q (F0 m (pc + 3) ls (.ref (ev.2.1 25) :: rest))) : W p l e R s m args below meth c H locs 0 0 Q (F0 m pc ls (.ref (ev.2.1 4) :: rest)) :=
  va_get (D := ev.1) (cl := vwCl) (tys := tyl ev) (ws := wB ev u) (ci := 6) (C := RX7) (T := TX7) (N := 20) hc.1 hc.2.1 hc.2.2.2.2.1 inX7 hc.2.2.2.1 hc.2.2.2.2.2.1 hw.1 4 rfl rfl 1 (by decide) (hc.2.2.2.2.1 _ hl) (fun _ h => h) rfl hd k
theorem gB4_2 (hc : CX wdB ev p s m c cc nL own args) (hw : VW wdB ev s u H locs) (hl : Cond.fieldLink own index "BidsJudged$Table" "prices" "[I" ∈ lw_g) (hd : decode cc pc = .ok (.getfield index, 3)) (k : W p l e R s m args below meth c H locs 0 0 Q (F0 m (pc + 3) ls (.ref (ev.2.1 26) :: rest))) : W p l e R s m args below meth c H locs 0 0 Q (F0 m pc ls (.ref (ev.2.1 4) :: rest)) :=
  va_get (D := ev.1) (cl := vwCl) (tys := tyl ev) (ws := wB ev u) (ci := 6) (C := RX7) (T := TX7) (N := 20) hc.1 hc.2.1 hc.2.2.2.2.1 inX7 hc.2.2.2.1 hc.2.2.2.2.2.1 hw.1 4 rfl rfl 2 (by decide) (hc.2.2.2.2.1 _ hl) (fun _ h => h) rfl hd k
theorem gB4_3 (hc : CX wdB ev p s m c cc nL own args) (hw : VW wdB ev s u H locs) (hl : Cond.fieldLink own index "BidsJudged$Table" "qualityAbove" "[J" ∈ lw_g) (hd : decode cc pc = .ok (.getfield index, 3)) (k : W p l e R s m args below meth c H locs 0 0 Q (F0 m (pc + 3) ls (.ref (ev.2.1 27) :: rest))) : W p l e R s m args below meth c H locs 0 0 Q (F0 m pc ls (.ref (ev.2.1 4) :: rest)) :=
  va_get (D := ev.1) (cl := vwCl) (tys := tyl ev) (ws := wB ev u) (ci := 6) (C := RX7) (T := TX7) (N := 20) hc.1 hc.2.1 hc.2.2.2.2.1 inX7 hc.2.2.2.1 hc.2.2.2.2.2.1 hw.1 4 rfl rfl 3 (by decide) (hc.2.2.2.2.1 _ hl) (fun _ h => h) rfl hd k
theorem gB4_4 (hc : CX wdB ev p s m c cc nL own args) (hw : VW wdB ev s u H locs) (hl : Cond.fieldLink own index "BidsJudged$Table" "qualityBelow" "[J" ∈ lw_g) (hd : decode cc pc = .ok (.getfield index, 3)) (k : W p l e R s m args below meth c H locs 0 0 Q (F0 m (pc + 3) ls (.ref (ev.2.1 28) :: rest))) : W p l e R s m args below meth c H locs 0 0 Q (F0 m pc ls (.ref (ev.2.1 4) :: rest)) :=
  va_get (D := ev.1) (cl := vwCl) (tys := tyl ev) (ws := wB ev u) (ci := 6) (C := RX7) (T := TX7) (N := 20) hc.1 hc.2.1 hc.2.2.2.2.1 inX7 hc.2.2.2.1 hc.2.2.2.2.2.1 hw.1 4 rfl rfl 4 (by decide) (hc.2.2.2.2.1 _ hl) (fun _ h => h) rfl hd k
theorem gB4_5 (hc : CX wdB ev p s m c cc nL own args) (hw : VW wdB ev s u H locs) (hl : Cond.fieldLink own index "BidsJudged$Table" "pointsAbove" "[J" ∈ lw_g) (hd : decode cc pc = .ok (.getfield index, 3)) (k : W p l e R s m args below meth c H locs 0 0 Q (F0 m (pc + 3) ls (.ref (ev.2.1 29) :: rest))) : W p l e R s m args below meth c H locs 0 0 Q (F0 m pc ls (.ref (ev.2.1 4) :: rest)) :=
  va_get (D := ev.1) (cl := vwCl) (tys := tyl ev) (ws := wB ev u) (ci := 6) (C := RX7) (T := TX7) (N := 20) hc.1 hc.2.1 hc.2.2.2.2.1 inX7 hc.2.2.2.1 hc.2.2.2.2.2.1 hw.1 4 rfl rfl 5 (by decide) (hc.2.2.2.2.1 _ hl) (fun _ h => h) rfl hd k
theorem gB4_6 (hc : CX wdB ev p s m c cc nL own args) (hw : VW wdB ev s u H locs) (hl : Cond.fieldLink own index "BidsJudged$Table" "pointsBelow" "[J" ∈ lw_g) (hd : decode cc pc = .ok (.getfield index, 3)) (k : W p l e R s m args below meth c H locs 0 0 Q (F0 m (pc + 3) ls (.ref (ev.2.1 30) :: rest))) : W p l e R s m args below meth c H locs 0 0 Q (F0 m pc ls (.ref (ev.2.1 4) :: rest)) :=
  va_get (D := ev.1) (cl := vwCl) (tys := tyl ev) (ws := wB ev u) (ci := 6) (C := RX7) (T := TX7) (N := 20) hc.1 hc.2.1 hc.2.2.2.2.1 inX7 hc.2.2.2.1 hc.2.2.2.2.2.1 hw.1 4 rfl rfl 6 (by decide) (hc.2.2.2.2.1 _ hl) (fun _ h => h) rfl hd k
theorem gB4_7 (hc : CX wdB ev p s m c cc nL own args) (hw : VW wdB ev s u H locs) (hl : Cond.fieldLink own index "BidsJudged$Table" "broken" "[Z" ∈ lw_g) (hd : decode cc pc = .ok (.getfield index, 3)) (k : W p l e R s m args below meth c H locs 0 0 Q (F0 m (pc + 3) ls (.ref (ev.2.1 31) :: rest))) : W p l e R s m args below meth c H locs 0 0 Q (F0 m pc ls (.ref (ev.2.1 4) :: rest)) :=
  va_get (D := ev.1) (cl := vwCl) (tys := tyl ev) (ws := wB ev u) (ci := 6) (C := RX7) (T := TX7) (N := 20) hc.1 hc.2.1 hc.2.2.2.2.1 inX7 hc.2.2.2.1 hc.2.2.2.2.2.1 hw.1 4 rfl rfl 7 (by decide) (hc.2.2.2.2.1 _ hl) (fun _ h => h) rfl hd k
theorem gB4_8 (hc : CX wdB ev p s m c cc nL own args) (hw : VW wdB ev s u H locs) (hl : Cond.fieldLink own index "BidsJudged$Table" "ranking" "[I" ∈ lw_g) (hd : decode cc pc = .ok (.getfield index, 3)) (k : W p l e R s m args below meth c H locs 0 0 Q (F0 m (pc + 3) ls (.ref (ev.2.1 32) :: rest))) : W p l e R s m args below meth c H locs 0 0 Q (F0 m pc ls (.ref (ev.2.1 4) :: rest)) :=
  va_get (D := ev.1) (cl := vwCl) (tys := tyl ev) (ws := wB ev u) (ci := 6) (C := RX7) (T := TX7) (N := 20) hc.1 hc.2.1 hc.2.2.2.2.1 inX7 hc.2.2.2.1 hc.2.2.2.2.2.1 hw.1 4 rfl rfl 8 (by decide) (hc.2.2.2.2.1 _ hl) (fun _ h => h) rfl hd k
theorem gB4_9 (hc : CX wdB ev p s m c cc nL own args) (hw : VW wdB ev s u H locs) (hl : Cond.fieldLink own index "BidsJudged$Table" "ranked" "I" ∈ lw_g) (hd : decode cc pc = .ok (.getfield index, 3)) (k : W p l e R s m args below meth c H locs 0 0 Q (F0 m (pc + 3) ls (.int (gI u 10) :: rest))) : W p l e R s m args below meth c H locs 0 0 Q (F0 m pc ls (.ref (ev.2.1 4) :: rest)) :=
  va_get (D := ev.1) (cl := vwCl) (tys := tyl ev) (ws := wB ev u) (ci := 6) (C := RX7) (T := TX7) (N := 20) hc.1 hc.2.1 hc.2.2.2.2.1 inX7 hc.2.2.2.1 hc.2.2.2.2.2.1 hw.1 4 rfl rfl 9 (by decide) (hc.2.2.2.2.1 _ hl) (fun _ h => h) rfl hd k
theorem pB4_9 {v : Int32} (hc : CX wdB ev p s m c cc nL own args) (hw : VW wdB ev s u H locs) (hl : Cond.fieldLink own index "BidsJudged$Table" "ranked" "I" ∈ lw_g) (hd : decode cc pc = .ok (.putfield index, 3)) (k : ∀ (H1 : Heap) (locs1 : List Loc), VW wdB ev s (sI u 10 v) H1 locs1 → W p l e R s m args below meth c H1 locs1 0 0 Q (F0 m (pc + 3) ls rest)) : W p l e R s m args below meth c H locs 0 0 Q (F0 m pc ls (.int v :: .ref (ev.2.1 4) :: rest)) :=
  va_put (D := ev.1) (cl := vwCl) (tys := tyl ev) (ws := wB ev u) (ci := 6) (v := .int v) (ty := .int) (C := RX7) (T := TX7) (N := 20) hc.1 hc.2.1 hc.2.2.2.2.1 inX7 tyX7 tyX7_ok nmX7 hc.2.2.2.1 hc.2.2.2.2.2.1 hw.1 hw.2.1 hw.2.2 4 rfl rfl 9 (by decide) (hc.2.2.2.2.1 _ hl) (fun _ h => h) rfl (by decide +kernel) rfl rfl (Nat.le_of_ble_eq_true rfl) hd (fun H1 locs1 hP hD hS => k H1 locs1 ⟨hP, hD, hS⟩)
theorem gB4_10 (hc : CX wdB ev p s m c cc nL own args) (hw : VW wdB ev s u H locs) (hl : Cond.fieldLink own index "BidsJudged$Table" "stackAbove" "[J" ∈ lw_g) (hd : decode cc pc = .ok (.getfield index, 3)) (k : W p l e R s m args below meth c H locs 0 0 Q (F0 m (pc + 3) ls (.ref (ev.2.1 33) :: rest))) : W p l e R s m args below meth c H locs 0 0 Q (F0 m pc ls (.ref (ev.2.1 4) :: rest)) :=
  va_get (D := ev.1) (cl := vwCl) (tys := tyl ev) (ws := wB ev u) (ci := 6) (C := RX7) (T := TX7) (N := 20) hc.1 hc.2.1 hc.2.2.2.2.1 inX7 hc.2.2.2.1 hc.2.2.2.2.2.1 hw.1 4 rfl rfl 10 (by decide) (hc.2.2.2.2.1 _ hl) (fun _ h => h) rfl hd k
theorem gB4_11 (hc : CX wdB ev p s m c cc nL own args) (hw : VW wdB ev s u H locs) (hl : Cond.fieldLink own index "BidsJudged$Table" "stackBelow" "[J" ∈ lw_g) (hd : decode cc pc = .ok (.getfield index, 3)) (k : W p l e R s m args below meth c H locs 0 0 Q (F0 m (pc + 3) ls (.ref (ev.2.1 34) :: rest))) : W p l e R s m args below meth c H locs 0 0 Q (F0 m pc ls (.ref (ev.2.1 4) :: rest)) :=
  va_get (D := ev.1) (cl := vwCl) (tys := tyl ev) (ws := wB ev u) (ci := 6) (C := RX7) (T := TX7) (N := 20) hc.1 hc.2.1 hc.2.2.2.2.1 inX7 hc.2.2.2.1 hc.2.2.2.2.2.1 hw.1 4 rfl rfl 11 (by decide) (hc.2.2.2.2.1 _ hl) (fun _ h => h) rfl hd k
theorem gB4_12 (hc : CX wdB ev p s m c cc nL own args) (hw : VW wdB ev s u H locs) (hl : Cond.fieldLink own index "BidsJudged$Table" "height" "I" ∈ lw_g) (hd : decode cc pc = .ok (.getfield index, 3)) (k : W p l e R s m args below meth c H locs 0 0 Q (F0 m (pc + 3) ls (.int (gI u 11) :: rest))) : W p l e R s m args below meth c H locs 0 0 Q (F0 m pc ls (.ref (ev.2.1 4) :: rest)) :=
  va_get (D := ev.1) (cl := vwCl) (tys := tyl ev) (ws := wB ev u) (ci := 6) (C := RX7) (T := TX7) (N := 20) hc.1 hc.2.1 hc.2.2.2.2.1 inX7 hc.2.2.2.1 hc.2.2.2.2.2.1 hw.1 4 rfl rfl 12 (by decide) (hc.2.2.2.2.1 _ hl) (fun _ h => h) rfl hd k
theorem pB4_12 {v : Int32} (hc : CX wdB ev p s m c cc nL own args) (hw : VW wdB ev s u H locs) (hl : Cond.fieldLink own index "BidsJudged$Table" "height" "I" ∈ lw_g) (hd : decode cc pc = .ok (.putfield index, 3)) (k : ∀ (H1 : Heap) (locs1 : List Loc), VW wdB ev s (sI u 11 v) H1 locs1 → W p l e R s m args below meth c H1 locs1 0 0 Q (F0 m (pc + 3) ls rest)) : W p l e R s m args below meth c H locs 0 0 Q (F0 m pc ls (.int v :: .ref (ev.2.1 4) :: rest)) :=
  va_put (D := ev.1) (cl := vwCl) (tys := tyl ev) (ws := wB ev u) (ci := 6) (v := .int v) (ty := .int) (C := RX7) (T := TX7) (N := 20) hc.1 hc.2.1 hc.2.2.2.2.1 inX7 tyX7 tyX7_ok nmX7 hc.2.2.2.1 hc.2.2.2.2.2.1 hw.1 hw.2.1 hw.2.2 4 rfl rfl 12 (by decide) (hc.2.2.2.2.1 _ hl) (fun _ h => h) rfl (by decide +kernel) rfl rfl (Nat.le_of_ble_eq_true rfl) hd (fun H1 locs1 hP hD hS => k H1 locs1 ⟨hP, hD, hS⟩)
theorem gB4_13 (hc : CX wdB ev p s m c cc nL own args) (hw : VW wdB ev s u H locs) (hl : Cond.fieldLink own index "BidsJudged$Table" "least" "J" ∈ lw_g) (hd : decode cc pc = .ok (.getfield index, 3)) (k : W p l e R s m args below meth c H locs 0 0 Q (F0 m (pc + 3) ls (.long (gJ u 0) :: rest))) : W p l e R s m args below meth c H locs 0 0 Q (F0 m pc ls (.ref (ev.2.1 4) :: rest)) :=
  va_get (D := ev.1) (cl := vwCl) (tys := tyl ev) (ws := wB ev u) (ci := 6) (C := RX7) (T := TX7) (N := 20) hc.1 hc.2.1 hc.2.2.2.2.1 inX7 hc.2.2.2.1 hc.2.2.2.2.2.1 hw.1 4 rfl rfl 13 (by decide) (hc.2.2.2.2.1 _ hl) (fun _ h => h) rfl hd k
theorem pB4_13 {v : Int64} (hc : CX wdB ev p s m c cc nL own args) (hw : VW wdB ev s u H locs) (hl : Cond.fieldLink own index "BidsJudged$Table" "least" "J" ∈ lw_g) (hd : decode cc pc = .ok (.putfield index, 3)) (k : ∀ (H1 : Heap) (locs1 : List Loc), VW wdB ev s (sJ u 0 v) H1 locs1 → W p l e R s m args below meth c H1 locs1 0 0 Q (F0 m (pc + 3) ls rest)) : W p l e R s m args below meth c H locs 0 0 Q (F0 m pc ls (.long v :: .ref (ev.2.1 4) :: rest)) :=
  va_put (D := ev.1) (cl := vwCl) (tys := tyl ev) (ws := wB ev u) (ci := 6) (v := .long v) (ty := .long) (C := RX7) (T := TX7) (N := 20) hc.1 hc.2.1 hc.2.2.2.2.1 inX7 tyX7 tyX7_ok nmX7 hc.2.2.2.1 hc.2.2.2.2.2.1 hw.1 hw.2.1 hw.2.2 4 rfl rfl 13 (by decide) (hc.2.2.2.2.1 _ hl) (fun _ h => h) rfl (by decide +kernel) rfl rfl (Nat.le_of_ble_eq_true rfl) hd (fun H1 locs1 hP hD hS => k H1 locs1 ⟨hP, hD, hS⟩)
theorem gB4_14 (hc : CX wdB ev p s m c cc nL own args) (hw : VW wdB ev s u H locs) (hl : Cond.fieldLink own index "BidsJudged$Table" "greatest" "J" ∈ lw_g) (hd : decode cc pc = .ok (.getfield index, 3)) (k : W p l e R s m args below meth c H locs 0 0 Q (F0 m (pc + 3) ls (.long (gJ u 1) :: rest))) : W p l e R s m args below meth c H locs 0 0 Q (F0 m pc ls (.ref (ev.2.1 4) :: rest)) :=
  va_get (D := ev.1) (cl := vwCl) (tys := tyl ev) (ws := wB ev u) (ci := 6) (C := RX7) (T := TX7) (N := 20) hc.1 hc.2.1 hc.2.2.2.2.1 inX7 hc.2.2.2.1 hc.2.2.2.2.2.1 hw.1 4 rfl rfl 14 (by decide) (hc.2.2.2.2.1 _ hl) (fun _ h => h) rfl hd k
theorem pB4_14 {v : Int64} (hc : CX wdB ev p s m c cc nL own args) (hw : VW wdB ev s u H locs) (hl : Cond.fieldLink own index "BidsJudged$Table" "greatest" "J" ∈ lw_g) (hd : decode cc pc = .ok (.putfield index, 3)) (k : ∀ (H1 : Heap) (locs1 : List Loc), VW wdB ev s (sJ u 1 v) H1 locs1 → W p l e R s m args below meth c H1 locs1 0 0 Q (F0 m (pc + 3) ls rest)) : W p l e R s m args below meth c H locs 0 0 Q (F0 m pc ls (.long v :: .ref (ev.2.1 4) :: rest)) :=
  va_put (D := ev.1) (cl := vwCl) (tys := tyl ev) (ws := wB ev u) (ci := 6) (v := .long v) (ty := .long) (C := RX7) (T := TX7) (N := 20) hc.1 hc.2.1 hc.2.2.2.2.1 inX7 tyX7 tyX7_ok nmX7 hc.2.2.2.1 hc.2.2.2.2.2.1 hw.1 hw.2.1 hw.2.2 4 rfl rfl 14 (by decide) (hc.2.2.2.2.1 _ hl) (fun _ h => h) rfl (by decide +kernel) rfl rfl (Nat.le_of_ble_eq_true rfl) hd (fun H1 locs1 hP hD hS => k H1 locs1 ⟨hP, hD, hS⟩)
theorem gB4_15 (hc : CX wdB ev p s m c cc nL own args) (hw : VW wdB ev s u H locs) (hl : Cond.fieldLink own index "BidsJudged$Table" "meanAbove" "J" ∈ lw_g) (hd : decode cc pc = .ok (.getfield index, 3)) (k : W p l e R s m args below meth c H locs 0 0 Q (F0 m (pc + 3) ls (.long (gJ u 2) :: rest))) : W p l e R s m args below meth c H locs 0 0 Q (F0 m pc ls (.ref (ev.2.1 4) :: rest)) :=
  va_get (D := ev.1) (cl := vwCl) (tys := tyl ev) (ws := wB ev u) (ci := 6) (C := RX7) (T := TX7) (N := 20) hc.1 hc.2.1 hc.2.2.2.2.1 inX7 hc.2.2.2.1 hc.2.2.2.2.2.1 hw.1 4 rfl rfl 15 (by decide) (hc.2.2.2.2.1 _ hl) (fun _ h => h) rfl hd k
theorem pB4_15 {v : Int64} (hc : CX wdB ev p s m c cc nL own args) (hw : VW wdB ev s u H locs) (hl : Cond.fieldLink own index "BidsJudged$Table" "meanAbove" "J" ∈ lw_g) (hd : decode cc pc = .ok (.putfield index, 3)) (k : ∀ (H1 : Heap) (locs1 : List Loc), VW wdB ev s (sJ u 2 v) H1 locs1 → W p l e R s m args below meth c H1 locs1 0 0 Q (F0 m (pc + 3) ls rest)) : W p l e R s m args below meth c H locs 0 0 Q (F0 m pc ls (.long v :: .ref (ev.2.1 4) :: rest)) :=
  va_put (D := ev.1) (cl := vwCl) (tys := tyl ev) (ws := wB ev u) (ci := 6) (v := .long v) (ty := .long) (C := RX7) (T := TX7) (N := 20) hc.1 hc.2.1 hc.2.2.2.2.1 inX7 tyX7 tyX7_ok nmX7 hc.2.2.2.1 hc.2.2.2.2.2.1 hw.1 hw.2.1 hw.2.2 4 rfl rfl 15 (by decide) (hc.2.2.2.2.1 _ hl) (fun _ h => h) rfl (by decide +kernel) rfl rfl (Nat.le_of_ble_eq_true rfl) hd (fun H1 locs1 hP hD hS => k H1 locs1 ⟨hP, hD, hS⟩)
theorem gB4_16 (hc : CX wdB ev p s m c cc nL own args) (hw : VW wdB ev s u H locs) (hl : Cond.fieldLink own index "BidsJudged$Table" "meanBelow" "J" ∈ lw_g) (hd : decode cc pc = .ok (.getfield index, 3)) (k : W p l e R s m args below meth c H locs 0 0 Q (F0 m (pc + 3) ls (.long (gJ u 3) :: rest))) : W p l e R s m args below meth c H locs 0 0 Q (F0 m pc ls (.ref (ev.2.1 4) :: rest)) :=
  va_get (D := ev.1) (cl := vwCl) (tys := tyl ev) (ws := wB ev u) (ci := 6) (C := RX7) (T := TX7) (N := 20) hc.1 hc.2.1 hc.2.2.2.2.1 inX7 hc.2.2.2.1 hc.2.2.2.2.2.1 hw.1 4 rfl rfl 16 (by decide) (hc.2.2.2.2.1 _ hl) (fun _ h => h) rfl hd k
theorem pB4_16 {v : Int64} (hc : CX wdB ev p s m c cc nL own args) (hw : VW wdB ev s u H locs) (hl : Cond.fieldLink own index "BidsJudged$Table" "meanBelow" "J" ∈ lw_g) (hd : decode cc pc = .ok (.putfield index, 3)) (k : ∀ (H1 : Heap) (locs1 : List Loc), VW wdB ev s (sJ u 3 v) H1 locs1 → W p l e R s m args below meth c H1 locs1 0 0 Q (F0 m (pc + 3) ls rest)) : W p l e R s m args below meth c H locs 0 0 Q (F0 m pc ls (.long v :: .ref (ev.2.1 4) :: rest)) :=
  va_put (D := ev.1) (cl := vwCl) (tys := tyl ev) (ws := wB ev u) (ci := 6) (v := .long v) (ty := .long) (C := RX7) (T := TX7) (N := 20) hc.1 hc.2.1 hc.2.2.2.2.1 inX7 tyX7 tyX7_ok nmX7 hc.2.2.2.1 hc.2.2.2.2.2.1 hw.1 hw.2.1 hw.2.2 4 rfl rfl 16 (by decide) (hc.2.2.2.2.1 _ hl) (fun _ h => h) rfl (by decide +kernel) rfl rfl (Nat.le_of_ble_eq_true rfl) hd (fun H1 locs1 hP hD hS => k H1 locs1 ⟨hP, hD, hS⟩)
theorem gB4_17 (hc : CX wdB ev p s m c cc nL own args) (hw : VW wdB ev s u H locs) (hl : Cond.fieldLink own index "BidsJudged$Table" "howMany" "I" ∈ lw_g) (hd : decode cc pc = .ok (.getfield index, 3)) (k : W p l e R s m args below meth c H locs 0 0 Q (F0 m (pc + 3) ls (.int (gI u 12) :: rest))) : W p l e R s m args below meth c H locs 0 0 Q (F0 m pc ls (.ref (ev.2.1 4) :: rest)) :=
  va_get (D := ev.1) (cl := vwCl) (tys := tyl ev) (ws := wB ev u) (ci := 6) (C := RX7) (T := TX7) (N := 20) hc.1 hc.2.1 hc.2.2.2.2.1 inX7 hc.2.2.2.1 hc.2.2.2.2.2.1 hw.1 4 rfl rfl 17 (by decide) (hc.2.2.2.2.1 _ hl) (fun _ h => h) rfl hd k
theorem pB4_17 {v : Int32} (hc : CX wdB ev p s m c cc nL own args) (hw : VW wdB ev s u H locs) (hl : Cond.fieldLink own index "BidsJudged$Table" "howMany" "I" ∈ lw_g) (hd : decode cc pc = .ok (.putfield index, 3)) (k : ∀ (H1 : Heap) (locs1 : List Loc), VW wdB ev s (sI u 12 v) H1 locs1 → W p l e R s m args below meth c H1 locs1 0 0 Q (F0 m (pc + 3) ls rest)) : W p l e R s m args below meth c H locs 0 0 Q (F0 m pc ls (.int v :: .ref (ev.2.1 4) :: rest)) :=
  va_put (D := ev.1) (cl := vwCl) (tys := tyl ev) (ws := wB ev u) (ci := 6) (v := .int v) (ty := .int) (C := RX7) (T := TX7) (N := 20) hc.1 hc.2.1 hc.2.2.2.2.1 inX7 tyX7 tyX7_ok nmX7 hc.2.2.2.1 hc.2.2.2.2.2.1 hw.1 hw.2.1 hw.2.2 4 rfl rfl 17 (by decide) (hc.2.2.2.2.1 _ hl) (fun _ h => h) rfl (by decide +kernel) rfl rfl (Nat.le_of_ble_eq_true rfl) hd (fun H1 locs1 hP hD hS => k H1 locs1 ⟨hP, hD, hS⟩)
theorem gB4_18 (hc : CX wdB ev p s m c cc nL own args) (hw : VW wdB ev s u H locs) (hl : Cond.fieldLink own index "BidsJudged$Table" "bestAbove" "J" ∈ lw_g) (hd : decode cc pc = .ok (.getfield index, 3)) (k : W p l e R s m args below meth c H locs 0 0 Q (F0 m (pc + 3) ls (.long (gJ u 4) :: rest))) : W p l e R s m args below meth c H locs 0 0 Q (F0 m pc ls (.ref (ev.2.1 4) :: rest)) :=
  va_get (D := ev.1) (cl := vwCl) (tys := tyl ev) (ws := wB ev u) (ci := 6) (C := RX7) (T := TX7) (N := 20) hc.1 hc.2.1 hc.2.2.2.2.1 inX7 hc.2.2.2.1 hc.2.2.2.2.2.1 hw.1 4 rfl rfl 18 (by decide) (hc.2.2.2.2.1 _ hl) (fun _ h => h) rfl hd k
theorem pB4_18 {v : Int64} (hc : CX wdB ev p s m c cc nL own args) (hw : VW wdB ev s u H locs) (hl : Cond.fieldLink own index "BidsJudged$Table" "bestAbove" "J" ∈ lw_g) (hd : decode cc pc = .ok (.putfield index, 3)) (k : ∀ (H1 : Heap) (locs1 : List Loc), VW wdB ev s (sJ u 4 v) H1 locs1 → W p l e R s m args below meth c H1 locs1 0 0 Q (F0 m (pc + 3) ls rest)) : W p l e R s m args below meth c H locs 0 0 Q (F0 m pc ls (.long v :: .ref (ev.2.1 4) :: rest)) :=
  va_put (D := ev.1) (cl := vwCl) (tys := tyl ev) (ws := wB ev u) (ci := 6) (v := .long v) (ty := .long) (C := RX7) (T := TX7) (N := 20) hc.1 hc.2.1 hc.2.2.2.2.1 inX7 tyX7 tyX7_ok nmX7 hc.2.2.2.1 hc.2.2.2.2.2.1 hw.1 hw.2.1 hw.2.2 4 rfl rfl 18 (by decide) (hc.2.2.2.2.1 _ hl) (fun _ h => h) rfl (by decide +kernel) rfl rfl (Nat.le_of_ble_eq_true rfl) hd (fun H1 locs1 hP hD hS => k H1 locs1 ⟨hP, hD, hS⟩)
theorem gB4_19 (hc : CX wdB ev p s m c cc nL own args) (hw : VW wdB ev s u H locs) (hl : Cond.fieldLink own index "BidsJudged$Table" "bestBelow" "J" ∈ lw_g) (hd : decode cc pc = .ok (.getfield index, 3)) (k : W p l e R s m args below meth c H locs 0 0 Q (F0 m (pc + 3) ls (.long (gJ u 5) :: rest))) : W p l e R s m args below meth c H locs 0 0 Q (F0 m pc ls (.ref (ev.2.1 4) :: rest)) :=
  va_get (D := ev.1) (cl := vwCl) (tys := tyl ev) (ws := wB ev u) (ci := 6) (C := RX7) (T := TX7) (N := 20) hc.1 hc.2.1 hc.2.2.2.2.1 inX7 hc.2.2.2.1 hc.2.2.2.2.2.1 hw.1 4 rfl rfl 19 (by decide) (hc.2.2.2.2.1 _ hl) (fun _ h => h) rfl hd k
theorem pB4_19 {v : Int64} (hc : CX wdB ev p s m c cc nL own args) (hw : VW wdB ev s u H locs) (hl : Cond.fieldLink own index "BidsJudged$Table" "bestBelow" "J" ∈ lw_g) (hd : decode cc pc = .ok (.putfield index, 3)) (k : ∀ (H1 : Heap) (locs1 : List Loc), VW wdB ev s (sJ u 5 v) H1 locs1 → W p l e R s m args below meth c H1 locs1 0 0 Q (F0 m (pc + 3) ls rest)) : W p l e R s m args below meth c H locs 0 0 Q (F0 m pc ls (.long v :: .ref (ev.2.1 4) :: rest)) :=
  va_put (D := ev.1) (cl := vwCl) (tys := tyl ev) (ws := wB ev u) (ci := 6) (v := .long v) (ty := .long) (C := RX7) (T := TX7) (N := 20) hc.1 hc.2.1 hc.2.2.2.2.1 inX7 tyX7 tyX7_ok nmX7 hc.2.2.2.1 hc.2.2.2.2.2.1 hw.1 hw.2.1 hw.2.2 4 rfl rfl 19 (by decide) (hc.2.2.2.2.1 _ hl) (fun _ h => h) rfl (by decide +kernel) rfl rfl (Nat.le_of_ble_eq_true rfl) hd (fun H1 locs1 hP hD hS => k H1 locs1 ⟨hP, hD, hS⟩)
theorem gB5_0 (hc : CX wdB ev p s m c cc nL own args) (hw : VW wdB ev s u H locs) (hl : Cond.fieldLink own index "BidsJudged$Whole" "mosts" "[I" ∈ lw_g) (hd : decode cc pc = .ok (.getfield index, 3)) (k : W p l e R s m args below meth c H locs 0 0 Q (F0 m (pc + 3) ls (.ref (ev.2.1 35) :: rest))) : W p l e R s m args below meth c H locs 0 0 Q (F0 m pc ls (.ref (ev.2.1 5) :: rest)) :=
  va_get (D := ev.1) (cl := vwCl) (tys := tyl ev) (ws := wB ev u) (ci := 7) (C := RX8) (T := TX8) (N := 9) hc.1 hc.2.1 hc.2.2.2.2.1 inX8 hc.2.2.2.1 hc.2.2.2.2.2.1 hw.1 5 rfl rfl 0 (by decide) (hc.2.2.2.2.1 _ hl) (fun _ h => h) rfl hd k
theorem gB5_1 (hc : CX wdB ev p s m c cc nL own args) (hw : VW wdB ev s u H locs) (hl : Cond.fieldLink own index "BidsJudged$Whole" "winners" "[I" ∈ lw_g) (hd : decode cc pc = .ok (.getfield index, 3)) (k : W p l e R s m args below meth c H locs 0 0 Q (F0 m (pc + 3) ls (.ref (ev.2.1 36) :: rest))) : W p l e R s m args below meth c H locs 0 0 Q (F0 m pc ls (.ref (ev.2.1 5) :: rest)) :=
  va_get (D := ev.1) (cl := vwCl) (tys := tyl ev) (ws := wB ev u) (ci := 7) (C := RX8) (T := TX8) (N := 9) hc.1 hc.2.1 hc.2.2.2.2.1 inX8 hc.2.2.2.1 hc.2.2.2.2.2.1 hw.1 5 rfl rfl 1 (by decide) (hc.2.2.2.2.1 _ hl) (fun _ h => h) rfl hd k
theorem gB5_2 (hc : CX wdB ev p s m c cc nL own args) (hw : VW wdB ev s u H locs) (hl : Cond.fieldLink own index "BidsJudged$Whole" "given" "I" ∈ lw_g) (hd : decode cc pc = .ok (.getfield index, 3)) (k : W p l e R s m args below meth c H locs 0 0 Q (F0 m (pc + 3) ls (.int (gI u 13) :: rest))) : W p l e R s m args below meth c H locs 0 0 Q (F0 m pc ls (.ref (ev.2.1 5) :: rest)) :=
  va_get (D := ev.1) (cl := vwCl) (tys := tyl ev) (ws := wB ev u) (ci := 7) (C := RX8) (T := TX8) (N := 9) hc.1 hc.2.1 hc.2.2.2.2.1 inX8 hc.2.2.2.1 hc.2.2.2.2.2.1 hw.1 5 rfl rfl 2 (by decide) (hc.2.2.2.2.1 _ hl) (fun _ h => h) rfl hd k
theorem pB5_2 {v : Int32} (hc : CX wdB ev p s m c cc nL own args) (hw : VW wdB ev s u H locs) (hl : Cond.fieldLink own index "BidsJudged$Whole" "given" "I" ∈ lw_g) (hd : decode cc pc = .ok (.putfield index, 3)) (k : ∀ (H1 : Heap) (locs1 : List Loc), VW wdB ev s (sI u 13 v) H1 locs1 → W p l e R s m args below meth c H1 locs1 0 0 Q (F0 m (pc + 3) ls rest)) : W p l e R s m args below meth c H locs 0 0 Q (F0 m pc ls (.int v :: .ref (ev.2.1 5) :: rest)) :=
  va_put (D := ev.1) (cl := vwCl) (tys := tyl ev) (ws := wB ev u) (ci := 7) (v := .int v) (ty := .int) (C := RX8) (T := TX8) (N := 9) hc.1 hc.2.1 hc.2.2.2.2.1 inX8 tyX8 tyX8_ok nmX8 hc.2.2.2.1 hc.2.2.2.2.2.1 hw.1 hw.2.1 hw.2.2 5 rfl rfl 2 (by decide) (hc.2.2.2.2.1 _ hl) (fun _ h => h) rfl (by decide +kernel) rfl rfl (Nat.le_of_ble_eq_true rfl) hd (fun H1 locs1 hP hD hS => k H1 locs1 ⟨hP, hD, hS⟩)
theorem gB5_3 (hc : CX wdB ev p s m c cc nL own args) (hw : VW wdB ev s u H locs) (hl : Cond.fieldLink own index "BidsJudged$Whole" "value" "I" ∈ lw_g) (hd : decode cc pc = .ok (.getfield index, 3)) (k : W p l e R s m args below meth c H locs 0 0 Q (F0 m (pc + 3) ls (.int (gI u 14) :: rest))) : W p l e R s m args below meth c H locs 0 0 Q (F0 m pc ls (.ref (ev.2.1 5) :: rest)) :=
  va_get (D := ev.1) (cl := vwCl) (tys := tyl ev) (ws := wB ev u) (ci := 7) (C := RX8) (T := TX8) (N := 9) hc.1 hc.2.1 hc.2.2.2.2.1 inX8 hc.2.2.2.1 hc.2.2.2.2.2.1 hw.1 5 rfl rfl 3 (by decide) (hc.2.2.2.2.1 _ hl) (fun _ h => h) rfl hd k
theorem pB5_3 {v : Int32} (hc : CX wdB ev p s m c cc nL own args) (hw : VW wdB ev s u H locs) (hl : Cond.fieldLink own index "BidsJudged$Whole" "value" "I" ∈ lw_g) (hd : decode cc pc = .ok (.putfield index, 3)) (k : ∀ (H1 : Heap) (locs1 : List Loc), VW wdB ev s (sI u 14 v) H1 locs1 → W p l e R s m args below meth c H1 locs1 0 0 Q (F0 m (pc + 3) ls rest)) : W p l e R s m args below meth c H locs 0 0 Q (F0 m pc ls (.int v :: .ref (ev.2.1 5) :: rest)) :=
  va_put (D := ev.1) (cl := vwCl) (tys := tyl ev) (ws := wB ev u) (ci := 7) (v := .int v) (ty := .int) (C := RX8) (T := TX8) (N := 9) hc.1 hc.2.1 hc.2.2.2.2.1 inX8 tyX8 tyX8_ok nmX8 hc.2.2.2.1 hc.2.2.2.2.2.1 hw.1 hw.2.1 hw.2.2 5 rfl rfl 3 (by decide) (hc.2.2.2.2.1 _ hl) (fun _ h => h) rfl (by decide +kernel) rfl rfl (Nat.le_of_ble_eq_true rfl) hd (fun H1 locs1 hP hD hS => k H1 locs1 ⟨hP, hD, hS⟩)
theorem gB5_4 (hc : CX wdB ev p s m c cc nL own args) (hw : VW wdB ev s u H locs) (hl : Cond.fieldLink own index "BidsJudged$Whole" "rebates" "[I" ∈ lw_g) (hd : decode cc pc = .ok (.getfield index, 3)) (k : W p l e R s m args below meth c H locs 0 0 Q (F0 m (pc + 3) ls (.ref (ev.2.1 37) :: rest))) : W p l e R s m args below meth c H locs 0 0 Q (F0 m pc ls (.ref (ev.2.1 5) :: rest)) :=
  va_get (D := ev.1) (cl := vwCl) (tys := tyl ev) (ws := wB ev u) (ci := 7) (C := RX8) (T := TX8) (N := 9) hc.1 hc.2.1 hc.2.2.2.2.1 inX8 hc.2.2.2.1 hc.2.2.2.2.2.1 hw.1 5 rfl rfl 4 (by decide) (hc.2.2.2.2.1 _ hl) (fun _ h => h) rfl hd k
theorem gB5_5 (hc : CX wdB ev p s m c cc nL own args) (hw : VW wdB ev s u H locs) (hl : Cond.fieldLink own index "BidsJudged$Whole" "places" "[I" ∈ lw_g) (hd : decode cc pc = .ok (.getfield index, 3)) (k : W p l e R s m args below meth c H locs 0 0 Q (F0 m (pc + 3) ls (.ref (ev.2.1 38) :: rest))) : W p l e R s m args below meth c H locs 0 0 Q (F0 m pc ls (.ref (ev.2.1 5) :: rest)) :=
  va_get (D := ev.1) (cl := vwCl) (tys := tyl ev) (ws := wB ev u) (ci := 7) (C := RX8) (T := TX8) (N := 9) hc.1 hc.2.1 hc.2.2.2.2.1 inX8 hc.2.2.2.1 hc.2.2.2.2.2.1 hw.1 5 rfl rfl 5 (by decide) (hc.2.2.2.2.1 _ hl) (fun _ h => h) rfl hd k
theorem gB5_6 (hc : CX wdB ev p s m c cc nL own args) (hw : VW wdB ev s u H locs) (hl : Cond.fieldLink own index "BidsJudged$Whole" "prices" "[I" ∈ lw_g) (hd : decode cc pc = .ok (.getfield index, 3)) (k : W p l e R s m args below meth c H locs 0 0 Q (F0 m (pc + 3) ls (.ref (ev.2.1 39) :: rest))) : W p l e R s m args below meth c H locs 0 0 Q (F0 m pc ls (.ref (ev.2.1 5) :: rest)) :=
  va_get (D := ev.1) (cl := vwCl) (tys := tyl ev) (ws := wB ev u) (ci := 7) (C := RX8) (T := TX8) (N := 9) hc.1 hc.2.1 hc.2.2.2.2.1 inX8 hc.2.2.2.1 hc.2.2.2.2.2.1 hw.1 5 rfl rfl 6 (by decide) (hc.2.2.2.2.1 _ hl) (fun _ h => h) rfl hd k
theorem gB5_7 (hc : CX wdB ev p s m c cc nL own args) (hw : VW wdB ev s u H locs) (hl : Cond.fieldLink own index "BidsJudged$Whole" "best" "[J" ∈ lw_g) (hd : decode cc pc = .ok (.getfield index, 3)) (k : W p l e R s m args below meth c H locs 0 0 Q (F0 m (pc + 3) ls (.ref (ev.2.1 40) :: rest))) : W p l e R s m args below meth c H locs 0 0 Q (F0 m pc ls (.ref (ev.2.1 5) :: rest)) :=
  va_get (D := ev.1) (cl := vwCl) (tys := tyl ev) (ws := wB ev u) (ci := 7) (C := RX8) (T := TX8) (N := 9) hc.1 hc.2.1 hc.2.2.2.2.1 inX8 hc.2.2.2.1 hc.2.2.2.2.2.1 hw.1 5 rfl rfl 7 (by decide) (hc.2.2.2.2.1 _ hl) (fun _ h => h) rfl hd k
theorem gB5_8 (hc : CX wdB ev p s m c cc nL own args) (hw : VW wdB ev s u H locs) (hl : Cond.fieldLink own index "BidsJudged$Whole" "costs" "[J" ∈ lw_g) (hd : decode cc pc = .ok (.getfield index, 3)) (k : W p l e R s m args below meth c H locs 0 0 Q (F0 m (pc + 3) ls (.ref (ev.2.1 41) :: rest))) : W p l e R s m args below meth c H locs 0 0 Q (F0 m pc ls (.ref (ev.2.1 5) :: rest)) :=
  va_get (D := ev.1) (cl := vwCl) (tys := tyl ev) (ws := wB ev u) (ci := 7) (C := RX8) (T := TX8) (N := 9) hc.1 hc.2.1 hc.2.2.2.2.1 inX8 hc.2.2.2.1 hc.2.2.2.2.2.1 hw.1 5 rfl rfl 8 (by decide) (hc.2.2.2.2.1 _ hl) (fun _ h => h) rfl hd k
theorem gB6_0 (hc : CX wdB ev p s m c cc nL own args) (hw : VW wdB ev s u H locs) (hl : Cond.fieldLink own index "BidsJudged$Award" "isAwarded" "Z" ∈ lw_g) (hd : decode cc pc = .ok (.getfield index, 3)) (k : W p l e R s m args below meth c H locs 0 0 Q (F0 m (pc + 3) ls (.int (gI u 15) :: rest))) : W p l e R s m args below meth c H locs 0 0 Q (F0 m pc ls (.ref (ev.2.1 6) :: rest)) :=
  va_get (D := ev.1) (cl := vwCl) (tys := tyl ev) (ws := wB ev u) (ci := 0) (C := RX0) (T := TX0) (N := 12) hc.1 hc.2.1 hc.2.2.2.2.1 inX0 hc.2.2.2.1 hc.2.2.2.2.2.1 hw.1 6 rfl rfl 0 (by decide) (hc.2.2.2.2.1 _ hl) (fun _ h => h) rfl hd k
theorem pB6_0 {v : Int32} (hc : CX wdB ev p s m c cc nL own args) (hw : VW wdB ev s u H locs) (hl : Cond.fieldLink own index "BidsJudged$Award" "isAwarded" "Z" ∈ lw_g) (hn : narrow .boolean (.int v) = .int v) (hft : fits .boolean (.int v) = true) (hd : decode cc pc = .ok (.putfield index, 3)) (k : ∀ (H1 : Heap) (locs1 : List Loc), VW wdB ev s (sI u 15 v) H1 locs1 → W p l e R s m args below meth c H1 locs1 0 0 Q (F0 m (pc + 3) ls rest)) : W p l e R s m args below meth c H locs 0 0 Q (F0 m pc ls (.int v :: .ref (ev.2.1 6) :: rest)) :=
  va_put (D := ev.1) (cl := vwCl) (tys := tyl ev) (ws := wB ev u) (ci := 0) (v := .int v) (ty := .boolean) (C := RX0) (T := TX0) (N := 12) hc.1 hc.2.1 hc.2.2.2.2.1 inX0 tyX0 tyX0_ok nmX0 hc.2.2.2.1 hc.2.2.2.2.2.1 hw.1 hw.2.1 hw.2.2 6 rfl rfl 0 (by decide) (hc.2.2.2.2.1 _ hl) (fun _ h => h) rfl (by decide +kernel) hn hft (Nat.le_of_ble_eq_true rfl) hd (fun H1 locs1 hP hD hS => k H1 locs1 ⟨hP, hD, hS⟩)
theorem gB6_1 (hc : CX wdB ev p s m c cc nL own args) (hw : VW wdB ev s u H locs) (hl : Cond.fieldLink own index "BidsJudged$Award" "isSigned" "Z" ∈ lw_g) (hd : decode cc pc = .ok (.getfield index, 3)) (k : W p l e R s m args below meth c H locs 0 0 Q (F0 m (pc + 3) ls (.int (gI u 16) :: rest))) : W p l e R s m args below meth c H locs 0 0 Q (F0 m pc ls (.ref (ev.2.1 6) :: rest)) :=
  va_get (D := ev.1) (cl := vwCl) (tys := tyl ev) (ws := wB ev u) (ci := 0) (C := RX0) (T := TX0) (N := 12) hc.1 hc.2.1 hc.2.2.2.2.1 inX0 hc.2.2.2.1 hc.2.2.2.2.2.1 hw.1 6 rfl rfl 1 (by decide) (hc.2.2.2.2.1 _ hl) (fun _ h => h) rfl hd k
theorem pB6_1 {v : Int32} (hc : CX wdB ev p s m c cc nL own args) (hw : VW wdB ev s u H locs) (hl : Cond.fieldLink own index "BidsJudged$Award" "isSigned" "Z" ∈ lw_g) (hn : narrow .boolean (.int v) = .int v) (hft : fits .boolean (.int v) = true) (hd : decode cc pc = .ok (.putfield index, 3)) (k : ∀ (H1 : Heap) (locs1 : List Loc), VW wdB ev s (sI u 16 v) H1 locs1 → W p l e R s m args below meth c H1 locs1 0 0 Q (F0 m (pc + 3) ls rest)) : W p l e R s m args below meth c H locs 0 0 Q (F0 m pc ls (.int v :: .ref (ev.2.1 6) :: rest)) :=
  va_put (D := ev.1) (cl := vwCl) (tys := tyl ev) (ws := wB ev u) (ci := 0) (v := .int v) (ty := .boolean) (C := RX0) (T := TX0) (N := 12) hc.1 hc.2.1 hc.2.2.2.2.1 inX0 tyX0 tyX0_ok nmX0 hc.2.2.2.1 hc.2.2.2.2.2.1 hw.1 hw.2.1 hw.2.2 6 rfl rfl 1 (by decide) (hc.2.2.2.2.1 _ hl) (fun _ h => h) rfl (by decide +kernel) hn hft (Nat.le_of_ble_eq_true rfl) hd (fun H1 locs1 hP hD hS => k H1 locs1 ⟨hP, hD, hS⟩)
theorem gB6_2 (hc : CX wdB ev p s m c cc nL own args) (hw : VW wdB ev s u H locs) (hl : Cond.fieldLink own index "BidsJudged$Award" "challenges" "I" ∈ lw_g) (hd : decode cc pc = .ok (.getfield index, 3)) (k : W p l e R s m args below meth c H locs 0 0 Q (F0 m (pc + 3) ls (.int (gI u 17) :: rest))) : W p l e R s m args below meth c H locs 0 0 Q (F0 m pc ls (.ref (ev.2.1 6) :: rest)) :=
  va_get (D := ev.1) (cl := vwCl) (tys := tyl ev) (ws := wB ev u) (ci := 0) (C := RX0) (T := TX0) (N := 12) hc.1 hc.2.1 hc.2.2.2.2.1 inX0 hc.2.2.2.1 hc.2.2.2.2.2.1 hw.1 6 rfl rfl 2 (by decide) (hc.2.2.2.2.1 _ hl) (fun _ h => h) rfl hd k
theorem pB6_2 {v : Int32} (hc : CX wdB ev p s m c cc nL own args) (hw : VW wdB ev s u H locs) (hl : Cond.fieldLink own index "BidsJudged$Award" "challenges" "I" ∈ lw_g) (hd : decode cc pc = .ok (.putfield index, 3)) (k : ∀ (H1 : Heap) (locs1 : List Loc), VW wdB ev s (sI u 17 v) H1 locs1 → W p l e R s m args below meth c H1 locs1 0 0 Q (F0 m (pc + 3) ls rest)) : W p l e R s m args below meth c H locs 0 0 Q (F0 m pc ls (.int v :: .ref (ev.2.1 6) :: rest)) :=
  va_put (D := ev.1) (cl := vwCl) (tys := tyl ev) (ws := wB ev u) (ci := 0) (v := .int v) (ty := .int) (C := RX0) (T := TX0) (N := 12) hc.1 hc.2.1 hc.2.2.2.2.1 inX0 tyX0 tyX0_ok nmX0 hc.2.2.2.1 hc.2.2.2.2.2.1 hw.1 hw.2.1 hw.2.2 6 rfl rfl 2 (by decide) (hc.2.2.2.2.1 _ hl) (fun _ h => h) rfl (by decide +kernel) rfl rfl (Nat.le_of_ble_eq_true rfl) hd (fun H1 locs1 hP hD hS => k H1 locs1 ⟨hP, hD, hS⟩)
theorem gB6_3 (hc : CX wdB ev p s m c cc nL own args) (hw : VW wdB ev s u H locs) (hl : Cond.fieldLink own index "BidsJudged$Award" "winners" "[I" ∈ lw_g) (hd : decode cc pc = .ok (.getfield index, 3)) (k : W p l e R s m args below meth c H locs 0 0 Q (F0 m (pc + 3) ls (.ref (ev.2.1 42) :: rest))) : W p l e R s m args below meth c H locs 0 0 Q (F0 m pc ls (.ref (ev.2.1 6) :: rest)) :=
  va_get (D := ev.1) (cl := vwCl) (tys := tyl ev) (ws := wB ev u) (ci := 0) (C := RX0) (T := TX0) (N := 12) hc.1 hc.2.1 hc.2.2.2.2.1 inX0 hc.2.2.2.1 hc.2.2.2.2.2.1 hw.1 6 rfl rfl 3 (by decide) (hc.2.2.2.2.1 _ hl) (fun _ h => h) rfl hd k
theorem gB6_4 (hc : CX wdB ev p s m c cc nL own args) (hw : VW wdB ev s u H locs) (hl : Cond.fieldLink own index "BidsJudged$Award" "lotOf" "[I" ∈ lw_g) (hd : decode cc pc = .ok (.getfield index, 3)) (k : W p l e R s m args below meth c H locs 0 0 Q (F0 m (pc + 3) ls (.ref (ev.2.1 43) :: rest))) : W p l e R s m args below meth c H locs 0 0 Q (F0 m pc ls (.ref (ev.2.1 6) :: rest)) :=
  va_get (D := ev.1) (cl := vwCl) (tys := tyl ev) (ws := wB ev u) (ci := 0) (C := RX0) (T := TX0) (N := 12) hc.1 hc.2.1 hc.2.2.2.2.1 inX0 hc.2.2.2.1 hc.2.2.2.2.2.1 hw.1 6 rfl rfl 4 (by decide) (hc.2.2.2.2.1 _ hl) (fun _ h => h) rfl hd k
theorem gB6_5 (hc : CX wdB ev p s m c cc nL own args) (hw : VW wdB ev s u H locs) (hl : Cond.fieldLink own index "BidsJudged$Award" "stageOf" "[I" ∈ lw_g) (hd : decode cc pc = .ok (.getfield index, 3)) (k : W p l e R s m args below meth c H locs 0 0 Q (F0 m (pc + 3) ls (.ref (ev.2.1 44) :: rest))) : W p l e R s m args below meth c H locs 0 0 Q (F0 m pc ls (.ref (ev.2.1 6) :: rest)) :=
  va_get (D := ev.1) (cl := vwCl) (tys := tyl ev) (ws := wB ev u) (ci := 0) (C := RX0) (T := TX0) (N := 12) hc.1 hc.2.1 hc.2.2.2.2.1 inX0 hc.2.2.2.1 hc.2.2.2.2.2.1 hw.1 6 rfl rfl 5 (by decide) (hc.2.2.2.2.1 _ hl) (fun _ h => h) rfl hd k
theorem gB6_6 (hc : CX wdB ev p s m c cc nL own args) (hw : VW wdB ev s u H locs) (hl : Cond.fieldLink own index "BidsJudged$Award" "judged" "[Z" ∈ lw_g) (hd : decode cc pc = .ok (.getfield index, 3)) (k : W p l e R s m args below meth c H locs 0 0 Q (F0 m (pc + 3) ls (.ref (ev.2.1 45) :: rest))) : W p l e R s m args below meth c H locs 0 0 Q (F0 m pc ls (.ref (ev.2.1 6) :: rest)) :=
  va_get (D := ev.1) (cl := vwCl) (tys := tyl ev) (ws := wB ev u) (ci := 0) (C := RX0) (T := TX0) (N := 12) hc.1 hc.2.1 hc.2.2.2.2.1 inX0 hc.2.2.2.1 hc.2.2.2.2.2.1 hw.1 6 rfl rfl 6 (by decide) (hc.2.2.2.2.1 _ hl) (fun _ h => h) rfl hd k
theorem gB6_7 (hc : CX wdB ev p s m c cc nL own args) (hw : VW wdB ev s u H locs) (hl : Cond.fieldLink own index "BidsJudged$Award" "roundOf" "[I" ∈ lw_g) (hd : decode cc pc = .ok (.getfield index, 3)) (k : W p l e R s m args below meth c H locs 0 0 Q (F0 m (pc + 3) ls (.ref (ev.2.1 46) :: rest))) : W p l e R s m args below meth c H locs 0 0 Q (F0 m pc ls (.ref (ev.2.1 6) :: rest)) :=
  va_get (D := ev.1) (cl := vwCl) (tys := tyl ev) (ws := wB ev u) (ci := 0) (C := RX0) (T := TX0) (N := 12) hc.1 hc.2.1 hc.2.2.2.2.1 inX0 hc.2.2.2.1 hc.2.2.2.2.2.1 hw.1 6 rfl rfl 7 (by decide) (hc.2.2.2.2.1 _ hl) (fun _ h => h) rfl hd k
theorem gB6_8 (hc : CX wdB ev p s m c cc nL own args) (hw : VW wdB ev s u H locs) (hl : Cond.fieldLink own index "BidsJudged$Award" "prices" "[I" ∈ lw_g) (hd : decode cc pc = .ok (.getfield index, 3)) (k : W p l e R s m args below meth c H locs 0 0 Q (F0 m (pc + 3) ls (.ref (ev.2.1 47) :: rest))) : W p l e R s m args below meth c H locs 0 0 Q (F0 m pc ls (.ref (ev.2.1 6) :: rest)) :=
  va_get (D := ev.1) (cl := vwCl) (tys := tyl ev) (ws := wB ev u) (ci := 0) (C := RX0) (T := TX0) (N := 12) hc.1 hc.2.1 hc.2.2.2.2.1 inX0 hc.2.2.2.1 hc.2.2.2.2.2.1 hw.1 6 rfl rfl 8 (by decide) (hc.2.2.2.2.1 _ hl) (fun _ h => h) rfl hd k
theorem gB6_9 (hc : CX wdB ev p s m c cc nL own args) (hw : VW wdB ev s u H locs) (hl : Cond.fieldLink own index "BidsJudged$Award" "changed" "[J" ∈ lw_g) (hd : decode cc pc = .ok (.getfield index, 3)) (k : W p l e R s m args below meth c H locs 0 0 Q (F0 m (pc + 3) ls (.ref (ev.2.1 48) :: rest))) : W p l e R s m args below meth c H locs 0 0 Q (F0 m pc ls (.ref (ev.2.1 6) :: rest)) :=
  va_get (D := ev.1) (cl := vwCl) (tys := tyl ev) (ws := wB ev u) (ci := 0) (C := RX0) (T := TX0) (N := 12) hc.1 hc.2.1 hc.2.2.2.2.1 inX0 hc.2.2.2.1 hc.2.2.2.2.2.1 hw.1 6 rfl rfl 9 (by decide) (hc.2.2.2.2.1 _ hl) (fun _ h => h) rfl hd k
theorem gB6_10 (hc : CX wdB ev p s m c cc nL own args) (hw : VW wdB ev s u H locs) (hl : Cond.fieldLink own index "BidsJudged$Award" "round" "I" ∈ lw_g) (hd : decode cc pc = .ok (.getfield index, 3)) (k : W p l e R s m args below meth c H locs 0 0 Q (F0 m (pc + 3) ls (.int (gI u 18) :: rest))) : W p l e R s m args below meth c H locs 0 0 Q (F0 m pc ls (.ref (ev.2.1 6) :: rest)) :=
  va_get (D := ev.1) (cl := vwCl) (tys := tyl ev) (ws := wB ev u) (ci := 0) (C := RX0) (T := TX0) (N := 12) hc.1 hc.2.1 hc.2.2.2.2.1 inX0 hc.2.2.2.1 hc.2.2.2.2.2.1 hw.1 6 rfl rfl 10 (by decide) (hc.2.2.2.2.1 _ hl) (fun _ h => h) rfl hd k
theorem pB6_10 {v : Int32} (hc : CX wdB ev p s m c cc nL own args) (hw : VW wdB ev s u H locs) (hl : Cond.fieldLink own index "BidsJudged$Award" "round" "I" ∈ lw_g) (hd : decode cc pc = .ok (.putfield index, 3)) (k : ∀ (H1 : Heap) (locs1 : List Loc), VW wdB ev s (sI u 18 v) H1 locs1 → W p l e R s m args below meth c H1 locs1 0 0 Q (F0 m (pc + 3) ls rest)) : W p l e R s m args below meth c H locs 0 0 Q (F0 m pc ls (.int v :: .ref (ev.2.1 6) :: rest)) :=
  va_put (D := ev.1) (cl := vwCl) (tys := tyl ev) (ws := wB ev u) (ci := 0) (v := .int v) (ty := .int) (C := RX0) (T := TX0) (N := 12) hc.1 hc.2.1 hc.2.2.2.2.1 inX0 tyX0 tyX0_ok nmX0 hc.2.2.2.1 hc.2.2.2.2.2.1 hw.1 hw.2.1 hw.2.2 6 rfl rfl 10 (by decide) (hc.2.2.2.2.1 _ hl) (fun _ h => h) rfl (by decide +kernel) rfl rfl (Nat.le_of_ble_eq_true rfl) hd (fun H1 locs1 hP hD hS => k H1 locs1 ⟨hP, hD, hS⟩)
theorem gB6_11 (hc : CX wdB ev p s m c cc nL own args) (hw : VW wdB ev s u H locs) (hl : Cond.fieldLink own index "BidsJudged$Award" "standstillUntil" "I" ∈ lw_g) (hd : decode cc pc = .ok (.getfield index, 3)) (k : W p l e R s m args below meth c H locs 0 0 Q (F0 m (pc + 3) ls (.int (gI u 19) :: rest))) : W p l e R s m args below meth c H locs 0 0 Q (F0 m pc ls (.ref (ev.2.1 6) :: rest)) :=
  va_get (D := ev.1) (cl := vwCl) (tys := tyl ev) (ws := wB ev u) (ci := 0) (C := RX0) (T := TX0) (N := 12) hc.1 hc.2.1 hc.2.2.2.2.1 inX0 hc.2.2.2.1 hc.2.2.2.2.2.1 hw.1 6 rfl rfl 11 (by decide) (hc.2.2.2.2.1 _ hl) (fun _ h => h) rfl hd k
theorem pB6_11 {v : Int32} (hc : CX wdB ev p s m c cc nL own args) (hw : VW wdB ev s u H locs) (hl : Cond.fieldLink own index "BidsJudged$Award" "standstillUntil" "I" ∈ lw_g) (hd : decode cc pc = .ok (.putfield index, 3)) (k : ∀ (H1 : Heap) (locs1 : List Loc), VW wdB ev s (sI u 19 v) H1 locs1 → W p l e R s m args below meth c H1 locs1 0 0 Q (F0 m (pc + 3) ls rest)) : W p l e R s m args below meth c H locs 0 0 Q (F0 m pc ls (.int v :: .ref (ev.2.1 6) :: rest)) :=
  va_put (D := ev.1) (cl := vwCl) (tys := tyl ev) (ws := wB ev u) (ci := 0) (v := .int v) (ty := .int) (C := RX0) (T := TX0) (N := 12) hc.1 hc.2.1 hc.2.2.2.2.1 inX0 tyX0 tyX0_ok nmX0 hc.2.2.2.1 hc.2.2.2.2.2.1 hw.1 hw.2.1 hw.2.2 6 rfl rfl 11 (by decide) (hc.2.2.2.2.1 _ hl) (fun _ h => h) rfl (by decide +kernel) rfl rfl (Nat.le_of_ble_eq_true rfl) hd (fun H1 locs1 hP hD hS => k H1 locs1 ⟨hP, hD, hS⟩)
theorem gB7_0 (hc : CX wdB ev p s m c cc nL own args) (hw : VW wdB ev s u H locs) (hl : Cond.fieldLink own index "BidsJudged$Framework" "rooms" "[I" ∈ lw_g) (hd : decode cc pc = .ok (.getfield index, 3)) (k : W p l e R s m args below meth c H locs 0 0 Q (F0 m (pc + 3) ls (.ref (ev.2.1 49) :: rest))) : W p l e R s m args below meth c H locs 0 0 Q (F0 m pc ls (.ref (ev.2.1 7) :: rest)) :=
  va_get (D := ev.1) (cl := vwCl) (tys := tyl ev) (ws := wB ev u) (ci := 4) (C := RX4) (T := TX4) (N := 7) hc.1 hc.2.1 hc.2.2.2.2.1 inX4 hc.2.2.2.1 hc.2.2.2.2.2.1 hw.1 7 rfl rfl 0 (by decide) (hc.2.2.2.2.1 _ hl) (fun _ h => h) rfl hd k
theorem gB7_1 (hc : CX wdB ev p s m c cc nL own args) (hw : VW wdB ev s u H locs) (hl : Cond.fieldLink own index "BidsJudged$Framework" "holder" "I" ∈ lw_g) (hd : decode cc pc = .ok (.getfield index, 3)) (k : W p l e R s m args below meth c H locs 0 0 Q (F0 m (pc + 3) ls (.int (gI u 20) :: rest))) : W p l e R s m args below meth c H locs 0 0 Q (F0 m pc ls (.ref (ev.2.1 7) :: rest)) :=
  va_get (D := ev.1) (cl := vwCl) (tys := tyl ev) (ws := wB ev u) (ci := 4) (C := RX4) (T := TX4) (N := 7) hc.1 hc.2.1 hc.2.2.2.2.1 inX4 hc.2.2.2.1 hc.2.2.2.2.2.1 hw.1 7 rfl rfl 1 (by decide) (hc.2.2.2.2.1 _ hl) (fun _ h => h) rfl hd k
theorem pB7_1 {v : Int32} (hc : CX wdB ev p s m c cc nL own args) (hw : VW wdB ev s u H locs) (hl : Cond.fieldLink own index "BidsJudged$Framework" "holder" "I" ∈ lw_g) (hd : decode cc pc = .ok (.putfield index, 3)) (k : ∀ (H1 : Heap) (locs1 : List Loc), VW wdB ev s (sI u 20 v) H1 locs1 → W p l e R s m args below meth c H1 locs1 0 0 Q (F0 m (pc + 3) ls rest)) : W p l e R s m args below meth c H locs 0 0 Q (F0 m pc ls (.int v :: .ref (ev.2.1 7) :: rest)) :=
  va_put (D := ev.1) (cl := vwCl) (tys := tyl ev) (ws := wB ev u) (ci := 4) (v := .int v) (ty := .int) (C := RX4) (T := TX4) (N := 7) hc.1 hc.2.1 hc.2.2.2.2.1 inX4 tyX4 tyX4_ok nmX4 hc.2.2.2.1 hc.2.2.2.2.2.1 hw.1 hw.2.1 hw.2.2 7 rfl rfl 1 (by decide) (hc.2.2.2.2.1 _ hl) (fun _ h => h) rfl (by decide +kernel) rfl rfl (Nat.le_of_ble_eq_true rfl) hd (fun H1 locs1 hP hD hS => k H1 locs1 ⟨hP, hD, hS⟩)
theorem gB7_2 (hc : CX wdB ev p s m c cc nL own args) (hw : VW wdB ev s u H locs) (hl : Cond.fieldLink own index "BidsJudged$Framework" "members" "[I" ∈ lw_g) (hd : decode cc pc = .ok (.getfield index, 3)) (k : W p l e R s m args below meth c H locs 0 0 Q (F0 m (pc + 3) ls (.ref (ev.2.1 50) :: rest))) : W p l e R s m args below meth c H locs 0 0 Q (F0 m pc ls (.ref (ev.2.1 7) :: rest)) :=
  va_get (D := ev.1) (cl := vwCl) (tys := tyl ev) (ws := wB ev u) (ci := 4) (C := RX4) (T := TX4) (N := 7) hc.1 hc.2.1 hc.2.2.2.2.1 inX4 hc.2.2.2.1 hc.2.2.2.2.2.1 hw.1 7 rfl rfl 2 (by decide) (hc.2.2.2.2.1 _ hl) (fun _ h => h) rfl hd k
theorem gB7_3 (hc : CX wdB ev p s m c cc nL own args) (hw : VW wdB ev s u H locs) (hl : Cond.fieldLink own index "BidsJudged$Framework" "size" "I" ∈ lw_g) (hd : decode cc pc = .ok (.getfield index, 3)) (k : W p l e R s m args below meth c H locs 0 0 Q (F0 m (pc + 3) ls (.int (gI u 21) :: rest))) : W p l e R s m args below meth c H locs 0 0 Q (F0 m pc ls (.ref (ev.2.1 7) :: rest)) :=
  va_get (D := ev.1) (cl := vwCl) (tys := tyl ev) (ws := wB ev u) (ci := 4) (C := RX4) (T := TX4) (N := 7) hc.1 hc.2.1 hc.2.2.2.2.1 inX4 hc.2.2.2.1 hc.2.2.2.2.2.1 hw.1 7 rfl rfl 3 (by decide) (hc.2.2.2.2.1 _ hl) (fun _ h => h) rfl hd k
theorem pB7_3 {v : Int32} (hc : CX wdB ev p s m c cc nL own args) (hw : VW wdB ev s u H locs) (hl : Cond.fieldLink own index "BidsJudged$Framework" "size" "I" ∈ lw_g) (hd : decode cc pc = .ok (.putfield index, 3)) (k : ∀ (H1 : Heap) (locs1 : List Loc), VW wdB ev s (sI u 21 v) H1 locs1 → W p l e R s m args below meth c H1 locs1 0 0 Q (F0 m (pc + 3) ls rest)) : W p l e R s m args below meth c H locs 0 0 Q (F0 m pc ls (.int v :: .ref (ev.2.1 7) :: rest)) :=
  va_put (D := ev.1) (cl := vwCl) (tys := tyl ev) (ws := wB ev u) (ci := 4) (v := .int v) (ty := .int) (C := RX4) (T := TX4) (N := 7) hc.1 hc.2.1 hc.2.2.2.2.1 inX4 tyX4 tyX4_ok nmX4 hc.2.2.2.1 hc.2.2.2.2.2.1 hw.1 hw.2.1 hw.2.2 7 rfl rfl 3 (by decide) (hc.2.2.2.2.1 _ hl) (fun _ h => h) rfl (by decide +kernel) rfl rfl (Nat.le_of_ble_eq_true rfl) hd (fun H1 locs1 hP hD hS => k H1 locs1 ⟨hP, hD, hS⟩)
theorem gB7_4 (hc : CX wdB ev p s m c cc nL own args) (hw : VW wdB ev s u H locs) (hl : Cond.fieldLink own index "BidsJudged$Framework" "latest" "I" ∈ lw_g) (hd : decode cc pc = .ok (.getfield index, 3)) (k : W p l e R s m args below meth c H locs 0 0 Q (F0 m (pc + 3) ls (.int (gI u 22) :: rest))) : W p l e R s m args below meth c H locs 0 0 Q (F0 m pc ls (.ref (ev.2.1 7) :: rest)) :=
  va_get (D := ev.1) (cl := vwCl) (tys := tyl ev) (ws := wB ev u) (ci := 4) (C := RX4) (T := TX4) (N := 7) hc.1 hc.2.1 hc.2.2.2.2.1 inX4 hc.2.2.2.1 hc.2.2.2.2.2.1 hw.1 7 rfl rfl 4 (by decide) (hc.2.2.2.2.1 _ hl) (fun _ h => h) rfl hd k
theorem pB7_4 {v : Int32} (hc : CX wdB ev p s m c cc nL own args) (hw : VW wdB ev s u H locs) (hl : Cond.fieldLink own index "BidsJudged$Framework" "latest" "I" ∈ lw_g) (hd : decode cc pc = .ok (.putfield index, 3)) (k : ∀ (H1 : Heap) (locs1 : List Loc), VW wdB ev s (sI u 22 v) H1 locs1 → W p l e R s m args below meth c H1 locs1 0 0 Q (F0 m (pc + 3) ls rest)) : W p l e R s m args below meth c H locs 0 0 Q (F0 m pc ls (.int v :: .ref (ev.2.1 7) :: rest)) :=
  va_put (D := ev.1) (cl := vwCl) (tys := tyl ev) (ws := wB ev u) (ci := 4) (v := .int v) (ty := .int) (C := RX4) (T := TX4) (N := 7) hc.1 hc.2.1 hc.2.2.2.2.1 inX4 tyX4 tyX4_ok nmX4 hc.2.2.2.1 hc.2.2.2.2.2.1 hw.1 hw.2.1 hw.2.2 7 rfl rfl 4 (by decide) (hc.2.2.2.2.1 _ hl) (fun _ h => h) rfl (by decide +kernel) rfl rfl (Nat.le_of_ble_eq_true rfl) hd (fun H1 locs1 hP hD hS => k H1 locs1 ⟨hP, hD, hS⟩)
theorem gB7_5 (hc : CX wdB ev p s m c cc nL own args) (hw : VW wdB ev s u H locs) (hl : Cond.fieldLink own index "BidsJudged$Framework" "first" "I" ∈ lw_g) (hd : decode cc pc = .ok (.getfield index, 3)) (k : W p l e R s m args below meth c H locs 0 0 Q (F0 m (pc + 3) ls (.int (gI u 23) :: rest))) : W p l e R s m args below meth c H locs 0 0 Q (F0 m pc ls (.ref (ev.2.1 7) :: rest)) :=
  va_get (D := ev.1) (cl := vwCl) (tys := tyl ev) (ws := wB ev u) (ci := 4) (C := RX4) (T := TX4) (N := 7) hc.1 hc.2.1 hc.2.2.2.2.1 inX4 hc.2.2.2.1 hc.2.2.2.2.2.1 hw.1 7 rfl rfl 5 (by decide) (hc.2.2.2.2.1 _ hl) (fun _ h => h) rfl hd k
theorem pB7_5 {v : Int32} (hc : CX wdB ev p s m c cc nL own args) (hw : VW wdB ev s u H locs) (hl : Cond.fieldLink own index "BidsJudged$Framework" "first" "I" ∈ lw_g) (hd : decode cc pc = .ok (.putfield index, 3)) (k : ∀ (H1 : Heap) (locs1 : List Loc), VW wdB ev s (sI u 23 v) H1 locs1 → W p l e R s m args below meth c H1 locs1 0 0 Q (F0 m (pc + 3) ls rest)) : W p l e R s m args below meth c H locs 0 0 Q (F0 m pc ls (.int v :: .ref (ev.2.1 7) :: rest)) :=
  va_put (D := ev.1) (cl := vwCl) (tys := tyl ev) (ws := wB ev u) (ci := 4) (v := .int v) (ty := .int) (C := RX4) (T := TX4) (N := 7) hc.1 hc.2.1 hc.2.2.2.2.1 inX4 tyX4 tyX4_ok nmX4 hc.2.2.2.1 hc.2.2.2.2.2.1 hw.1 hw.2.1 hw.2.2 7 rfl rfl 5 (by decide) (hc.2.2.2.2.1 _ hl) (fun _ h => h) rfl (by decide +kernel) rfl rfl (Nat.le_of_ble_eq_true rfl) hd (fun H1 locs1 hP hD hS => k H1 locs1 ⟨hP, hD, hS⟩)
theorem gB7_6 (hc : CX wdB ev p s m c cc nL own args) (hw : VW wdB ev s u H locs) (hl : Cond.fieldLink own index "BidsJudged$Framework" "wanted" "I" ∈ lw_g) (hd : decode cc pc = .ok (.getfield index, 3)) (k : W p l e R s m args below meth c H locs 0 0 Q (F0 m (pc + 3) ls (.int (gI u 24) :: rest))) : W p l e R s m args below meth c H locs 0 0 Q (F0 m pc ls (.ref (ev.2.1 7) :: rest)) :=
  va_get (D := ev.1) (cl := vwCl) (tys := tyl ev) (ws := wB ev u) (ci := 4) (C := RX4) (T := TX4) (N := 7) hc.1 hc.2.1 hc.2.2.2.2.1 inX4 hc.2.2.2.1 hc.2.2.2.2.2.1 hw.1 7 rfl rfl 6 (by decide) (hc.2.2.2.2.1 _ hl) (fun _ h => h) rfl hd k
theorem pB7_6 {v : Int32} (hc : CX wdB ev p s m c cc nL own args) (hw : VW wdB ev s u H locs) (hl : Cond.fieldLink own index "BidsJudged$Framework" "wanted" "I" ∈ lw_g) (hd : decode cc pc = .ok (.putfield index, 3)) (k : ∀ (H1 : Heap) (locs1 : List Loc), VW wdB ev s (sI u 24 v) H1 locs1 → W p l e R s m args below meth c H1 locs1 0 0 Q (F0 m (pc + 3) ls rest)) : W p l e R s m args below meth c H locs 0 0 Q (F0 m pc ls (.int v :: .ref (ev.2.1 7) :: rest)) :=
  va_put (D := ev.1) (cl := vwCl) (tys := tyl ev) (ws := wB ev u) (ci := 4) (v := .int v) (ty := .int) (C := RX4) (T := TX4) (N := 7) hc.1 hc.2.1 hc.2.2.2.2.1 inX4 tyX4 tyX4_ok nmX4 hc.2.2.2.1 hc.2.2.2.2.2.1 hw.1 hw.2.1 hw.2.2 7 rfl rfl 6 (by decide) (hc.2.2.2.2.1 _ hl) (fun _ h => h) rfl (by decide +kernel) rfl rfl (Nat.le_of_ble_eq_true rfl) hd (fun H1 locs1 hP hD hS => k H1 locs1 ⟨hP, hD, hS⟩)
theorem gB8_0 (hc : CX wdB ev p s m c cc nL own args) (hw : VW wdB ev s u H locs) (hl : Cond.fieldLink own index "BidsJudged$Fraction" "above" "J" ∈ lw_g) (hd : decode cc pc = .ok (.getfield index, 3)) (k : W p l e R s m args below meth c H locs 0 0 Q (F0 m (pc + 3) ls (.long (gJ u 6) :: rest))) : W p l e R s m args below meth c H locs 0 0 Q (F0 m pc ls (.ref (ev.2.1 8) :: rest)) :=
  va_get (D := ev.1) (cl := vwCl) (tys := tyl ev) (ws := wB ev u) (ci := 3) (C := RX3) (T := TX3) (N := 3) hc.1 hc.2.1 hc.2.2.2.2.1 inX3 hc.2.2.2.1 hc.2.2.2.2.2.1 hw.1 8 rfl rfl 0 (by decide) (hc.2.2.2.2.1 _ hl) (fun _ h => h) rfl hd k
theorem pB8_0 {v : Int64} (hc : CX wdB ev p s m c cc nL own args) (hw : VW wdB ev s u H locs) (hl : Cond.fieldLink own index "BidsJudged$Fraction" "above" "J" ∈ lw_g) (hd : decode cc pc = .ok (.putfield index, 3)) (k : ∀ (H1 : Heap) (locs1 : List Loc), VW wdB ev s (sJ u 6 v) H1 locs1 → W p l e R s m args below meth c H1 locs1 0 0 Q (F0 m (pc + 3) ls rest)) : W p l e R s m args below meth c H locs 0 0 Q (F0 m pc ls (.long v :: .ref (ev.2.1 8) :: rest)) :=
  va_put (D := ev.1) (cl := vwCl) (tys := tyl ev) (ws := wB ev u) (ci := 3) (v := .long v) (ty := .long) (C := RX3) (T := TX3) (N := 3) hc.1 hc.2.1 hc.2.2.2.2.1 inX3 tyX3 tyX3_ok nmX3 hc.2.2.2.1 hc.2.2.2.2.2.1 hw.1 hw.2.1 hw.2.2 8 rfl rfl 0 (by decide) (hc.2.2.2.2.1 _ hl) (fun _ h => h) rfl (by decide +kernel) rfl rfl (Nat.le_of_ble_eq_true rfl) hd (fun H1 locs1 hP hD hS => k H1 locs1 ⟨hP, hD, hS⟩)
theorem gB8_1 (hc : CX wdB ev p s m c cc nL own args) (hw : VW wdB ev s u H locs) (hl : Cond.fieldLink own index "BidsJudged$Fraction" "below" "J" ∈ lw_g) (hd : decode cc pc = .ok (.getfield index, 3)) (k : W p l e R s m args below meth c H locs 0 0 Q (F0 m (pc + 3) ls (.long (gJ u 7) :: rest))) : W p l e R s m args below meth c H locs 0 0 Q (F0 m pc ls (.ref (ev.2.1 8) :: rest)) :=
  va_get (D := ev.1) (cl := vwCl) (tys := tyl ev) (ws := wB ev u) (ci := 3) (C := RX3) (T := TX3) (N := 3) hc.1 hc.2.1 hc.2.2.2.2.1 inX3 hc.2.2.2.1 hc.2.2.2.2.2.1 hw.1 8 rfl rfl 1 (by decide) (hc.2.2.2.2.1 _ hl) (fun _ h => h) rfl hd k
theorem pB8_1 {v : Int64} (hc : CX wdB ev p s m c cc nL own args) (hw : VW wdB ev s u H locs) (hl : Cond.fieldLink own index "BidsJudged$Fraction" "below" "J" ∈ lw_g) (hd : decode cc pc = .ok (.putfield index, 3)) (k : ∀ (H1 : Heap) (locs1 : List Loc), VW wdB ev s (sJ u 7 v) H1 locs1 → W p l e R s m args below meth c H1 locs1 0 0 Q (F0 m (pc + 3) ls rest)) : W p l e R s m args below meth c H locs 0 0 Q (F0 m pc ls (.long v :: .ref (ev.2.1 8) :: rest)) :=
  va_put (D := ev.1) (cl := vwCl) (tys := tyl ev) (ws := wB ev u) (ci := 3) (v := .long v) (ty := .long) (C := RX3) (T := TX3) (N := 3) hc.1 hc.2.1 hc.2.2.2.2.1 inX3 tyX3 tyX3_ok nmX3 hc.2.2.2.1 hc.2.2.2.2.2.1 hw.1 hw.2.1 hw.2.2 8 rfl rfl 1 (by decide) (hc.2.2.2.2.1 _ hl) (fun _ h => h) rfl (by decide +kernel) rfl rfl (Nat.le_of_ble_eq_true rfl) hd (fun H1 locs1 hP hD hS => k H1 locs1 ⟨hP, hD, hS⟩)
theorem gB8_2 (hc : CX wdB ev p s m c cc nL own args) (hw : VW wdB ev s u H locs) (hl : Cond.fieldLink own index "BidsJudged$Fraction" "broken" "Z" ∈ lw_g) (hd : decode cc pc = .ok (.getfield index, 3)) (k : W p l e R s m args below meth c H locs 0 0 Q (F0 m (pc + 3) ls (.int (gI u 25) :: rest))) : W p l e R s m args below meth c H locs 0 0 Q (F0 m pc ls (.ref (ev.2.1 8) :: rest)) :=
  va_get (D := ev.1) (cl := vwCl) (tys := tyl ev) (ws := wB ev u) (ci := 3) (C := RX3) (T := TX3) (N := 3) hc.1 hc.2.1 hc.2.2.2.2.1 inX3 hc.2.2.2.1 hc.2.2.2.2.2.1 hw.1 8 rfl rfl 2 (by decide) (hc.2.2.2.2.1 _ hl) (fun _ h => h) rfl hd k
theorem pB8_2 {v : Int32} (hc : CX wdB ev p s m c cc nL own args) (hw : VW wdB ev s u H locs) (hl : Cond.fieldLink own index "BidsJudged$Fraction" "broken" "Z" ∈ lw_g) (hn : narrow .boolean (.int v) = .int v) (hft : fits .boolean (.int v) = true) (hd : decode cc pc = .ok (.putfield index, 3)) (k : ∀ (H1 : Heap) (locs1 : List Loc), VW wdB ev s (sI u 25 v) H1 locs1 → W p l e R s m args below meth c H1 locs1 0 0 Q (F0 m (pc + 3) ls rest)) : W p l e R s m args below meth c H locs 0 0 Q (F0 m pc ls (.int v :: .ref (ev.2.1 8) :: rest)) :=
  va_put (D := ev.1) (cl := vwCl) (tys := tyl ev) (ws := wB ev u) (ci := 3) (v := .int v) (ty := .boolean) (C := RX3) (T := TX3) (N := 3) hc.1 hc.2.1 hc.2.2.2.2.1 inX3 tyX3 tyX3_ok nmX3 hc.2.2.2.1 hc.2.2.2.2.2.1 hw.1 hw.2.1 hw.2.2 8 rfl rfl 2 (by decide) (hc.2.2.2.2.1 _ hl) (fun _ h => h) rfl (by decide +kernel) hn hft (Nat.le_of_ble_eq_true rfl) hd (fun H1 locs1 hP hD hS => k H1 locs1 ⟨hP, hD, hS⟩)
theorem aB9 {i : Int32} (hc : CX wdB ev p s m c cc nL own args) (hw : VW wdB ev s u H locs) (hin : vp_in i 8) (hd : decode cc pc = .ok (.iaload, 1)) (k : W p l e R s m args below meth c H locs 0 0 Q (F0 m (pc + 1) ls (.int (gA u 0 i.toNatClampNeg) :: rest))) : W p l e R s m args below meth c H locs 0 0 Q (F0 m pc ls (.int i :: .ref (ev.2.1 9) :: rest)) :=
  va_iald (D := ev.1) (cl := vwCl) (tys := tyl ev) (ws := wB ev u) hc.1 hc.2.1 hc.2.2.2.2.2.1 hw.1 9 0 rfl rfl hin hd k
theorem tB9 {i : Int32} {x : Int32} (hc : CX wdB ev p s m c cc nL own args) (hw : VW wdB ev s u H locs) (hin : vp_in i 8) (hd : decode cc pc = .ok (.iastore, 1)) (k : ∀ (H1 : Heap) (locs1 : List Loc), VW wdB ev s (tA u 0 i x) H1 locs1 → W p l e R s m args below meth c H1 locs1 0 0 Q (F0 m (pc + 1) ls rest)) : W p l e R s m args below meth c H locs 0 0 Q (F0 m pc ls (.int x :: .int i :: .ref (ev.2.1 9) :: rest)) :=
  va_iast (D := ev.1) (cl := vwCl) (tys := tyl ev) (ws := wB ev u) hc.1 hc.2.1 hc.2.2.2.2.2.1 hw.1 hw.2.1 hw.2.2 9 0 rfl rfl hin hd (fun H1 locs1 hP hD hS => k H1 locs1 ⟨hP, hD, hS⟩)
theorem nB9 (hc : CX wdB ev p s m c cc nL own args) (hw : VW wdB ev s u H locs) (hd : decode cc pc = .ok (.arraylength, 1)) (k : W p l e R s m args below meth c H locs 0 0 Q (F0 m (pc + 1) ls (.int (8 : Int32) :: rest))) : W p l e R s m args below meth c H locs 0 0 Q (F0 m pc ls (.ref (ev.2.1 9) :: rest)) :=
  va_alen (D := ev.1) (cl := vwCl) (tys := tyl ev) (ws := wB ev u) hc.1 hc.2.1 hc.2.2.2.2.2.1 hw.1 9 0 rfl rfl rfl hd k
theorem aB10 {i : Int32} (hc : CX wdB ev p s m c cc nL own args) (hw : VW wdB ev s u H locs) (hin : vp_in i 4) (hd : decode cc pc = .ok (.iaload, 1)) (k : W p l e R s m args below meth c H locs 0 0 Q (F0 m (pc + 1) ls (.int (gA u 1 i.toNatClampNeg) :: rest))) : W p l e R s m args below meth c H locs 0 0 Q (F0 m pc ls (.int i :: .ref (ev.2.1 10) :: rest)) :=
  va_iald (D := ev.1) (cl := vwCl) (tys := tyl ev) (ws := wB ev u) hc.1 hc.2.1 hc.2.2.2.2.2.1 hw.1 10 0 rfl rfl hin hd k
theorem tB10 {i : Int32} {x : Int32} (hc : CX wdB ev p s m c cc nL own args) (hw : VW wdB ev s u H locs) (hin : vp_in i 4) (hd : decode cc pc = .ok (.iastore, 1)) (k : ∀ (H1 : Heap) (locs1 : List Loc), VW wdB ev s (tA u 1 i x) H1 locs1 → W p l e R s m args below meth c H1 locs1 0 0 Q (F0 m (pc + 1) ls rest)) : W p l e R s m args below meth c H locs 0 0 Q (F0 m pc ls (.int x :: .int i :: .ref (ev.2.1 10) :: rest)) :=
  va_iast (D := ev.1) (cl := vwCl) (tys := tyl ev) (ws := wB ev u) hc.1 hc.2.1 hc.2.2.2.2.2.1 hw.1 hw.2.1 hw.2.2 10 0 rfl rfl hin hd (fun H1 locs1 hP hD hS => k H1 locs1 ⟨hP, hD, hS⟩)
theorem nB10 (hc : CX wdB ev p s m c cc nL own args) (hw : VW wdB ev s u H locs) (hd : decode cc pc = .ok (.arraylength, 1)) (k : W p l e R s m args below meth c H locs 0 0 Q (F0 m (pc + 1) ls (.int (4 : Int32) :: rest))) : W p l e R s m args below meth c H locs 0 0 Q (F0 m pc ls (.ref (ev.2.1 10) :: rest)) :=
  va_alen (D := ev.1) (cl := vwCl) (tys := tyl ev) (ws := wB ev u) hc.1 hc.2.1 hc.2.2.2.2.2.1 hw.1 10 0 rfl rfl rfl hd k
theorem aB11 {i : Int32} (hc : CX wdB ev p s m c cc nL own args) (hw : VW wdB ev s u H locs) (hin : vp_in i 4) (hd : decode cc pc = .ok (.iaload, 1)) (k : W p l e R s m args below meth c H locs 0 0 Q (F0 m (pc + 1) ls (.int (gA u 2 i.toNatClampNeg) :: rest))) : W p l e R s m args below meth c H locs 0 0 Q (F0 m pc ls (.int i :: .ref (ev.2.1 11) :: rest)) :=
  va_iald (D := ev.1) (cl := vwCl) (tys := tyl ev) (ws := wB ev u) hc.1 hc.2.1 hc.2.2.2.2.2.1 hw.1 11 0 rfl rfl hin hd k
theorem tB11 {i : Int32} {x : Int32} (hc : CX wdB ev p s m c cc nL own args) (hw : VW wdB ev s u H locs) (hin : vp_in i 4) (hd : decode cc pc = .ok (.iastore, 1)) (k : ∀ (H1 : Heap) (locs1 : List Loc), VW wdB ev s (tA u 2 i x) H1 locs1 → W p l e R s m args below meth c H1 locs1 0 0 Q (F0 m (pc + 1) ls rest)) : W p l e R s m args below meth c H locs 0 0 Q (F0 m pc ls (.int x :: .int i :: .ref (ev.2.1 11) :: rest)) :=
  va_iast (D := ev.1) (cl := vwCl) (tys := tyl ev) (ws := wB ev u) hc.1 hc.2.1 hc.2.2.2.2.2.1 hw.1 hw.2.1 hw.2.2 11 0 rfl rfl hin hd (fun H1 locs1 hP hD hS => k H1 locs1 ⟨hP, hD, hS⟩)
theorem nB11 (hc : CX wdB ev p s m c cc nL own args) (hw : VW wdB ev s u H locs) (hd : decode cc pc = .ok (.arraylength, 1)) (k : W p l e R s m args below meth c H locs 0 0 Q (F0 m (pc + 1) ls (.int (4 : Int32) :: rest))) : W p l e R s m args below meth c H locs 0 0 Q (F0 m pc ls (.ref (ev.2.1 11) :: rest)) :=
  va_alen (D := ev.1) (cl := vwCl) (tys := tyl ev) (ws := wB ev u) hc.1 hc.2.1 hc.2.2.2.2.2.1 hw.1 11 0 rfl rfl rfl hd k
theorem aB12 {i : Int32} (hc : CX wdB ev p s m c cc nL own args) (hw : VW wdB ev s u H locs) (hin : vp_in i 48) (hd : decode cc pc = .ok (.baload, 1)) (k : W p l e R s m args below meth c H locs 0 0 Q (F0 m (pc + 1) ls (.int (gA u 3 i.toNatClampNeg) :: rest))) : W p l e R s m args below meth c H locs 0 0 Q (F0 m pc ls (.int i :: .ref (ev.2.1 12) :: rest)) :=
  va_zald (D := ev.1) (cl := vwCl) (tys := tyl ev) (ws := wB ev u) hc.1 hc.2.1 hc.2.2.2.2.2.1 hw.1 12 2 rfl rfl hin hd k
theorem tB12 {i : Int32} {x : Int32} (hc : CX wdB ev p s m c cc nL own args) (hw : VW wdB ev s u H locs) (hin : vp_in i 48) (hd : decode cc pc = .ok (.bastore, 1)) (k : ∀ (H1 : Heap) (locs1 : List Loc), VW wdB ev s (tZ u 3 i x) H1 locs1 → W p l e R s m args below meth c H1 locs1 0 0 Q (F0 m (pc + 1) ls rest)) : W p l e R s m args below meth c H locs 0 0 Q (F0 m pc ls (.int x :: .int i :: .ref (ev.2.1 12) :: rest)) :=
  va_zast (D := ev.1) (cl := vwCl) (tys := tyl ev) (ws := wB ev u) hc.1 hc.2.1 hc.2.2.2.2.2.1 hw.1 hw.2.1 hw.2.2 12 2 rfl rfl hin hd (fun H1 locs1 hP hD hS => k H1 locs1 ⟨hP, hD, hS⟩)
theorem nB12 (hc : CX wdB ev p s m c cc nL own args) (hw : VW wdB ev s u H locs) (hd : decode cc pc = .ok (.arraylength, 1)) (k : W p l e R s m args below meth c H locs 0 0 Q (F0 m (pc + 1) ls (.int (48 : Int32) :: rest))) : W p l e R s m args below meth c H locs 0 0 Q (F0 m pc ls (.ref (ev.2.1 12) :: rest)) :=
  va_alen (D := ev.1) (cl := vwCl) (tys := tyl ev) (ws := wB ev u) hc.1 hc.2.1 hc.2.2.2.2.2.1 hw.1 12 2 rfl rfl rfl hd k
theorem aB13 {i : Int32} (hc : CX wdB ev p s m c cc nL own args) (hw : VW wdB ev s u H locs) (hin : vp_in i 48) (hd : decode cc pc = .ok (.baload, 1)) (k : W p l e R s m args below meth c H locs 0 0 Q (F0 m (pc + 1) ls (.int (gA u 4 i.toNatClampNeg) :: rest))) : W p l e R s m args below meth c H locs 0 0 Q (F0 m pc ls (.int i :: .ref (ev.2.1 13) :: rest)) :=
  va_zald (D := ev.1) (cl := vwCl) (tys := tyl ev) (ws := wB ev u) hc.1 hc.2.1 hc.2.2.2.2.2.1 hw.1 13 2 rfl rfl hin hd k
theorem tB13 {i : Int32} {x : Int32} (hc : CX wdB ev p s m c cc nL own args) (hw : VW wdB ev s u H locs) (hin : vp_in i 48) (hd : decode cc pc = .ok (.bastore, 1)) (k : ∀ (H1 : Heap) (locs1 : List Loc), VW wdB ev s (tZ u 4 i x) H1 locs1 → W p l e R s m args below meth c H1 locs1 0 0 Q (F0 m (pc + 1) ls rest)) : W p l e R s m args below meth c H locs 0 0 Q (F0 m pc ls (.int x :: .int i :: .ref (ev.2.1 13) :: rest)) :=
  va_zast (D := ev.1) (cl := vwCl) (tys := tyl ev) (ws := wB ev u) hc.1 hc.2.1 hc.2.2.2.2.2.1 hw.1 hw.2.1 hw.2.2 13 2 rfl rfl hin hd (fun H1 locs1 hP hD hS => k H1 locs1 ⟨hP, hD, hS⟩)
theorem nB13 (hc : CX wdB ev p s m c cc nL own args) (hw : VW wdB ev s u H locs) (hd : decode cc pc = .ok (.arraylength, 1)) (k : W p l e R s m args below meth c H locs 0 0 Q (F0 m (pc + 1) ls (.int (48 : Int32) :: rest))) : W p l e R s m args below meth c H locs 0 0 Q (F0 m pc ls (.ref (ev.2.1 13) :: rest)) :=
  va_alen (D := ev.1) (cl := vwCl) (tys := tyl ev) (ws := wB ev u) hc.1 hc.2.1 hc.2.2.2.2.2.1 hw.1 13 2 rfl rfl rfl hd k
theorem aB14 {i : Int32} (hc : CX wdB ev p s m c cc nL own args) (hw : VW wdB ev s u H locs) (hin : vp_in i 48) (hd : decode cc pc = .ok (.iaload, 1)) (k : W p l e R s m args below meth c H locs 0 0 Q (F0 m (pc + 1) ls (.int (gA u 5 i.toNatClampNeg) :: rest))) : W p l e R s m args below meth c H locs 0 0 Q (F0 m pc ls (.int i :: .ref (ev.2.1 14) :: rest)) :=
  va_iald (D := ev.1) (cl := vwCl) (tys := tyl ev) (ws := wB ev u) hc.1 hc.2.1 hc.2.2.2.2.2.1 hw.1 14 0 rfl rfl hin hd k
theorem tB14 {i : Int32} {x : Int32} (hc : CX wdB ev p s m c cc nL own args) (hw : VW wdB ev s u H locs) (hin : vp_in i 48) (hd : decode cc pc = .ok (.iastore, 1)) (k : ∀ (H1 : Heap) (locs1 : List Loc), VW wdB ev s (tA u 5 i x) H1 locs1 → W p l e R s m args below meth c H1 locs1 0 0 Q (F0 m (pc + 1) ls rest)) : W p l e R s m args below meth c H locs 0 0 Q (F0 m pc ls (.int x :: .int i :: .ref (ev.2.1 14) :: rest)) :=
  va_iast (D := ev.1) (cl := vwCl) (tys := tyl ev) (ws := wB ev u) hc.1 hc.2.1 hc.2.2.2.2.2.1 hw.1 hw.2.1 hw.2.2 14 0 rfl rfl hin hd (fun H1 locs1 hP hD hS => k H1 locs1 ⟨hP, hD, hS⟩)
theorem nB14 (hc : CX wdB ev p s m c cc nL own args) (hw : VW wdB ev s u H locs) (hd : decode cc pc = .ok (.arraylength, 1)) (k : W p l e R s m args below meth c H locs 0 0 Q (F0 m (pc + 1) ls (.int (48 : Int32) :: rest))) : W p l e R s m args below meth c H locs 0 0 Q (F0 m pc ls (.ref (ev.2.1 14) :: rest)) :=
  va_alen (D := ev.1) (cl := vwCl) (tys := tyl ev) (ws := wB ev u) hc.1 hc.2.1 hc.2.2.2.2.2.1 hw.1 14 0 rfl rfl rfl hd k
theorem aB15 {i : Int32} (hc : CX wdB ev p s m c cc nL own args) (hw : VW wdB ev s u H locs) (hin : vp_in i 192) (hd : decode cc pc = .ok (.iaload, 1)) (k : W p l e R s m args below meth c H locs 0 0 Q (F0 m (pc + 1) ls (.int (gA u 6 i.toNatClampNeg) :: rest))) : W p l e R s m args below meth c H locs 0 0 Q (F0 m pc ls (.int i :: .ref (ev.2.1 15) :: rest)) :=
  va_iald (D := ev.1) (cl := vwCl) (tys := tyl ev) (ws := wB ev u) hc.1 hc.2.1 hc.2.2.2.2.2.1 hw.1 15 0 rfl rfl hin hd k
theorem tB15 {i : Int32} {x : Int32} (hc : CX wdB ev p s m c cc nL own args) (hw : VW wdB ev s u H locs) (hin : vp_in i 192) (hd : decode cc pc = .ok (.iastore, 1)) (k : ∀ (H1 : Heap) (locs1 : List Loc), VW wdB ev s (tA u 6 i x) H1 locs1 → W p l e R s m args below meth c H1 locs1 0 0 Q (F0 m (pc + 1) ls rest)) : W p l e R s m args below meth c H locs 0 0 Q (F0 m pc ls (.int x :: .int i :: .ref (ev.2.1 15) :: rest)) :=
  va_iast (D := ev.1) (cl := vwCl) (tys := tyl ev) (ws := wB ev u) hc.1 hc.2.1 hc.2.2.2.2.2.1 hw.1 hw.2.1 hw.2.2 15 0 rfl rfl hin hd (fun H1 locs1 hP hD hS => k H1 locs1 ⟨hP, hD, hS⟩)
theorem nB15 (hc : CX wdB ev p s m c cc nL own args) (hw : VW wdB ev s u H locs) (hd : decode cc pc = .ok (.arraylength, 1)) (k : W p l e R s m args below meth c H locs 0 0 Q (F0 m (pc + 1) ls (.int (192 : Int32) :: rest))) : W p l e R s m args below meth c H locs 0 0 Q (F0 m pc ls (.ref (ev.2.1 15) :: rest)) :=
  va_alen (D := ev.1) (cl := vwCl) (tys := tyl ev) (ws := wB ev u) hc.1 hc.2.1 hc.2.2.2.2.2.1 hw.1 15 0 rfl rfl rfl hd k
theorem aB16 {i : Int32} (hc : CX wdB ev p s m c cc nL own args) (hw : VW wdB ev s u H locs) (hin : vp_in i 48) (hd : decode cc pc = .ok (.iaload, 1)) (k : W p l e R s m args below meth c H locs 0 0 Q (F0 m (pc + 1) ls (.int (gA u 7 i.toNatClampNeg) :: rest))) : W p l e R s m args below meth c H locs 0 0 Q (F0 m pc ls (.int i :: .ref (ev.2.1 16) :: rest)) :=
  va_iald (D := ev.1) (cl := vwCl) (tys := tyl ev) (ws := wB ev u) hc.1 hc.2.1 hc.2.2.2.2.2.1 hw.1 16 0 rfl rfl hin hd k
theorem tB16 {i : Int32} {x : Int32} (hc : CX wdB ev p s m c cc nL own args) (hw : VW wdB ev s u H locs) (hin : vp_in i 48) (hd : decode cc pc = .ok (.iastore, 1)) (k : ∀ (H1 : Heap) (locs1 : List Loc), VW wdB ev s (tA u 7 i x) H1 locs1 → W p l e R s m args below meth c H1 locs1 0 0 Q (F0 m (pc + 1) ls rest)) : W p l e R s m args below meth c H locs 0 0 Q (F0 m pc ls (.int x :: .int i :: .ref (ev.2.1 16) :: rest)) :=
  va_iast (D := ev.1) (cl := vwCl) (tys := tyl ev) (ws := wB ev u) hc.1 hc.2.1 hc.2.2.2.2.2.1 hw.1 hw.2.1 hw.2.2 16 0 rfl rfl hin hd (fun H1 locs1 hP hD hS => k H1 locs1 ⟨hP, hD, hS⟩)
theorem nB16 (hc : CX wdB ev p s m c cc nL own args) (hw : VW wdB ev s u H locs) (hd : decode cc pc = .ok (.arraylength, 1)) (k : W p l e R s m args below meth c H locs 0 0 Q (F0 m (pc + 1) ls (.int (48 : Int32) :: rest))) : W p l e R s m args below meth c H locs 0 0 Q (F0 m pc ls (.ref (ev.2.1 16) :: rest)) :=
  va_alen (D := ev.1) (cl := vwCl) (tys := tyl ev) (ws := wB ev u) hc.1 hc.2.1 hc.2.2.2.2.2.1 hw.1 16 0 rfl rfl rfl hd k
theorem aB17 {i : Int32} (hc : CX wdB ev p s m c cc nL own args) (hw : VW wdB ev s u H locs) (hin : vp_in i 48) (hd : decode cc pc = .ok (.iaload, 1)) (k : W p l e R s m args below meth c H locs 0 0 Q (F0 m (pc + 1) ls (.int (gA u 8 i.toNatClampNeg) :: rest))) : W p l e R s m args below meth c H locs 0 0 Q (F0 m pc ls (.int i :: .ref (ev.2.1 17) :: rest)) :=
  va_iald (D := ev.1) (cl := vwCl) (tys := tyl ev) (ws := wB ev u) hc.1 hc.2.1 hc.2.2.2.2.2.1 hw.1 17 0 rfl rfl hin hd k
theorem tB17 {i : Int32} {x : Int32} (hc : CX wdB ev p s m c cc nL own args) (hw : VW wdB ev s u H locs) (hin : vp_in i 48) (hd : decode cc pc = .ok (.iastore, 1)) (k : ∀ (H1 : Heap) (locs1 : List Loc), VW wdB ev s (tA u 8 i x) H1 locs1 → W p l e R s m args below meth c H1 locs1 0 0 Q (F0 m (pc + 1) ls rest)) : W p l e R s m args below meth c H locs 0 0 Q (F0 m pc ls (.int x :: .int i :: .ref (ev.2.1 17) :: rest)) :=
  va_iast (D := ev.1) (cl := vwCl) (tys := tyl ev) (ws := wB ev u) hc.1 hc.2.1 hc.2.2.2.2.2.1 hw.1 hw.2.1 hw.2.2 17 0 rfl rfl hin hd (fun H1 locs1 hP hD hS => k H1 locs1 ⟨hP, hD, hS⟩)
theorem nB17 (hc : CX wdB ev p s m c cc nL own args) (hw : VW wdB ev s u H locs) (hd : decode cc pc = .ok (.arraylength, 1)) (k : W p l e R s m args below meth c H locs 0 0 Q (F0 m (pc + 1) ls (.int (48 : Int32) :: rest))) : W p l e R s m args below meth c H locs 0 0 Q (F0 m pc ls (.ref (ev.2.1 17) :: rest)) :=
  va_alen (D := ev.1) (cl := vwCl) (tys := tyl ev) (ws := wB ev u) hc.1 hc.2.1 hc.2.2.2.2.2.1 hw.1 17 0 rfl rfl rfl hd k
theorem aB18 {i : Int32} (hc : CX wdB ev p s m c cc nL own args) (hw : VW wdB ev s u H locs) (hin : vp_in i 48) (hd : decode cc pc = .ok (.iaload, 1)) (k : W p l e R s m args below meth c H locs 0 0 Q (F0 m (pc + 1) ls (.int (gA u 9 i.toNatClampNeg) :: rest))) : W p l e R s m args below meth c H locs 0 0 Q (F0 m pc ls (.int i :: .ref (ev.2.1 18) :: rest)) :=
  va_iald (D := ev.1) (cl := vwCl) (tys := tyl ev) (ws := wB ev u) hc.1 hc.2.1 hc.2.2.2.2.2.1 hw.1 18 0 rfl rfl hin hd k
theorem tB18 {i : Int32} {x : Int32} (hc : CX wdB ev p s m c cc nL own args) (hw : VW wdB ev s u H locs) (hin : vp_in i 48) (hd : decode cc pc = .ok (.iastore, 1)) (k : ∀ (H1 : Heap) (locs1 : List Loc), VW wdB ev s (tA u 9 i x) H1 locs1 → W p l e R s m args below meth c H1 locs1 0 0 Q (F0 m (pc + 1) ls rest)) : W p l e R s m args below meth c H locs 0 0 Q (F0 m pc ls (.int x :: .int i :: .ref (ev.2.1 18) :: rest)) :=
  va_iast (D := ev.1) (cl := vwCl) (tys := tyl ev) (ws := wB ev u) hc.1 hc.2.1 hc.2.2.2.2.2.1 hw.1 hw.2.1 hw.2.2 18 0 rfl rfl hin hd (fun H1 locs1 hP hD hS => k H1 locs1 ⟨hP, hD, hS⟩)
theorem nB18 (hc : CX wdB ev p s m c cc nL own args) (hw : VW wdB ev s u H locs) (hd : decode cc pc = .ok (.arraylength, 1)) (k : W p l e R s m args below meth c H locs 0 0 Q (F0 m (pc + 1) ls (.int (48 : Int32) :: rest))) : W p l e R s m args below meth c H locs 0 0 Q (F0 m pc ls (.ref (ev.2.1 18) :: rest)) :=
  va_alen (D := ev.1) (cl := vwCl) (tys := tyl ev) (ws := wB ev u) hc.1 hc.2.1 hc.2.2.2.2.2.1 hw.1 18 0 rfl rfl rfl hd k
theorem aB19 {i : Int32} (hc : CX wdB ev p s m c cc nL own args) (hw : VW wdB ev s u H locs) (hin : vp_in i 288) (hd : decode cc pc = .ok (.iaload, 1)) (k : W p l e R s m args below meth c H locs 0 0 Q (F0 m (pc + 1) ls (.int (gA u 10 i.toNatClampNeg) :: rest))) : W p l e R s m args below meth c H locs 0 0 Q (F0 m pc ls (.int i :: .ref (ev.2.1 19) :: rest)) :=
  va_iald (D := ev.1) (cl := vwCl) (tys := tyl ev) (ws := wB ev u) hc.1 hc.2.1 hc.2.2.2.2.2.1 hw.1 19 0 rfl rfl hin hd k
theorem tB19 {i : Int32} {x : Int32} (hc : CX wdB ev p s m c cc nL own args) (hw : VW wdB ev s u H locs) (hin : vp_in i 288) (hd : decode cc pc = .ok (.iastore, 1)) (k : ∀ (H1 : Heap) (locs1 : List Loc), VW wdB ev s (tA u 10 i x) H1 locs1 → W p l e R s m args below meth c H1 locs1 0 0 Q (F0 m (pc + 1) ls rest)) : W p l e R s m args below meth c H locs 0 0 Q (F0 m pc ls (.int x :: .int i :: .ref (ev.2.1 19) :: rest)) :=
  va_iast (D := ev.1) (cl := vwCl) (tys := tyl ev) (ws := wB ev u) hc.1 hc.2.1 hc.2.2.2.2.2.1 hw.1 hw.2.1 hw.2.2 19 0 rfl rfl hin hd (fun H1 locs1 hP hD hS => k H1 locs1 ⟨hP, hD, hS⟩)
theorem nB19 (hc : CX wdB ev p s m c cc nL own args) (hw : VW wdB ev s u H locs) (hd : decode cc pc = .ok (.arraylength, 1)) (k : W p l e R s m args below meth c H locs 0 0 Q (F0 m (pc + 1) ls (.int (288 : Int32) :: rest))) : W p l e R s m args below meth c H locs 0 0 Q (F0 m pc ls (.ref (ev.2.1 19) :: rest)) :=
  va_alen (D := ev.1) (cl := vwCl) (tys := tyl ev) (ws := wB ev u) hc.1 hc.2.1 hc.2.2.2.2.2.1 hw.1 19 0 rfl rfl rfl hd k
theorem aB20 {i : Int32} (hc : CX wdB ev p s m c cc nL own args) (hw : VW wdB ev s u H locs) (hin : vp_in i 48) (hd : decode cc pc = .ok (.baload, 1)) (k : W p l e R s m args below meth c H locs 0 0 Q (F0 m (pc + 1) ls (.int (gA u 11 i.toNatClampNeg) :: rest))) : W p l e R s m args below meth c H locs 0 0 Q (F0 m pc ls (.int i :: .ref (ev.2.1 20) :: rest)) :=
  va_zald (D := ev.1) (cl := vwCl) (tys := tyl ev) (ws := wB ev u) hc.1 hc.2.1 hc.2.2.2.2.2.1 hw.1 20 2 rfl rfl hin hd k
theorem tB20 {i : Int32} {x : Int32} (hc : CX wdB ev p s m c cc nL own args) (hw : VW wdB ev s u H locs) (hin : vp_in i 48) (hd : decode cc pc = .ok (.bastore, 1)) (k : ∀ (H1 : Heap) (locs1 : List Loc), VW wdB ev s (tZ u 11 i x) H1 locs1 → W p l e R s m args below meth c H1 locs1 0 0 Q (F0 m (pc + 1) ls rest)) : W p l e R s m args below meth c H locs 0 0 Q (F0 m pc ls (.int x :: .int i :: .ref (ev.2.1 20) :: rest)) :=
  va_zast (D := ev.1) (cl := vwCl) (tys := tyl ev) (ws := wB ev u) hc.1 hc.2.1 hc.2.2.2.2.2.1 hw.1 hw.2.1 hw.2.2 20 2 rfl rfl hin hd (fun H1 locs1 hP hD hS => k H1 locs1 ⟨hP, hD, hS⟩)
theorem nB20 (hc : CX wdB ev p s m c cc nL own args) (hw : VW wdB ev s u H locs) (hd : decode cc pc = .ok (.arraylength, 1)) (k : W p l e R s m args below meth c H locs 0 0 Q (F0 m (pc + 1) ls (.int (48 : Int32) :: rest))) : W p l e R s m args below meth c H locs 0 0 Q (F0 m pc ls (.ref (ev.2.1 20) :: rest)) :=
  va_alen (D := ev.1) (cl := vwCl) (tys := tyl ev) (ws := wB ev u) hc.1 hc.2.1 hc.2.2.2.2.2.1 hw.1 20 2 rfl rfl rfl hd k
theorem aB21 {i : Int32} (hc : CX wdB ev p s m c cc nL own args) (hw : VW wdB ev s u H locs) (hin : vp_in i 6) (hd : decode cc pc = .ok (.baload, 1)) (k : W p l e R s m args below meth c H locs 0 0 Q (F0 m (pc + 1) ls (.int (gA u 12 i.toNatClampNeg) :: rest))) : W p l e R s m args below meth c H locs 0 0 Q (F0 m pc ls (.int i :: .ref (ev.2.1 21) :: rest)) :=
  va_zald (D := ev.1) (cl := vwCl) (tys := tyl ev) (ws := wB ev u) hc.1 hc.2.1 hc.2.2.2.2.2.1 hw.1 21 2 rfl rfl hin hd k
theorem tB21 {i : Int32} {x : Int32} (hc : CX wdB ev p s m c cc nL own args) (hw : VW wdB ev s u H locs) (hin : vp_in i 6) (hd : decode cc pc = .ok (.bastore, 1)) (k : ∀ (H1 : Heap) (locs1 : List Loc), VW wdB ev s (tZ u 12 i x) H1 locs1 → W p l e R s m args below meth c H1 locs1 0 0 Q (F0 m (pc + 1) ls rest)) : W p l e R s m args below meth c H locs 0 0 Q (F0 m pc ls (.int x :: .int i :: .ref (ev.2.1 21) :: rest)) :=
  va_zast (D := ev.1) (cl := vwCl) (tys := tyl ev) (ws := wB ev u) hc.1 hc.2.1 hc.2.2.2.2.2.1 hw.1 hw.2.1 hw.2.2 21 2 rfl rfl hin hd (fun H1 locs1 hP hD hS => k H1 locs1 ⟨hP, hD, hS⟩)
theorem nB21 (hc : CX wdB ev p s m c cc nL own args) (hw : VW wdB ev s u H locs) (hd : decode cc pc = .ok (.arraylength, 1)) (k : W p l e R s m args below meth c H locs 0 0 Q (F0 m (pc + 1) ls (.int (6 : Int32) :: rest))) : W p l e R s m args below meth c H locs 0 0 Q (F0 m pc ls (.ref (ev.2.1 21) :: rest)) :=
  va_alen (D := ev.1) (cl := vwCl) (tys := tyl ev) (ws := wB ev u) hc.1 hc.2.1 hc.2.2.2.2.2.1 hw.1 21 2 rfl rfl rfl hd k
theorem aB22 {i : Int32} (hc : CX wdB ev p s m c cc nL own args) (hw : VW wdB ev s u H locs) (hin : vp_in i 80) (hd : decode cc pc = .ok (.iaload, 1)) (k : W p l e R s m args below meth c H locs 0 0 Q (F0 m (pc + 1) ls (.int (gA u 13 i.toNatClampNeg) :: rest))) : W p l e R s m args below meth c H locs 0 0 Q (F0 m pc ls (.int i :: .ref (ev.2.1 22) :: rest)) :=
  va_iald (D := ev.1) (cl := vwCl) (tys := tyl ev) (ws := wB ev u) hc.1 hc.2.1 hc.2.2.2.2.2.1 hw.1 22 0 rfl rfl hin hd k
theorem tB22 {i : Int32} {x : Int32} (hc : CX wdB ev p s m c cc nL own args) (hw : VW wdB ev s u H locs) (hin : vp_in i 80) (hd : decode cc pc = .ok (.iastore, 1)) (k : ∀ (H1 : Heap) (locs1 : List Loc), VW wdB ev s (tA u 13 i x) H1 locs1 → W p l e R s m args below meth c H1 locs1 0 0 Q (F0 m (pc + 1) ls rest)) : W p l e R s m args below meth c H locs 0 0 Q (F0 m pc ls (.int x :: .int i :: .ref (ev.2.1 22) :: rest)) :=
  va_iast (D := ev.1) (cl := vwCl) (tys := tyl ev) (ws := wB ev u) hc.1 hc.2.1 hc.2.2.2.2.2.1 hw.1 hw.2.1 hw.2.2 22 0 rfl rfl hin hd (fun H1 locs1 hP hD hS => k H1 locs1 ⟨hP, hD, hS⟩)
theorem nB22 (hc : CX wdB ev p s m c cc nL own args) (hw : VW wdB ev s u H locs) (hd : decode cc pc = .ok (.arraylength, 1)) (k : W p l e R s m args below meth c H locs 0 0 Q (F0 m (pc + 1) ls (.int (80 : Int32) :: rest))) : W p l e R s m args below meth c H locs 0 0 Q (F0 m pc ls (.ref (ev.2.1 22) :: rest)) :=
  va_alen (D := ev.1) (cl := vwCl) (tys := tyl ev) (ws := wB ev u) hc.1 hc.2.1 hc.2.2.2.2.2.1 hw.1 22 0 rfl rfl rfl hd k
theorem aB23 {i : Int32} (hc : CX wdB ev p s m c cc nL own args) (hw : VW wdB ev s u H locs) (hin : vp_in i 80) (hd : decode cc pc = .ok (.iaload, 1)) (k : W p l e R s m args below meth c H locs 0 0 Q (F0 m (pc + 1) ls (.int (gA u 14 i.toNatClampNeg) :: rest))) : W p l e R s m args below meth c H locs 0 0 Q (F0 m pc ls (.int i :: .ref (ev.2.1 23) :: rest)) :=
  va_iald (D := ev.1) (cl := vwCl) (tys := tyl ev) (ws := wB ev u) hc.1 hc.2.1 hc.2.2.2.2.2.1 hw.1 23 0 rfl rfl hin hd k
theorem tB23 {i : Int32} {x : Int32} (hc : CX wdB ev p s m c cc nL own args) (hw : VW wdB ev s u H locs) (hin : vp_in i 80) (hd : decode cc pc = .ok (.iastore, 1)) (k : ∀ (H1 : Heap) (locs1 : List Loc), VW wdB ev s (tA u 14 i x) H1 locs1 → W p l e R s m args below meth c H1 locs1 0 0 Q (F0 m (pc + 1) ls rest)) : W p l e R s m args below meth c H locs 0 0 Q (F0 m pc ls (.int x :: .int i :: .ref (ev.2.1 23) :: rest)) :=
  va_iast (D := ev.1) (cl := vwCl) (tys := tyl ev) (ws := wB ev u) hc.1 hc.2.1 hc.2.2.2.2.2.1 hw.1 hw.2.1 hw.2.2 23 0 rfl rfl hin hd (fun H1 locs1 hP hD hS => k H1 locs1 ⟨hP, hD, hS⟩)
theorem nB23 (hc : CX wdB ev p s m c cc nL own args) (hw : VW wdB ev s u H locs) (hd : decode cc pc = .ok (.arraylength, 1)) (k : W p l e R s m args below meth c H locs 0 0 Q (F0 m (pc + 1) ls (.int (80 : Int32) :: rest))) : W p l e R s m args below meth c H locs 0 0 Q (F0 m pc ls (.ref (ev.2.1 23) :: rest)) :=
  va_alen (D := ev.1) (cl := vwCl) (tys := tyl ev) (ws := wB ev u) hc.1 hc.2.1 hc.2.2.2.2.2.1 hw.1 23 0 rfl rfl rfl hd k
theorem aB24 {i : Int32} (hc : CX wdB ev p s m c cc nL own args) (hw : VW wdB ev s u H locs) (hin : vp_in i 80) (hd : decode cc pc = .ok (.iaload, 1)) (k : W p l e R s m args below meth c H locs 0 0 Q (F0 m (pc + 1) ls (.int (gA u 15 i.toNatClampNeg) :: rest))) : W p l e R s m args below meth c H locs 0 0 Q (F0 m pc ls (.int i :: .ref (ev.2.1 24) :: rest)) :=
  va_iald (D := ev.1) (cl := vwCl) (tys := tyl ev) (ws := wB ev u) hc.1 hc.2.1 hc.2.2.2.2.2.1 hw.1 24 0 rfl rfl hin hd k
theorem tB24 {i : Int32} {x : Int32} (hc : CX wdB ev p s m c cc nL own args) (hw : VW wdB ev s u H locs) (hin : vp_in i 80) (hd : decode cc pc = .ok (.iastore, 1)) (k : ∀ (H1 : Heap) (locs1 : List Loc), VW wdB ev s (tA u 15 i x) H1 locs1 → W p l e R s m args below meth c H1 locs1 0 0 Q (F0 m (pc + 1) ls rest)) : W p l e R s m args below meth c H locs 0 0 Q (F0 m pc ls (.int x :: .int i :: .ref (ev.2.1 24) :: rest)) :=
  va_iast (D := ev.1) (cl := vwCl) (tys := tyl ev) (ws := wB ev u) hc.1 hc.2.1 hc.2.2.2.2.2.1 hw.1 hw.2.1 hw.2.2 24 0 rfl rfl hin hd (fun H1 locs1 hP hD hS => k H1 locs1 ⟨hP, hD, hS⟩)
theorem nB24 (hc : CX wdB ev p s m c cc nL own args) (hw : VW wdB ev s u H locs) (hd : decode cc pc = .ok (.arraylength, 1)) (k : W p l e R s m args below meth c H locs 0 0 Q (F0 m (pc + 1) ls (.int (80 : Int32) :: rest))) : W p l e R s m args below meth c H locs 0 0 Q (F0 m pc ls (.ref (ev.2.1 24) :: rest)) :=
  va_alen (D := ev.1) (cl := vwCl) (tys := tyl ev) (ws := wB ev u) hc.1 hc.2.1 hc.2.2.2.2.2.1 hw.1 24 0 rfl rfl rfl hd k
theorem aB25 {i : Int32} (hc : CX wdB ev p s m c cc nL own args) (hw : VW wdB ev s u H locs) (hin : vp_in i 8) (hd : decode cc pc = .ok (.baload, 1)) (k : W p l e R s m args below meth c H locs 0 0 Q (F0 m (pc + 1) ls (.int (gA u 16 i.toNatClampNeg) :: rest))) : W p l e R s m args below meth c H locs 0 0 Q (F0 m pc ls (.int i :: .ref (ev.2.1 25) :: rest)) :=
  va_zald (D := ev.1) (cl := vwCl) (tys := tyl ev) (ws := wB ev u) hc.1 hc.2.1 hc.2.2.2.2.2.1 hw.1 25 2 rfl rfl hin hd k
theorem tB25 {i : Int32} {x : Int32} (hc : CX wdB ev p s m c cc nL own args) (hw : VW wdB ev s u H locs) (hin : vp_in i 8) (hd : decode cc pc = .ok (.bastore, 1)) (k : ∀ (H1 : Heap) (locs1 : List Loc), VW wdB ev s (tZ u 16 i x) H1 locs1 → W p l e R s m args below meth c H1 locs1 0 0 Q (F0 m (pc + 1) ls rest)) : W p l e R s m args below meth c H locs 0 0 Q (F0 m pc ls (.int x :: .int i :: .ref (ev.2.1 25) :: rest)) :=
  va_zast (D := ev.1) (cl := vwCl) (tys := tyl ev) (ws := wB ev u) hc.1 hc.2.1 hc.2.2.2.2.2.1 hw.1 hw.2.1 hw.2.2 25 2 rfl rfl hin hd (fun H1 locs1 hP hD hS => k H1 locs1 ⟨hP, hD, hS⟩)
theorem nB25 (hc : CX wdB ev p s m c cc nL own args) (hw : VW wdB ev s u H locs) (hd : decode cc pc = .ok (.arraylength, 1)) (k : W p l e R s m args below meth c H locs 0 0 Q (F0 m (pc + 1) ls (.int (8 : Int32) :: rest))) : W p l e R s m args below meth c H locs 0 0 Q (F0 m pc ls (.ref (ev.2.1 25) :: rest)) :=
  va_alen (D := ev.1) (cl := vwCl) (tys := tyl ev) (ws := wB ev u) hc.1 hc.2.1 hc.2.2.2.2.2.1 hw.1 25 2 rfl rfl rfl hd k
theorem aB26 {i : Int32} (hc : CX wdB ev p s m c cc nL own args) (hw : VW wdB ev s u H locs) (hin : vp_in i 8) (hd : decode cc pc = .ok (.iaload, 1)) (k : W p l e R s m args below meth c H locs 0 0 Q (F0 m (pc + 1) ls (.int (gA u 17 i.toNatClampNeg) :: rest))) : W p l e R s m args below meth c H locs 0 0 Q (F0 m pc ls (.int i :: .ref (ev.2.1 26) :: rest)) :=
  va_iald (D := ev.1) (cl := vwCl) (tys := tyl ev) (ws := wB ev u) hc.1 hc.2.1 hc.2.2.2.2.2.1 hw.1 26 0 rfl rfl hin hd k
theorem tB26 {i : Int32} {x : Int32} (hc : CX wdB ev p s m c cc nL own args) (hw : VW wdB ev s u H locs) (hin : vp_in i 8) (hd : decode cc pc = .ok (.iastore, 1)) (k : ∀ (H1 : Heap) (locs1 : List Loc), VW wdB ev s (tA u 17 i x) H1 locs1 → W p l e R s m args below meth c H1 locs1 0 0 Q (F0 m (pc + 1) ls rest)) : W p l e R s m args below meth c H locs 0 0 Q (F0 m pc ls (.int x :: .int i :: .ref (ev.2.1 26) :: rest)) :=
  va_iast (D := ev.1) (cl := vwCl) (tys := tyl ev) (ws := wB ev u) hc.1 hc.2.1 hc.2.2.2.2.2.1 hw.1 hw.2.1 hw.2.2 26 0 rfl rfl hin hd (fun H1 locs1 hP hD hS => k H1 locs1 ⟨hP, hD, hS⟩)
theorem nB26 (hc : CX wdB ev p s m c cc nL own args) (hw : VW wdB ev s u H locs) (hd : decode cc pc = .ok (.arraylength, 1)) (k : W p l e R s m args below meth c H locs 0 0 Q (F0 m (pc + 1) ls (.int (8 : Int32) :: rest))) : W p l e R s m args below meth c H locs 0 0 Q (F0 m pc ls (.ref (ev.2.1 26) :: rest)) :=
  va_alen (D := ev.1) (cl := vwCl) (tys := tyl ev) (ws := wB ev u) hc.1 hc.2.1 hc.2.2.2.2.2.1 hw.1 26 0 rfl rfl rfl hd k
theorem aB27 {i : Int32} (hc : CX wdB ev p s m c cc nL own args) (hw : VW wdB ev s u H locs) (hin : vp_in i 8) (hd : decode cc pc = .ok (.laload, 1)) (k : W p l e R s m args below meth c H locs 0 0 Q (F0 m (pc + 1) ls (.long (gL u 0 i.toNatClampNeg) :: rest))) : W p l e R s m args below meth c H locs 0 0 Q (F0 m pc ls (.int i :: .ref (ev.2.1 27) :: rest)) :=
  va_lald (D := ev.1) (cl := vwCl) (tys := tyl ev) (ws := wB ev u) hc.1 hc.2.1 hc.2.2.2.2.2.1 hw.1 27 1 rfl rfl hin hd k
theorem tB27 {i : Int32} {x : Int64} (hc : CX wdB ev p s m c cc nL own args) (hw : VW wdB ev s u H locs) (hin : vp_in i 8) (hd : decode cc pc = .ok (.lastore, 1)) (k : ∀ (H1 : Heap) (locs1 : List Loc), VW wdB ev s (tL u 0 i x) H1 locs1 → W p l e R s m args below meth c H1 locs1 0 0 Q (F0 m (pc + 1) ls rest)) : W p l e R s m args below meth c H locs 0 0 Q (F0 m pc ls (.long x :: .int i :: .ref (ev.2.1 27) :: rest)) :=
  va_last (D := ev.1) (cl := vwCl) (tys := tyl ev) (ws := wB ev u) hc.1 hc.2.1 hc.2.2.2.2.2.1 hw.1 hw.2.1 hw.2.2 27 1 rfl rfl hin hd (fun H1 locs1 hP hD hS => k H1 locs1 ⟨hP, hD, hS⟩)
theorem nB27 (hc : CX wdB ev p s m c cc nL own args) (hw : VW wdB ev s u H locs) (hd : decode cc pc = .ok (.arraylength, 1)) (k : W p l e R s m args below meth c H locs 0 0 Q (F0 m (pc + 1) ls (.int (8 : Int32) :: rest))) : W p l e R s m args below meth c H locs 0 0 Q (F0 m pc ls (.ref (ev.2.1 27) :: rest)) :=
  va_alen (D := ev.1) (cl := vwCl) (tys := tyl ev) (ws := wB ev u) hc.1 hc.2.1 hc.2.2.2.2.2.1 hw.1 27 1 rfl rfl rfl hd k
theorem aB28 {i : Int32} (hc : CX wdB ev p s m c cc nL own args) (hw : VW wdB ev s u H locs) (hin : vp_in i 8) (hd : decode cc pc = .ok (.laload, 1)) (k : W p l e R s m args below meth c H locs 0 0 Q (F0 m (pc + 1) ls (.long (gL u 1 i.toNatClampNeg) :: rest))) : W p l e R s m args below meth c H locs 0 0 Q (F0 m pc ls (.int i :: .ref (ev.2.1 28) :: rest)) :=
  va_lald (D := ev.1) (cl := vwCl) (tys := tyl ev) (ws := wB ev u) hc.1 hc.2.1 hc.2.2.2.2.2.1 hw.1 28 1 rfl rfl hin hd k
theorem tB28 {i : Int32} {x : Int64} (hc : CX wdB ev p s m c cc nL own args) (hw : VW wdB ev s u H locs) (hin : vp_in i 8) (hd : decode cc pc = .ok (.lastore, 1)) (k : ∀ (H1 : Heap) (locs1 : List Loc), VW wdB ev s (tL u 1 i x) H1 locs1 → W p l e R s m args below meth c H1 locs1 0 0 Q (F0 m (pc + 1) ls rest)) : W p l e R s m args below meth c H locs 0 0 Q (F0 m pc ls (.long x :: .int i :: .ref (ev.2.1 28) :: rest)) :=
  va_last (D := ev.1) (cl := vwCl) (tys := tyl ev) (ws := wB ev u) hc.1 hc.2.1 hc.2.2.2.2.2.1 hw.1 hw.2.1 hw.2.2 28 1 rfl rfl hin hd (fun H1 locs1 hP hD hS => k H1 locs1 ⟨hP, hD, hS⟩)
theorem nB28 (hc : CX wdB ev p s m c cc nL own args) (hw : VW wdB ev s u H locs) (hd : decode cc pc = .ok (.arraylength, 1)) (k : W p l e R s m args below meth c H locs 0 0 Q (F0 m (pc + 1) ls (.int (8 : Int32) :: rest))) : W p l e R s m args below meth c H locs 0 0 Q (F0 m pc ls (.ref (ev.2.1 28) :: rest)) :=
  va_alen (D := ev.1) (cl := vwCl) (tys := tyl ev) (ws := wB ev u) hc.1 hc.2.1 hc.2.2.2.2.2.1 hw.1 28 1 rfl rfl rfl hd k
theorem aB29 {i : Int32} (hc : CX wdB ev p s m c cc nL own args) (hw : VW wdB ev s u H locs) (hin : vp_in i 8) (hd : decode cc pc = .ok (.laload, 1)) (k : W p l e R s m args below meth c H locs 0 0 Q (F0 m (pc + 1) ls (.long (gL u 2 i.toNatClampNeg) :: rest))) : W p l e R s m args below meth c H locs 0 0 Q (F0 m pc ls (.int i :: .ref (ev.2.1 29) :: rest)) :=
  va_lald (D := ev.1) (cl := vwCl) (tys := tyl ev) (ws := wB ev u) hc.1 hc.2.1 hc.2.2.2.2.2.1 hw.1 29 1 rfl rfl hin hd k
theorem tB29 {i : Int32} {x : Int64} (hc : CX wdB ev p s m c cc nL own args) (hw : VW wdB ev s u H locs) (hin : vp_in i 8) (hd : decode cc pc = .ok (.lastore, 1)) (k : ∀ (H1 : Heap) (locs1 : List Loc), VW wdB ev s (tL u 2 i x) H1 locs1 → W p l e R s m args below meth c H1 locs1 0 0 Q (F0 m (pc + 1) ls rest)) : W p l e R s m args below meth c H locs 0 0 Q (F0 m pc ls (.long x :: .int i :: .ref (ev.2.1 29) :: rest)) :=
  va_last (D := ev.1) (cl := vwCl) (tys := tyl ev) (ws := wB ev u) hc.1 hc.2.1 hc.2.2.2.2.2.1 hw.1 hw.2.1 hw.2.2 29 1 rfl rfl hin hd (fun H1 locs1 hP hD hS => k H1 locs1 ⟨hP, hD, hS⟩)
theorem nB29 (hc : CX wdB ev p s m c cc nL own args) (hw : VW wdB ev s u H locs) (hd : decode cc pc = .ok (.arraylength, 1)) (k : W p l e R s m args below meth c H locs 0 0 Q (F0 m (pc + 1) ls (.int (8 : Int32) :: rest))) : W p l e R s m args below meth c H locs 0 0 Q (F0 m pc ls (.ref (ev.2.1 29) :: rest)) :=
  va_alen (D := ev.1) (cl := vwCl) (tys := tyl ev) (ws := wB ev u) hc.1 hc.2.1 hc.2.2.2.2.2.1 hw.1 29 1 rfl rfl rfl hd k
theorem aB30 {i : Int32} (hc : CX wdB ev p s m c cc nL own args) (hw : VW wdB ev s u H locs) (hin : vp_in i 8) (hd : decode cc pc = .ok (.laload, 1)) (k : W p l e R s m args below meth c H locs 0 0 Q (F0 m (pc + 1) ls (.long (gL u 3 i.toNatClampNeg) :: rest))) : W p l e R s m args below meth c H locs 0 0 Q (F0 m pc ls (.int i :: .ref (ev.2.1 30) :: rest)) :=
  va_lald (D := ev.1) (cl := vwCl) (tys := tyl ev) (ws := wB ev u) hc.1 hc.2.1 hc.2.2.2.2.2.1 hw.1 30 1 rfl rfl hin hd k
theorem tB30 {i : Int32} {x : Int64} (hc : CX wdB ev p s m c cc nL own args) (hw : VW wdB ev s u H locs) (hin : vp_in i 8) (hd : decode cc pc = .ok (.lastore, 1)) (k : ∀ (H1 : Heap) (locs1 : List Loc), VW wdB ev s (tL u 3 i x) H1 locs1 → W p l e R s m args below meth c H1 locs1 0 0 Q (F0 m (pc + 1) ls rest)) : W p l e R s m args below meth c H locs 0 0 Q (F0 m pc ls (.long x :: .int i :: .ref (ev.2.1 30) :: rest)) :=
  va_last (D := ev.1) (cl := vwCl) (tys := tyl ev) (ws := wB ev u) hc.1 hc.2.1 hc.2.2.2.2.2.1 hw.1 hw.2.1 hw.2.2 30 1 rfl rfl hin hd (fun H1 locs1 hP hD hS => k H1 locs1 ⟨hP, hD, hS⟩)
theorem nB30 (hc : CX wdB ev p s m c cc nL own args) (hw : VW wdB ev s u H locs) (hd : decode cc pc = .ok (.arraylength, 1)) (k : W p l e R s m args below meth c H locs 0 0 Q (F0 m (pc + 1) ls (.int (8 : Int32) :: rest))) : W p l e R s m args below meth c H locs 0 0 Q (F0 m pc ls (.ref (ev.2.1 30) :: rest)) :=
  va_alen (D := ev.1) (cl := vwCl) (tys := tyl ev) (ws := wB ev u) hc.1 hc.2.1 hc.2.2.2.2.2.1 hw.1 30 1 rfl rfl rfl hd k
theorem aB31 {i : Int32} (hc : CX wdB ev p s m c cc nL own args) (hw : VW wdB ev s u H locs) (hin : vp_in i 8) (hd : decode cc pc = .ok (.baload, 1)) (k : W p l e R s m args below meth c H locs 0 0 Q (F0 m (pc + 1) ls (.int (gA u 18 i.toNatClampNeg) :: rest))) : W p l e R s m args below meth c H locs 0 0 Q (F0 m pc ls (.int i :: .ref (ev.2.1 31) :: rest)) :=
  va_zald (D := ev.1) (cl := vwCl) (tys := tyl ev) (ws := wB ev u) hc.1 hc.2.1 hc.2.2.2.2.2.1 hw.1 31 2 rfl rfl hin hd k
theorem tB31 {i : Int32} {x : Int32} (hc : CX wdB ev p s m c cc nL own args) (hw : VW wdB ev s u H locs) (hin : vp_in i 8) (hd : decode cc pc = .ok (.bastore, 1)) (k : ∀ (H1 : Heap) (locs1 : List Loc), VW wdB ev s (tZ u 18 i x) H1 locs1 → W p l e R s m args below meth c H1 locs1 0 0 Q (F0 m (pc + 1) ls rest)) : W p l e R s m args below meth c H locs 0 0 Q (F0 m pc ls (.int x :: .int i :: .ref (ev.2.1 31) :: rest)) :=
  va_zast (D := ev.1) (cl := vwCl) (tys := tyl ev) (ws := wB ev u) hc.1 hc.2.1 hc.2.2.2.2.2.1 hw.1 hw.2.1 hw.2.2 31 2 rfl rfl hin hd (fun H1 locs1 hP hD hS => k H1 locs1 ⟨hP, hD, hS⟩)
theorem nB31 (hc : CX wdB ev p s m c cc nL own args) (hw : VW wdB ev s u H locs) (hd : decode cc pc = .ok (.arraylength, 1)) (k : W p l e R s m args below meth c H locs 0 0 Q (F0 m (pc + 1) ls (.int (8 : Int32) :: rest))) : W p l e R s m args below meth c H locs 0 0 Q (F0 m pc ls (.ref (ev.2.1 31) :: rest)) :=
  va_alen (D := ev.1) (cl := vwCl) (tys := tyl ev) (ws := wB ev u) hc.1 hc.2.1 hc.2.2.2.2.2.1 hw.1 31 2 rfl rfl rfl hd k
theorem aB32 {i : Int32} (hc : CX wdB ev p s m c cc nL own args) (hw : VW wdB ev s u H locs) (hin : vp_in i 8) (hd : decode cc pc = .ok (.iaload, 1)) (k : W p l e R s m args below meth c H locs 0 0 Q (F0 m (pc + 1) ls (.int (gA u 19 i.toNatClampNeg) :: rest))) : W p l e R s m args below meth c H locs 0 0 Q (F0 m pc ls (.int i :: .ref (ev.2.1 32) :: rest)) :=
  va_iald (D := ev.1) (cl := vwCl) (tys := tyl ev) (ws := wB ev u) hc.1 hc.2.1 hc.2.2.2.2.2.1 hw.1 32 0 rfl rfl hin hd k
theorem tB32 {i : Int32} {x : Int32} (hc : CX wdB ev p s m c cc nL own args) (hw : VW wdB ev s u H locs) (hin : vp_in i 8) (hd : decode cc pc = .ok (.iastore, 1)) (k : ∀ (H1 : Heap) (locs1 : List Loc), VW wdB ev s (tA u 19 i x) H1 locs1 → W p l e R s m args below meth c H1 locs1 0 0 Q (F0 m (pc + 1) ls rest)) : W p l e R s m args below meth c H locs 0 0 Q (F0 m pc ls (.int x :: .int i :: .ref (ev.2.1 32) :: rest)) :=
  va_iast (D := ev.1) (cl := vwCl) (tys := tyl ev) (ws := wB ev u) hc.1 hc.2.1 hc.2.2.2.2.2.1 hw.1 hw.2.1 hw.2.2 32 0 rfl rfl hin hd (fun H1 locs1 hP hD hS => k H1 locs1 ⟨hP, hD, hS⟩)
theorem nB32 (hc : CX wdB ev p s m c cc nL own args) (hw : VW wdB ev s u H locs) (hd : decode cc pc = .ok (.arraylength, 1)) (k : W p l e R s m args below meth c H locs 0 0 Q (F0 m (pc + 1) ls (.int (8 : Int32) :: rest))) : W p l e R s m args below meth c H locs 0 0 Q (F0 m pc ls (.ref (ev.2.1 32) :: rest)) :=
  va_alen (D := ev.1) (cl := vwCl) (tys := tyl ev) (ws := wB ev u) hc.1 hc.2.1 hc.2.2.2.2.2.1 hw.1 32 0 rfl rfl rfl hd k
theorem aB33 {i : Int32} (hc : CX wdB ev p s m c cc nL own args) (hw : VW wdB ev s u H locs) (hin : vp_in i 80) (hd : decode cc pc = .ok (.laload, 1)) (k : W p l e R s m args below meth c H locs 0 0 Q (F0 m (pc + 1) ls (.long (gL u 4 i.toNatClampNeg) :: rest))) : W p l e R s m args below meth c H locs 0 0 Q (F0 m pc ls (.int i :: .ref (ev.2.1 33) :: rest)) :=
  va_lald (D := ev.1) (cl := vwCl) (tys := tyl ev) (ws := wB ev u) hc.1 hc.2.1 hc.2.2.2.2.2.1 hw.1 33 1 rfl rfl hin hd k
theorem tB33 {i : Int32} {x : Int64} (hc : CX wdB ev p s m c cc nL own args) (hw : VW wdB ev s u H locs) (hin : vp_in i 80) (hd : decode cc pc = .ok (.lastore, 1)) (k : ∀ (H1 : Heap) (locs1 : List Loc), VW wdB ev s (tL u 4 i x) H1 locs1 → W p l e R s m args below meth c H1 locs1 0 0 Q (F0 m (pc + 1) ls rest)) : W p l e R s m args below meth c H locs 0 0 Q (F0 m pc ls (.long x :: .int i :: .ref (ev.2.1 33) :: rest)) :=
  va_last (D := ev.1) (cl := vwCl) (tys := tyl ev) (ws := wB ev u) hc.1 hc.2.1 hc.2.2.2.2.2.1 hw.1 hw.2.1 hw.2.2 33 1 rfl rfl hin hd (fun H1 locs1 hP hD hS => k H1 locs1 ⟨hP, hD, hS⟩)
theorem nB33 (hc : CX wdB ev p s m c cc nL own args) (hw : VW wdB ev s u H locs) (hd : decode cc pc = .ok (.arraylength, 1)) (k : W p l e R s m args below meth c H locs 0 0 Q (F0 m (pc + 1) ls (.int (80 : Int32) :: rest))) : W p l e R s m args below meth c H locs 0 0 Q (F0 m pc ls (.ref (ev.2.1 33) :: rest)) :=
  va_alen (D := ev.1) (cl := vwCl) (tys := tyl ev) (ws := wB ev u) hc.1 hc.2.1 hc.2.2.2.2.2.1 hw.1 33 1 rfl rfl rfl hd k
theorem aB34 {i : Int32} (hc : CX wdB ev p s m c cc nL own args) (hw : VW wdB ev s u H locs) (hin : vp_in i 80) (hd : decode cc pc = .ok (.laload, 1)) (k : W p l e R s m args below meth c H locs 0 0 Q (F0 m (pc + 1) ls (.long (gL u 5 i.toNatClampNeg) :: rest))) : W p l e R s m args below meth c H locs 0 0 Q (F0 m pc ls (.int i :: .ref (ev.2.1 34) :: rest)) :=
  va_lald (D := ev.1) (cl := vwCl) (tys := tyl ev) (ws := wB ev u) hc.1 hc.2.1 hc.2.2.2.2.2.1 hw.1 34 1 rfl rfl hin hd k
theorem tB34 {i : Int32} {x : Int64} (hc : CX wdB ev p s m c cc nL own args) (hw : VW wdB ev s u H locs) (hin : vp_in i 80) (hd : decode cc pc = .ok (.lastore, 1)) (k : ∀ (H1 : Heap) (locs1 : List Loc), VW wdB ev s (tL u 5 i x) H1 locs1 → W p l e R s m args below meth c H1 locs1 0 0 Q (F0 m (pc + 1) ls rest)) : W p l e R s m args below meth c H locs 0 0 Q (F0 m pc ls (.long x :: .int i :: .ref (ev.2.1 34) :: rest)) :=
  va_last (D := ev.1) (cl := vwCl) (tys := tyl ev) (ws := wB ev u) hc.1 hc.2.1 hc.2.2.2.2.2.1 hw.1 hw.2.1 hw.2.2 34 1 rfl rfl hin hd (fun H1 locs1 hP hD hS => k H1 locs1 ⟨hP, hD, hS⟩)
theorem nB34 (hc : CX wdB ev p s m c cc nL own args) (hw : VW wdB ev s u H locs) (hd : decode cc pc = .ok (.arraylength, 1)) (k : W p l e R s m args below meth c H locs 0 0 Q (F0 m (pc + 1) ls (.int (80 : Int32) :: rest))) : W p l e R s m args below meth c H locs 0 0 Q (F0 m pc ls (.ref (ev.2.1 34) :: rest)) :=
  va_alen (D := ev.1) (cl := vwCl) (tys := tyl ev) (ws := wB ev u) hc.1 hc.2.1 hc.2.2.2.2.2.1 hw.1 34 1 rfl rfl rfl hd k
theorem aB35 {i : Int32} (hc : CX wdB ev p s m c cc nL own args) (hw : VW wdB ev s u H locs) (hin : vp_in i 8) (hd : decode cc pc = .ok (.iaload, 1)) (k : W p l e R s m args below meth c H locs 0 0 Q (F0 m (pc + 1) ls (.int (gA u 20 i.toNatClampNeg) :: rest))) : W p l e R s m args below meth c H locs 0 0 Q (F0 m pc ls (.int i :: .ref (ev.2.1 35) :: rest)) :=
  va_iald (D := ev.1) (cl := vwCl) (tys := tyl ev) (ws := wB ev u) hc.1 hc.2.1 hc.2.2.2.2.2.1 hw.1 35 0 rfl rfl hin hd k
theorem tB35 {i : Int32} {x : Int32} (hc : CX wdB ev p s m c cc nL own args) (hw : VW wdB ev s u H locs) (hin : vp_in i 8) (hd : decode cc pc = .ok (.iastore, 1)) (k : ∀ (H1 : Heap) (locs1 : List Loc), VW wdB ev s (tA u 20 i x) H1 locs1 → W p l e R s m args below meth c H1 locs1 0 0 Q (F0 m (pc + 1) ls rest)) : W p l e R s m args below meth c H locs 0 0 Q (F0 m pc ls (.int x :: .int i :: .ref (ev.2.1 35) :: rest)) :=
  va_iast (D := ev.1) (cl := vwCl) (tys := tyl ev) (ws := wB ev u) hc.1 hc.2.1 hc.2.2.2.2.2.1 hw.1 hw.2.1 hw.2.2 35 0 rfl rfl hin hd (fun H1 locs1 hP hD hS => k H1 locs1 ⟨hP, hD, hS⟩)
theorem nB35 (hc : CX wdB ev p s m c cc nL own args) (hw : VW wdB ev s u H locs) (hd : decode cc pc = .ok (.arraylength, 1)) (k : W p l e R s m args below meth c H locs 0 0 Q (F0 m (pc + 1) ls (.int (8 : Int32) :: rest))) : W p l e R s m args below meth c H locs 0 0 Q (F0 m pc ls (.ref (ev.2.1 35) :: rest)) :=
  va_alen (D := ev.1) (cl := vwCl) (tys := tyl ev) (ws := wB ev u) hc.1 hc.2.1 hc.2.2.2.2.2.1 hw.1 35 0 rfl rfl rfl hd k
theorem aB36 {i : Int32} (hc : CX wdB ev p s m c cc nL own args) (hw : VW wdB ev s u H locs) (hin : vp_in i 6) (hd : decode cc pc = .ok (.iaload, 1)) (k : W p l e R s m args below meth c H locs 0 0 Q (F0 m (pc + 1) ls (.int (gA u 21 i.toNatClampNeg) :: rest))) : W p l e R s m args below meth c H locs 0 0 Q (F0 m pc ls (.int i :: .ref (ev.2.1 36) :: rest)) :=
  va_iald (D := ev.1) (cl := vwCl) (tys := tyl ev) (ws := wB ev u) hc.1 hc.2.1 hc.2.2.2.2.2.1 hw.1 36 0 rfl rfl hin hd k
theorem tB36 {i : Int32} {x : Int32} (hc : CX wdB ev p s m c cc nL own args) (hw : VW wdB ev s u H locs) (hin : vp_in i 6) (hd : decode cc pc = .ok (.iastore, 1)) (k : ∀ (H1 : Heap) (locs1 : List Loc), VW wdB ev s (tA u 21 i x) H1 locs1 → W p l e R s m args below meth c H1 locs1 0 0 Q (F0 m (pc + 1) ls rest)) : W p l e R s m args below meth c H locs 0 0 Q (F0 m pc ls (.int x :: .int i :: .ref (ev.2.1 36) :: rest)) :=
  va_iast (D := ev.1) (cl := vwCl) (tys := tyl ev) (ws := wB ev u) hc.1 hc.2.1 hc.2.2.2.2.2.1 hw.1 hw.2.1 hw.2.2 36 0 rfl rfl hin hd (fun H1 locs1 hP hD hS => k H1 locs1 ⟨hP, hD, hS⟩)
theorem nB36 (hc : CX wdB ev p s m c cc nL own args) (hw : VW wdB ev s u H locs) (hd : decode cc pc = .ok (.arraylength, 1)) (k : W p l e R s m args below meth c H locs 0 0 Q (F0 m (pc + 1) ls (.int (6 : Int32) :: rest))) : W p l e R s m args below meth c H locs 0 0 Q (F0 m pc ls (.ref (ev.2.1 36) :: rest)) :=
  va_alen (D := ev.1) (cl := vwCl) (tys := tyl ev) (ws := wB ev u) hc.1 hc.2.1 hc.2.2.2.2.2.1 hw.1 36 0 rfl rfl rfl hd k
theorem aB37 {i : Int32} (hc : CX wdB ev p s m c cc nL own args) (hw : VW wdB ev s u H locs) (hin : vp_in i 56) (hd : decode cc pc = .ok (.iaload, 1)) (k : W p l e R s m args below meth c H locs 0 0 Q (F0 m (pc + 1) ls (.int (gA u 22 i.toNatClampNeg) :: rest))) : W p l e R s m args below meth c H locs 0 0 Q (F0 m pc ls (.int i :: .ref (ev.2.1 37) :: rest)) :=
  va_iald (D := ev.1) (cl := vwCl) (tys := tyl ev) (ws := wB ev u) hc.1 hc.2.1 hc.2.2.2.2.2.1 hw.1 37 0 rfl rfl hin hd k
theorem tB37 {i : Int32} {x : Int32} (hc : CX wdB ev p s m c cc nL own args) (hw : VW wdB ev s u H locs) (hin : vp_in i 56) (hd : decode cc pc = .ok (.iastore, 1)) (k : ∀ (H1 : Heap) (locs1 : List Loc), VW wdB ev s (tA u 22 i x) H1 locs1 → W p l e R s m args below meth c H1 locs1 0 0 Q (F0 m (pc + 1) ls rest)) : W p l e R s m args below meth c H locs 0 0 Q (F0 m pc ls (.int x :: .int i :: .ref (ev.2.1 37) :: rest)) :=
  va_iast (D := ev.1) (cl := vwCl) (tys := tyl ev) (ws := wB ev u) hc.1 hc.2.1 hc.2.2.2.2.2.1 hw.1 hw.2.1 hw.2.2 37 0 rfl rfl hin hd (fun H1 locs1 hP hD hS => k H1 locs1 ⟨hP, hD, hS⟩)
theorem nB37 (hc : CX wdB ev p s m c cc nL own args) (hw : VW wdB ev s u H locs) (hd : decode cc pc = .ok (.arraylength, 1)) (k : W p l e R s m args below meth c H locs 0 0 Q (F0 m (pc + 1) ls (.int (56 : Int32) :: rest))) : W p l e R s m args below meth c H locs 0 0 Q (F0 m pc ls (.ref (ev.2.1 37) :: rest)) :=
  va_alen (D := ev.1) (cl := vwCl) (tys := tyl ev) (ws := wB ev u) hc.1 hc.2.1 hc.2.2.2.2.2.1 hw.1 37 0 rfl rfl rfl hd k
theorem aB38 {i : Int32} (hc : CX wdB ev p s m c cc nL own args) (hw : VW wdB ev s u H locs) (hin : vp_in i 48) (hd : decode cc pc = .ok (.iaload, 1)) (k : W p l e R s m args below meth c H locs 0 0 Q (F0 m (pc + 1) ls (.int (gA u 23 i.toNatClampNeg) :: rest))) : W p l e R s m args below meth c H locs 0 0 Q (F0 m pc ls (.int i :: .ref (ev.2.1 38) :: rest)) :=
  va_iald (D := ev.1) (cl := vwCl) (tys := tyl ev) (ws := wB ev u) hc.1 hc.2.1 hc.2.2.2.2.2.1 hw.1 38 0 rfl rfl hin hd k
theorem tB38 {i : Int32} {x : Int32} (hc : CX wdB ev p s m c cc nL own args) (hw : VW wdB ev s u H locs) (hin : vp_in i 48) (hd : decode cc pc = .ok (.iastore, 1)) (k : ∀ (H1 : Heap) (locs1 : List Loc), VW wdB ev s (tA u 23 i x) H1 locs1 → W p l e R s m args below meth c H1 locs1 0 0 Q (F0 m (pc + 1) ls rest)) : W p l e R s m args below meth c H locs 0 0 Q (F0 m pc ls (.int x :: .int i :: .ref (ev.2.1 38) :: rest)) :=
  va_iast (D := ev.1) (cl := vwCl) (tys := tyl ev) (ws := wB ev u) hc.1 hc.2.1 hc.2.2.2.2.2.1 hw.1 hw.2.1 hw.2.2 38 0 rfl rfl hin hd (fun H1 locs1 hP hD hS => k H1 locs1 ⟨hP, hD, hS⟩)
theorem nB38 (hc : CX wdB ev p s m c cc nL own args) (hw : VW wdB ev s u H locs) (hd : decode cc pc = .ok (.arraylength, 1)) (k : W p l e R s m args below meth c H locs 0 0 Q (F0 m (pc + 1) ls (.int (48 : Int32) :: rest))) : W p l e R s m args below meth c H locs 0 0 Q (F0 m pc ls (.ref (ev.2.1 38) :: rest)) :=
  va_alen (D := ev.1) (cl := vwCl) (tys := tyl ev) (ws := wB ev u) hc.1 hc.2.1 hc.2.2.2.2.2.1 hw.1 38 0 rfl rfl rfl hd k
theorem aB39 {i : Int32} (hc : CX wdB ev p s m c cc nL own args) (hw : VW wdB ev s u H locs) (hin : vp_in i 48) (hd : decode cc pc = .ok (.iaload, 1)) (k : W p l e R s m args below meth c H locs 0 0 Q (F0 m (pc + 1) ls (.int (gA u 24 i.toNatClampNeg) :: rest))) : W p l e R s m args below meth c H locs 0 0 Q (F0 m pc ls (.int i :: .ref (ev.2.1 39) :: rest)) :=
  va_iald (D := ev.1) (cl := vwCl) (tys := tyl ev) (ws := wB ev u) hc.1 hc.2.1 hc.2.2.2.2.2.1 hw.1 39 0 rfl rfl hin hd k
theorem tB39 {i : Int32} {x : Int32} (hc : CX wdB ev p s m c cc nL own args) (hw : VW wdB ev s u H locs) (hin : vp_in i 48) (hd : decode cc pc = .ok (.iastore, 1)) (k : ∀ (H1 : Heap) (locs1 : List Loc), VW wdB ev s (tA u 24 i x) H1 locs1 → W p l e R s m args below meth c H1 locs1 0 0 Q (F0 m (pc + 1) ls rest)) : W p l e R s m args below meth c H locs 0 0 Q (F0 m pc ls (.int x :: .int i :: .ref (ev.2.1 39) :: rest)) :=
  va_iast (D := ev.1) (cl := vwCl) (tys := tyl ev) (ws := wB ev u) hc.1 hc.2.1 hc.2.2.2.2.2.1 hw.1 hw.2.1 hw.2.2 39 0 rfl rfl hin hd (fun H1 locs1 hP hD hS => k H1 locs1 ⟨hP, hD, hS⟩)
theorem nB39 (hc : CX wdB ev p s m c cc nL own args) (hw : VW wdB ev s u H locs) (hd : decode cc pc = .ok (.arraylength, 1)) (k : W p l e R s m args below meth c H locs 0 0 Q (F0 m (pc + 1) ls (.int (48 : Int32) :: rest))) : W p l e R s m args below meth c H locs 0 0 Q (F0 m pc ls (.ref (ev.2.1 39) :: rest)) :=
  va_alen (D := ev.1) (cl := vwCl) (tys := tyl ev) (ws := wB ev u) hc.1 hc.2.1 hc.2.2.2.2.2.1 hw.1 39 0 rfl rfl rfl hd k
theorem aB40 {i : Int32} (hc : CX wdB ev p s m c cc nL own args) (hw : VW wdB ev s u H locs) (hin : vp_in i 64) (hd : decode cc pc = .ok (.laload, 1)) (k : W p l e R s m args below meth c H locs 0 0 Q (F0 m (pc + 1) ls (.long (gL u 6 i.toNatClampNeg) :: rest))) : W p l e R s m args below meth c H locs 0 0 Q (F0 m pc ls (.int i :: .ref (ev.2.1 40) :: rest)) :=
  va_lald (D := ev.1) (cl := vwCl) (tys := tyl ev) (ws := wB ev u) hc.1 hc.2.1 hc.2.2.2.2.2.1 hw.1 40 1 rfl rfl hin hd k
theorem tB40 {i : Int32} {x : Int64} (hc : CX wdB ev p s m c cc nL own args) (hw : VW wdB ev s u H locs) (hin : vp_in i 64) (hd : decode cc pc = .ok (.lastore, 1)) (k : ∀ (H1 : Heap) (locs1 : List Loc), VW wdB ev s (tL u 6 i x) H1 locs1 → W p l e R s m args below meth c H1 locs1 0 0 Q (F0 m (pc + 1) ls rest)) : W p l e R s m args below meth c H locs 0 0 Q (F0 m pc ls (.long x :: .int i :: .ref (ev.2.1 40) :: rest)) :=
  va_last (D := ev.1) (cl := vwCl) (tys := tyl ev) (ws := wB ev u) hc.1 hc.2.1 hc.2.2.2.2.2.1 hw.1 hw.2.1 hw.2.2 40 1 rfl rfl hin hd (fun H1 locs1 hP hD hS => k H1 locs1 ⟨hP, hD, hS⟩)
theorem nB40 (hc : CX wdB ev p s m c cc nL own args) (hw : VW wdB ev s u H locs) (hd : decode cc pc = .ok (.arraylength, 1)) (k : W p l e R s m args below meth c H locs 0 0 Q (F0 m (pc + 1) ls (.int (64 : Int32) :: rest))) : W p l e R s m args below meth c H locs 0 0 Q (F0 m pc ls (.ref (ev.2.1 40) :: rest)) :=
  va_alen (D := ev.1) (cl := vwCl) (tys := tyl ev) (ws := wB ev u) hc.1 hc.2.1 hc.2.2.2.2.2.1 hw.1 40 1 rfl rfl rfl hd k
theorem aB41 {i : Int32} (hc : CX wdB ev p s m c cc nL own args) (hw : VW wdB ev s u H locs) (hin : vp_in i 64) (hd : decode cc pc = .ok (.laload, 1)) (k : W p l e R s m args below meth c H locs 0 0 Q (F0 m (pc + 1) ls (.long (gL u 7 i.toNatClampNeg) :: rest))) : W p l e R s m args below meth c H locs 0 0 Q (F0 m pc ls (.int i :: .ref (ev.2.1 41) :: rest)) :=
  va_lald (D := ev.1) (cl := vwCl) (tys := tyl ev) (ws := wB ev u) hc.1 hc.2.1 hc.2.2.2.2.2.1 hw.1 41 1 rfl rfl hin hd k
theorem tB41 {i : Int32} {x : Int64} (hc : CX wdB ev p s m c cc nL own args) (hw : VW wdB ev s u H locs) (hin : vp_in i 64) (hd : decode cc pc = .ok (.lastore, 1)) (k : ∀ (H1 : Heap) (locs1 : List Loc), VW wdB ev s (tL u 7 i x) H1 locs1 → W p l e R s m args below meth c H1 locs1 0 0 Q (F0 m (pc + 1) ls rest)) : W p l e R s m args below meth c H locs 0 0 Q (F0 m pc ls (.long x :: .int i :: .ref (ev.2.1 41) :: rest)) :=
  va_last (D := ev.1) (cl := vwCl) (tys := tyl ev) (ws := wB ev u) hc.1 hc.2.1 hc.2.2.2.2.2.1 hw.1 hw.2.1 hw.2.2 41 1 rfl rfl hin hd (fun H1 locs1 hP hD hS => k H1 locs1 ⟨hP, hD, hS⟩)
theorem nB41 (hc : CX wdB ev p s m c cc nL own args) (hw : VW wdB ev s u H locs) (hd : decode cc pc = .ok (.arraylength, 1)) (k : W p l e R s m args below meth c H locs 0 0 Q (F0 m (pc + 1) ls (.int (64 : Int32) :: rest))) : W p l e R s m args below meth c H locs 0 0 Q (F0 m pc ls (.ref (ev.2.1 41) :: rest)) :=
  va_alen (D := ev.1) (cl := vwCl) (tys := tyl ev) (ws := wB ev u) hc.1 hc.2.1 hc.2.2.2.2.2.1 hw.1 41 1 rfl rfl rfl hd k
theorem aB42 {i : Int32} (hc : CX wdB ev p s m c cc nL own args) (hw : VW wdB ev s u H locs) (hin : vp_in i 6) (hd : decode cc pc = .ok (.iaload, 1)) (k : W p l e R s m args below meth c H locs 0 0 Q (F0 m (pc + 1) ls (.int (gA u 25 i.toNatClampNeg) :: rest))) : W p l e R s m args below meth c H locs 0 0 Q (F0 m pc ls (.int i :: .ref (ev.2.1 42) :: rest)) :=
  va_iald (D := ev.1) (cl := vwCl) (tys := tyl ev) (ws := wB ev u) hc.1 hc.2.1 hc.2.2.2.2.2.1 hw.1 42 0 rfl rfl hin hd k
theorem tB42 {i : Int32} {x : Int32} (hc : CX wdB ev p s m c cc nL own args) (hw : VW wdB ev s u H locs) (hin : vp_in i 6) (hd : decode cc pc = .ok (.iastore, 1)) (k : ∀ (H1 : Heap) (locs1 : List Loc), VW wdB ev s (tA u 25 i x) H1 locs1 → W p l e R s m args below meth c H1 locs1 0 0 Q (F0 m (pc + 1) ls rest)) : W p l e R s m args below meth c H locs 0 0 Q (F0 m pc ls (.int x :: .int i :: .ref (ev.2.1 42) :: rest)) :=
  va_iast (D := ev.1) (cl := vwCl) (tys := tyl ev) (ws := wB ev u) hc.1 hc.2.1 hc.2.2.2.2.2.1 hw.1 hw.2.1 hw.2.2 42 0 rfl rfl hin hd (fun H1 locs1 hP hD hS => k H1 locs1 ⟨hP, hD, hS⟩)
theorem nB42 (hc : CX wdB ev p s m c cc nL own args) (hw : VW wdB ev s u H locs) (hd : decode cc pc = .ok (.arraylength, 1)) (k : W p l e R s m args below meth c H locs 0 0 Q (F0 m (pc + 1) ls (.int (6 : Int32) :: rest))) : W p l e R s m args below meth c H locs 0 0 Q (F0 m pc ls (.ref (ev.2.1 42) :: rest)) :=
  va_alen (D := ev.1) (cl := vwCl) (tys := tyl ev) (ws := wB ev u) hc.1 hc.2.1 hc.2.2.2.2.2.1 hw.1 42 0 rfl rfl rfl hd k
theorem aB43 {i : Int32} (hc : CX wdB ev p s m c cc nL own args) (hw : VW wdB ev s u H locs) (hin : vp_in i 20) (hd : decode cc pc = .ok (.iaload, 1)) (k : W p l e R s m args below meth c H locs 0 0 Q (F0 m (pc + 1) ls (.int (gA u 26 i.toNatClampNeg) :: rest))) : W p l e R s m args below meth c H locs 0 0 Q (F0 m pc ls (.int i :: .ref (ev.2.1 43) :: rest)) :=
  va_iald (D := ev.1) (cl := vwCl) (tys := tyl ev) (ws := wB ev u) hc.1 hc.2.1 hc.2.2.2.2.2.1 hw.1 43 0 rfl rfl hin hd k
theorem tB43 {i : Int32} {x : Int32} (hc : CX wdB ev p s m c cc nL own args) (hw : VW wdB ev s u H locs) (hin : vp_in i 20) (hd : decode cc pc = .ok (.iastore, 1)) (k : ∀ (H1 : Heap) (locs1 : List Loc), VW wdB ev s (tA u 26 i x) H1 locs1 → W p l e R s m args below meth c H1 locs1 0 0 Q (F0 m (pc + 1) ls rest)) : W p l e R s m args below meth c H locs 0 0 Q (F0 m pc ls (.int x :: .int i :: .ref (ev.2.1 43) :: rest)) :=
  va_iast (D := ev.1) (cl := vwCl) (tys := tyl ev) (ws := wB ev u) hc.1 hc.2.1 hc.2.2.2.2.2.1 hw.1 hw.2.1 hw.2.2 43 0 rfl rfl hin hd (fun H1 locs1 hP hD hS => k H1 locs1 ⟨hP, hD, hS⟩)
theorem nB43 (hc : CX wdB ev p s m c cc nL own args) (hw : VW wdB ev s u H locs) (hd : decode cc pc = .ok (.arraylength, 1)) (k : W p l e R s m args below meth c H locs 0 0 Q (F0 m (pc + 1) ls (.int (20 : Int32) :: rest))) : W p l e R s m args below meth c H locs 0 0 Q (F0 m pc ls (.ref (ev.2.1 43) :: rest)) :=
  va_alen (D := ev.1) (cl := vwCl) (tys := tyl ev) (ws := wB ev u) hc.1 hc.2.1 hc.2.2.2.2.2.1 hw.1 43 0 rfl rfl rfl hd k
theorem aB44 {i : Int32} (hc : CX wdB ev p s m c cc nL own args) (hw : VW wdB ev s u H locs) (hin : vp_in i 20) (hd : decode cc pc = .ok (.iaload, 1)) (k : W p l e R s m args below meth c H locs 0 0 Q (F0 m (pc + 1) ls (.int (gA u 27 i.toNatClampNeg) :: rest))) : W p l e R s m args below meth c H locs 0 0 Q (F0 m pc ls (.int i :: .ref (ev.2.1 44) :: rest)) :=
  va_iald (D := ev.1) (cl := vwCl) (tys := tyl ev) (ws := wB ev u) hc.1 hc.2.1 hc.2.2.2.2.2.1 hw.1 44 0 rfl rfl hin hd k
theorem tB44 {i : Int32} {x : Int32} (hc : CX wdB ev p s m c cc nL own args) (hw : VW wdB ev s u H locs) (hin : vp_in i 20) (hd : decode cc pc = .ok (.iastore, 1)) (k : ∀ (H1 : Heap) (locs1 : List Loc), VW wdB ev s (tA u 27 i x) H1 locs1 → W p l e R s m args below meth c H1 locs1 0 0 Q (F0 m (pc + 1) ls rest)) : W p l e R s m args below meth c H locs 0 0 Q (F0 m pc ls (.int x :: .int i :: .ref (ev.2.1 44) :: rest)) :=
  va_iast (D := ev.1) (cl := vwCl) (tys := tyl ev) (ws := wB ev u) hc.1 hc.2.1 hc.2.2.2.2.2.1 hw.1 hw.2.1 hw.2.2 44 0 rfl rfl hin hd (fun H1 locs1 hP hD hS => k H1 locs1 ⟨hP, hD, hS⟩)
theorem nB44 (hc : CX wdB ev p s m c cc nL own args) (hw : VW wdB ev s u H locs) (hd : decode cc pc = .ok (.arraylength, 1)) (k : W p l e R s m args below meth c H locs 0 0 Q (F0 m (pc + 1) ls (.int (20 : Int32) :: rest))) : W p l e R s m args below meth c H locs 0 0 Q (F0 m pc ls (.ref (ev.2.1 44) :: rest)) :=
  va_alen (D := ev.1) (cl := vwCl) (tys := tyl ev) (ws := wB ev u) hc.1 hc.2.1 hc.2.2.2.2.2.1 hw.1 44 0 rfl rfl rfl hd k
theorem aB45 {i : Int32} (hc : CX wdB ev p s m c cc nL own args) (hw : VW wdB ev s u H locs) (hin : vp_in i 20) (hd : decode cc pc = .ok (.baload, 1)) (k : W p l e R s m args below meth c H locs 0 0 Q (F0 m (pc + 1) ls (.int (gA u 28 i.toNatClampNeg) :: rest))) : W p l e R s m args below meth c H locs 0 0 Q (F0 m pc ls (.int i :: .ref (ev.2.1 45) :: rest)) :=
  va_zald (D := ev.1) (cl := vwCl) (tys := tyl ev) (ws := wB ev u) hc.1 hc.2.1 hc.2.2.2.2.2.1 hw.1 45 2 rfl rfl hin hd k
theorem tB45 {i : Int32} {x : Int32} (hc : CX wdB ev p s m c cc nL own args) (hw : VW wdB ev s u H locs) (hin : vp_in i 20) (hd : decode cc pc = .ok (.bastore, 1)) (k : ∀ (H1 : Heap) (locs1 : List Loc), VW wdB ev s (tZ u 28 i x) H1 locs1 → W p l e R s m args below meth c H1 locs1 0 0 Q (F0 m (pc + 1) ls rest)) : W p l e R s m args below meth c H locs 0 0 Q (F0 m pc ls (.int x :: .int i :: .ref (ev.2.1 45) :: rest)) :=
  va_zast (D := ev.1) (cl := vwCl) (tys := tyl ev) (ws := wB ev u) hc.1 hc.2.1 hc.2.2.2.2.2.1 hw.1 hw.2.1 hw.2.2 45 2 rfl rfl hin hd (fun H1 locs1 hP hD hS => k H1 locs1 ⟨hP, hD, hS⟩)
theorem nB45 (hc : CX wdB ev p s m c cc nL own args) (hw : VW wdB ev s u H locs) (hd : decode cc pc = .ok (.arraylength, 1)) (k : W p l e R s m args below meth c H locs 0 0 Q (F0 m (pc + 1) ls (.int (20 : Int32) :: rest))) : W p l e R s m args below meth c H locs 0 0 Q (F0 m pc ls (.ref (ev.2.1 45) :: rest)) :=
  va_alen (D := ev.1) (cl := vwCl) (tys := tyl ev) (ws := wB ev u) hc.1 hc.2.1 hc.2.2.2.2.2.1 hw.1 45 2 rfl rfl rfl hd k
theorem aB46 {i : Int32} (hc : CX wdB ev p s m c cc nL own args) (hw : VW wdB ev s u H locs) (hin : vp_in i 20) (hd : decode cc pc = .ok (.iaload, 1)) (k : W p l e R s m args below meth c H locs 0 0 Q (F0 m (pc + 1) ls (.int (gA u 29 i.toNatClampNeg) :: rest))) : W p l e R s m args below meth c H locs 0 0 Q (F0 m pc ls (.int i :: .ref (ev.2.1 46) :: rest)) :=
  va_iald (D := ev.1) (cl := vwCl) (tys := tyl ev) (ws := wB ev u) hc.1 hc.2.1 hc.2.2.2.2.2.1 hw.1 46 0 rfl rfl hin hd k
theorem tB46 {i : Int32} {x : Int32} (hc : CX wdB ev p s m c cc nL own args) (hw : VW wdB ev s u H locs) (hin : vp_in i 20) (hd : decode cc pc = .ok (.iastore, 1)) (k : ∀ (H1 : Heap) (locs1 : List Loc), VW wdB ev s (tA u 29 i x) H1 locs1 → W p l e R s m args below meth c H1 locs1 0 0 Q (F0 m (pc + 1) ls rest)) : W p l e R s m args below meth c H locs 0 0 Q (F0 m pc ls (.int x :: .int i :: .ref (ev.2.1 46) :: rest)) :=
  va_iast (D := ev.1) (cl := vwCl) (tys := tyl ev) (ws := wB ev u) hc.1 hc.2.1 hc.2.2.2.2.2.1 hw.1 hw.2.1 hw.2.2 46 0 rfl rfl hin hd (fun H1 locs1 hP hD hS => k H1 locs1 ⟨hP, hD, hS⟩)
theorem nB46 (hc : CX wdB ev p s m c cc nL own args) (hw : VW wdB ev s u H locs) (hd : decode cc pc = .ok (.arraylength, 1)) (k : W p l e R s m args below meth c H locs 0 0 Q (F0 m (pc + 1) ls (.int (20 : Int32) :: rest))) : W p l e R s m args below meth c H locs 0 0 Q (F0 m pc ls (.ref (ev.2.1 46) :: rest)) :=
  va_alen (D := ev.1) (cl := vwCl) (tys := tyl ev) (ws := wB ev u) hc.1 hc.2.1 hc.2.2.2.2.2.1 hw.1 46 0 rfl rfl rfl hd k
theorem aB47 {i : Int32} (hc : CX wdB ev p s m c cc nL own args) (hw : VW wdB ev s u H locs) (hin : vp_in i 6) (hd : decode cc pc = .ok (.iaload, 1)) (k : W p l e R s m args below meth c H locs 0 0 Q (F0 m (pc + 1) ls (.int (gA u 30 i.toNatClampNeg) :: rest))) : W p l e R s m args below meth c H locs 0 0 Q (F0 m pc ls (.int i :: .ref (ev.2.1 47) :: rest)) :=
  va_iald (D := ev.1) (cl := vwCl) (tys := tyl ev) (ws := wB ev u) hc.1 hc.2.1 hc.2.2.2.2.2.1 hw.1 47 0 rfl rfl hin hd k
theorem tB47 {i : Int32} {x : Int32} (hc : CX wdB ev p s m c cc nL own args) (hw : VW wdB ev s u H locs) (hin : vp_in i 6) (hd : decode cc pc = .ok (.iastore, 1)) (k : ∀ (H1 : Heap) (locs1 : List Loc), VW wdB ev s (tA u 30 i x) H1 locs1 → W p l e R s m args below meth c H1 locs1 0 0 Q (F0 m (pc + 1) ls rest)) : W p l e R s m args below meth c H locs 0 0 Q (F0 m pc ls (.int x :: .int i :: .ref (ev.2.1 47) :: rest)) :=
  va_iast (D := ev.1) (cl := vwCl) (tys := tyl ev) (ws := wB ev u) hc.1 hc.2.1 hc.2.2.2.2.2.1 hw.1 hw.2.1 hw.2.2 47 0 rfl rfl hin hd (fun H1 locs1 hP hD hS => k H1 locs1 ⟨hP, hD, hS⟩)
theorem nB47 (hc : CX wdB ev p s m c cc nL own args) (hw : VW wdB ev s u H locs) (hd : decode cc pc = .ok (.arraylength, 1)) (k : W p l e R s m args below meth c H locs 0 0 Q (F0 m (pc + 1) ls (.int (6 : Int32) :: rest))) : W p l e R s m args below meth c H locs 0 0 Q (F0 m pc ls (.ref (ev.2.1 47) :: rest)) :=
  va_alen (D := ev.1) (cl := vwCl) (tys := tyl ev) (ws := wB ev u) hc.1 hc.2.1 hc.2.2.2.2.2.1 hw.1 47 0 rfl rfl rfl hd k
theorem aB48 {i : Int32} (hc : CX wdB ev p s m c cc nL own args) (hw : VW wdB ev s u H locs) (hin : vp_in i 6) (hd : decode cc pc = .ok (.laload, 1)) (k : W p l e R s m args below meth c H locs 0 0 Q (F0 m (pc + 1) ls (.long (gL u 8 i.toNatClampNeg) :: rest))) : W p l e R s m args below meth c H locs 0 0 Q (F0 m pc ls (.int i :: .ref (ev.2.1 48) :: rest)) :=
  va_lald (D := ev.1) (cl := vwCl) (tys := tyl ev) (ws := wB ev u) hc.1 hc.2.1 hc.2.2.2.2.2.1 hw.1 48 1 rfl rfl hin hd k
theorem tB48 {i : Int32} {x : Int64} (hc : CX wdB ev p s m c cc nL own args) (hw : VW wdB ev s u H locs) (hin : vp_in i 6) (hd : decode cc pc = .ok (.lastore, 1)) (k : ∀ (H1 : Heap) (locs1 : List Loc), VW wdB ev s (tL u 8 i x) H1 locs1 → W p l e R s m args below meth c H1 locs1 0 0 Q (F0 m (pc + 1) ls rest)) : W p l e R s m args below meth c H locs 0 0 Q (F0 m pc ls (.long x :: .int i :: .ref (ev.2.1 48) :: rest)) :=
  va_last (D := ev.1) (cl := vwCl) (tys := tyl ev) (ws := wB ev u) hc.1 hc.2.1 hc.2.2.2.2.2.1 hw.1 hw.2.1 hw.2.2 48 1 rfl rfl hin hd (fun H1 locs1 hP hD hS => k H1 locs1 ⟨hP, hD, hS⟩)
theorem nB48 (hc : CX wdB ev p s m c cc nL own args) (hw : VW wdB ev s u H locs) (hd : decode cc pc = .ok (.arraylength, 1)) (k : W p l e R s m args below meth c H locs 0 0 Q (F0 m (pc + 1) ls (.int (6 : Int32) :: rest))) : W p l e R s m args below meth c H locs 0 0 Q (F0 m pc ls (.ref (ev.2.1 48) :: rest)) :=
  va_alen (D := ev.1) (cl := vwCl) (tys := tyl ev) (ws := wB ev u) hc.1 hc.2.1 hc.2.2.2.2.2.1 hw.1 48 1 rfl rfl rfl hd k
theorem aB49 {i : Int32} (hc : CX wdB ev p s m c cc nL own args) (hw : VW wdB ev s u H locs) (hin : vp_in i 8) (hd : decode cc pc = .ok (.iaload, 1)) (k : W p l e R s m args below meth c H locs 0 0 Q (F0 m (pc + 1) ls (.int (gA u 31 i.toNatClampNeg) :: rest))) : W p l e R s m args below meth c H locs 0 0 Q (F0 m pc ls (.int i :: .ref (ev.2.1 49) :: rest)) :=
  va_iald (D := ev.1) (cl := vwCl) (tys := tyl ev) (ws := wB ev u) hc.1 hc.2.1 hc.2.2.2.2.2.1 hw.1 49 0 rfl rfl hin hd k
theorem tB49 {i : Int32} {x : Int32} (hc : CX wdB ev p s m c cc nL own args) (hw : VW wdB ev s u H locs) (hin : vp_in i 8) (hd : decode cc pc = .ok (.iastore, 1)) (k : ∀ (H1 : Heap) (locs1 : List Loc), VW wdB ev s (tA u 31 i x) H1 locs1 → W p l e R s m args below meth c H1 locs1 0 0 Q (F0 m (pc + 1) ls rest)) : W p l e R s m args below meth c H locs 0 0 Q (F0 m pc ls (.int x :: .int i :: .ref (ev.2.1 49) :: rest)) :=
  va_iast (D := ev.1) (cl := vwCl) (tys := tyl ev) (ws := wB ev u) hc.1 hc.2.1 hc.2.2.2.2.2.1 hw.1 hw.2.1 hw.2.2 49 0 rfl rfl hin hd (fun H1 locs1 hP hD hS => k H1 locs1 ⟨hP, hD, hS⟩)
theorem nB49 (hc : CX wdB ev p s m c cc nL own args) (hw : VW wdB ev s u H locs) (hd : decode cc pc = .ok (.arraylength, 1)) (k : W p l e R s m args below meth c H locs 0 0 Q (F0 m (pc + 1) ls (.int (8 : Int32) :: rest))) : W p l e R s m args below meth c H locs 0 0 Q (F0 m pc ls (.ref (ev.2.1 49) :: rest)) :=
  va_alen (D := ev.1) (cl := vwCl) (tys := tyl ev) (ws := wB ev u) hc.1 hc.2.1 hc.2.2.2.2.2.1 hw.1 49 0 rfl rfl rfl hd k
theorem aB50 {i : Int32} (hc : CX wdB ev p s m c cc nL own args) (hw : VW wdB ev s u H locs) (hin : vp_in i 8) (hd : decode cc pc = .ok (.iaload, 1)) (k : W p l e R s m args below meth c H locs 0 0 Q (F0 m (pc + 1) ls (.int (gA u 32 i.toNatClampNeg) :: rest))) : W p l e R s m args below meth c H locs 0 0 Q (F0 m pc ls (.int i :: .ref (ev.2.1 50) :: rest)) :=
  va_iald (D := ev.1) (cl := vwCl) (tys := tyl ev) (ws := wB ev u) hc.1 hc.2.1 hc.2.2.2.2.2.1 hw.1 50 0 rfl rfl hin hd k
theorem tB50 {i : Int32} {x : Int32} (hc : CX wdB ev p s m c cc nL own args) (hw : VW wdB ev s u H locs) (hin : vp_in i 8) (hd : decode cc pc = .ok (.iastore, 1)) (k : ∀ (H1 : Heap) (locs1 : List Loc), VW wdB ev s (tA u 32 i x) H1 locs1 → W p l e R s m args below meth c H1 locs1 0 0 Q (F0 m (pc + 1) ls rest)) : W p l e R s m args below meth c H locs 0 0 Q (F0 m pc ls (.int x :: .int i :: .ref (ev.2.1 50) :: rest)) :=
  va_iast (D := ev.1) (cl := vwCl) (tys := tyl ev) (ws := wB ev u) hc.1 hc.2.1 hc.2.2.2.2.2.1 hw.1 hw.2.1 hw.2.2 50 0 rfl rfl hin hd (fun H1 locs1 hP hD hS => k H1 locs1 ⟨hP, hD, hS⟩)
theorem nB50 (hc : CX wdB ev p s m c cc nL own args) (hw : VW wdB ev s u H locs) (hd : decode cc pc = .ok (.arraylength, 1)) (k : W p l e R s m args below meth c H locs 0 0 Q (F0 m (pc + 1) ls (.int (8 : Int32) :: rest))) : W p l e R s m args below meth c H locs 0 0 Q (F0 m pc ls (.ref (ev.2.1 50) :: rest)) :=
  va_alen (D := ev.1) (cl := vwCl) (tys := tyl ev) (ws := wB ev u) hc.1 hc.2.1 hc.2.2.2.2.2.1 hw.1 50 0 rfl rfl rfl hd k
end FLDB
end
section
def wM (ev : EV) (u : SS) : va_W := [(ev.2.1 0, .inr (9, [.int (gI u 0), .int (gI u 1), .ref (ev.2.1 1), .int (gI u 2), .ref (ev.2.1 2), .ref (ev.2.1 3), .ref (ev.2.1 4), .ref (ev.2.1 5), .ref (ev.2.1 6), .ref (ev.2.1 7), .ref (ev.2.1 8), .ref (ev.2.1 9), .ref (ev.2.1 10), .ref (ev.2.1 11), .int (gI u 3), .ref (ev.2.1 12), .int (gI u 4), .int (gI u 5), .ref (ev.2.1 13), .int (gI u 6), .ref (ev.2.1 14), .int (gI u 7), .ref (ev.2.1 15), .ref (ev.2.1 16), .ref (ev.2.1 17), .ref (ev.2.1 18), .int (gI u 8), .ref (ev.2.1 19), .int (gI u 9), .int (gI u 10), .int (gI u 11), .int (gI u 12), .int (gI u 13), .int (gI u 14), .long (gJ u 0), .long (gJ u 1), .ref (ev.2.1 20), .int (gI u 15), .ref (ev.2.1 21), .ref (ev.2.1 22), .int (gI u 16), .ref (ev.2.1 23), .int (gI u 17), .int (gI u 18), .ref (ev.2.1 24), .ref (ev.2.1 25), .ref (ev.2.1 26), .ref (ev.2.1 27), .ref (ev.2.1 28), .int (gI u 19), .int (gI u 20), .int (gI u 21), .int (gI u 22), .int (gI u 23), .int (gI u 24), .ref (ev.2.1 29), .ref (ev.2.1 30), .ref (ev.2.1 31), .int (gI u 25), .ref (ev.2.1 32), .ref (ev.2.1 33), .ref (ev.2.1 34), .ref (ev.2.1 35), .ref (ev.2.1 36), .int (gI u 26), .ref (ev.2.1 37), .ref (ev.2.1 38), .int (gI u 27), .int (gI u 28), .int (gI u 29), .int (gI u 30)])),
  (ev.2.1 1, .inl (ev.2.2.1 0, 4, .inl (gA u 0))),
  (ev.2.1 2, .inl (ev.2.2.1 2, 48, .inl (gA u 1))),
  (ev.2.1 3, .inl (ev.2.2.1 0, 48, .inl (gA u 2))),
  (ev.2.1 4, .inl (ev.2.2.1 0, 192, .inl (gA u 3))),
  (ev.2.1 5, .inl (ev.2.2.1 0, 48, .inl (gA u 4))),
  (ev.2.1 6, .inl (ev.2.2.1 0, 48, .inl (gA u 5))),
  (ev.2.1 7, .inl (ev.2.2.1 2, 48, .inl (gA u 6))),
  (ev.2.1 8, .inl (ev.2.2.1 0, 48, .inl (gA u 7))),
  (ev.2.1 9, .inl (ev.2.2.1 0, 4, .inl (gA u 8))),
  (ev.2.1 10, .inl (ev.2.2.1 0, 288, .inl (gA u 9))),
  (ev.2.1 11, .inl (ev.2.2.1 2, 48, .inl (gA u 10))),
  (ev.2.1 12, .inl (ev.2.2.1 0, 8, .inl (gA u 11))),
  (ev.2.1 13, .inl (ev.2.2.1 0, 80, .inl (gA u 12))),
  (ev.2.1 14, .inl (ev.2.2.1 0, 80, .inl (gA u 13))),
  (ev.2.1 15, .inl (ev.2.2.1 1, 7, .inr (.inl (gL u 0)))),
  (ev.2.1 16, .inl (ev.2.2.1 1, 7, .inr (.inl (gL u 1)))),
  (ev.2.1 17, .inl (ev.2.2.1 1, 100, .inr (.inl (gL u 2)))),
  (ev.2.1 18, .inl (ev.2.2.1 1, 100, .inr (.inl (gL u 3)))),
  (ev.2.1 19, .inl (ev.2.2.1 0, 100, .inl (gA u 14))),
  (ev.2.1 20, .inl (ev.2.2.1 0, 8, .inl (gA u 15))),
  (ev.2.1 21, .inl (ev.2.2.1 0, 8, .inl (gA u 16))),
  (ev.2.1 22, .inl (ev.2.2.1 0, 56, .inl (gA u 17))),
  (ev.2.1 23, .inl (ev.2.2.1 0, 6, .inl (gA u 18))),
  (ev.2.1 24, .inl (ev.2.2.1 0, 48, .inl (gA u 19))),
  (ev.2.1 25, .inl (ev.2.2.1 0, 6, .inl (gA u 20))),
  (ev.2.1 26, .inl (ev.2.2.1 0, 6, .inl (gA u 21))),
  (ev.2.1 27, .inl (ev.2.2.1 0, 8, .inl (gA u 22))),
  (ev.2.1 28, .inl (ev.2.2.1 0, 8, .inl (gA u 23))),
  (ev.2.1 29, .inl (ev.2.2.1 0, 6, .inl (gA u 24))),
  (ev.2.1 30, .inl (ev.2.2.1 0, 6, .inl (gA u 25))),
  (ev.2.1 31, .inl (ev.2.2.1 0, 6, .inl (gA u 26))),
  (ev.2.1 32, .inl (ev.2.2.1 0, 20, .inl (gA u 27))),
  (ev.2.1 33, .inl (ev.2.2.1 0, 20, .inl (gA u 28))),
  (ev.2.1 34, .inl (ev.2.2.1 2, 20, .inl (gA u 29))),
  (ev.2.1 35, .inl (ev.2.2.1 0, 4, .inl (gA u 30))),
  (ev.2.1 36, .inl (ev.2.2.1 0, 8, .inl (gA u 31))),
  (ev.2.1 37, .inl (ev.2.2.1 0, 8, .inl (gA u 32))),
  (ev.2.1 38, .inl (ev.2.2.1 0, 8, .inl (gA u 33)))]
def zM (_ : EV) (_ : Nat → Prop) (_ : State) : Prop := True
abbrev wdM : WD := (wM, 39, zM)
theorem adM (ev : EV) (u : SS) (k : Nat) (q : Nat × va_E) (h : (wM ev u)[k]? = some q) : ∃ j, j < 39 ∧ q.1 = ev.2.1 j := by
  have e : (wM ev u).map (fun q => q.1) = (List.range 39).map ev.2.1 := rfl
  have h1 : ((wM ev u).map (fun q => q.1))[k]? = some q.1 := by rw [List.getElem?_map, h]; rfl
  rw [e, List.getElem?_map] at h1
  cases hr : (List.range 39)[k]? with
  | none => rw [hr] at h1; cases h1
  | some j =>
    rw [hr] at h1
    exact ⟨j, List.mem_range.mp (List.mem_of_getElem? hr), (Option.some.inj h1).symm⟩
theorem okM : wOK wdM := ⟨fun _ _ _ _ _ _ _ _ _ => trivial, fun _ _ _ _ _ _ _ => trivial, adM⟩
set_option maxRecDepth 20000 in
theorem inX10 : ∀ w ∈ u_ws RX10 TX10 71, w ∈ lw_g := in_g [1092, 1094, 1096, 1098, 1100, 1102, 1104, 1106, 1108, 1110, 1112, 1114, 1116, 1118, 1120, 1122, 1124, 1126, 1128, 1130, 1132, 1134, 1136, 1138, 1140, 1142, 1144, 1146, 1148, 1150, 1152, 1154, 1156, 1158, 1160, 1162, 1164, 1166, 1168, 1170, 1172, 1174, 1176, 1178, 1180, 1182, 1184, 1186, 1188, 1190, 1192, 1194, 1196, 1198, 1200, 1202, 1204, 1206, 1208, 1210, 1212, 1214, 1216, 1218, 1220, 1222, 1224, 1226, 1228, 1230, 1232] (by decide +kernel) (by decide +kernel)
theorem rvM0 (ev : EV) (u : SS) : RV wdM ev u (ev.2.1 0) RX10 := ⟨0, 9, _, _, rfl, rfl, rfl⟩
section FLDM
variable {ev : EV} {p : Program} {l : Launch} {e : Env} {R : Room} {s : State} {m : MethodId} {args : Array Value} {below : List Frame} {meth : Method} {c : Code} {cc : ByteArray} {nL index : Nat} {own : String} {H : Heap} {locs : List Loc} {Q : State → Prop} {pc : Nat} {ls : Array Slot} {u : SS} {rest : List Value}
theorem gM0_0 (hc : CX wdM ev p s m c cc nL own args) (hw : VW wdM ev s u H locs) (hl : Cond.fieldLink own index "BidsJudgedModel" "now" "I" ∈ lw_g) (hd : decode cc pc = .ok (.getfield index, 3)) (k : W p l e R s m args below meth c H locs 0 0 Q (F0 m (pc + 3) ls (.int (gI u 0) :: rest))) : W p l e R s m args below meth c H locs 0 0 Q (F0 m pc ls (.ref (ev.2.1 0) :: rest)) :=
  va_get (D := ev.1) (cl := vwCl) (tys := tyl ev) (ws := wM ev u) (ci := 9) (C := RX10) (T := TX10) (N := 71) hc.1 hc.2.1 hc.2.2.2.2.1 inX10 hc.2.2.2.1 hc.2.2.2.2.2.1 hw.1 0 rfl rfl 0 (by decide) (hc.2.2.2.2.1 _ hl) (fun _ h => h) rfl hd k
theorem pM0_0 {v : Int32} (hc : CX wdM ev p s m c cc nL own args) (hw : VW wdM ev s u H locs) (hl : Cond.fieldLink own index "BidsJudgedModel" "now" "I" ∈ lw_g) (hd : decode cc pc = .ok (.putfield index, 3)) (k : ∀ (H1 : Heap) (locs1 : List Loc), VW wdM ev s (sI u 0 v) H1 locs1 → W p l e R s m args below meth c H1 locs1 0 0 Q (F0 m (pc + 3) ls rest)) : W p l e R s m args below meth c H locs 0 0 Q (F0 m pc ls (.int v :: .ref (ev.2.1 0) :: rest)) :=
  va_put (D := ev.1) (cl := vwCl) (tys := tyl ev) (ws := wM ev u) (ci := 9) (v := .int v) (ty := .int) (C := RX10) (T := TX10) (N := 71) hc.1 hc.2.1 hc.2.2.2.2.1 inX10 tyX10 tyX10_ok nmX10 hc.2.2.2.1 hc.2.2.2.2.2.1 hw.1 hw.2.1 hw.2.2 0 rfl rfl 0 (by decide) (hc.2.2.2.2.1 _ hl) (fun _ h => h) rfl (by decide +kernel) rfl rfl (Nat.le_of_ble_eq_true rfl) hd (fun H1 locs1 hP hD hS => k H1 locs1 ⟨hP, hD, hS⟩)
theorem gM0_1 (hc : CX wdM ev p s m c cc nL own args) (hw : VW wdM ev s u H locs) (hl : Cond.fieldLink own index "BidsJudgedModel" "closes" "I" ∈ lw_g) (hd : decode cc pc = .ok (.getfield index, 3)) (k : W p l e R s m args below meth c H locs 0 0 Q (F0 m (pc + 3) ls (.int (gI u 1) :: rest))) : W p l e R s m args below meth c H locs 0 0 Q (F0 m pc ls (.ref (ev.2.1 0) :: rest)) :=
  va_get (D := ev.1) (cl := vwCl) (tys := tyl ev) (ws := wM ev u) (ci := 9) (C := RX10) (T := TX10) (N := 71) hc.1 hc.2.1 hc.2.2.2.2.1 inX10 hc.2.2.2.1 hc.2.2.2.2.2.1 hw.1 0 rfl rfl 1 (by decide) (hc.2.2.2.2.1 _ hl) (fun _ h => h) rfl hd k
theorem pM0_1 {v : Int32} (hc : CX wdM ev p s m c cc nL own args) (hw : VW wdM ev s u H locs) (hl : Cond.fieldLink own index "BidsJudgedModel" "closes" "I" ∈ lw_g) (hd : decode cc pc = .ok (.putfield index, 3)) (k : ∀ (H1 : Heap) (locs1 : List Loc), VW wdM ev s (sI u 1 v) H1 locs1 → W p l e R s m args below meth c H1 locs1 0 0 Q (F0 m (pc + 3) ls rest)) : W p l e R s m args below meth c H locs 0 0 Q (F0 m pc ls (.int v :: .ref (ev.2.1 0) :: rest)) :=
  va_put (D := ev.1) (cl := vwCl) (tys := tyl ev) (ws := wM ev u) (ci := 9) (v := .int v) (ty := .int) (C := RX10) (T := TX10) (N := 71) hc.1 hc.2.1 hc.2.2.2.2.1 inX10 tyX10 tyX10_ok nmX10 hc.2.2.2.1 hc.2.2.2.2.2.1 hw.1 hw.2.1 hw.2.2 0 rfl rfl 1 (by decide) (hc.2.2.2.2.1 _ hl) (fun _ h => h) rfl (by decide +kernel) rfl rfl (Nat.le_of_ble_eq_true rfl) hd (fun H1 locs1 hP hD hS => k H1 locs1 ⟨hP, hD, hS⟩)
theorem gM0_2 (hc : CX wdM ev p s m c cc nL own args) (hw : VW wdM ev s u H locs) (hl : Cond.fieldLink own index "BidsJudgedModel" "rate" "[I" ∈ lw_g) (hd : decode cc pc = .ok (.getfield index, 3)) (k : W p l e R s m args below meth c H locs 0 0 Q (F0 m (pc + 3) ls (.ref (ev.2.1 1) :: rest))) : W p l e R s m args below meth c H locs 0 0 Q (F0 m pc ls (.ref (ev.2.1 0) :: rest)) :=
  va_get (D := ev.1) (cl := vwCl) (tys := tyl ev) (ws := wM ev u) (ci := 9) (C := RX10) (T := TX10) (N := 71) hc.1 hc.2.1 hc.2.2.2.2.1 inX10 hc.2.2.2.1 hc.2.2.2.2.2.1 hw.1 0 rfl rfl 2 (by decide) (hc.2.2.2.2.1 _ hl) (fun _ h => h) rfl hd k
theorem gM0_3 (hc : CX wdM ev p s m c cc nL own args) (hw : VW wdM ev s u H locs) (hl : Cond.fieldLink own index "BidsJudgedModel" "lots" "I" ∈ lw_g) (hd : decode cc pc = .ok (.getfield index, 3)) (k : W p l e R s m args below meth c H locs 0 0 Q (F0 m (pc + 3) ls (.int (gI u 2) :: rest))) : W p l e R s m args below meth c H locs 0 0 Q (F0 m pc ls (.ref (ev.2.1 0) :: rest)) :=
  va_get (D := ev.1) (cl := vwCl) (tys := tyl ev) (ws := wM ev u) (ci := 9) (C := RX10) (T := TX10) (N := 71) hc.1 hc.2.1 hc.2.2.2.2.1 inX10 hc.2.2.2.1 hc.2.2.2.2.2.1 hw.1 0 rfl rfl 3 (by decide) (hc.2.2.2.2.1 _ hl) (fun _ h => h) rfl hd k
theorem pM0_3 {v : Int32} (hc : CX wdM ev p s m c cc nL own args) (hw : VW wdM ev s u H locs) (hl : Cond.fieldLink own index "BidsJudgedModel" "lots" "I" ∈ lw_g) (hd : decode cc pc = .ok (.putfield index, 3)) (k : ∀ (H1 : Heap) (locs1 : List Loc), VW wdM ev s (sI u 2 v) H1 locs1 → W p l e R s m args below meth c H1 locs1 0 0 Q (F0 m (pc + 3) ls rest)) : W p l e R s m args below meth c H locs 0 0 Q (F0 m pc ls (.int v :: .ref (ev.2.1 0) :: rest)) :=
  va_put (D := ev.1) (cl := vwCl) (tys := tyl ev) (ws := wM ev u) (ci := 9) (v := .int v) (ty := .int) (C := RX10) (T := TX10) (N := 71) hc.1 hc.2.1 hc.2.2.2.2.1 inX10 tyX10 tyX10_ok nmX10 hc.2.2.2.1 hc.2.2.2.2.2.1 hw.1 hw.2.1 hw.2.2 0 rfl rfl 3 (by decide) (hc.2.2.2.2.1 _ hl) (fun _ h => h) rfl (by decide +kernel) rfl rfl (Nat.le_of_ble_eq_true rfl) hd (fun H1 locs1 hP hD hS => k H1 locs1 ⟨hP, hD, hS⟩)
theorem gM0_4 (hc : CX wdM ev p s m c cc nL own args) (hw : VW wdM ev s u H locs) (hl : Cond.fieldLink own index "BidsJudgedModel" "isThere" "[Z" ∈ lw_g) (hd : decode cc pc = .ok (.getfield index, 3)) (k : W p l e R s m args below meth c H locs 0 0 Q (F0 m (pc + 3) ls (.ref (ev.2.1 2) :: rest))) : W p l e R s m args below meth c H locs 0 0 Q (F0 m pc ls (.ref (ev.2.1 0) :: rest)) :=
  va_get (D := ev.1) (cl := vwCl) (tys := tyl ev) (ws := wM ev u) (ci := 9) (C := RX10) (T := TX10) (N := 71) hc.1 hc.2.1 hc.2.2.2.2.1 inX10 hc.2.2.2.1 hc.2.2.2.2.2.1 hw.1 0 rfl rfl 4 (by decide) (hc.2.2.2.2.1 _ hl) (fun _ h => h) rfl hd k
theorem gM0_5 (hc : CX wdM ev p s m c cc nL own args) (hw : VW wdM ev s u H locs) (hl : Cond.fieldLink own index "BidsJudgedModel" "money" "[I" ∈ lw_g) (hd : decode cc pc = .ok (.getfield index, 3)) (k : W p l e R s m args below meth c H locs 0 0 Q (F0 m (pc + 3) ls (.ref (ev.2.1 3) :: rest))) : W p l e R s m args below meth c H locs 0 0 Q (F0 m pc ls (.ref (ev.2.1 0) :: rest)) :=
  va_get (D := ev.1) (cl := vwCl) (tys := tyl ev) (ws := wM ev u) (ci := 9) (C := RX10) (T := TX10) (N := 71) hc.1 hc.2.1 hc.2.2.2.2.1 inX10 hc.2.2.2.1 hc.2.2.2.2.2.1 hw.1 0 rfl rfl 5 (by decide) (hc.2.2.2.2.1 _ hl) (fun _ h => h) rfl hd k
theorem gM0_6 (hc : CX wdM ev p s m c cc nL own args) (hw : VW wdM ev s u H locs) (hl : Cond.fieldLink own index "BidsJudgedModel" "items" "[I" ∈ lw_g) (hd : decode cc pc = .ok (.getfield index, 3)) (k : W p l e R s m args below meth c H locs 0 0 Q (F0 m (pc + 3) ls (.ref (ev.2.1 4) :: rest))) : W p l e R s m args below meth c H locs 0 0 Q (F0 m pc ls (.ref (ev.2.1 0) :: rest)) :=
  va_get (D := ev.1) (cl := vwCl) (tys := tyl ev) (ws := wM ev u) (ci := 9) (C := RX10) (T := TX10) (N := 71) hc.1 hc.2.1 hc.2.2.2.2.1 inX10 hc.2.2.2.1 hc.2.2.2.2.2.1 hw.1 0 rfl rfl 6 (by decide) (hc.2.2.2.2.1 _ hl) (fun _ h => h) rfl hd k
theorem gM0_7 (hc : CX wdM ev p s m c cc nL own args) (hw : VW wdM ev s u H locs) (hl : Cond.fieldLink own index "BidsJudgedModel" "sums" "[I" ∈ lw_g) (hd : decode cc pc = .ok (.getfield index, 3)) (k : W p l e R s m args below meth c H locs 0 0 Q (F0 m (pc + 3) ls (.ref (ev.2.1 5) :: rest))) : W p l e R s m args below meth c H locs 0 0 Q (F0 m pc ls (.ref (ev.2.1 0) :: rest)) :=
  va_get (D := ev.1) (cl := vwCl) (tys := tyl ev) (ws := wM ev u) (ci := 9) (C := RX10) (T := TX10) (N := 71) hc.1 hc.2.1 hc.2.2.2.2.1 inX10 hc.2.2.2.1 hc.2.2.2.2.2.1 hw.1 0 rfl rfl 7 (by decide) (hc.2.2.2.2.1 _ hl) (fun _ h => h) rfl hd k
theorem gM0_8 (hc : CX wdM ev p s m c cc nL own args) (hw : VW wdM ev s u H locs) (hl : Cond.fieldLink own index "BidsJudgedModel" "option" "[I" ∈ lw_g) (hd : decode cc pc = .ok (.getfield index, 3)) (k : W p l e R s m args below meth c H locs 0 0 Q (F0 m (pc + 3) ls (.ref (ev.2.1 6) :: rest))) : W p l e R s m args below meth c H locs 0 0 Q (F0 m pc ls (.ref (ev.2.1 0) :: rest)) :=
  va_get (D := ev.1) (cl := vwCl) (tys := tyl ev) (ws := wM ev u) (ci := 9) (C := RX10) (T := TX10) (N := 71) hc.1 hc.2.1 hc.2.2.2.2.1 inX10 hc.2.2.2.1 hc.2.2.2.2.2.1 hw.1 0 rfl rfl 8 (by decide) (hc.2.2.2.2.1 _ hl) (fun _ h => h) rfl hd k
theorem gM0_9 (hc : CX wdM ev p s m c cc nL own args) (hw : VW wdM ev s u H locs) (hl : Cond.fieldLink own index "BidsJudgedModel" "isOut" "[Z" ∈ lw_g) (hd : decode cc pc = .ok (.getfield index, 3)) (k : W p l e R s m args below meth c H locs 0 0 Q (F0 m (pc + 3) ls (.ref (ev.2.1 7) :: rest))) : W p l e R s m args below meth c H locs 0 0 Q (F0 m pc ls (.ref (ev.2.1 0) :: rest)) :=
  va_get (D := ev.1) (cl := vwCl) (tys := tyl ev) (ws := wM ev u) (ci := 9) (C := RX10) (T := TX10) (N := 71) hc.1 hc.2.1 hc.2.2.2.2.1 inX10 hc.2.2.2.1 hc.2.2.2.2.2.1 hw.1 0 rfl rfl 9 (by decide) (hc.2.2.2.2.1 _ hl) (fun _ h => h) rfl hd k
theorem gM0_10 (hc : CX wdM ev p s m c cc nL own args) (hw : VW wdM ev s u H locs) (hl : Cond.fieldLink own index "BidsJudgedModel" "askedTill" "[I" ∈ lw_g) (hd : decode cc pc = .ok (.getfield index, 3)) (k : W p l e R s m args below meth c H locs 0 0 Q (F0 m (pc + 3) ls (.ref (ev.2.1 8) :: rest))) : W p l e R s m args below meth c H locs 0 0 Q (F0 m pc ls (.ref (ev.2.1 0) :: rest)) :=
  va_get (D := ev.1) (cl := vwCl) (tys := tyl ev) (ws := wM ev u) (ci := 9) (C := RX10) (T := TX10) (N := 71) hc.1 hc.2.1 hc.2.2.2.2.1 inX10 hc.2.2.2.1 hc.2.2.2.2.2.1 hw.1 0 rfl rfl 10 (by decide) (hc.2.2.2.2.1 _ hl) (fun _ h => h) rfl hd k
theorem gM0_11 (hc : CX wdM ev p s m c cc nL own args) (hw : VW wdM ev s u H locs) (hl : Cond.fieldLink own index "BidsJudgedModel" "settings" "[I" ∈ lw_g) (hd : decode cc pc = .ok (.getfield index, 3)) (k : W p l e R s m args below meth c H locs 0 0 Q (F0 m (pc + 3) ls (.ref (ev.2.1 9) :: rest))) : W p l e R s m args below meth c H locs 0 0 Q (F0 m pc ls (.ref (ev.2.1 0) :: rest)) :=
  va_get (D := ev.1) (cl := vwCl) (tys := tyl ev) (ws := wM ev u) (ci := 9) (C := RX10) (T := TX10) (N := 71) hc.1 hc.2.1 hc.2.2.2.2.1 inX10 hc.2.2.2.1 hc.2.2.2.2.2.1 hw.1 0 rfl rfl 11 (by decide) (hc.2.2.2.2.1 _ hl) (fun _ h => h) rfl hd k
theorem gM0_12 (hc : CX wdM ev p s m c cc nL own args) (hw : VW wdM ev s u H locs) (hl : Cond.fieldLink own index "BidsJudgedModel" "notes" "[I" ∈ lw_g) (hd : decode cc pc = .ok (.getfield index, 3)) (k : W p l e R s m args below meth c H locs 0 0 Q (F0 m (pc + 3) ls (.ref (ev.2.1 10) :: rest))) : W p l e R s m args below meth c H locs 0 0 Q (F0 m pc ls (.ref (ev.2.1 0) :: rest)) :=
  va_get (D := ev.1) (cl := vwCl) (tys := tyl ev) (ws := wM ev u) (ci := 9) (C := RX10) (T := TX10) (N := 71) hc.1 hc.2.1 hc.2.2.2.2.1 inX10 hc.2.2.2.1 hc.2.2.2.2.2.1 hw.1 0 rfl rfl 12 (by decide) (hc.2.2.2.2.1 _ hl) (fun _ h => h) rfl hd k
theorem gM0_13 (hc : CX wdM ev p s m c cc nL own args) (hw : VW wdM ev s u H locs) (hl : Cond.fieldLink own index "BidsJudgedModel" "isBarred" "[Z" ∈ lw_g) (hd : decode cc pc = .ok (.getfield index, 3)) (k : W p l e R s m args below meth c H locs 0 0 Q (F0 m (pc + 3) ls (.ref (ev.2.1 11) :: rest))) : W p l e R s m args below meth c H locs 0 0 Q (F0 m pc ls (.ref (ev.2.1 0) :: rest)) :=
  va_get (D := ev.1) (cl := vwCl) (tys := tyl ev) (ws := wM ev u) (ci := 9) (C := RX10) (T := TX10) (N := 71) hc.1 hc.2.1 hc.2.2.2.2.1 inX10 hc.2.2.2.1 hc.2.2.2.2.2.1 hw.1 0 rfl rfl 13 (by decide) (hc.2.2.2.2.1 _ hl) (fun _ h => h) rfl hd k
theorem gM0_14 (hc : CX wdM ev p s m c cc nL own args) (hw : VW wdM ev s u H locs) (hl : Cond.fieldLink own index "BidsJudgedModel" "late" "I" ∈ lw_g) (hd : decode cc pc = .ok (.getfield index, 3)) (k : W p l e R s m args below meth c H locs 0 0 Q (F0 m (pc + 3) ls (.int (gI u 3) :: rest))) : W p l e R s m args below meth c H locs 0 0 Q (F0 m pc ls (.ref (ev.2.1 0) :: rest)) :=
  va_get (D := ev.1) (cl := vwCl) (tys := tyl ev) (ws := wM ev u) (ci := 9) (C := RX10) (T := TX10) (N := 71) hc.1 hc.2.1 hc.2.2.2.2.1 inX10 hc.2.2.2.1 hc.2.2.2.2.2.1 hw.1 0 rfl rfl 14 (by decide) (hc.2.2.2.2.1 _ hl) (fun _ h => h) rfl hd k
theorem pM0_14 {v : Int32} (hc : CX wdM ev p s m c cc nL own args) (hw : VW wdM ev s u H locs) (hl : Cond.fieldLink own index "BidsJudgedModel" "late" "I" ∈ lw_g) (hd : decode cc pc = .ok (.putfield index, 3)) (k : ∀ (H1 : Heap) (locs1 : List Loc), VW wdM ev s (sI u 3 v) H1 locs1 → W p l e R s m args below meth c H1 locs1 0 0 Q (F0 m (pc + 3) ls rest)) : W p l e R s m args below meth c H locs 0 0 Q (F0 m pc ls (.int v :: .ref (ev.2.1 0) :: rest)) :=
  va_put (D := ev.1) (cl := vwCl) (tys := tyl ev) (ws := wM ev u) (ci := 9) (v := .int v) (ty := .int) (C := RX10) (T := TX10) (N := 71) hc.1 hc.2.1 hc.2.2.2.2.1 inX10 tyX10 tyX10_ok nmX10 hc.2.2.2.1 hc.2.2.2.2.2.1 hw.1 hw.2.1 hw.2.2 0 rfl rfl 14 (by decide) (hc.2.2.2.2.1 _ hl) (fun _ h => h) rfl (by decide +kernel) rfl rfl (Nat.le_of_ble_eq_true rfl) hd (fun H1 locs1 hP hD hS => k H1 locs1 ⟨hP, hD, hS⟩)
theorem gM0_15 (hc : CX wdM ev p s m c cc nL own args) (hw : VW wdM ev s u H locs) (hl : Cond.fieldLink own index "BidsJudgedModel" "refused" "[I" ∈ lw_g) (hd : decode cc pc = .ok (.getfield index, 3)) (k : W p l e R s m args below meth c H locs 0 0 Q (F0 m (pc + 3) ls (.ref (ev.2.1 12) :: rest))) : W p l e R s m args below meth c H locs 0 0 Q (F0 m pc ls (.ref (ev.2.1 0) :: rest)) :=
  va_get (D := ev.1) (cl := vwCl) (tys := tyl ev) (ws := wM ev u) (ci := 9) (C := RX10) (T := TX10) (N := 71) hc.1 hc.2.1 hc.2.2.2.2.1 inX10 hc.2.2.2.1 hc.2.2.2.2.2.1 hw.1 0 rfl rfl 15 (by decide) (hc.2.2.2.2.1 _ hl) (fun _ h => h) rfl hd k
theorem gM0_16 (hc : CX wdM ev p s m c cc nL own args) (hw : VW wdM ev s u H locs) (hl : Cond.fieldLink own index "BidsJudgedModel" "noteSum" "I" ∈ lw_g) (hd : decode cc pc = .ok (.getfield index, 3)) (k : W p l e R s m args below meth c H locs 0 0 Q (F0 m (pc + 3) ls (.int (gI u 4) :: rest))) : W p l e R s m args below meth c H locs 0 0 Q (F0 m pc ls (.ref (ev.2.1 0) :: rest)) :=
  va_get (D := ev.1) (cl := vwCl) (tys := tyl ev) (ws := wM ev u) (ci := 9) (C := RX10) (T := TX10) (N := 71) hc.1 hc.2.1 hc.2.2.2.2.1 inX10 hc.2.2.2.1 hc.2.2.2.2.2.1 hw.1 0 rfl rfl 16 (by decide) (hc.2.2.2.2.1 _ hl) (fun _ h => h) rfl hd k
theorem pM0_16 {v : Int32} (hc : CX wdM ev p s m c cc nL own args) (hw : VW wdM ev s u H locs) (hl : Cond.fieldLink own index "BidsJudgedModel" "noteSum" "I" ∈ lw_g) (hd : decode cc pc = .ok (.putfield index, 3)) (k : ∀ (H1 : Heap) (locs1 : List Loc), VW wdM ev s (sI u 4 v) H1 locs1 → W p l e R s m args below meth c H1 locs1 0 0 Q (F0 m (pc + 3) ls rest)) : W p l e R s m args below meth c H locs 0 0 Q (F0 m pc ls (.int v :: .ref (ev.2.1 0) :: rest)) :=
  va_put (D := ev.1) (cl := vwCl) (tys := tyl ev) (ws := wM ev u) (ci := 9) (v := .int v) (ty := .int) (C := RX10) (T := TX10) (N := 71) hc.1 hc.2.1 hc.2.2.2.2.1 inX10 tyX10 tyX10_ok nmX10 hc.2.2.2.1 hc.2.2.2.2.2.1 hw.1 hw.2.1 hw.2.2 0 rfl rfl 16 (by decide) (hc.2.2.2.2.1 _ hl) (fun _ h => h) rfl (by decide +kernel) rfl rfl (Nat.le_of_ble_eq_true rfl) hd (fun H1 locs1 hP hD hS => k H1 locs1 ⟨hP, hD, hS⟩)
theorem gM0_17 (hc : CX wdM ev p s m c cc nL own args) (hw : VW wdM ev s u H locs) (hl : Cond.fieldLink own index "BidsJudgedModel" "noteMany" "I" ∈ lw_g) (hd : decode cc pc = .ok (.getfield index, 3)) (k : W p l e R s m args below meth c H locs 0 0 Q (F0 m (pc + 3) ls (.int (gI u 5) :: rest))) : W p l e R s m args below meth c H locs 0 0 Q (F0 m pc ls (.ref (ev.2.1 0) :: rest)) :=
  va_get (D := ev.1) (cl := vwCl) (tys := tyl ev) (ws := wM ev u) (ci := 9) (C := RX10) (T := TX10) (N := 71) hc.1 hc.2.1 hc.2.2.2.2.1 inX10 hc.2.2.2.1 hc.2.2.2.2.2.1 hw.1 0 rfl rfl 17 (by decide) (hc.2.2.2.2.1 _ hl) (fun _ h => h) rfl hd k
theorem pM0_17 {v : Int32} (hc : CX wdM ev p s m c cc nL own args) (hw : VW wdM ev s u H locs) (hl : Cond.fieldLink own index "BidsJudgedModel" "noteMany" "I" ∈ lw_g) (hd : decode cc pc = .ok (.putfield index, 3)) (k : ∀ (H1 : Heap) (locs1 : List Loc), VW wdM ev s (sI u 5 v) H1 locs1 → W p l e R s m args below meth c H1 locs1 0 0 Q (F0 m (pc + 3) ls rest)) : W p l e R s m args below meth c H locs 0 0 Q (F0 m pc ls (.int v :: .ref (ev.2.1 0) :: rest)) :=
  va_put (D := ev.1) (cl := vwCl) (tys := tyl ev) (ws := wM ev u) (ci := 9) (v := .int v) (ty := .int) (C := RX10) (T := TX10) (N := 71) hc.1 hc.2.1 hc.2.2.2.2.1 inX10 tyX10 tyX10_ok nmX10 hc.2.2.2.1 hc.2.2.2.2.2.1 hw.1 hw.2.1 hw.2.2 0 rfl rfl 17 (by decide) (hc.2.2.2.2.1 _ hl) (fun _ h => h) rfl (by decide +kernel) rfl rfl (Nat.le_of_ble_eq_true rfl) hd (fun H1 locs1 hP hD hS => k H1 locs1 ⟨hP, hD, hS⟩)
theorem gM0_18 (hc : CX wdM ev p s m c cc nL own args) (hw : VW wdM ev s u H locs) (hl : Cond.fieldLink own index "BidsJudgedModel" "tape" "[I" ∈ lw_g) (hd : decode cc pc = .ok (.getfield index, 3)) (k : W p l e R s m args below meth c H locs 0 0 Q (F0 m (pc + 3) ls (.ref (ev.2.1 13) :: rest))) : W p l e R s m args below meth c H locs 0 0 Q (F0 m pc ls (.ref (ev.2.1 0) :: rest)) :=
  va_get (D := ev.1) (cl := vwCl) (tys := tyl ev) (ws := wM ev u) (ci := 9) (C := RX10) (T := TX10) (N := 71) hc.1 hc.2.1 hc.2.2.2.2.1 inX10 hc.2.2.2.1 hc.2.2.2.2.2.1 hw.1 0 rfl rfl 18 (by decide) (hc.2.2.2.2.1 _ hl) (fun _ h => h) rfl hd k
theorem gM0_19 (hc : CX wdM ev p s m c cc nL own args) (hw : VW wdM ev s u H locs) (hl : Cond.fieldLink own index "BidsJudgedModel" "tapeMany" "I" ∈ lw_g) (hd : decode cc pc = .ok (.getfield index, 3)) (k : W p l e R s m args below meth c H locs 0 0 Q (F0 m (pc + 3) ls (.int (gI u 6) :: rest))) : W p l e R s m args below meth c H locs 0 0 Q (F0 m pc ls (.ref (ev.2.1 0) :: rest)) :=
  va_get (D := ev.1) (cl := vwCl) (tys := tyl ev) (ws := wM ev u) (ci := 9) (C := RX10) (T := TX10) (N := 71) hc.1 hc.2.1 hc.2.2.2.2.1 inX10 hc.2.2.2.1 hc.2.2.2.2.2.1 hw.1 0 rfl rfl 19 (by decide) (hc.2.2.2.2.1 _ hl) (fun _ h => h) rfl hd k
theorem pM0_19 {v : Int32} (hc : CX wdM ev p s m c cc nL own args) (hw : VW wdM ev s u H locs) (hl : Cond.fieldLink own index "BidsJudgedModel" "tapeMany" "I" ∈ lw_g) (hd : decode cc pc = .ok (.putfield index, 3)) (k : ∀ (H1 : Heap) (locs1 : List Loc), VW wdM ev s (sI u 6 v) H1 locs1 → W p l e R s m args below meth c H1 locs1 0 0 Q (F0 m (pc + 3) ls rest)) : W p l e R s m args below meth c H locs 0 0 Q (F0 m pc ls (.int v :: .ref (ev.2.1 0) :: rest)) :=
  va_put (D := ev.1) (cl := vwCl) (tys := tyl ev) (ws := wM ev u) (ci := 9) (v := .int v) (ty := .int) (C := RX10) (T := TX10) (N := 71) hc.1 hc.2.1 hc.2.2.2.2.1 inX10 tyX10 tyX10_ok nmX10 hc.2.2.2.1 hc.2.2.2.2.2.1 hw.1 hw.2.1 hw.2.2 0 rfl rfl 19 (by decide) (hc.2.2.2.2.1 _ hl) (fun _ h => h) rfl (by decide +kernel) rfl rfl (Nat.le_of_ble_eq_true rfl) hd (fun H1 locs1 hP hD hS => k H1 locs1 ⟨hP, hD, hS⟩)
theorem gM0_20 (hc : CX wdM ev p s m c cc nL own args) (hw : VW wdM ev s u H locs) (hl : Cond.fieldLink own index "BidsJudgedModel" "text" "[I" ∈ lw_g) (hd : decode cc pc = .ok (.getfield index, 3)) (k : W p l e R s m args below meth c H locs 0 0 Q (F0 m (pc + 3) ls (.ref (ev.2.1 14) :: rest))) : W p l e R s m args below meth c H locs 0 0 Q (F0 m pc ls (.ref (ev.2.1 0) :: rest)) :=
  va_get (D := ev.1) (cl := vwCl) (tys := tyl ev) (ws := wM ev u) (ci := 9) (C := RX10) (T := TX10) (N := 71) hc.1 hc.2.1 hc.2.2.2.2.1 inX10 hc.2.2.2.1 hc.2.2.2.2.2.1 hw.1 0 rfl rfl 20 (by decide) (hc.2.2.2.2.1 _ hl) (fun _ h => h) rfl hd k
theorem gM0_21 (hc : CX wdM ev p s m c cc nL own args) (hw : VW wdM ev s u H locs) (hl : Cond.fieldLink own index "BidsJudgedModel" "textMany" "I" ∈ lw_g) (hd : decode cc pc = .ok (.getfield index, 3)) (k : W p l e R s m args below meth c H locs 0 0 Q (F0 m (pc + 3) ls (.int (gI u 7) :: rest))) : W p l e R s m args below meth c H locs 0 0 Q (F0 m pc ls (.ref (ev.2.1 0) :: rest)) :=
  va_get (D := ev.1) (cl := vwCl) (tys := tyl ev) (ws := wM ev u) (ci := 9) (C := RX10) (T := TX10) (N := 71) hc.1 hc.2.1 hc.2.2.2.2.1 inX10 hc.2.2.2.1 hc.2.2.2.2.2.1 hw.1 0 rfl rfl 21 (by decide) (hc.2.2.2.2.1 _ hl) (fun _ h => h) rfl hd k
theorem pM0_21 {v : Int32} (hc : CX wdM ev p s m c cc nL own args) (hw : VW wdM ev s u H locs) (hl : Cond.fieldLink own index "BidsJudgedModel" "textMany" "I" ∈ lw_g) (hd : decode cc pc = .ok (.putfield index, 3)) (k : ∀ (H1 : Heap) (locs1 : List Loc), VW wdM ev s (sI u 7 v) H1 locs1 → W p l e R s m args below meth c H1 locs1 0 0 Q (F0 m (pc + 3) ls rest)) : W p l e R s m args below meth c H locs 0 0 Q (F0 m pc ls (.int v :: .ref (ev.2.1 0) :: rest)) :=
  va_put (D := ev.1) (cl := vwCl) (tys := tyl ev) (ws := wM ev u) (ci := 9) (v := .int v) (ty := .int) (C := RX10) (T := TX10) (N := 71) hc.1 hc.2.1 hc.2.2.2.2.1 inX10 tyX10 tyX10_ok nmX10 hc.2.2.2.1 hc.2.2.2.2.2.1 hw.1 hw.2.1 hw.2.2 0 rfl rfl 21 (by decide) (hc.2.2.2.2.1 _ hl) (fun _ h => h) rfl (by decide +kernel) rfl rfl (Nat.le_of_ble_eq_true rfl) hd (fun H1 locs1 hP hD hS => k H1 locs1 ⟨hP, hD, hS⟩)
theorem gM0_22 (hc : CX wdM ev p s m c cc nL own args) (hw : VW wdM ev s u H locs) (hl : Cond.fieldLink own index "BidsJudgedModel" "nameTop" "[J" ∈ lw_g) (hd : decode cc pc = .ok (.getfield index, 3)) (k : W p l e R s m args below meth c H locs 0 0 Q (F0 m (pc + 3) ls (.ref (ev.2.1 15) :: rest))) : W p l e R s m args below meth c H locs 0 0 Q (F0 m pc ls (.ref (ev.2.1 0) :: rest)) :=
  va_get (D := ev.1) (cl := vwCl) (tys := tyl ev) (ws := wM ev u) (ci := 9) (C := RX10) (T := TX10) (N := 71) hc.1 hc.2.1 hc.2.2.2.2.1 inX10 hc.2.2.2.1 hc.2.2.2.2.2.1 hw.1 0 rfl rfl 22 (by decide) (hc.2.2.2.2.1 _ hl) (fun _ h => h) rfl hd k
theorem gM0_23 (hc : CX wdM ev p s m c cc nL own args) (hw : VW wdM ev s u H locs) (hl : Cond.fieldLink own index "BidsJudgedModel" "nameBelow" "[J" ∈ lw_g) (hd : decode cc pc = .ok (.getfield index, 3)) (k : W p l e R s m args below meth c H locs 0 0 Q (F0 m (pc + 3) ls (.ref (ev.2.1 16) :: rest))) : W p l e R s m args below meth c H locs 0 0 Q (F0 m pc ls (.ref (ev.2.1 0) :: rest)) :=
  va_get (D := ev.1) (cl := vwCl) (tys := tyl ev) (ws := wM ev u) (ci := 9) (C := RX10) (T := TX10) (N := 71) hc.1 hc.2.1 hc.2.2.2.2.1 inX10 hc.2.2.2.1 hc.2.2.2.2.2.1 hw.1 0 rfl rfl 23 (by decide) (hc.2.2.2.2.1 _ hl) (fun _ h => h) rfl hd k
theorem gM0_24 (hc : CX wdM ev p s m c cc nL own args) (hw : VW wdM ev s u H locs) (hl : Cond.fieldLink own index "BidsJudgedModel" "tops" "[J" ∈ lw_g) (hd : decode cc pc = .ok (.getfield index, 3)) (k : W p l e R s m args below meth c H locs 0 0 Q (F0 m (pc + 3) ls (.ref (ev.2.1 17) :: rest))) : W p l e R s m args below meth c H locs 0 0 Q (F0 m pc ls (.ref (ev.2.1 0) :: rest)) :=
  va_get (D := ev.1) (cl := vwCl) (tys := tyl ev) (ws := wM ev u) (ci := 9) (C := RX10) (T := TX10) (N := 71) hc.1 hc.2.1 hc.2.2.2.2.1 inX10 hc.2.2.2.1 hc.2.2.2.2.2.1 hw.1 0 rfl rfl 24 (by decide) (hc.2.2.2.2.1 _ hl) (fun _ h => h) rfl hd k
theorem gM0_25 (hc : CX wdM ev p s m c cc nL own args) (hw : VW wdM ev s u H locs) (hl : Cond.fieldLink own index "BidsJudgedModel" "belows" "[J" ∈ lw_g) (hd : decode cc pc = .ok (.getfield index, 3)) (k : W p l e R s m args below meth c H locs 0 0 Q (F0 m (pc + 3) ls (.ref (ev.2.1 18) :: rest))) : W p l e R s m args below meth c H locs 0 0 Q (F0 m pc ls (.ref (ev.2.1 0) :: rest)) :=
  va_get (D := ev.1) (cl := vwCl) (tys := tyl ev) (ws := wM ev u) (ci := 9) (C := RX10) (T := TX10) (N := 71) hc.1 hc.2.1 hc.2.2.2.2.1 inX10 hc.2.2.2.1 hc.2.2.2.2.2.1 hw.1 0 rfl rfl 25 (by decide) (hc.2.2.2.2.1 _ hl) (fun _ h => h) rfl hd k
theorem gM0_26 (hc : CX wdM ev p s m c cc nL own args) (hw : VW wdM ev s u H locs) (hl : Cond.fieldLink own index "BidsJudgedModel" "held" "I" ∈ lw_g) (hd : decode cc pc = .ok (.getfield index, 3)) (k : W p l e R s m args below meth c H locs 0 0 Q (F0 m (pc + 3) ls (.int (gI u 8) :: rest))) : W p l e R s m args below meth c H locs 0 0 Q (F0 m pc ls (.ref (ev.2.1 0) :: rest)) :=
  va_get (D := ev.1) (cl := vwCl) (tys := tyl ev) (ws := wM ev u) (ci := 9) (C := RX10) (T := TX10) (N := 71) hc.1 hc.2.1 hc.2.2.2.2.1 inX10 hc.2.2.2.1 hc.2.2.2.2.2.1 hw.1 0 rfl rfl 26 (by decide) (hc.2.2.2.2.1 _ hl) (fun _ h => h) rfl hd k
theorem pM0_26 {v : Int32} (hc : CX wdM ev p s m c cc nL own args) (hw : VW wdM ev s u H locs) (hl : Cond.fieldLink own index "BidsJudgedModel" "held" "I" ∈ lw_g) (hd : decode cc pc = .ok (.putfield index, 3)) (k : ∀ (H1 : Heap) (locs1 : List Loc), VW wdM ev s (sI u 8 v) H1 locs1 → W p l e R s m args below meth c H1 locs1 0 0 Q (F0 m (pc + 3) ls rest)) : W p l e R s m args below meth c H locs 0 0 Q (F0 m pc ls (.int v :: .ref (ev.2.1 0) :: rest)) :=
  va_put (D := ev.1) (cl := vwCl) (tys := tyl ev) (ws := wM ev u) (ci := 9) (v := .int v) (ty := .int) (C := RX10) (T := TX10) (N := 71) hc.1 hc.2.1 hc.2.2.2.2.1 inX10 tyX10 tyX10_ok nmX10 hc.2.2.2.1 hc.2.2.2.2.2.1 hw.1 hw.2.1 hw.2.2 0 rfl rfl 26 (by decide) (hc.2.2.2.2.1 _ hl) (fun _ h => h) rfl (by decide +kernel) rfl rfl (Nat.le_of_ble_eq_true rfl) hd (fun H1 locs1 hP hD hS => k H1 locs1 ⟨hP, hD, hS⟩)
theorem gM0_27 (hc : CX wdM ev p s m c cc nL own args) (hw : VW wdM ev s u H locs) (hl : Cond.fieldLink own index "BidsJudgedModel" "signs" "[I" ∈ lw_g) (hd : decode cc pc = .ok (.getfield index, 3)) (k : W p l e R s m args below meth c H locs 0 0 Q (F0 m (pc + 3) ls (.ref (ev.2.1 19) :: rest))) : W p l e R s m args below meth c H locs 0 0 Q (F0 m pc ls (.ref (ev.2.1 0) :: rest)) :=
  va_get (D := ev.1) (cl := vwCl) (tys := tyl ev) (ws := wM ev u) (ci := 9) (C := RX10) (T := TX10) (N := 71) hc.1 hc.2.1 hc.2.2.2.2.1 inX10 hc.2.2.2.1 hc.2.2.2.2.2.1 hw.1 0 rfl rfl 27 (by decide) (hc.2.2.2.2.1 _ hl) (fun _ h => h) rfl hd k
theorem gM0_28 (hc : CX wdM ev p s m c cc nL own args) (hw : VW wdM ev s u H locs) (hl : Cond.fieldLink own index "BidsJudgedModel" "signMany" "I" ∈ lw_g) (hd : decode cc pc = .ok (.getfield index, 3)) (k : W p l e R s m args below meth c H locs 0 0 Q (F0 m (pc + 3) ls (.int (gI u 9) :: rest))) : W p l e R s m args below meth c H locs 0 0 Q (F0 m pc ls (.ref (ev.2.1 0) :: rest)) :=
  va_get (D := ev.1) (cl := vwCl) (tys := tyl ev) (ws := wM ev u) (ci := 9) (C := RX10) (T := TX10) (N := 71) hc.1 hc.2.1 hc.2.2.2.2.1 inX10 hc.2.2.2.1 hc.2.2.2.2.2.1 hw.1 0 rfl rfl 28 (by decide) (hc.2.2.2.2.1 _ hl) (fun _ h => h) rfl hd k
theorem pM0_28 {v : Int32} (hc : CX wdM ev p s m c cc nL own args) (hw : VW wdM ev s u H locs) (hl : Cond.fieldLink own index "BidsJudgedModel" "signMany" "I" ∈ lw_g) (hd : decode cc pc = .ok (.putfield index, 3)) (k : ∀ (H1 : Heap) (locs1 : List Loc), VW wdM ev s (sI u 9 v) H1 locs1 → W p l e R s m args below meth c H1 locs1 0 0 Q (F0 m (pc + 3) ls rest)) : W p l e R s m args below meth c H locs 0 0 Q (F0 m pc ls (.int v :: .ref (ev.2.1 0) :: rest)) :=
  va_put (D := ev.1) (cl := vwCl) (tys := tyl ev) (ws := wM ev u) (ci := 9) (v := .int v) (ty := .int) (C := RX10) (T := TX10) (N := 71) hc.1 hc.2.1 hc.2.2.2.2.1 inX10 tyX10 tyX10_ok nmX10 hc.2.2.2.1 hc.2.2.2.2.2.1 hw.1 hw.2.1 hw.2.2 0 rfl rfl 28 (by decide) (hc.2.2.2.2.1 _ hl) (fun _ h => h) rfl (by decide +kernel) rfl rfl (Nat.le_of_ble_eq_true rfl) hd (fun H1 locs1 hP hD hS => k H1 locs1 ⟨hP, hD, hS⟩)
theorem gM0_29 (hc : CX wdM ev p s m c cc nL own args) (hw : VW wdM ev s u H locs) (hl : Cond.fieldLink own index "BidsJudgedModel" "deep" "I" ∈ lw_g) (hd : decode cc pc = .ok (.getfield index, 3)) (k : W p l e R s m args below meth c H locs 0 0 Q (F0 m (pc + 3) ls (.int (gI u 10) :: rest))) : W p l e R s m args below meth c H locs 0 0 Q (F0 m pc ls (.ref (ev.2.1 0) :: rest)) :=
  va_get (D := ev.1) (cl := vwCl) (tys := tyl ev) (ws := wM ev u) (ci := 9) (C := RX10) (T := TX10) (N := 71) hc.1 hc.2.1 hc.2.2.2.2.1 inX10 hc.2.2.2.1 hc.2.2.2.2.2.1 hw.1 0 rfl rfl 29 (by decide) (hc.2.2.2.2.1 _ hl) (fun _ h => h) rfl hd k
theorem pM0_29 {v : Int32} (hc : CX wdM ev p s m c cc nL own args) (hw : VW wdM ev s u H locs) (hl : Cond.fieldLink own index "BidsJudgedModel" "deep" "I" ∈ lw_g) (hd : decode cc pc = .ok (.putfield index, 3)) (k : ∀ (H1 : Heap) (locs1 : List Loc), VW wdM ev s (sI u 10 v) H1 locs1 → W p l e R s m args below meth c H1 locs1 0 0 Q (F0 m (pc + 3) ls rest)) : W p l e R s m args below meth c H locs 0 0 Q (F0 m pc ls (.int v :: .ref (ev.2.1 0) :: rest)) :=
  va_put (D := ev.1) (cl := vwCl) (tys := tyl ev) (ws := wM ev u) (ci := 9) (v := .int v) (ty := .int) (C := RX10) (T := TX10) (N := 71) hc.1 hc.2.1 hc.2.2.2.2.1 inX10 tyX10 tyX10_ok nmX10 hc.2.2.2.1 hc.2.2.2.2.2.1 hw.1 hw.2.1 hw.2.2 0 rfl rfl 29 (by decide) (hc.2.2.2.2.1 _ hl) (fun _ h => h) rfl (by decide +kernel) rfl rfl (Nat.le_of_ble_eq_true rfl) hd (fun H1 locs1 hP hD hS => k H1 locs1 ⟨hP, hD, hS⟩)
theorem gM0_30 (hc : CX wdM ev p s m c cc nL own args) (hw : VW wdM ev s u H locs) (hl : Cond.fieldLink own index "BidsJudgedModel" "at" "I" ∈ lw_g) (hd : decode cc pc = .ok (.getfield index, 3)) (k : W p l e R s m args below meth c H locs 0 0 Q (F0 m (pc + 3) ls (.int (gI u 11) :: rest))) : W p l e R s m args below meth c H locs 0 0 Q (F0 m pc ls (.ref (ev.2.1 0) :: rest)) :=
  va_get (D := ev.1) (cl := vwCl) (tys := tyl ev) (ws := wM ev u) (ci := 9) (C := RX10) (T := TX10) (N := 71) hc.1 hc.2.1 hc.2.2.2.2.1 inX10 hc.2.2.2.1 hc.2.2.2.2.2.1 hw.1 0 rfl rfl 30 (by decide) (hc.2.2.2.2.1 _ hl) (fun _ h => h) rfl hd k
theorem pM0_30 {v : Int32} (hc : CX wdM ev p s m c cc nL own args) (hw : VW wdM ev s u H locs) (hl : Cond.fieldLink own index "BidsJudgedModel" "at" "I" ∈ lw_g) (hd : decode cc pc = .ok (.putfield index, 3)) (k : ∀ (H1 : Heap) (locs1 : List Loc), VW wdM ev s (sI u 11 v) H1 locs1 → W p l e R s m args below meth c H1 locs1 0 0 Q (F0 m (pc + 3) ls rest)) : W p l e R s m args below meth c H locs 0 0 Q (F0 m pc ls (.int v :: .ref (ev.2.1 0) :: rest)) :=
  va_put (D := ev.1) (cl := vwCl) (tys := tyl ev) (ws := wM ev u) (ci := 9) (v := .int v) (ty := .int) (C := RX10) (T := TX10) (N := 71) hc.1 hc.2.1 hc.2.2.2.2.1 inX10 tyX10 tyX10_ok nmX10 hc.2.2.2.1 hc.2.2.2.2.2.1 hw.1 hw.2.1 hw.2.2 0 rfl rfl 30 (by decide) (hc.2.2.2.2.1 _ hl) (fun _ h => h) rfl (by decide +kernel) rfl rfl (Nat.le_of_ble_eq_true rfl) hd (fun H1 locs1 hP hD hS => k H1 locs1 ⟨hP, hD, hS⟩)
theorem gM0_31 (hc : CX wdM ev p s m c cc nL own args) (hw : VW wdM ev s u H locs) (hl : Cond.fieldLink own index "BidsJudgedModel" "isBad" "Z" ∈ lw_g) (hd : decode cc pc = .ok (.getfield index, 3)) (k : W p l e R s m args below meth c H locs 0 0 Q (F0 m (pc + 3) ls (.int (gI u 12) :: rest))) : W p l e R s m args below meth c H locs 0 0 Q (F0 m pc ls (.ref (ev.2.1 0) :: rest)) :=
  va_get (D := ev.1) (cl := vwCl) (tys := tyl ev) (ws := wM ev u) (ci := 9) (C := RX10) (T := TX10) (N := 71) hc.1 hc.2.1 hc.2.2.2.2.1 inX10 hc.2.2.2.1 hc.2.2.2.2.2.1 hw.1 0 rfl rfl 31 (by decide) (hc.2.2.2.2.1 _ hl) (fun _ h => h) rfl hd k
theorem pM0_31 {v : Int32} (hc : CX wdM ev p s m c cc nL own args) (hw : VW wdM ev s u H locs) (hl : Cond.fieldLink own index "BidsJudgedModel" "isBad" "Z" ∈ lw_g) (hn : narrow .boolean (.int v) = .int v) (hft : fits .boolean (.int v) = true) (hd : decode cc pc = .ok (.putfield index, 3)) (k : ∀ (H1 : Heap) (locs1 : List Loc), VW wdM ev s (sI u 12 v) H1 locs1 → W p l e R s m args below meth c H1 locs1 0 0 Q (F0 m (pc + 3) ls rest)) : W p l e R s m args below meth c H locs 0 0 Q (F0 m pc ls (.int v :: .ref (ev.2.1 0) :: rest)) :=
  va_put (D := ev.1) (cl := vwCl) (tys := tyl ev) (ws := wM ev u) (ci := 9) (v := .int v) (ty := .boolean) (C := RX10) (T := TX10) (N := 71) hc.1 hc.2.1 hc.2.2.2.2.1 inX10 tyX10 tyX10_ok nmX10 hc.2.2.2.1 hc.2.2.2.2.2.1 hw.1 hw.2.1 hw.2.2 0 rfl rfl 31 (by decide) (hc.2.2.2.2.1 _ hl) (fun _ h => h) rfl (by decide +kernel) hn hft (Nat.le_of_ble_eq_true rfl) hd (fun H1 locs1 hP hD hS => k H1 locs1 ⟨hP, hD, hS⟩)
theorem gM0_32 (hc : CX wdM ev p s m c cc nL own args) (hw : VW wdM ev s u H locs) (hl : Cond.fieldLink own index "BidsJudgedModel" "isBroken" "Z" ∈ lw_g) (hd : decode cc pc = .ok (.getfield index, 3)) (k : W p l e R s m args below meth c H locs 0 0 Q (F0 m (pc + 3) ls (.int (gI u 13) :: rest))) : W p l e R s m args below meth c H locs 0 0 Q (F0 m pc ls (.ref (ev.2.1 0) :: rest)) :=
  va_get (D := ev.1) (cl := vwCl) (tys := tyl ev) (ws := wM ev u) (ci := 9) (C := RX10) (T := TX10) (N := 71) hc.1 hc.2.1 hc.2.2.2.2.1 inX10 hc.2.2.2.1 hc.2.2.2.2.2.1 hw.1 0 rfl rfl 32 (by decide) (hc.2.2.2.2.1 _ hl) (fun _ h => h) rfl hd k
theorem pM0_32 {v : Int32} (hc : CX wdM ev p s m c cc nL own args) (hw : VW wdM ev s u H locs) (hl : Cond.fieldLink own index "BidsJudgedModel" "isBroken" "Z" ∈ lw_g) (hn : narrow .boolean (.int v) = .int v) (hft : fits .boolean (.int v) = true) (hd : decode cc pc = .ok (.putfield index, 3)) (k : ∀ (H1 : Heap) (locs1 : List Loc), VW wdM ev s (sI u 13 v) H1 locs1 → W p l e R s m args below meth c H1 locs1 0 0 Q (F0 m (pc + 3) ls rest)) : W p l e R s m args below meth c H locs 0 0 Q (F0 m pc ls (.int v :: .ref (ev.2.1 0) :: rest)) :=
  va_put (D := ev.1) (cl := vwCl) (tys := tyl ev) (ws := wM ev u) (ci := 9) (v := .int v) (ty := .boolean) (C := RX10) (T := TX10) (N := 71) hc.1 hc.2.1 hc.2.2.2.2.1 inX10 tyX10 tyX10_ok nmX10 hc.2.2.2.1 hc.2.2.2.2.2.1 hw.1 hw.2.1 hw.2.2 0 rfl rfl 32 (by decide) (hc.2.2.2.2.1 _ hl) (fun _ h => h) rfl (by decide +kernel) hn hft (Nat.le_of_ble_eq_true rfl) hd (fun H1 locs1 hP hD hS => k H1 locs1 ⟨hP, hD, hS⟩)
theorem gM0_33 (hc : CX wdM ev p s m c cc nL own args) (hw : VW wdM ev s u H locs) (hl : Cond.fieldLink own index "BidsJudgedModel" "units" "I" ∈ lw_g) (hd : decode cc pc = .ok (.getfield index, 3)) (k : W p l e R s m args below meth c H locs 0 0 Q (F0 m (pc + 3) ls (.int (gI u 14) :: rest))) : W p l e R s m args below meth c H locs 0 0 Q (F0 m pc ls (.ref (ev.2.1 0) :: rest)) :=
  va_get (D := ev.1) (cl := vwCl) (tys := tyl ev) (ws := wM ev u) (ci := 9) (C := RX10) (T := TX10) (N := 71) hc.1 hc.2.1 hc.2.2.2.2.1 inX10 hc.2.2.2.1 hc.2.2.2.2.2.1 hw.1 0 rfl rfl 33 (by decide) (hc.2.2.2.2.1 _ hl) (fun _ h => h) rfl hd k
theorem pM0_33 {v : Int32} (hc : CX wdM ev p s m c cc nL own args) (hw : VW wdM ev s u H locs) (hl : Cond.fieldLink own index "BidsJudgedModel" "units" "I" ∈ lw_g) (hd : decode cc pc = .ok (.putfield index, 3)) (k : ∀ (H1 : Heap) (locs1 : List Loc), VW wdM ev s (sI u 14 v) H1 locs1 → W p l e R s m args below meth c H1 locs1 0 0 Q (F0 m (pc + 3) ls rest)) : W p l e R s m args below meth c H locs 0 0 Q (F0 m pc ls (.int v :: .ref (ev.2.1 0) :: rest)) :=
  va_put (D := ev.1) (cl := vwCl) (tys := tyl ev) (ws := wM ev u) (ci := 9) (v := .int v) (ty := .int) (C := RX10) (T := TX10) (N := 71) hc.1 hc.2.1 hc.2.2.2.2.1 inX10 tyX10 tyX10_ok nmX10 hc.2.2.2.1 hc.2.2.2.2.2.1 hw.1 hw.2.1 hw.2.2 0 rfl rfl 33 (by decide) (hc.2.2.2.2.1 _ hl) (fun _ h => h) rfl (by decide +kernel) rfl rfl (Nat.le_of_ble_eq_true rfl) hd (fun H1 locs1 hP hD hS => k H1 locs1 ⟨hP, hD, hS⟩)
theorem gM0_34 (hc : CX wdM ev p s m c cc nL own args) (hw : VW wdM ev s u H locs) (hl : Cond.fieldLink own index "BidsJudgedModel" "pointTop" "J" ∈ lw_g) (hd : decode cc pc = .ok (.getfield index, 3)) (k : W p l e R s m args below meth c H locs 0 0 Q (F0 m (pc + 3) ls (.long (gJ u 0) :: rest))) : W p l e R s m args below meth c H locs 0 0 Q (F0 m pc ls (.ref (ev.2.1 0) :: rest)) :=
  va_get (D := ev.1) (cl := vwCl) (tys := tyl ev) (ws := wM ev u) (ci := 9) (C := RX10) (T := TX10) (N := 71) hc.1 hc.2.1 hc.2.2.2.2.1 inX10 hc.2.2.2.1 hc.2.2.2.2.2.1 hw.1 0 rfl rfl 34 (by decide) (hc.2.2.2.2.1 _ hl) (fun _ h => h) rfl hd k
theorem pM0_34 {v : Int64} (hc : CX wdM ev p s m c cc nL own args) (hw : VW wdM ev s u H locs) (hl : Cond.fieldLink own index "BidsJudgedModel" "pointTop" "J" ∈ lw_g) (hd : decode cc pc = .ok (.putfield index, 3)) (k : ∀ (H1 : Heap) (locs1 : List Loc), VW wdM ev s (sJ u 0 v) H1 locs1 → W p l e R s m args below meth c H1 locs1 0 0 Q (F0 m (pc + 3) ls rest)) : W p l e R s m args below meth c H locs 0 0 Q (F0 m pc ls (.long v :: .ref (ev.2.1 0) :: rest)) :=
  va_put (D := ev.1) (cl := vwCl) (tys := tyl ev) (ws := wM ev u) (ci := 9) (v := .long v) (ty := .long) (C := RX10) (T := TX10) (N := 71) hc.1 hc.2.1 hc.2.2.2.2.1 inX10 tyX10 tyX10_ok nmX10 hc.2.2.2.1 hc.2.2.2.2.2.1 hw.1 hw.2.1 hw.2.2 0 rfl rfl 34 (by decide) (hc.2.2.2.2.1 _ hl) (fun _ h => h) rfl (by decide +kernel) rfl rfl (Nat.le_of_ble_eq_true rfl) hd (fun H1 locs1 hP hD hS => k H1 locs1 ⟨hP, hD, hS⟩)
theorem gM0_35 (hc : CX wdM ev p s m c cc nL own args) (hw : VW wdM ev s u H locs) (hl : Cond.fieldLink own index "BidsJudgedModel" "pointBelow" "J" ∈ lw_g) (hd : decode cc pc = .ok (.getfield index, 3)) (k : W p l e R s m args below meth c H locs 0 0 Q (F0 m (pc + 3) ls (.long (gJ u 1) :: rest))) : W p l e R s m args below meth c H locs 0 0 Q (F0 m pc ls (.ref (ev.2.1 0) :: rest)) :=
  va_get (D := ev.1) (cl := vwCl) (tys := tyl ev) (ws := wM ev u) (ci := 9) (C := RX10) (T := TX10) (N := 71) hc.1 hc.2.1 hc.2.2.2.2.1 inX10 hc.2.2.2.1 hc.2.2.2.2.2.1 hw.1 0 rfl rfl 35 (by decide) (hc.2.2.2.2.1 _ hl) (fun _ h => h) rfl hd k
theorem pM0_35 {v : Int64} (hc : CX wdM ev p s m c cc nL own args) (hw : VW wdM ev s u H locs) (hl : Cond.fieldLink own index "BidsJudgedModel" "pointBelow" "J" ∈ lw_g) (hd : decode cc pc = .ok (.putfield index, 3)) (k : ∀ (H1 : Heap) (locs1 : List Loc), VW wdM ev s (sJ u 1 v) H1 locs1 → W p l e R s m args below meth c H1 locs1 0 0 Q (F0 m (pc + 3) ls rest)) : W p l e R s m args below meth c H locs 0 0 Q (F0 m pc ls (.long v :: .ref (ev.2.1 0) :: rest)) :=
  va_put (D := ev.1) (cl := vwCl) (tys := tyl ev) (ws := wM ev u) (ci := 9) (v := .long v) (ty := .long) (C := RX10) (T := TX10) (N := 71) hc.1 hc.2.1 hc.2.2.2.2.1 inX10 tyX10 tyX10_ok nmX10 hc.2.2.2.1 hc.2.2.2.2.2.1 hw.1 hw.2.1 hw.2.2 0 rfl rfl 35 (by decide) (hc.2.2.2.2.1 _ hl) (fun _ h => h) rfl (by decide +kernel) rfl rfl (Nat.le_of_ble_eq_true rfl) hd (fun H1 locs1 hP hD hS => k H1 locs1 ⟨hP, hD, hS⟩)
theorem gM0_36 (hc : CX wdM ev p s m c cc nL own args) (hw : VW wdM ev s u H locs) (hl : Cond.fieldLink own index "BidsJudgedModel" "row" "[I" ∈ lw_g) (hd : decode cc pc = .ok (.getfield index, 3)) (k : W p l e R s m args below meth c H locs 0 0 Q (F0 m (pc + 3) ls (.ref (ev.2.1 20) :: rest))) : W p l e R s m args below meth c H locs 0 0 Q (F0 m pc ls (.ref (ev.2.1 0) :: rest)) :=
  va_get (D := ev.1) (cl := vwCl) (tys := tyl ev) (ws := wM ev u) (ci := 9) (C := RX10) (T := TX10) (N := 71) hc.1 hc.2.1 hc.2.2.2.2.1 inX10 hc.2.2.2.1 hc.2.2.2.2.2.1 hw.1 0 rfl rfl 36 (by decide) (hc.2.2.2.2.1 _ hl) (fun _ h => h) rfl hd k
theorem gM0_37 (hc : CX wdM ev p s m c cc nL own args) (hw : VW wdM ev s u H locs) (hl : Cond.fieldLink own index "BidsJudgedModel" "rowMany" "I" ∈ lw_g) (hd : decode cc pc = .ok (.getfield index, 3)) (k : W p l e R s m args below meth c H locs 0 0 Q (F0 m (pc + 3) ls (.int (gI u 15) :: rest))) : W p l e R s m args below meth c H locs 0 0 Q (F0 m pc ls (.ref (ev.2.1 0) :: rest)) :=
  va_get (D := ev.1) (cl := vwCl) (tys := tyl ev) (ws := wM ev u) (ci := 9) (C := RX10) (T := TX10) (N := 71) hc.1 hc.2.1 hc.2.2.2.2.1 inX10 hc.2.2.2.1 hc.2.2.2.2.2.1 hw.1 0 rfl rfl 37 (by decide) (hc.2.2.2.2.1 _ hl) (fun _ h => h) rfl hd k
theorem pM0_37 {v : Int32} (hc : CX wdM ev p s m c cc nL own args) (hw : VW wdM ev s u H locs) (hl : Cond.fieldLink own index "BidsJudgedModel" "rowMany" "I" ∈ lw_g) (hd : decode cc pc = .ok (.putfield index, 3)) (k : ∀ (H1 : Heap) (locs1 : List Loc), VW wdM ev s (sI u 15 v) H1 locs1 → W p l e R s m args below meth c H1 locs1 0 0 Q (F0 m (pc + 3) ls rest)) : W p l e R s m args below meth c H locs 0 0 Q (F0 m pc ls (.int v :: .ref (ev.2.1 0) :: rest)) :=
  va_put (D := ev.1) (cl := vwCl) (tys := tyl ev) (ws := wM ev u) (ci := 9) (v := .int v) (ty := .int) (C := RX10) (T := TX10) (N := 71) hc.1 hc.2.1 hc.2.2.2.2.1 inX10 tyX10 tyX10_ok nmX10 hc.2.2.2.1 hc.2.2.2.2.2.1 hw.1 hw.2.1 hw.2.2 0 rfl rfl 37 (by decide) (hc.2.2.2.2.1 _ hl) (fun _ h => h) rfl (by decide +kernel) rfl rfl (Nat.le_of_ble_eq_true rfl) hd (fun H1 locs1 hP hD hS => k H1 locs1 ⟨hP, hD, hS⟩)
theorem gM0_38 (hc : CX wdM ev p s m c cc nL own args) (hw : VW wdM ev s u H locs) (hl : Cond.fieldLink own index "BidsJudgedModel" "most" "[I" ∈ lw_g) (hd : decode cc pc = .ok (.getfield index, 3)) (k : W p l e R s m args below meth c H locs 0 0 Q (F0 m (pc + 3) ls (.ref (ev.2.1 21) :: rest))) : W p l e R s m args below meth c H locs 0 0 Q (F0 m pc ls (.ref (ev.2.1 0) :: rest)) :=
  va_get (D := ev.1) (cl := vwCl) (tys := tyl ev) (ws := wM ev u) (ci := 9) (C := RX10) (T := TX10) (N := 71) hc.1 hc.2.1 hc.2.2.2.2.1 inX10 hc.2.2.2.1 hc.2.2.2.2.2.1 hw.1 0 rfl rfl 38 (by decide) (hc.2.2.2.2.1 _ hl) (fun _ h => h) rfl hd k
theorem gM0_39 (hc : CX wdM ev p s m c cc nL own args) (hw : VW wdM ev s u H locs) (hl : Cond.fieldLink own index "BidsJudgedModel" "rebates" "[I" ∈ lw_g) (hd : decode cc pc = .ok (.getfield index, 3)) (k : W p l e R s m args below meth c H locs 0 0 Q (F0 m (pc + 3) ls (.ref (ev.2.1 22) :: rest))) : W p l e R s m args below meth c H locs 0 0 Q (F0 m pc ls (.ref (ev.2.1 0) :: rest)) :=
  va_get (D := ev.1) (cl := vwCl) (tys := tyl ev) (ws := wM ev u) (ci := 9) (C := RX10) (T := TX10) (N := 71) hc.1 hc.2.1 hc.2.2.2.2.1 inX10 hc.2.2.2.1 hc.2.2.2.2.2.1 hw.1 0 rfl rfl 39 (by decide) (hc.2.2.2.2.1 _ hl) (fun _ h => h) rfl hd k
theorem gM0_40 (hc : CX wdM ev p s m c cc nL own args) (hw : VW wdM ev s u H locs) (hl : Cond.fieldLink own index "BidsJudgedModel" "isFound" "Z" ∈ lw_g) (hd : decode cc pc = .ok (.getfield index, 3)) (k : W p l e R s m args below meth c H locs 0 0 Q (F0 m (pc + 3) ls (.int (gI u 16) :: rest))) : W p l e R s m args below meth c H locs 0 0 Q (F0 m pc ls (.ref (ev.2.1 0) :: rest)) :=
  va_get (D := ev.1) (cl := vwCl) (tys := tyl ev) (ws := wM ev u) (ci := 9) (C := RX10) (T := TX10) (N := 71) hc.1 hc.2.1 hc.2.2.2.2.1 inX10 hc.2.2.2.1 hc.2.2.2.2.2.1 hw.1 0 rfl rfl 40 (by decide) (hc.2.2.2.2.1 _ hl) (fun _ h => h) rfl hd k
theorem pM0_40 {v : Int32} (hc : CX wdM ev p s m c cc nL own args) (hw : VW wdM ev s u H locs) (hl : Cond.fieldLink own index "BidsJudgedModel" "isFound" "Z" ∈ lw_g) (hn : narrow .boolean (.int v) = .int v) (hft : fits .boolean (.int v) = true) (hd : decode cc pc = .ok (.putfield index, 3)) (k : ∀ (H1 : Heap) (locs1 : List Loc), VW wdM ev s (sI u 16 v) H1 locs1 → W p l e R s m args below meth c H1 locs1 0 0 Q (F0 m (pc + 3) ls rest)) : W p l e R s m args below meth c H locs 0 0 Q (F0 m pc ls (.int v :: .ref (ev.2.1 0) :: rest)) :=
  va_put (D := ev.1) (cl := vwCl) (tys := tyl ev) (ws := wM ev u) (ci := 9) (v := .int v) (ty := .boolean) (C := RX10) (T := TX10) (N := 71) hc.1 hc.2.1 hc.2.2.2.2.1 inX10 tyX10 tyX10_ok nmX10 hc.2.2.2.1 hc.2.2.2.2.2.1 hw.1 hw.2.1 hw.2.2 0 rfl rfl 40 (by decide) (hc.2.2.2.2.1 _ hl) (fun _ h => h) rfl (by decide +kernel) hn hft (Nat.le_of_ble_eq_true rfl) hd (fun H1 locs1 hP hD hS => k H1 locs1 ⟨hP, hD, hS⟩)
theorem gM0_41 (hc : CX wdM ev p s m c cc nL own args) (hw : VW wdM ev s u H locs) (hl : Cond.fieldLink own index "BidsJudgedModel" "given" "[I" ∈ lw_g) (hd : decode cc pc = .ok (.getfield index, 3)) (k : W p l e R s m args below meth c H locs 0 0 Q (F0 m (pc + 3) ls (.ref (ev.2.1 23) :: rest))) : W p l e R s m args below meth c H locs 0 0 Q (F0 m pc ls (.ref (ev.2.1 0) :: rest)) :=
  va_get (D := ev.1) (cl := vwCl) (tys := tyl ev) (ws := wM ev u) (ci := 9) (C := RX10) (T := TX10) (N := 71) hc.1 hc.2.1 hc.2.2.2.2.1 inX10 hc.2.2.2.1 hc.2.2.2.2.2.1 hw.1 0 rfl rfl 41 (by decide) (hc.2.2.2.2.1 _ hl) (fun _ h => h) rfl hd k
theorem gM0_42 (hc : CX wdM ev p s m c cc nL own args) (hw : VW wdM ev s u H locs) (hl : Cond.fieldLink own index "BidsJudgedModel" "givenMany" "I" ∈ lw_g) (hd : decode cc pc = .ok (.getfield index, 3)) (k : W p l e R s m args below meth c H locs 0 0 Q (F0 m (pc + 3) ls (.int (gI u 17) :: rest))) : W p l e R s m args below meth c H locs 0 0 Q (F0 m pc ls (.ref (ev.2.1 0) :: rest)) :=
  va_get (D := ev.1) (cl := vwCl) (tys := tyl ev) (ws := wM ev u) (ci := 9) (C := RX10) (T := TX10) (N := 71) hc.1 hc.2.1 hc.2.2.2.2.1 inX10 hc.2.2.2.1 hc.2.2.2.2.2.1 hw.1 0 rfl rfl 42 (by decide) (hc.2.2.2.2.1 _ hl) (fun _ h => h) rfl hd k
theorem pM0_42 {v : Int32} (hc : CX wdM ev p s m c cc nL own args) (hw : VW wdM ev s u H locs) (hl : Cond.fieldLink own index "BidsJudgedModel" "givenMany" "I" ∈ lw_g) (hd : decode cc pc = .ok (.putfield index, 3)) (k : ∀ (H1 : Heap) (locs1 : List Loc), VW wdM ev s (sI u 17 v) H1 locs1 → W p l e R s m args below meth c H1 locs1 0 0 Q (F0 m (pc + 3) ls rest)) : W p l e R s m args below meth c H locs 0 0 Q (F0 m pc ls (.int v :: .ref (ev.2.1 0) :: rest)) :=
  va_put (D := ev.1) (cl := vwCl) (tys := tyl ev) (ws := wM ev u) (ci := 9) (v := .int v) (ty := .int) (C := RX10) (T := TX10) (N := 71) hc.1 hc.2.1 hc.2.2.2.2.1 inX10 tyX10 tyX10_ok nmX10 hc.2.2.2.1 hc.2.2.2.2.2.1 hw.1 hw.2.1 hw.2.2 0 rfl rfl 42 (by decide) (hc.2.2.2.2.1 _ hl) (fun _ h => h) rfl (by decide +kernel) rfl rfl (Nat.le_of_ble_eq_true rfl) hd (fun H1 locs1 hP hD hS => k H1 locs1 ⟨hP, hD, hS⟩)
theorem gM0_43 (hc : CX wdM ev p s m c cc nL own args) (hw : VW wdM ev s u H locs) (hl : Cond.fieldLink own index "BidsJudgedModel" "givenValue" "I" ∈ lw_g) (hd : decode cc pc = .ok (.getfield index, 3)) (k : W p l e R s m args below meth c H locs 0 0 Q (F0 m (pc + 3) ls (.int (gI u 18) :: rest))) : W p l e R s m args below meth c H locs 0 0 Q (F0 m pc ls (.ref (ev.2.1 0) :: rest)) :=
  va_get (D := ev.1) (cl := vwCl) (tys := tyl ev) (ws := wM ev u) (ci := 9) (C := RX10) (T := TX10) (N := 71) hc.1 hc.2.1 hc.2.2.2.2.1 inX10 hc.2.2.2.1 hc.2.2.2.2.2.1 hw.1 0 rfl rfl 43 (by decide) (hc.2.2.2.2.1 _ hl) (fun _ h => h) rfl hd k
theorem pM0_43 {v : Int32} (hc : CX wdM ev p s m c cc nL own args) (hw : VW wdM ev s u H locs) (hl : Cond.fieldLink own index "BidsJudgedModel" "givenValue" "I" ∈ lw_g) (hd : decode cc pc = .ok (.putfield index, 3)) (k : ∀ (H1 : Heap) (locs1 : List Loc), VW wdM ev s (sI u 18 v) H1 locs1 → W p l e R s m args below meth c H1 locs1 0 0 Q (F0 m (pc + 3) ls rest)) : W p l e R s m args below meth c H locs 0 0 Q (F0 m pc ls (.int v :: .ref (ev.2.1 0) :: rest)) :=
  va_put (D := ev.1) (cl := vwCl) (tys := tyl ev) (ws := wM ev u) (ci := 9) (v := .int v) (ty := .int) (C := RX10) (T := TX10) (N := 71) hc.1 hc.2.1 hc.2.2.2.2.1 inX10 tyX10 tyX10_ok nmX10 hc.2.2.2.1 hc.2.2.2.2.2.1 hw.1 hw.2.1 hw.2.2 0 rfl rfl 43 (by decide) (hc.2.2.2.2.1 _ hl) (fun _ h => h) rfl (by decide +kernel) rfl rfl (Nat.le_of_ble_eq_true rfl) hd (fun H1 locs1 hP hD hS => k H1 locs1 ⟨hP, hD, hS⟩)
theorem gM0_44 (hc : CX wdM ev p s m c cc nL own args) (hw : VW wdM ev s u H locs) (hl : Cond.fieldLink own index "BidsJudgedModel" "orderOf" "[I" ∈ lw_g) (hd : decode cc pc = .ok (.getfield index, 3)) (k : W p l e R s m args below meth c H locs 0 0 Q (F0 m (pc + 3) ls (.ref (ev.2.1 24) :: rest))) : W p l e R s m args below meth c H locs 0 0 Q (F0 m pc ls (.ref (ev.2.1 0) :: rest)) :=
  va_get (D := ev.1) (cl := vwCl) (tys := tyl ev) (ws := wM ev u) (ci := 9) (C := RX10) (T := TX10) (N := 71) hc.1 hc.2.1 hc.2.2.2.2.1 inX10 hc.2.2.2.1 hc.2.2.2.2.2.1 hw.1 0 rfl rfl 44 (by decide) (hc.2.2.2.2.1 _ hl) (fun _ h => h) rfl hd k
theorem gM0_45 (hc : CX wdM ev p s m c cc nL own args) (hw : VW wdM ev s u H locs) (hl : Cond.fieldLink own index "BidsJudgedModel" "orderMany" "[I" ∈ lw_g) (hd : decode cc pc = .ok (.getfield index, 3)) (k : W p l e R s m args below meth c H locs 0 0 Q (F0 m (pc + 3) ls (.ref (ev.2.1 25) :: rest))) : W p l e R s m args below meth c H locs 0 0 Q (F0 m pc ls (.ref (ev.2.1 0) :: rest)) :=
  va_get (D := ev.1) (cl := vwCl) (tys := tyl ev) (ws := wM ev u) (ci := 9) (C := RX10) (T := TX10) (N := 71) hc.1 hc.2.1 hc.2.2.2.2.1 inX10 hc.2.2.2.1 hc.2.2.2.2.2.1 hw.1 0 rfl rfl 45 (by decide) (hc.2.2.2.2.1 _ hl) (fun _ h => h) rfl hd k
theorem gM0_46 (hc : CX wdM ev p s m c cc nL own args) (hw : VW wdM ev s u H locs) (hl : Cond.fieldLink own index "BidsJudgedModel" "pick" "[I" ∈ lw_g) (hd : decode cc pc = .ok (.getfield index, 3)) (k : W p l e R s m args below meth c H locs 0 0 Q (F0 m (pc + 3) ls (.ref (ev.2.1 26) :: rest))) : W p l e R s m args below meth c H locs 0 0 Q (F0 m pc ls (.ref (ev.2.1 0) :: rest)) :=
  va_get (D := ev.1) (cl := vwCl) (tys := tyl ev) (ws := wM ev u) (ci := 9) (C := RX10) (T := TX10) (N := 71) hc.1 hc.2.1 hc.2.2.2.2.1 inX10 hc.2.2.2.1 hc.2.2.2.2.2.1 hw.1 0 rfl rfl 46 (by decide) (hc.2.2.2.2.1 _ hl) (fun _ h => h) rfl hd k
theorem gM0_47 (hc : CX wdM ev p s m c cc nL own args) (hw : VW wdM ev s u H locs) (hl : Cond.fieldLink own index "BidsJudgedModel" "won" "[I" ∈ lw_g) (hd : decode cc pc = .ok (.getfield index, 3)) (k : W p l e R s m args below meth c H locs 0 0 Q (F0 m (pc + 3) ls (.ref (ev.2.1 27) :: rest))) : W p l e R s m args below meth c H locs 0 0 Q (F0 m pc ls (.ref (ev.2.1 0) :: rest)) :=
  va_get (D := ev.1) (cl := vwCl) (tys := tyl ev) (ws := wM ev u) (ci := 9) (C := RX10) (T := TX10) (N := 71) hc.1 hc.2.1 hc.2.2.2.2.1 inX10 hc.2.2.2.1 hc.2.2.2.2.2.1 hw.1 0 rfl rfl 47 (by decide) (hc.2.2.2.2.1 _ hl) (fun _ h => h) rfl hd k
theorem gM0_48 (hc : CX wdM ev p s m c cc nL own args) (hw : VW wdM ev s u H locs) (hl : Cond.fieldLink own index "BidsJudgedModel" "spent" "[I" ∈ lw_g) (hd : decode cc pc = .ok (.getfield index, 3)) (k : W p l e R s m args below meth c H locs 0 0 Q (F0 m (pc + 3) ls (.ref (ev.2.1 28) :: rest))) : W p l e R s m args below meth c H locs 0 0 Q (F0 m pc ls (.ref (ev.2.1 0) :: rest)) :=
  va_get (D := ev.1) (cl := vwCl) (tys := tyl ev) (ws := wM ev u) (ci := 9) (C := RX10) (T := TX10) (N := 71) hc.1 hc.2.1 hc.2.2.2.2.1 inX10 hc.2.2.2.1 hc.2.2.2.2.2.1 hw.1 0 rfl rfl 48 (by decide) (hc.2.2.2.2.1 _ hl) (fun _ h => h) rfl hd k
theorem gM0_49 (hc : CX wdM ev p s m c cc nL own args) (hw : VW wdM ev s u H locs) (hl : Cond.fieldLink own index "BidsJudgedModel" "bestPlaces" "I" ∈ lw_g) (hd : decode cc pc = .ok (.getfield index, 3)) (k : W p l e R s m args below meth c H locs 0 0 Q (F0 m (pc + 3) ls (.int (gI u 19) :: rest))) : W p l e R s m args below meth c H locs 0 0 Q (F0 m pc ls (.ref (ev.2.1 0) :: rest)) :=
  va_get (D := ev.1) (cl := vwCl) (tys := tyl ev) (ws := wM ev u) (ci := 9) (C := RX10) (T := TX10) (N := 71) hc.1 hc.2.1 hc.2.2.2.2.1 inX10 hc.2.2.2.1 hc.2.2.2.2.2.1 hw.1 0 rfl rfl 49 (by decide) (hc.2.2.2.2.1 _ hl) (fun _ h => h) rfl hd k
theorem pM0_49 {v : Int32} (hc : CX wdM ev p s m c cc nL own args) (hw : VW wdM ev s u H locs) (hl : Cond.fieldLink own index "BidsJudgedModel" "bestPlaces" "I" ∈ lw_g) (hd : decode cc pc = .ok (.putfield index, 3)) (k : ∀ (H1 : Heap) (locs1 : List Loc), VW wdM ev s (sI u 19 v) H1 locs1 → W p l e R s m args below meth c H1 locs1 0 0 Q (F0 m (pc + 3) ls rest)) : W p l e R s m args below meth c H locs 0 0 Q (F0 m pc ls (.int v :: .ref (ev.2.1 0) :: rest)) :=
  va_put (D := ev.1) (cl := vwCl) (tys := tyl ev) (ws := wM ev u) (ci := 9) (v := .int v) (ty := .int) (C := RX10) (T := TX10) (N := 71) hc.1 hc.2.1 hc.2.2.2.2.1 inX10 tyX10 tyX10_ok nmX10 hc.2.2.2.1 hc.2.2.2.2.2.1 hw.1 hw.2.1 hw.2.2 0 rfl rfl 49 (by decide) (hc.2.2.2.2.1 _ hl) (fun _ h => h) rfl (by decide +kernel) rfl rfl (Nat.le_of_ble_eq_true rfl) hd (fun H1 locs1 hP hD hS => k H1 locs1 ⟨hP, hD, hS⟩)
theorem gM0_50 (hc : CX wdM ev p s m c cc nL own args) (hw : VW wdM ev s u H locs) (hl : Cond.fieldLink own index "BidsJudgedModel" "bestMany" "I" ∈ lw_g) (hd : decode cc pc = .ok (.getfield index, 3)) (k : W p l e R s m args below meth c H locs 0 0 Q (F0 m (pc + 3) ls (.int (gI u 20) :: rest))) : W p l e R s m args below meth c H locs 0 0 Q (F0 m pc ls (.ref (ev.2.1 0) :: rest)) :=
  va_get (D := ev.1) (cl := vwCl) (tys := tyl ev) (ws := wM ev u) (ci := 9) (C := RX10) (T := TX10) (N := 71) hc.1 hc.2.1 hc.2.2.2.2.1 inX10 hc.2.2.2.1 hc.2.2.2.2.2.1 hw.1 0 rfl rfl 50 (by decide) (hc.2.2.2.2.1 _ hl) (fun _ h => h) rfl hd k
theorem pM0_50 {v : Int32} (hc : CX wdM ev p s m c cc nL own args) (hw : VW wdM ev s u H locs) (hl : Cond.fieldLink own index "BidsJudgedModel" "bestMany" "I" ∈ lw_g) (hd : decode cc pc = .ok (.putfield index, 3)) (k : ∀ (H1 : Heap) (locs1 : List Loc), VW wdM ev s (sI u 20 v) H1 locs1 → W p l e R s m args below meth c H1 locs1 0 0 Q (F0 m (pc + 3) ls rest)) : W p l e R s m args below meth c H locs 0 0 Q (F0 m pc ls (.int v :: .ref (ev.2.1 0) :: rest)) :=
  va_put (D := ev.1) (cl := vwCl) (tys := tyl ev) (ws := wM ev u) (ci := 9) (v := .int v) (ty := .int) (C := RX10) (T := TX10) (N := 71) hc.1 hc.2.1 hc.2.2.2.2.1 inX10 tyX10 tyX10_ok nmX10 hc.2.2.2.1 hc.2.2.2.2.2.1 hw.1 hw.2.1 hw.2.2 0 rfl rfl 50 (by decide) (hc.2.2.2.2.1 _ hl) (fun _ h => h) rfl (by decide +kernel) rfl rfl (Nat.le_of_ble_eq_true rfl) hd (fun H1 locs1 hP hD hS => k H1 locs1 ⟨hP, hD, hS⟩)
theorem gM0_51 (hc : CX wdM ev p s m c cc nL own args) (hw : VW wdM ev s u H locs) (hl : Cond.fieldLink own index "BidsJudgedModel" "bestValue" "I" ∈ lw_g) (hd : decode cc pc = .ok (.getfield index, 3)) (k : W p l e R s m args below meth c H locs 0 0 Q (F0 m (pc + 3) ls (.int (gI u 21) :: rest))) : W p l e R s m args below meth c H locs 0 0 Q (F0 m pc ls (.ref (ev.2.1 0) :: rest)) :=
  va_get (D := ev.1) (cl := vwCl) (tys := tyl ev) (ws := wM ev u) (ci := 9) (C := RX10) (T := TX10) (N := 71) hc.1 hc.2.1 hc.2.2.2.2.1 inX10 hc.2.2.2.1 hc.2.2.2.2.2.1 hw.1 0 rfl rfl 51 (by decide) (hc.2.2.2.2.1 _ hl) (fun _ h => h) rfl hd k
theorem pM0_51 {v : Int32} (hc : CX wdM ev p s m c cc nL own args) (hw : VW wdM ev s u H locs) (hl : Cond.fieldLink own index "BidsJudgedModel" "bestValue" "I" ∈ lw_g) (hd : decode cc pc = .ok (.putfield index, 3)) (k : ∀ (H1 : Heap) (locs1 : List Loc), VW wdM ev s (sI u 21 v) H1 locs1 → W p l e R s m args below meth c H1 locs1 0 0 Q (F0 m (pc + 3) ls rest)) : W p l e R s m args below meth c H locs 0 0 Q (F0 m pc ls (.int v :: .ref (ev.2.1 0) :: rest)) :=
  va_put (D := ev.1) (cl := vwCl) (tys := tyl ev) (ws := wM ev u) (ci := 9) (v := .int v) (ty := .int) (C := RX10) (T := TX10) (N := 71) hc.1 hc.2.1 hc.2.2.2.2.1 inX10 tyX10 tyX10_ok nmX10 hc.2.2.2.1 hc.2.2.2.2.2.1 hw.1 hw.2.1 hw.2.2 0 rfl rfl 51 (by decide) (hc.2.2.2.2.1 _ hl) (fun _ h => h) rfl (by decide +kernel) rfl rfl (Nat.le_of_ble_eq_true rfl) hd (fun H1 locs1 hP hD hS => k H1 locs1 ⟨hP, hD, hS⟩)
theorem gM0_52 (hc : CX wdM ev p s m c cc nL own args) (hw : VW wdM ev s u H locs) (hl : Cond.fieldLink own index "BidsJudgedModel" "isAwarded" "Z" ∈ lw_g) (hd : decode cc pc = .ok (.getfield index, 3)) (k : W p l e R s m args below meth c H locs 0 0 Q (F0 m (pc + 3) ls (.int (gI u 22) :: rest))) : W p l e R s m args below meth c H locs 0 0 Q (F0 m pc ls (.ref (ev.2.1 0) :: rest)) :=
  va_get (D := ev.1) (cl := vwCl) (tys := tyl ev) (ws := wM ev u) (ci := 9) (C := RX10) (T := TX10) (N := 71) hc.1 hc.2.1 hc.2.2.2.2.1 inX10 hc.2.2.2.1 hc.2.2.2.2.2.1 hw.1 0 rfl rfl 52 (by decide) (hc.2.2.2.2.1 _ hl) (fun _ h => h) rfl hd k
theorem pM0_52 {v : Int32} (hc : CX wdM ev p s m c cc nL own args) (hw : VW wdM ev s u H locs) (hl : Cond.fieldLink own index "BidsJudgedModel" "isAwarded" "Z" ∈ lw_g) (hn : narrow .boolean (.int v) = .int v) (hft : fits .boolean (.int v) = true) (hd : decode cc pc = .ok (.putfield index, 3)) (k : ∀ (H1 : Heap) (locs1 : List Loc), VW wdM ev s (sI u 22 v) H1 locs1 → W p l e R s m args below meth c H1 locs1 0 0 Q (F0 m (pc + 3) ls rest)) : W p l e R s m args below meth c H locs 0 0 Q (F0 m pc ls (.int v :: .ref (ev.2.1 0) :: rest)) :=
  va_put (D := ev.1) (cl := vwCl) (tys := tyl ev) (ws := wM ev u) (ci := 9) (v := .int v) (ty := .boolean) (C := RX10) (T := TX10) (N := 71) hc.1 hc.2.1 hc.2.2.2.2.1 inX10 tyX10 tyX10_ok nmX10 hc.2.2.2.1 hc.2.2.2.2.2.1 hw.1 hw.2.1 hw.2.2 0 rfl rfl 52 (by decide) (hc.2.2.2.2.1 _ hl) (fun _ h => h) rfl (by decide +kernel) hn hft (Nat.le_of_ble_eq_true rfl) hd (fun H1 locs1 hP hD hS => k H1 locs1 ⟨hP, hD, hS⟩)
theorem gM0_53 (hc : CX wdM ev p s m c cc nL own args) (hw : VW wdM ev s u H locs) (hl : Cond.fieldLink own index "BidsJudgedModel" "isSigned" "Z" ∈ lw_g) (hd : decode cc pc = .ok (.getfield index, 3)) (k : W p l e R s m args below meth c H locs 0 0 Q (F0 m (pc + 3) ls (.int (gI u 23) :: rest))) : W p l e R s m args below meth c H locs 0 0 Q (F0 m pc ls (.ref (ev.2.1 0) :: rest)) :=
  va_get (D := ev.1) (cl := vwCl) (tys := tyl ev) (ws := wM ev u) (ci := 9) (C := RX10) (T := TX10) (N := 71) hc.1 hc.2.1 hc.2.2.2.2.1 inX10 hc.2.2.2.1 hc.2.2.2.2.2.1 hw.1 0 rfl rfl 53 (by decide) (hc.2.2.2.2.1 _ hl) (fun _ h => h) rfl hd k
theorem pM0_53 {v : Int32} (hc : CX wdM ev p s m c cc nL own args) (hw : VW wdM ev s u H locs) (hl : Cond.fieldLink own index "BidsJudgedModel" "isSigned" "Z" ∈ lw_g) (hn : narrow .boolean (.int v) = .int v) (hft : fits .boolean (.int v) = true) (hd : decode cc pc = .ok (.putfield index, 3)) (k : ∀ (H1 : Heap) (locs1 : List Loc), VW wdM ev s (sI u 23 v) H1 locs1 → W p l e R s m args below meth c H1 locs1 0 0 Q (F0 m (pc + 3) ls rest)) : W p l e R s m args below meth c H locs 0 0 Q (F0 m pc ls (.int v :: .ref (ev.2.1 0) :: rest)) :=
  va_put (D := ev.1) (cl := vwCl) (tys := tyl ev) (ws := wM ev u) (ci := 9) (v := .int v) (ty := .boolean) (C := RX10) (T := TX10) (N := 71) hc.1 hc.2.1 hc.2.2.2.2.1 inX10 tyX10 tyX10_ok nmX10 hc.2.2.2.1 hc.2.2.2.2.2.1 hw.1 hw.2.1 hw.2.2 0 rfl rfl 53 (by decide) (hc.2.2.2.2.1 _ hl) (fun _ h => h) rfl (by decide +kernel) hn hft (Nat.le_of_ble_eq_true rfl) hd (fun H1 locs1 hP hD hS => k H1 locs1 ⟨hP, hD, hS⟩)
theorem gM0_54 (hc : CX wdM ev p s m c cc nL own args) (hw : VW wdM ev s u H locs) (hl : Cond.fieldLink own index "BidsJudgedModel" "standsTill" "I" ∈ lw_g) (hd : decode cc pc = .ok (.getfield index, 3)) (k : W p l e R s m args below meth c H locs 0 0 Q (F0 m (pc + 3) ls (.int (gI u 24) :: rest))) : W p l e R s m args below meth c H locs 0 0 Q (F0 m pc ls (.ref (ev.2.1 0) :: rest)) :=
  va_get (D := ev.1) (cl := vwCl) (tys := tyl ev) (ws := wM ev u) (ci := 9) (C := RX10) (T := TX10) (N := 71) hc.1 hc.2.1 hc.2.2.2.2.1 inX10 hc.2.2.2.1 hc.2.2.2.2.2.1 hw.1 0 rfl rfl 54 (by decide) (hc.2.2.2.2.1 _ hl) (fun _ h => h) rfl hd k
theorem pM0_54 {v : Int32} (hc : CX wdM ev p s m c cc nL own args) (hw : VW wdM ev s u H locs) (hl : Cond.fieldLink own index "BidsJudgedModel" "standsTill" "I" ∈ lw_g) (hd : decode cc pc = .ok (.putfield index, 3)) (k : ∀ (H1 : Heap) (locs1 : List Loc), VW wdM ev s (sI u 24 v) H1 locs1 → W p l e R s m args below meth c H1 locs1 0 0 Q (F0 m (pc + 3) ls rest)) : W p l e R s m args below meth c H locs 0 0 Q (F0 m pc ls (.int v :: .ref (ev.2.1 0) :: rest)) :=
  va_put (D := ev.1) (cl := vwCl) (tys := tyl ev) (ws := wM ev u) (ci := 9) (v := .int v) (ty := .int) (C := RX10) (T := TX10) (N := 71) hc.1 hc.2.1 hc.2.2.2.2.1 inX10 tyX10 tyX10_ok nmX10 hc.2.2.2.1 hc.2.2.2.2.2.1 hw.1 hw.2.1 hw.2.2 0 rfl rfl 54 (by decide) (hc.2.2.2.2.1 _ hl) (fun _ h => h) rfl (by decide +kernel) rfl rfl (Nat.le_of_ble_eq_true rfl) hd (fun H1 locs1 hP hD hS => k H1 locs1 ⟨hP, hD, hS⟩)
theorem gM0_55 (hc : CX wdM ev p s m c cc nL own args) (hw : VW wdM ev s u H locs) (hl : Cond.fieldLink own index "BidsJudgedModel" "awardedTo" "[I" ∈ lw_g) (hd : decode cc pc = .ok (.getfield index, 3)) (k : W p l e R s m args below meth c H locs 0 0 Q (F0 m (pc + 3) ls (.ref (ev.2.1 29) :: rest))) : W p l e R s m args below meth c H locs 0 0 Q (F0 m pc ls (.ref (ev.2.1 0) :: rest)) :=
  va_get (D := ev.1) (cl := vwCl) (tys := tyl ev) (ws := wM ev u) (ci := 9) (C := RX10) (T := TX10) (N := 71) hc.1 hc.2.1 hc.2.2.2.2.1 inX10 hc.2.2.2.1 hc.2.2.2.2.2.1 hw.1 0 rfl rfl 55 (by decide) (hc.2.2.2.2.1 _ hl) (fun _ h => h) rfl hd k
theorem gM0_56 (hc : CX wdM ev p s m c cc nL own args) (hw : VW wdM ev s u H locs) (hl : Cond.fieldLink own index "BidsJudgedModel" "awardedPrice" "[I" ∈ lw_g) (hd : decode cc pc = .ok (.getfield index, 3)) (k : W p l e R s m args below meth c H locs 0 0 Q (F0 m (pc + 3) ls (.ref (ev.2.1 30) :: rest))) : W p l e R s m args below meth c H locs 0 0 Q (F0 m pc ls (.ref (ev.2.1 0) :: rest)) :=
  va_get (D := ev.1) (cl := vwCl) (tys := tyl ev) (ws := wM ev u) (ci := 9) (C := RX10) (T := TX10) (N := 71) hc.1 hc.2.1 hc.2.2.2.2.1 inX10 hc.2.2.2.1 hc.2.2.2.2.2.1 hw.1 0 rfl rfl 56 (by decide) (hc.2.2.2.2.1 _ hl) (fun _ h => h) rfl hd k
theorem gM0_57 (hc : CX wdM ev p s m c cc nL own args) (hw : VW wdM ev s u H locs) (hl : Cond.fieldLink own index "BidsJudgedModel" "changed" "[I" ∈ lw_g) (hd : decode cc pc = .ok (.getfield index, 3)) (k : W p l e R s m args below meth c H locs 0 0 Q (F0 m (pc + 3) ls (.ref (ev.2.1 31) :: rest))) : W p l e R s m args below meth c H locs 0 0 Q (F0 m pc ls (.ref (ev.2.1 0) :: rest)) :=
  va_get (D := ev.1) (cl := vwCl) (tys := tyl ev) (ws := wM ev u) (ci := 9) (C := RX10) (T := TX10) (N := 71) hc.1 hc.2.1 hc.2.2.2.2.1 inX10 hc.2.2.2.1 hc.2.2.2.2.2.1 hw.1 0 rfl rfl 57 (by decide) (hc.2.2.2.2.1 _ hl) (fun _ h => h) rfl hd k
theorem gM0_58 (hc : CX wdM ev p s m c cc nL own args) (hw : VW wdM ev s u H locs) (hl : Cond.fieldLink own index "BidsJudgedModel" "challenges" "I" ∈ lw_g) (hd : decode cc pc = .ok (.getfield index, 3)) (k : W p l e R s m args below meth c H locs 0 0 Q (F0 m (pc + 3) ls (.int (gI u 25) :: rest))) : W p l e R s m args below meth c H locs 0 0 Q (F0 m pc ls (.ref (ev.2.1 0) :: rest)) :=
  va_get (D := ev.1) (cl := vwCl) (tys := tyl ev) (ws := wM ev u) (ci := 9) (C := RX10) (T := TX10) (N := 71) hc.1 hc.2.1 hc.2.2.2.2.1 inX10 hc.2.2.2.1 hc.2.2.2.2.2.1 hw.1 0 rfl rfl 58 (by decide) (hc.2.2.2.2.1 _ hl) (fun _ h => h) rfl hd k
theorem pM0_58 {v : Int32} (hc : CX wdM ev p s m c cc nL own args) (hw : VW wdM ev s u H locs) (hl : Cond.fieldLink own index "BidsJudgedModel" "challenges" "I" ∈ lw_g) (hd : decode cc pc = .ok (.putfield index, 3)) (k : ∀ (H1 : Heap) (locs1 : List Loc), VW wdM ev s (sI u 25 v) H1 locs1 → W p l e R s m args below meth c H1 locs1 0 0 Q (F0 m (pc + 3) ls rest)) : W p l e R s m args below meth c H locs 0 0 Q (F0 m pc ls (.int v :: .ref (ev.2.1 0) :: rest)) :=
  va_put (D := ev.1) (cl := vwCl) (tys := tyl ev) (ws := wM ev u) (ci := 9) (v := .int v) (ty := .int) (C := RX10) (T := TX10) (N := 71) hc.1 hc.2.1 hc.2.2.2.2.1 inX10 tyX10 tyX10_ok nmX10 hc.2.2.2.1 hc.2.2.2.2.2.1 hw.1 hw.2.1 hw.2.2 0 rfl rfl 58 (by decide) (hc.2.2.2.2.1 _ hl) (fun _ h => h) rfl (by decide +kernel) rfl rfl (Nat.le_of_ble_eq_true rfl) hd (fun H1 locs1 hP hD hS => k H1 locs1 ⟨hP, hD, hS⟩)
theorem gM0_59 (hc : CX wdM ev p s m c cc nL own args) (hw : VW wdM ev s u H locs) (hl : Cond.fieldLink own index "BidsJudgedModel" "challengeLot" "[I" ∈ lw_g) (hd : decode cc pc = .ok (.getfield index, 3)) (k : W p l e R s m args below meth c H locs 0 0 Q (F0 m (pc + 3) ls (.ref (ev.2.1 32) :: rest))) : W p l e R s m args below meth c H locs 0 0 Q (F0 m pc ls (.ref (ev.2.1 0) :: rest)) :=
  va_get (D := ev.1) (cl := vwCl) (tys := tyl ev) (ws := wM ev u) (ci := 9) (C := RX10) (T := TX10) (N := 71) hc.1 hc.2.1 hc.2.2.2.2.1 inX10 hc.2.2.2.1 hc.2.2.2.2.2.1 hw.1 0 rfl rfl 59 (by decide) (hc.2.2.2.2.1 _ hl) (fun _ h => h) rfl hd k
theorem gM0_60 (hc : CX wdM ev p s m c cc nL own args) (hw : VW wdM ev s u H locs) (hl : Cond.fieldLink own index "BidsJudgedModel" "challengeStage" "[I" ∈ lw_g) (hd : decode cc pc = .ok (.getfield index, 3)) (k : W p l e R s m args below meth c H locs 0 0 Q (F0 m (pc + 3) ls (.ref (ev.2.1 33) :: rest))) : W p l e R s m args below meth c H locs 0 0 Q (F0 m pc ls (.ref (ev.2.1 0) :: rest)) :=
  va_get (D := ev.1) (cl := vwCl) (tys := tyl ev) (ws := wM ev u) (ci := 9) (C := RX10) (T := TX10) (N := 71) hc.1 hc.2.1 hc.2.2.2.2.1 inX10 hc.2.2.2.1 hc.2.2.2.2.2.1 hw.1 0 rfl rfl 60 (by decide) (hc.2.2.2.2.1 _ hl) (fun _ h => h) rfl hd k
theorem gM0_61 (hc : CX wdM ev p s m c cc nL own args) (hw : VW wdM ev s u H locs) (hl : Cond.fieldLink own index "BidsJudgedModel" "doesHold" "[Z" ∈ lw_g) (hd : decode cc pc = .ok (.getfield index, 3)) (k : W p l e R s m args below meth c H locs 0 0 Q (F0 m (pc + 3) ls (.ref (ev.2.1 34) :: rest))) : W p l e R s m args below meth c H locs 0 0 Q (F0 m pc ls (.ref (ev.2.1 0) :: rest)) :=
  va_get (D := ev.1) (cl := vwCl) (tys := tyl ev) (ws := wM ev u) (ci := 9) (C := RX10) (T := TX10) (N := 71) hc.1 hc.2.1 hc.2.2.2.2.1 inX10 hc.2.2.2.1 hc.2.2.2.2.2.1 hw.1 0 rfl rfl 61 (by decide) (hc.2.2.2.2.1 _ hl) (fun _ h => h) rfl hd k
theorem gM0_62 (hc : CX wdM ev p s m c cc nL own args) (hw : VW wdM ev s u H locs) (hl : Cond.fieldLink own index "BidsJudgedModel" "place" "[I" ∈ lw_g) (hd : decode cc pc = .ok (.getfield index, 3)) (k : W p l e R s m args below meth c H locs 0 0 Q (F0 m (pc + 3) ls (.ref (ev.2.1 35) :: rest))) : W p l e R s m args below meth c H locs 0 0 Q (F0 m pc ls (.ref (ev.2.1 0) :: rest)) :=
  va_get (D := ev.1) (cl := vwCl) (tys := tyl ev) (ws := wM ev u) (ci := 9) (C := RX10) (T := TX10) (N := 71) hc.1 hc.2.1 hc.2.2.2.2.1 inX10 hc.2.2.2.1 hc.2.2.2.2.2.1 hw.1 0 rfl rfl 62 (by decide) (hc.2.2.2.2.1 _ hl) (fun _ h => h) rfl hd k
theorem gM0_63 (hc : CX wdM ev p s m c cc nL own args) (hw : VW wdM ev s u H locs) (hl : Cond.fieldLink own index "BidsJudgedModel" "ringOf" "[I" ∈ lw_g) (hd : decode cc pc = .ok (.getfield index, 3)) (k : W p l e R s m args below meth c H locs 0 0 Q (F0 m (pc + 3) ls (.ref (ev.2.1 36) :: rest))) : W p l e R s m args below meth c H locs 0 0 Q (F0 m pc ls (.ref (ev.2.1 0) :: rest)) :=
  va_get (D := ev.1) (cl := vwCl) (tys := tyl ev) (ws := wM ev u) (ci := 9) (C := RX10) (T := TX10) (N := 71) hc.1 hc.2.1 hc.2.2.2.2.1 inX10 hc.2.2.2.1 hc.2.2.2.2.2.1 hw.1 0 rfl rfl 63 (by decide) (hc.2.2.2.2.1 _ hl) (fun _ h => h) rfl hd k
theorem gM0_64 (hc : CX wdM ev p s m c cc nL own args) (hw : VW wdM ev s u H locs) (hl : Cond.fieldLink own index "BidsJudgedModel" "members" "I" ∈ lw_g) (hd : decode cc pc = .ok (.getfield index, 3)) (k : W p l e R s m args below meth c H locs 0 0 Q (F0 m (pc + 3) ls (.int (gI u 26) :: rest))) : W p l e R s m args below meth c H locs 0 0 Q (F0 m pc ls (.ref (ev.2.1 0) :: rest)) :=
  va_get (D := ev.1) (cl := vwCl) (tys := tyl ev) (ws := wM ev u) (ci := 9) (C := RX10) (T := TX10) (N := 71) hc.1 hc.2.1 hc.2.2.2.2.1 inX10 hc.2.2.2.1 hc.2.2.2.2.2.1 hw.1 0 rfl rfl 64 (by decide) (hc.2.2.2.2.1 _ hl) (fun _ h => h) rfl hd k
theorem pM0_64 {v : Int32} (hc : CX wdM ev p s m c cc nL own args) (hw : VW wdM ev s u H locs) (hl : Cond.fieldLink own index "BidsJudgedModel" "members" "I" ∈ lw_g) (hd : decode cc pc = .ok (.putfield index, 3)) (k : ∀ (H1 : Heap) (locs1 : List Loc), VW wdM ev s (sI u 26 v) H1 locs1 → W p l e R s m args below meth c H1 locs1 0 0 Q (F0 m (pc + 3) ls rest)) : W p l e R s m args below meth c H locs 0 0 Q (F0 m pc ls (.int v :: .ref (ev.2.1 0) :: rest)) :=
  va_put (D := ev.1) (cl := vwCl) (tys := tyl ev) (ws := wM ev u) (ci := 9) (v := .int v) (ty := .int) (C := RX10) (T := TX10) (N := 71) hc.1 hc.2.1 hc.2.2.2.2.1 inX10 tyX10 tyX10_ok nmX10 hc.2.2.2.1 hc.2.2.2.2.2.1 hw.1 hw.2.1 hw.2.2 0 rfl rfl 64 (by decide) (hc.2.2.2.2.1 _ hl) (fun _ h => h) rfl (by decide +kernel) rfl rfl (Nat.le_of_ble_eq_true rfl) hd (fun H1 locs1 hP hD hS => k H1 locs1 ⟨hP, hD, hS⟩)
theorem gM0_65 (hc : CX wdM ev p s m c cc nL own args) (hw : VW wdM ev s u H locs) (hl : Cond.fieldLink own index "BidsJudgedModel" "member" "[I" ∈ lw_g) (hd : decode cc pc = .ok (.getfield index, 3)) (k : W p l e R s m args below meth c H locs 0 0 Q (F0 m (pc + 3) ls (.ref (ev.2.1 37) :: rest))) : W p l e R s m args below meth c H locs 0 0 Q (F0 m pc ls (.ref (ev.2.1 0) :: rest)) :=
  va_get (D := ev.1) (cl := vwCl) (tys := tyl ev) (ws := wM ev u) (ci := 9) (C := RX10) (T := TX10) (N := 71) hc.1 hc.2.1 hc.2.2.2.2.1 inX10 hc.2.2.2.1 hc.2.2.2.2.2.1 hw.1 0 rfl rfl 65 (by decide) (hc.2.2.2.2.1 _ hl) (fun _ h => h) rfl hd k
theorem gM0_66 (hc : CX wdM ev p s m c cc nL own args) (hw : VW wdM ev s u H locs) (hl : Cond.fieldLink own index "BidsJudgedModel" "rooms" "[I" ∈ lw_g) (hd : decode cc pc = .ok (.getfield index, 3)) (k : W p l e R s m args below meth c H locs 0 0 Q (F0 m (pc + 3) ls (.ref (ev.2.1 38) :: rest))) : W p l e R s m args below meth c H locs 0 0 Q (F0 m pc ls (.ref (ev.2.1 0) :: rest)) :=
  va_get (D := ev.1) (cl := vwCl) (tys := tyl ev) (ws := wM ev u) (ci := 9) (C := RX10) (T := TX10) (N := 71) hc.1 hc.2.1 hc.2.2.2.2.1 inX10 hc.2.2.2.1 hc.2.2.2.2.2.1 hw.1 0 rfl rfl 66 (by decide) (hc.2.2.2.2.1 _ hl) (fun _ h => h) rfl hd k
theorem gM0_67 (hc : CX wdM ev p s m c cc nL own args) (hw : VW wdM ev s u H locs) (hl : Cond.fieldLink own index "BidsJudgedModel" "latest" "I" ∈ lw_g) (hd : decode cc pc = .ok (.getfield index, 3)) (k : W p l e R s m args below meth c H locs 0 0 Q (F0 m (pc + 3) ls (.int (gI u 27) :: rest))) : W p l e R s m args below meth c H locs 0 0 Q (F0 m pc ls (.ref (ev.2.1 0) :: rest)) :=
  va_get (D := ev.1) (cl := vwCl) (tys := tyl ev) (ws := wM ev u) (ci := 9) (C := RX10) (T := TX10) (N := 71) hc.1 hc.2.1 hc.2.2.2.2.1 inX10 hc.2.2.2.1 hc.2.2.2.2.2.1 hw.1 0 rfl rfl 67 (by decide) (hc.2.2.2.2.1 _ hl) (fun _ h => h) rfl hd k
theorem pM0_67 {v : Int32} (hc : CX wdM ev p s m c cc nL own args) (hw : VW wdM ev s u H locs) (hl : Cond.fieldLink own index "BidsJudgedModel" "latest" "I" ∈ lw_g) (hd : decode cc pc = .ok (.putfield index, 3)) (k : ∀ (H1 : Heap) (locs1 : List Loc), VW wdM ev s (sI u 27 v) H1 locs1 → W p l e R s m args below meth c H1 locs1 0 0 Q (F0 m (pc + 3) ls rest)) : W p l e R s m args below meth c H locs 0 0 Q (F0 m pc ls (.int v :: .ref (ev.2.1 0) :: rest)) :=
  va_put (D := ev.1) (cl := vwCl) (tys := tyl ev) (ws := wM ev u) (ci := 9) (v := .int v) (ty := .int) (C := RX10) (T := TX10) (N := 71) hc.1 hc.2.1 hc.2.2.2.2.1 inX10 tyX10 tyX10_ok nmX10 hc.2.2.2.1 hc.2.2.2.2.2.1 hw.1 hw.2.1 hw.2.2 0 rfl rfl 67 (by decide) (hc.2.2.2.2.1 _ hl) (fun _ h => h) rfl (by decide +kernel) rfl rfl (Nat.le_of_ble_eq_true rfl) hd (fun H1 locs1 hP hD hS => k H1 locs1 ⟨hP, hD, hS⟩)
theorem gM0_68 (hc : CX wdM ev p s m c cc nL own args) (hw : VW wdM ev s u H locs) (hl : Cond.fieldLink own index "BidsJudgedModel" "callTo" "I" ∈ lw_g) (hd : decode cc pc = .ok (.getfield index, 3)) (k : W p l e R s m args below meth c H locs 0 0 Q (F0 m (pc + 3) ls (.int (gI u 28) :: rest))) : W p l e R s m args below meth c H locs 0 0 Q (F0 m pc ls (.ref (ev.2.1 0) :: rest)) :=
  va_get (D := ev.1) (cl := vwCl) (tys := tyl ev) (ws := wM ev u) (ci := 9) (C := RX10) (T := TX10) (N := 71) hc.1 hc.2.1 hc.2.2.2.2.1 inX10 hc.2.2.2.1 hc.2.2.2.2.2.1 hw.1 0 rfl rfl 68 (by decide) (hc.2.2.2.2.1 _ hl) (fun _ h => h) rfl hd k
theorem pM0_68 {v : Int32} (hc : CX wdM ev p s m c cc nL own args) (hw : VW wdM ev s u H locs) (hl : Cond.fieldLink own index "BidsJudgedModel" "callTo" "I" ∈ lw_g) (hd : decode cc pc = .ok (.putfield index, 3)) (k : ∀ (H1 : Heap) (locs1 : List Loc), VW wdM ev s (sI u 28 v) H1 locs1 → W p l e R s m args below meth c H1 locs1 0 0 Q (F0 m (pc + 3) ls rest)) : W p l e R s m args below meth c H locs 0 0 Q (F0 m pc ls (.int v :: .ref (ev.2.1 0) :: rest)) :=
  va_put (D := ev.1) (cl := vwCl) (tys := tyl ev) (ws := wM ev u) (ci := 9) (v := .int v) (ty := .int) (C := RX10) (T := TX10) (N := 71) hc.1 hc.2.1 hc.2.2.2.2.1 inX10 tyX10 tyX10_ok nmX10 hc.2.2.2.1 hc.2.2.2.2.2.1 hw.1 hw.2.1 hw.2.2 0 rfl rfl 68 (by decide) (hc.2.2.2.2.1 _ hl) (fun _ h => h) rfl (by decide +kernel) rfl rfl (Nat.le_of_ble_eq_true rfl) hd (fun H1 locs1 hP hD hS => k H1 locs1 ⟨hP, hD, hS⟩)
theorem gM0_69 (hc : CX wdM ev p s m c cc nL own args) (hw : VW wdM ev s u H locs) (hl : Cond.fieldLink own index "BidsJudgedModel" "callFirst" "I" ∈ lw_g) (hd : decode cc pc = .ok (.getfield index, 3)) (k : W p l e R s m args below meth c H locs 0 0 Q (F0 m (pc + 3) ls (.int (gI u 29) :: rest))) : W p l e R s m args below meth c H locs 0 0 Q (F0 m pc ls (.ref (ev.2.1 0) :: rest)) :=
  va_get (D := ev.1) (cl := vwCl) (tys := tyl ev) (ws := wM ev u) (ci := 9) (C := RX10) (T := TX10) (N := 71) hc.1 hc.2.1 hc.2.2.2.2.1 inX10 hc.2.2.2.1 hc.2.2.2.2.2.1 hw.1 0 rfl rfl 69 (by decide) (hc.2.2.2.2.1 _ hl) (fun _ h => h) rfl hd k
theorem pM0_69 {v : Int32} (hc : CX wdM ev p s m c cc nL own args) (hw : VW wdM ev s u H locs) (hl : Cond.fieldLink own index "BidsJudgedModel" "callFirst" "I" ∈ lw_g) (hd : decode cc pc = .ok (.putfield index, 3)) (k : ∀ (H1 : Heap) (locs1 : List Loc), VW wdM ev s (sI u 29 v) H1 locs1 → W p l e R s m args below meth c H1 locs1 0 0 Q (F0 m (pc + 3) ls rest)) : W p l e R s m args below meth c H locs 0 0 Q (F0 m pc ls (.int v :: .ref (ev.2.1 0) :: rest)) :=
  va_put (D := ev.1) (cl := vwCl) (tys := tyl ev) (ws := wM ev u) (ci := 9) (v := .int v) (ty := .int) (C := RX10) (T := TX10) (N := 71) hc.1 hc.2.1 hc.2.2.2.2.1 inX10 tyX10 tyX10_ok nmX10 hc.2.2.2.1 hc.2.2.2.2.2.1 hw.1 hw.2.1 hw.2.2 0 rfl rfl 69 (by decide) (hc.2.2.2.2.1 _ hl) (fun _ h => h) rfl (by decide +kernel) rfl rfl (Nat.le_of_ble_eq_true rfl) hd (fun H1 locs1 hP hD hS => k H1 locs1 ⟨hP, hD, hS⟩)
theorem gM0_70 (hc : CX wdM ev p s m c cc nL own args) (hw : VW wdM ev s u H locs) (hl : Cond.fieldLink own index "BidsJudgedModel" "callSum" "I" ∈ lw_g) (hd : decode cc pc = .ok (.getfield index, 3)) (k : W p l e R s m args below meth c H locs 0 0 Q (F0 m (pc + 3) ls (.int (gI u 30) :: rest))) : W p l e R s m args below meth c H locs 0 0 Q (F0 m pc ls (.ref (ev.2.1 0) :: rest)) :=
  va_get (D := ev.1) (cl := vwCl) (tys := tyl ev) (ws := wM ev u) (ci := 9) (C := RX10) (T := TX10) (N := 71) hc.1 hc.2.1 hc.2.2.2.2.1 inX10 hc.2.2.2.1 hc.2.2.2.2.2.1 hw.1 0 rfl rfl 70 (by decide) (hc.2.2.2.2.1 _ hl) (fun _ h => h) rfl hd k
theorem pM0_70 {v : Int32} (hc : CX wdM ev p s m c cc nL own args) (hw : VW wdM ev s u H locs) (hl : Cond.fieldLink own index "BidsJudgedModel" "callSum" "I" ∈ lw_g) (hd : decode cc pc = .ok (.putfield index, 3)) (k : ∀ (H1 : Heap) (locs1 : List Loc), VW wdM ev s (sI u 30 v) H1 locs1 → W p l e R s m args below meth c H1 locs1 0 0 Q (F0 m (pc + 3) ls rest)) : W p l e R s m args below meth c H locs 0 0 Q (F0 m pc ls (.int v :: .ref (ev.2.1 0) :: rest)) :=
  va_put (D := ev.1) (cl := vwCl) (tys := tyl ev) (ws := wM ev u) (ci := 9) (v := .int v) (ty := .int) (C := RX10) (T := TX10) (N := 71) hc.1 hc.2.1 hc.2.2.2.2.1 inX10 tyX10 tyX10_ok nmX10 hc.2.2.2.1 hc.2.2.2.2.2.1 hw.1 hw.2.1 hw.2.2 0 rfl rfl 70 (by decide) (hc.2.2.2.2.1 _ hl) (fun _ h => h) rfl (by decide +kernel) rfl rfl (Nat.le_of_ble_eq_true rfl) hd (fun H1 locs1 hP hD hS => k H1 locs1 ⟨hP, hD, hS⟩)
theorem aM1 {i : Int32} (hc : CX wdM ev p s m c cc nL own args) (hw : VW wdM ev s u H locs) (hin : vp_in i 4) (hd : decode cc pc = .ok (.iaload, 1)) (k : W p l e R s m args below meth c H locs 0 0 Q (F0 m (pc + 1) ls (.int (gA u 0 i.toNatClampNeg) :: rest))) : W p l e R s m args below meth c H locs 0 0 Q (F0 m pc ls (.int i :: .ref (ev.2.1 1) :: rest)) :=
  va_iald (D := ev.1) (cl := vwCl) (tys := tyl ev) (ws := wM ev u) hc.1 hc.2.1 hc.2.2.2.2.2.1 hw.1 1 0 rfl rfl hin hd k
theorem tM1 {i : Int32} {x : Int32} (hc : CX wdM ev p s m c cc nL own args) (hw : VW wdM ev s u H locs) (hin : vp_in i 4) (hd : decode cc pc = .ok (.iastore, 1)) (k : ∀ (H1 : Heap) (locs1 : List Loc), VW wdM ev s (tA u 0 i x) H1 locs1 → W p l e R s m args below meth c H1 locs1 0 0 Q (F0 m (pc + 1) ls rest)) : W p l e R s m args below meth c H locs 0 0 Q (F0 m pc ls (.int x :: .int i :: .ref (ev.2.1 1) :: rest)) :=
  va_iast (D := ev.1) (cl := vwCl) (tys := tyl ev) (ws := wM ev u) hc.1 hc.2.1 hc.2.2.2.2.2.1 hw.1 hw.2.1 hw.2.2 1 0 rfl rfl hin hd (fun H1 locs1 hP hD hS => k H1 locs1 ⟨hP, hD, hS⟩)
theorem nM1 (hc : CX wdM ev p s m c cc nL own args) (hw : VW wdM ev s u H locs) (hd : decode cc pc = .ok (.arraylength, 1)) (k : W p l e R s m args below meth c H locs 0 0 Q (F0 m (pc + 1) ls (.int (4 : Int32) :: rest))) : W p l e R s m args below meth c H locs 0 0 Q (F0 m pc ls (.ref (ev.2.1 1) :: rest)) :=
  va_alen (D := ev.1) (cl := vwCl) (tys := tyl ev) (ws := wM ev u) hc.1 hc.2.1 hc.2.2.2.2.2.1 hw.1 1 0 rfl rfl rfl hd k
theorem aM2 {i : Int32} (hc : CX wdM ev p s m c cc nL own args) (hw : VW wdM ev s u H locs) (hin : vp_in i 48) (hd : decode cc pc = .ok (.baload, 1)) (k : W p l e R s m args below meth c H locs 0 0 Q (F0 m (pc + 1) ls (.int (gA u 1 i.toNatClampNeg) :: rest))) : W p l e R s m args below meth c H locs 0 0 Q (F0 m pc ls (.int i :: .ref (ev.2.1 2) :: rest)) :=
  va_zald (D := ev.1) (cl := vwCl) (tys := tyl ev) (ws := wM ev u) hc.1 hc.2.1 hc.2.2.2.2.2.1 hw.1 2 2 rfl rfl hin hd k
theorem tM2 {i : Int32} {x : Int32} (hc : CX wdM ev p s m c cc nL own args) (hw : VW wdM ev s u H locs) (hin : vp_in i 48) (hd : decode cc pc = .ok (.bastore, 1)) (k : ∀ (H1 : Heap) (locs1 : List Loc), VW wdM ev s (tZ u 1 i x) H1 locs1 → W p l e R s m args below meth c H1 locs1 0 0 Q (F0 m (pc + 1) ls rest)) : W p l e R s m args below meth c H locs 0 0 Q (F0 m pc ls (.int x :: .int i :: .ref (ev.2.1 2) :: rest)) :=
  va_zast (D := ev.1) (cl := vwCl) (tys := tyl ev) (ws := wM ev u) hc.1 hc.2.1 hc.2.2.2.2.2.1 hw.1 hw.2.1 hw.2.2 2 2 rfl rfl hin hd (fun H1 locs1 hP hD hS => k H1 locs1 ⟨hP, hD, hS⟩)
theorem nM2 (hc : CX wdM ev p s m c cc nL own args) (hw : VW wdM ev s u H locs) (hd : decode cc pc = .ok (.arraylength, 1)) (k : W p l e R s m args below meth c H locs 0 0 Q (F0 m (pc + 1) ls (.int (48 : Int32) :: rest))) : W p l e R s m args below meth c H locs 0 0 Q (F0 m pc ls (.ref (ev.2.1 2) :: rest)) :=
  va_alen (D := ev.1) (cl := vwCl) (tys := tyl ev) (ws := wM ev u) hc.1 hc.2.1 hc.2.2.2.2.2.1 hw.1 2 2 rfl rfl rfl hd k
theorem aM3 {i : Int32} (hc : CX wdM ev p s m c cc nL own args) (hw : VW wdM ev s u H locs) (hin : vp_in i 48) (hd : decode cc pc = .ok (.iaload, 1)) (k : W p l e R s m args below meth c H locs 0 0 Q (F0 m (pc + 1) ls (.int (gA u 2 i.toNatClampNeg) :: rest))) : W p l e R s m args below meth c H locs 0 0 Q (F0 m pc ls (.int i :: .ref (ev.2.1 3) :: rest)) :=
  va_iald (D := ev.1) (cl := vwCl) (tys := tyl ev) (ws := wM ev u) hc.1 hc.2.1 hc.2.2.2.2.2.1 hw.1 3 0 rfl rfl hin hd k
theorem tM3 {i : Int32} {x : Int32} (hc : CX wdM ev p s m c cc nL own args) (hw : VW wdM ev s u H locs) (hin : vp_in i 48) (hd : decode cc pc = .ok (.iastore, 1)) (k : ∀ (H1 : Heap) (locs1 : List Loc), VW wdM ev s (tA u 2 i x) H1 locs1 → W p l e R s m args below meth c H1 locs1 0 0 Q (F0 m (pc + 1) ls rest)) : W p l e R s m args below meth c H locs 0 0 Q (F0 m pc ls (.int x :: .int i :: .ref (ev.2.1 3) :: rest)) :=
  va_iast (D := ev.1) (cl := vwCl) (tys := tyl ev) (ws := wM ev u) hc.1 hc.2.1 hc.2.2.2.2.2.1 hw.1 hw.2.1 hw.2.2 3 0 rfl rfl hin hd (fun H1 locs1 hP hD hS => k H1 locs1 ⟨hP, hD, hS⟩)
theorem nM3 (hc : CX wdM ev p s m c cc nL own args) (hw : VW wdM ev s u H locs) (hd : decode cc pc = .ok (.arraylength, 1)) (k : W p l e R s m args below meth c H locs 0 0 Q (F0 m (pc + 1) ls (.int (48 : Int32) :: rest))) : W p l e R s m args below meth c H locs 0 0 Q (F0 m pc ls (.ref (ev.2.1 3) :: rest)) :=
  va_alen (D := ev.1) (cl := vwCl) (tys := tyl ev) (ws := wM ev u) hc.1 hc.2.1 hc.2.2.2.2.2.1 hw.1 3 0 rfl rfl rfl hd k
theorem aM4 {i : Int32} (hc : CX wdM ev p s m c cc nL own args) (hw : VW wdM ev s u H locs) (hin : vp_in i 192) (hd : decode cc pc = .ok (.iaload, 1)) (k : W p l e R s m args below meth c H locs 0 0 Q (F0 m (pc + 1) ls (.int (gA u 3 i.toNatClampNeg) :: rest))) : W p l e R s m args below meth c H locs 0 0 Q (F0 m pc ls (.int i :: .ref (ev.2.1 4) :: rest)) :=
  va_iald (D := ev.1) (cl := vwCl) (tys := tyl ev) (ws := wM ev u) hc.1 hc.2.1 hc.2.2.2.2.2.1 hw.1 4 0 rfl rfl hin hd k
theorem tM4 {i : Int32} {x : Int32} (hc : CX wdM ev p s m c cc nL own args) (hw : VW wdM ev s u H locs) (hin : vp_in i 192) (hd : decode cc pc = .ok (.iastore, 1)) (k : ∀ (H1 : Heap) (locs1 : List Loc), VW wdM ev s (tA u 3 i x) H1 locs1 → W p l e R s m args below meth c H1 locs1 0 0 Q (F0 m (pc + 1) ls rest)) : W p l e R s m args below meth c H locs 0 0 Q (F0 m pc ls (.int x :: .int i :: .ref (ev.2.1 4) :: rest)) :=
  va_iast (D := ev.1) (cl := vwCl) (tys := tyl ev) (ws := wM ev u) hc.1 hc.2.1 hc.2.2.2.2.2.1 hw.1 hw.2.1 hw.2.2 4 0 rfl rfl hin hd (fun H1 locs1 hP hD hS => k H1 locs1 ⟨hP, hD, hS⟩)
theorem nM4 (hc : CX wdM ev p s m c cc nL own args) (hw : VW wdM ev s u H locs) (hd : decode cc pc = .ok (.arraylength, 1)) (k : W p l e R s m args below meth c H locs 0 0 Q (F0 m (pc + 1) ls (.int (192 : Int32) :: rest))) : W p l e R s m args below meth c H locs 0 0 Q (F0 m pc ls (.ref (ev.2.1 4) :: rest)) :=
  va_alen (D := ev.1) (cl := vwCl) (tys := tyl ev) (ws := wM ev u) hc.1 hc.2.1 hc.2.2.2.2.2.1 hw.1 4 0 rfl rfl rfl hd k
theorem aM5 {i : Int32} (hc : CX wdM ev p s m c cc nL own args) (hw : VW wdM ev s u H locs) (hin : vp_in i 48) (hd : decode cc pc = .ok (.iaload, 1)) (k : W p l e R s m args below meth c H locs 0 0 Q (F0 m (pc + 1) ls (.int (gA u 4 i.toNatClampNeg) :: rest))) : W p l e R s m args below meth c H locs 0 0 Q (F0 m pc ls (.int i :: .ref (ev.2.1 5) :: rest)) :=
  va_iald (D := ev.1) (cl := vwCl) (tys := tyl ev) (ws := wM ev u) hc.1 hc.2.1 hc.2.2.2.2.2.1 hw.1 5 0 rfl rfl hin hd k
theorem tM5 {i : Int32} {x : Int32} (hc : CX wdM ev p s m c cc nL own args) (hw : VW wdM ev s u H locs) (hin : vp_in i 48) (hd : decode cc pc = .ok (.iastore, 1)) (k : ∀ (H1 : Heap) (locs1 : List Loc), VW wdM ev s (tA u 4 i x) H1 locs1 → W p l e R s m args below meth c H1 locs1 0 0 Q (F0 m (pc + 1) ls rest)) : W p l e R s m args below meth c H locs 0 0 Q (F0 m pc ls (.int x :: .int i :: .ref (ev.2.1 5) :: rest)) :=
  va_iast (D := ev.1) (cl := vwCl) (tys := tyl ev) (ws := wM ev u) hc.1 hc.2.1 hc.2.2.2.2.2.1 hw.1 hw.2.1 hw.2.2 5 0 rfl rfl hin hd (fun H1 locs1 hP hD hS => k H1 locs1 ⟨hP, hD, hS⟩)
theorem nM5 (hc : CX wdM ev p s m c cc nL own args) (hw : VW wdM ev s u H locs) (hd : decode cc pc = .ok (.arraylength, 1)) (k : W p l e R s m args below meth c H locs 0 0 Q (F0 m (pc + 1) ls (.int (48 : Int32) :: rest))) : W p l e R s m args below meth c H locs 0 0 Q (F0 m pc ls (.ref (ev.2.1 5) :: rest)) :=
  va_alen (D := ev.1) (cl := vwCl) (tys := tyl ev) (ws := wM ev u) hc.1 hc.2.1 hc.2.2.2.2.2.1 hw.1 5 0 rfl rfl rfl hd k
theorem aM6 {i : Int32} (hc : CX wdM ev p s m c cc nL own args) (hw : VW wdM ev s u H locs) (hin : vp_in i 48) (hd : decode cc pc = .ok (.iaload, 1)) (k : W p l e R s m args below meth c H locs 0 0 Q (F0 m (pc + 1) ls (.int (gA u 5 i.toNatClampNeg) :: rest))) : W p l e R s m args below meth c H locs 0 0 Q (F0 m pc ls (.int i :: .ref (ev.2.1 6) :: rest)) :=
  va_iald (D := ev.1) (cl := vwCl) (tys := tyl ev) (ws := wM ev u) hc.1 hc.2.1 hc.2.2.2.2.2.1 hw.1 6 0 rfl rfl hin hd k
theorem tM6 {i : Int32} {x : Int32} (hc : CX wdM ev p s m c cc nL own args) (hw : VW wdM ev s u H locs) (hin : vp_in i 48) (hd : decode cc pc = .ok (.iastore, 1)) (k : ∀ (H1 : Heap) (locs1 : List Loc), VW wdM ev s (tA u 5 i x) H1 locs1 → W p l e R s m args below meth c H1 locs1 0 0 Q (F0 m (pc + 1) ls rest)) : W p l e R s m args below meth c H locs 0 0 Q (F0 m pc ls (.int x :: .int i :: .ref (ev.2.1 6) :: rest)) :=
  va_iast (D := ev.1) (cl := vwCl) (tys := tyl ev) (ws := wM ev u) hc.1 hc.2.1 hc.2.2.2.2.2.1 hw.1 hw.2.1 hw.2.2 6 0 rfl rfl hin hd (fun H1 locs1 hP hD hS => k H1 locs1 ⟨hP, hD, hS⟩)
theorem nM6 (hc : CX wdM ev p s m c cc nL own args) (hw : VW wdM ev s u H locs) (hd : decode cc pc = .ok (.arraylength, 1)) (k : W p l e R s m args below meth c H locs 0 0 Q (F0 m (pc + 1) ls (.int (48 : Int32) :: rest))) : W p l e R s m args below meth c H locs 0 0 Q (F0 m pc ls (.ref (ev.2.1 6) :: rest)) :=
  va_alen (D := ev.1) (cl := vwCl) (tys := tyl ev) (ws := wM ev u) hc.1 hc.2.1 hc.2.2.2.2.2.1 hw.1 6 0 rfl rfl rfl hd k
theorem aM7 {i : Int32} (hc : CX wdM ev p s m c cc nL own args) (hw : VW wdM ev s u H locs) (hin : vp_in i 48) (hd : decode cc pc = .ok (.baload, 1)) (k : W p l e R s m args below meth c H locs 0 0 Q (F0 m (pc + 1) ls (.int (gA u 6 i.toNatClampNeg) :: rest))) : W p l e R s m args below meth c H locs 0 0 Q (F0 m pc ls (.int i :: .ref (ev.2.1 7) :: rest)) :=
  va_zald (D := ev.1) (cl := vwCl) (tys := tyl ev) (ws := wM ev u) hc.1 hc.2.1 hc.2.2.2.2.2.1 hw.1 7 2 rfl rfl hin hd k
theorem tM7 {i : Int32} {x : Int32} (hc : CX wdM ev p s m c cc nL own args) (hw : VW wdM ev s u H locs) (hin : vp_in i 48) (hd : decode cc pc = .ok (.bastore, 1)) (k : ∀ (H1 : Heap) (locs1 : List Loc), VW wdM ev s (tZ u 6 i x) H1 locs1 → W p l e R s m args below meth c H1 locs1 0 0 Q (F0 m (pc + 1) ls rest)) : W p l e R s m args below meth c H locs 0 0 Q (F0 m pc ls (.int x :: .int i :: .ref (ev.2.1 7) :: rest)) :=
  va_zast (D := ev.1) (cl := vwCl) (tys := tyl ev) (ws := wM ev u) hc.1 hc.2.1 hc.2.2.2.2.2.1 hw.1 hw.2.1 hw.2.2 7 2 rfl rfl hin hd (fun H1 locs1 hP hD hS => k H1 locs1 ⟨hP, hD, hS⟩)
theorem nM7 (hc : CX wdM ev p s m c cc nL own args) (hw : VW wdM ev s u H locs) (hd : decode cc pc = .ok (.arraylength, 1)) (k : W p l e R s m args below meth c H locs 0 0 Q (F0 m (pc + 1) ls (.int (48 : Int32) :: rest))) : W p l e R s m args below meth c H locs 0 0 Q (F0 m pc ls (.ref (ev.2.1 7) :: rest)) :=
  va_alen (D := ev.1) (cl := vwCl) (tys := tyl ev) (ws := wM ev u) hc.1 hc.2.1 hc.2.2.2.2.2.1 hw.1 7 2 rfl rfl rfl hd k
theorem aM8 {i : Int32} (hc : CX wdM ev p s m c cc nL own args) (hw : VW wdM ev s u H locs) (hin : vp_in i 48) (hd : decode cc pc = .ok (.iaload, 1)) (k : W p l e R s m args below meth c H locs 0 0 Q (F0 m (pc + 1) ls (.int (gA u 7 i.toNatClampNeg) :: rest))) : W p l e R s m args below meth c H locs 0 0 Q (F0 m pc ls (.int i :: .ref (ev.2.1 8) :: rest)) :=
  va_iald (D := ev.1) (cl := vwCl) (tys := tyl ev) (ws := wM ev u) hc.1 hc.2.1 hc.2.2.2.2.2.1 hw.1 8 0 rfl rfl hin hd k
theorem tM8 {i : Int32} {x : Int32} (hc : CX wdM ev p s m c cc nL own args) (hw : VW wdM ev s u H locs) (hin : vp_in i 48) (hd : decode cc pc = .ok (.iastore, 1)) (k : ∀ (H1 : Heap) (locs1 : List Loc), VW wdM ev s (tA u 7 i x) H1 locs1 → W p l e R s m args below meth c H1 locs1 0 0 Q (F0 m (pc + 1) ls rest)) : W p l e R s m args below meth c H locs 0 0 Q (F0 m pc ls (.int x :: .int i :: .ref (ev.2.1 8) :: rest)) :=
  va_iast (D := ev.1) (cl := vwCl) (tys := tyl ev) (ws := wM ev u) hc.1 hc.2.1 hc.2.2.2.2.2.1 hw.1 hw.2.1 hw.2.2 8 0 rfl rfl hin hd (fun H1 locs1 hP hD hS => k H1 locs1 ⟨hP, hD, hS⟩)
theorem nM8 (hc : CX wdM ev p s m c cc nL own args) (hw : VW wdM ev s u H locs) (hd : decode cc pc = .ok (.arraylength, 1)) (k : W p l e R s m args below meth c H locs 0 0 Q (F0 m (pc + 1) ls (.int (48 : Int32) :: rest))) : W p l e R s m args below meth c H locs 0 0 Q (F0 m pc ls (.ref (ev.2.1 8) :: rest)) :=
  va_alen (D := ev.1) (cl := vwCl) (tys := tyl ev) (ws := wM ev u) hc.1 hc.2.1 hc.2.2.2.2.2.1 hw.1 8 0 rfl rfl rfl hd k
theorem aM9 {i : Int32} (hc : CX wdM ev p s m c cc nL own args) (hw : VW wdM ev s u H locs) (hin : vp_in i 4) (hd : decode cc pc = .ok (.iaload, 1)) (k : W p l e R s m args below meth c H locs 0 0 Q (F0 m (pc + 1) ls (.int (gA u 8 i.toNatClampNeg) :: rest))) : W p l e R s m args below meth c H locs 0 0 Q (F0 m pc ls (.int i :: .ref (ev.2.1 9) :: rest)) :=
  va_iald (D := ev.1) (cl := vwCl) (tys := tyl ev) (ws := wM ev u) hc.1 hc.2.1 hc.2.2.2.2.2.1 hw.1 9 0 rfl rfl hin hd k
theorem tM9 {i : Int32} {x : Int32} (hc : CX wdM ev p s m c cc nL own args) (hw : VW wdM ev s u H locs) (hin : vp_in i 4) (hd : decode cc pc = .ok (.iastore, 1)) (k : ∀ (H1 : Heap) (locs1 : List Loc), VW wdM ev s (tA u 8 i x) H1 locs1 → W p l e R s m args below meth c H1 locs1 0 0 Q (F0 m (pc + 1) ls rest)) : W p l e R s m args below meth c H locs 0 0 Q (F0 m pc ls (.int x :: .int i :: .ref (ev.2.1 9) :: rest)) :=
  va_iast (D := ev.1) (cl := vwCl) (tys := tyl ev) (ws := wM ev u) hc.1 hc.2.1 hc.2.2.2.2.2.1 hw.1 hw.2.1 hw.2.2 9 0 rfl rfl hin hd (fun H1 locs1 hP hD hS => k H1 locs1 ⟨hP, hD, hS⟩)
theorem nM9 (hc : CX wdM ev p s m c cc nL own args) (hw : VW wdM ev s u H locs) (hd : decode cc pc = .ok (.arraylength, 1)) (k : W p l e R s m args below meth c H locs 0 0 Q (F0 m (pc + 1) ls (.int (4 : Int32) :: rest))) : W p l e R s m args below meth c H locs 0 0 Q (F0 m pc ls (.ref (ev.2.1 9) :: rest)) :=
  va_alen (D := ev.1) (cl := vwCl) (tys := tyl ev) (ws := wM ev u) hc.1 hc.2.1 hc.2.2.2.2.2.1 hw.1 9 0 rfl rfl rfl hd k
theorem aM10 {i : Int32} (hc : CX wdM ev p s m c cc nL own args) (hw : VW wdM ev s u H locs) (hin : vp_in i 288) (hd : decode cc pc = .ok (.iaload, 1)) (k : W p l e R s m args below meth c H locs 0 0 Q (F0 m (pc + 1) ls (.int (gA u 9 i.toNatClampNeg) :: rest))) : W p l e R s m args below meth c H locs 0 0 Q (F0 m pc ls (.int i :: .ref (ev.2.1 10) :: rest)) :=
  va_iald (D := ev.1) (cl := vwCl) (tys := tyl ev) (ws := wM ev u) hc.1 hc.2.1 hc.2.2.2.2.2.1 hw.1 10 0 rfl rfl hin hd k
theorem tM10 {i : Int32} {x : Int32} (hc : CX wdM ev p s m c cc nL own args) (hw : VW wdM ev s u H locs) (hin : vp_in i 288) (hd : decode cc pc = .ok (.iastore, 1)) (k : ∀ (H1 : Heap) (locs1 : List Loc), VW wdM ev s (tA u 9 i x) H1 locs1 → W p l e R s m args below meth c H1 locs1 0 0 Q (F0 m (pc + 1) ls rest)) : W p l e R s m args below meth c H locs 0 0 Q (F0 m pc ls (.int x :: .int i :: .ref (ev.2.1 10) :: rest)) :=
  va_iast (D := ev.1) (cl := vwCl) (tys := tyl ev) (ws := wM ev u) hc.1 hc.2.1 hc.2.2.2.2.2.1 hw.1 hw.2.1 hw.2.2 10 0 rfl rfl hin hd (fun H1 locs1 hP hD hS => k H1 locs1 ⟨hP, hD, hS⟩)
theorem nM10 (hc : CX wdM ev p s m c cc nL own args) (hw : VW wdM ev s u H locs) (hd : decode cc pc = .ok (.arraylength, 1)) (k : W p l e R s m args below meth c H locs 0 0 Q (F0 m (pc + 1) ls (.int (288 : Int32) :: rest))) : W p l e R s m args below meth c H locs 0 0 Q (F0 m pc ls (.ref (ev.2.1 10) :: rest)) :=
  va_alen (D := ev.1) (cl := vwCl) (tys := tyl ev) (ws := wM ev u) hc.1 hc.2.1 hc.2.2.2.2.2.1 hw.1 10 0 rfl rfl rfl hd k
theorem aM11 {i : Int32} (hc : CX wdM ev p s m c cc nL own args) (hw : VW wdM ev s u H locs) (hin : vp_in i 48) (hd : decode cc pc = .ok (.baload, 1)) (k : W p l e R s m args below meth c H locs 0 0 Q (F0 m (pc + 1) ls (.int (gA u 10 i.toNatClampNeg) :: rest))) : W p l e R s m args below meth c H locs 0 0 Q (F0 m pc ls (.int i :: .ref (ev.2.1 11) :: rest)) :=
  va_zald (D := ev.1) (cl := vwCl) (tys := tyl ev) (ws := wM ev u) hc.1 hc.2.1 hc.2.2.2.2.2.1 hw.1 11 2 rfl rfl hin hd k
theorem tM11 {i : Int32} {x : Int32} (hc : CX wdM ev p s m c cc nL own args) (hw : VW wdM ev s u H locs) (hin : vp_in i 48) (hd : decode cc pc = .ok (.bastore, 1)) (k : ∀ (H1 : Heap) (locs1 : List Loc), VW wdM ev s (tZ u 10 i x) H1 locs1 → W p l e R s m args below meth c H1 locs1 0 0 Q (F0 m (pc + 1) ls rest)) : W p l e R s m args below meth c H locs 0 0 Q (F0 m pc ls (.int x :: .int i :: .ref (ev.2.1 11) :: rest)) :=
  va_zast (D := ev.1) (cl := vwCl) (tys := tyl ev) (ws := wM ev u) hc.1 hc.2.1 hc.2.2.2.2.2.1 hw.1 hw.2.1 hw.2.2 11 2 rfl rfl hin hd (fun H1 locs1 hP hD hS => k H1 locs1 ⟨hP, hD, hS⟩)
theorem nM11 (hc : CX wdM ev p s m c cc nL own args) (hw : VW wdM ev s u H locs) (hd : decode cc pc = .ok (.arraylength, 1)) (k : W p l e R s m args below meth c H locs 0 0 Q (F0 m (pc + 1) ls (.int (48 : Int32) :: rest))) : W p l e R s m args below meth c H locs 0 0 Q (F0 m pc ls (.ref (ev.2.1 11) :: rest)) :=
  va_alen (D := ev.1) (cl := vwCl) (tys := tyl ev) (ws := wM ev u) hc.1 hc.2.1 hc.2.2.2.2.2.1 hw.1 11 2 rfl rfl rfl hd k
theorem aM12 {i : Int32} (hc : CX wdM ev p s m c cc nL own args) (hw : VW wdM ev s u H locs) (hin : vp_in i 8) (hd : decode cc pc = .ok (.iaload, 1)) (k : W p l e R s m args below meth c H locs 0 0 Q (F0 m (pc + 1) ls (.int (gA u 11 i.toNatClampNeg) :: rest))) : W p l e R s m args below meth c H locs 0 0 Q (F0 m pc ls (.int i :: .ref (ev.2.1 12) :: rest)) :=
  va_iald (D := ev.1) (cl := vwCl) (tys := tyl ev) (ws := wM ev u) hc.1 hc.2.1 hc.2.2.2.2.2.1 hw.1 12 0 rfl rfl hin hd k
theorem tM12 {i : Int32} {x : Int32} (hc : CX wdM ev p s m c cc nL own args) (hw : VW wdM ev s u H locs) (hin : vp_in i 8) (hd : decode cc pc = .ok (.iastore, 1)) (k : ∀ (H1 : Heap) (locs1 : List Loc), VW wdM ev s (tA u 11 i x) H1 locs1 → W p l e R s m args below meth c H1 locs1 0 0 Q (F0 m (pc + 1) ls rest)) : W p l e R s m args below meth c H locs 0 0 Q (F0 m pc ls (.int x :: .int i :: .ref (ev.2.1 12) :: rest)) :=
  va_iast (D := ev.1) (cl := vwCl) (tys := tyl ev) (ws := wM ev u) hc.1 hc.2.1 hc.2.2.2.2.2.1 hw.1 hw.2.1 hw.2.2 12 0 rfl rfl hin hd (fun H1 locs1 hP hD hS => k H1 locs1 ⟨hP, hD, hS⟩)
theorem nM12 (hc : CX wdM ev p s m c cc nL own args) (hw : VW wdM ev s u H locs) (hd : decode cc pc = .ok (.arraylength, 1)) (k : W p l e R s m args below meth c H locs 0 0 Q (F0 m (pc + 1) ls (.int (8 : Int32) :: rest))) : W p l e R s m args below meth c H locs 0 0 Q (F0 m pc ls (.ref (ev.2.1 12) :: rest)) :=
  va_alen (D := ev.1) (cl := vwCl) (tys := tyl ev) (ws := wM ev u) hc.1 hc.2.1 hc.2.2.2.2.2.1 hw.1 12 0 rfl rfl rfl hd k
theorem aM13 {i : Int32} (hc : CX wdM ev p s m c cc nL own args) (hw : VW wdM ev s u H locs) (hin : vp_in i 80) (hd : decode cc pc = .ok (.iaload, 1)) (k : W p l e R s m args below meth c H locs 0 0 Q (F0 m (pc + 1) ls (.int (gA u 12 i.toNatClampNeg) :: rest))) : W p l e R s m args below meth c H locs 0 0 Q (F0 m pc ls (.int i :: .ref (ev.2.1 13) :: rest)) :=
  va_iald (D := ev.1) (cl := vwCl) (tys := tyl ev) (ws := wM ev u) hc.1 hc.2.1 hc.2.2.2.2.2.1 hw.1 13 0 rfl rfl hin hd k
theorem tM13 {i : Int32} {x : Int32} (hc : CX wdM ev p s m c cc nL own args) (hw : VW wdM ev s u H locs) (hin : vp_in i 80) (hd : decode cc pc = .ok (.iastore, 1)) (k : ∀ (H1 : Heap) (locs1 : List Loc), VW wdM ev s (tA u 12 i x) H1 locs1 → W p l e R s m args below meth c H1 locs1 0 0 Q (F0 m (pc + 1) ls rest)) : W p l e R s m args below meth c H locs 0 0 Q (F0 m pc ls (.int x :: .int i :: .ref (ev.2.1 13) :: rest)) :=
  va_iast (D := ev.1) (cl := vwCl) (tys := tyl ev) (ws := wM ev u) hc.1 hc.2.1 hc.2.2.2.2.2.1 hw.1 hw.2.1 hw.2.2 13 0 rfl rfl hin hd (fun H1 locs1 hP hD hS => k H1 locs1 ⟨hP, hD, hS⟩)
theorem nM13 (hc : CX wdM ev p s m c cc nL own args) (hw : VW wdM ev s u H locs) (hd : decode cc pc = .ok (.arraylength, 1)) (k : W p l e R s m args below meth c H locs 0 0 Q (F0 m (pc + 1) ls (.int (80 : Int32) :: rest))) : W p l e R s m args below meth c H locs 0 0 Q (F0 m pc ls (.ref (ev.2.1 13) :: rest)) :=
  va_alen (D := ev.1) (cl := vwCl) (tys := tyl ev) (ws := wM ev u) hc.1 hc.2.1 hc.2.2.2.2.2.1 hw.1 13 0 rfl rfl rfl hd k
theorem aM14 {i : Int32} (hc : CX wdM ev p s m c cc nL own args) (hw : VW wdM ev s u H locs) (hin : vp_in i 80) (hd : decode cc pc = .ok (.iaload, 1)) (k : W p l e R s m args below meth c H locs 0 0 Q (F0 m (pc + 1) ls (.int (gA u 13 i.toNatClampNeg) :: rest))) : W p l e R s m args below meth c H locs 0 0 Q (F0 m pc ls (.int i :: .ref (ev.2.1 14) :: rest)) :=
  va_iald (D := ev.1) (cl := vwCl) (tys := tyl ev) (ws := wM ev u) hc.1 hc.2.1 hc.2.2.2.2.2.1 hw.1 14 0 rfl rfl hin hd k
theorem tM14 {i : Int32} {x : Int32} (hc : CX wdM ev p s m c cc nL own args) (hw : VW wdM ev s u H locs) (hin : vp_in i 80) (hd : decode cc pc = .ok (.iastore, 1)) (k : ∀ (H1 : Heap) (locs1 : List Loc), VW wdM ev s (tA u 13 i x) H1 locs1 → W p l e R s m args below meth c H1 locs1 0 0 Q (F0 m (pc + 1) ls rest)) : W p l e R s m args below meth c H locs 0 0 Q (F0 m pc ls (.int x :: .int i :: .ref (ev.2.1 14) :: rest)) :=
  va_iast (D := ev.1) (cl := vwCl) (tys := tyl ev) (ws := wM ev u) hc.1 hc.2.1 hc.2.2.2.2.2.1 hw.1 hw.2.1 hw.2.2 14 0 rfl rfl hin hd (fun H1 locs1 hP hD hS => k H1 locs1 ⟨hP, hD, hS⟩)
theorem nM14 (hc : CX wdM ev p s m c cc nL own args) (hw : VW wdM ev s u H locs) (hd : decode cc pc = .ok (.arraylength, 1)) (k : W p l e R s m args below meth c H locs 0 0 Q (F0 m (pc + 1) ls (.int (80 : Int32) :: rest))) : W p l e R s m args below meth c H locs 0 0 Q (F0 m pc ls (.ref (ev.2.1 14) :: rest)) :=
  va_alen (D := ev.1) (cl := vwCl) (tys := tyl ev) (ws := wM ev u) hc.1 hc.2.1 hc.2.2.2.2.2.1 hw.1 14 0 rfl rfl rfl hd k
theorem aM15 {i : Int32} (hc : CX wdM ev p s m c cc nL own args) (hw : VW wdM ev s u H locs) (hin : vp_in i 7) (hd : decode cc pc = .ok (.laload, 1)) (k : W p l e R s m args below meth c H locs 0 0 Q (F0 m (pc + 1) ls (.long (gL u 0 i.toNatClampNeg) :: rest))) : W p l e R s m args below meth c H locs 0 0 Q (F0 m pc ls (.int i :: .ref (ev.2.1 15) :: rest)) :=
  va_lald (D := ev.1) (cl := vwCl) (tys := tyl ev) (ws := wM ev u) hc.1 hc.2.1 hc.2.2.2.2.2.1 hw.1 15 1 rfl rfl hin hd k
theorem tM15 {i : Int32} {x : Int64} (hc : CX wdM ev p s m c cc nL own args) (hw : VW wdM ev s u H locs) (hin : vp_in i 7) (hd : decode cc pc = .ok (.lastore, 1)) (k : ∀ (H1 : Heap) (locs1 : List Loc), VW wdM ev s (tL u 0 i x) H1 locs1 → W p l e R s m args below meth c H1 locs1 0 0 Q (F0 m (pc + 1) ls rest)) : W p l e R s m args below meth c H locs 0 0 Q (F0 m pc ls (.long x :: .int i :: .ref (ev.2.1 15) :: rest)) :=
  va_last (D := ev.1) (cl := vwCl) (tys := tyl ev) (ws := wM ev u) hc.1 hc.2.1 hc.2.2.2.2.2.1 hw.1 hw.2.1 hw.2.2 15 1 rfl rfl hin hd (fun H1 locs1 hP hD hS => k H1 locs1 ⟨hP, hD, hS⟩)
theorem nM15 (hc : CX wdM ev p s m c cc nL own args) (hw : VW wdM ev s u H locs) (hd : decode cc pc = .ok (.arraylength, 1)) (k : W p l e R s m args below meth c H locs 0 0 Q (F0 m (pc + 1) ls (.int (7 : Int32) :: rest))) : W p l e R s m args below meth c H locs 0 0 Q (F0 m pc ls (.ref (ev.2.1 15) :: rest)) :=
  va_alen (D := ev.1) (cl := vwCl) (tys := tyl ev) (ws := wM ev u) hc.1 hc.2.1 hc.2.2.2.2.2.1 hw.1 15 1 rfl rfl rfl hd k
theorem aM16 {i : Int32} (hc : CX wdM ev p s m c cc nL own args) (hw : VW wdM ev s u H locs) (hin : vp_in i 7) (hd : decode cc pc = .ok (.laload, 1)) (k : W p l e R s m args below meth c H locs 0 0 Q (F0 m (pc + 1) ls (.long (gL u 1 i.toNatClampNeg) :: rest))) : W p l e R s m args below meth c H locs 0 0 Q (F0 m pc ls (.int i :: .ref (ev.2.1 16) :: rest)) :=
  va_lald (D := ev.1) (cl := vwCl) (tys := tyl ev) (ws := wM ev u) hc.1 hc.2.1 hc.2.2.2.2.2.1 hw.1 16 1 rfl rfl hin hd k
theorem tM16 {i : Int32} {x : Int64} (hc : CX wdM ev p s m c cc nL own args) (hw : VW wdM ev s u H locs) (hin : vp_in i 7) (hd : decode cc pc = .ok (.lastore, 1)) (k : ∀ (H1 : Heap) (locs1 : List Loc), VW wdM ev s (tL u 1 i x) H1 locs1 → W p l e R s m args below meth c H1 locs1 0 0 Q (F0 m (pc + 1) ls rest)) : W p l e R s m args below meth c H locs 0 0 Q (F0 m pc ls (.long x :: .int i :: .ref (ev.2.1 16) :: rest)) :=
  va_last (D := ev.1) (cl := vwCl) (tys := tyl ev) (ws := wM ev u) hc.1 hc.2.1 hc.2.2.2.2.2.1 hw.1 hw.2.1 hw.2.2 16 1 rfl rfl hin hd (fun H1 locs1 hP hD hS => k H1 locs1 ⟨hP, hD, hS⟩)
theorem nM16 (hc : CX wdM ev p s m c cc nL own args) (hw : VW wdM ev s u H locs) (hd : decode cc pc = .ok (.arraylength, 1)) (k : W p l e R s m args below meth c H locs 0 0 Q (F0 m (pc + 1) ls (.int (7 : Int32) :: rest))) : W p l e R s m args below meth c H locs 0 0 Q (F0 m pc ls (.ref (ev.2.1 16) :: rest)) :=
  va_alen (D := ev.1) (cl := vwCl) (tys := tyl ev) (ws := wM ev u) hc.1 hc.2.1 hc.2.2.2.2.2.1 hw.1 16 1 rfl rfl rfl hd k
theorem aM17 {i : Int32} (hc : CX wdM ev p s m c cc nL own args) (hw : VW wdM ev s u H locs) (hin : vp_in i 100) (hd : decode cc pc = .ok (.laload, 1)) (k : W p l e R s m args below meth c H locs 0 0 Q (F0 m (pc + 1) ls (.long (gL u 2 i.toNatClampNeg) :: rest))) : W p l e R s m args below meth c H locs 0 0 Q (F0 m pc ls (.int i :: .ref (ev.2.1 17) :: rest)) :=
  va_lald (D := ev.1) (cl := vwCl) (tys := tyl ev) (ws := wM ev u) hc.1 hc.2.1 hc.2.2.2.2.2.1 hw.1 17 1 rfl rfl hin hd k
theorem tM17 {i : Int32} {x : Int64} (hc : CX wdM ev p s m c cc nL own args) (hw : VW wdM ev s u H locs) (hin : vp_in i 100) (hd : decode cc pc = .ok (.lastore, 1)) (k : ∀ (H1 : Heap) (locs1 : List Loc), VW wdM ev s (tL u 2 i x) H1 locs1 → W p l e R s m args below meth c H1 locs1 0 0 Q (F0 m (pc + 1) ls rest)) : W p l e R s m args below meth c H locs 0 0 Q (F0 m pc ls (.long x :: .int i :: .ref (ev.2.1 17) :: rest)) :=
  va_last (D := ev.1) (cl := vwCl) (tys := tyl ev) (ws := wM ev u) hc.1 hc.2.1 hc.2.2.2.2.2.1 hw.1 hw.2.1 hw.2.2 17 1 rfl rfl hin hd (fun H1 locs1 hP hD hS => k H1 locs1 ⟨hP, hD, hS⟩)
theorem nM17 (hc : CX wdM ev p s m c cc nL own args) (hw : VW wdM ev s u H locs) (hd : decode cc pc = .ok (.arraylength, 1)) (k : W p l e R s m args below meth c H locs 0 0 Q (F0 m (pc + 1) ls (.int (100 : Int32) :: rest))) : W p l e R s m args below meth c H locs 0 0 Q (F0 m pc ls (.ref (ev.2.1 17) :: rest)) :=
  va_alen (D := ev.1) (cl := vwCl) (tys := tyl ev) (ws := wM ev u) hc.1 hc.2.1 hc.2.2.2.2.2.1 hw.1 17 1 rfl rfl rfl hd k
theorem aM18 {i : Int32} (hc : CX wdM ev p s m c cc nL own args) (hw : VW wdM ev s u H locs) (hin : vp_in i 100) (hd : decode cc pc = .ok (.laload, 1)) (k : W p l e R s m args below meth c H locs 0 0 Q (F0 m (pc + 1) ls (.long (gL u 3 i.toNatClampNeg) :: rest))) : W p l e R s m args below meth c H locs 0 0 Q (F0 m pc ls (.int i :: .ref (ev.2.1 18) :: rest)) :=
  va_lald (D := ev.1) (cl := vwCl) (tys := tyl ev) (ws := wM ev u) hc.1 hc.2.1 hc.2.2.2.2.2.1 hw.1 18 1 rfl rfl hin hd k
theorem tM18 {i : Int32} {x : Int64} (hc : CX wdM ev p s m c cc nL own args) (hw : VW wdM ev s u H locs) (hin : vp_in i 100) (hd : decode cc pc = .ok (.lastore, 1)) (k : ∀ (H1 : Heap) (locs1 : List Loc), VW wdM ev s (tL u 3 i x) H1 locs1 → W p l e R s m args below meth c H1 locs1 0 0 Q (F0 m (pc + 1) ls rest)) : W p l e R s m args below meth c H locs 0 0 Q (F0 m pc ls (.long x :: .int i :: .ref (ev.2.1 18) :: rest)) :=
  va_last (D := ev.1) (cl := vwCl) (tys := tyl ev) (ws := wM ev u) hc.1 hc.2.1 hc.2.2.2.2.2.1 hw.1 hw.2.1 hw.2.2 18 1 rfl rfl hin hd (fun H1 locs1 hP hD hS => k H1 locs1 ⟨hP, hD, hS⟩)
theorem nM18 (hc : CX wdM ev p s m c cc nL own args) (hw : VW wdM ev s u H locs) (hd : decode cc pc = .ok (.arraylength, 1)) (k : W p l e R s m args below meth c H locs 0 0 Q (F0 m (pc + 1) ls (.int (100 : Int32) :: rest))) : W p l e R s m args below meth c H locs 0 0 Q (F0 m pc ls (.ref (ev.2.1 18) :: rest)) :=
  va_alen (D := ev.1) (cl := vwCl) (tys := tyl ev) (ws := wM ev u) hc.1 hc.2.1 hc.2.2.2.2.2.1 hw.1 18 1 rfl rfl rfl hd k
theorem aM19 {i : Int32} (hc : CX wdM ev p s m c cc nL own args) (hw : VW wdM ev s u H locs) (hin : vp_in i 100) (hd : decode cc pc = .ok (.iaload, 1)) (k : W p l e R s m args below meth c H locs 0 0 Q (F0 m (pc + 1) ls (.int (gA u 14 i.toNatClampNeg) :: rest))) : W p l e R s m args below meth c H locs 0 0 Q (F0 m pc ls (.int i :: .ref (ev.2.1 19) :: rest)) :=
  va_iald (D := ev.1) (cl := vwCl) (tys := tyl ev) (ws := wM ev u) hc.1 hc.2.1 hc.2.2.2.2.2.1 hw.1 19 0 rfl rfl hin hd k
theorem tM19 {i : Int32} {x : Int32} (hc : CX wdM ev p s m c cc nL own args) (hw : VW wdM ev s u H locs) (hin : vp_in i 100) (hd : decode cc pc = .ok (.iastore, 1)) (k : ∀ (H1 : Heap) (locs1 : List Loc), VW wdM ev s (tA u 14 i x) H1 locs1 → W p l e R s m args below meth c H1 locs1 0 0 Q (F0 m (pc + 1) ls rest)) : W p l e R s m args below meth c H locs 0 0 Q (F0 m pc ls (.int x :: .int i :: .ref (ev.2.1 19) :: rest)) :=
  va_iast (D := ev.1) (cl := vwCl) (tys := tyl ev) (ws := wM ev u) hc.1 hc.2.1 hc.2.2.2.2.2.1 hw.1 hw.2.1 hw.2.2 19 0 rfl rfl hin hd (fun H1 locs1 hP hD hS => k H1 locs1 ⟨hP, hD, hS⟩)
theorem nM19 (hc : CX wdM ev p s m c cc nL own args) (hw : VW wdM ev s u H locs) (hd : decode cc pc = .ok (.arraylength, 1)) (k : W p l e R s m args below meth c H locs 0 0 Q (F0 m (pc + 1) ls (.int (100 : Int32) :: rest))) : W p l e R s m args below meth c H locs 0 0 Q (F0 m pc ls (.ref (ev.2.1 19) :: rest)) :=
  va_alen (D := ev.1) (cl := vwCl) (tys := tyl ev) (ws := wM ev u) hc.1 hc.2.1 hc.2.2.2.2.2.1 hw.1 19 0 rfl rfl rfl hd k
theorem aM20 {i : Int32} (hc : CX wdM ev p s m c cc nL own args) (hw : VW wdM ev s u H locs) (hin : vp_in i 8) (hd : decode cc pc = .ok (.iaload, 1)) (k : W p l e R s m args below meth c H locs 0 0 Q (F0 m (pc + 1) ls (.int (gA u 15 i.toNatClampNeg) :: rest))) : W p l e R s m args below meth c H locs 0 0 Q (F0 m pc ls (.int i :: .ref (ev.2.1 20) :: rest)) :=
  va_iald (D := ev.1) (cl := vwCl) (tys := tyl ev) (ws := wM ev u) hc.1 hc.2.1 hc.2.2.2.2.2.1 hw.1 20 0 rfl rfl hin hd k
theorem tM20 {i : Int32} {x : Int32} (hc : CX wdM ev p s m c cc nL own args) (hw : VW wdM ev s u H locs) (hin : vp_in i 8) (hd : decode cc pc = .ok (.iastore, 1)) (k : ∀ (H1 : Heap) (locs1 : List Loc), VW wdM ev s (tA u 15 i x) H1 locs1 → W p l e R s m args below meth c H1 locs1 0 0 Q (F0 m (pc + 1) ls rest)) : W p l e R s m args below meth c H locs 0 0 Q (F0 m pc ls (.int x :: .int i :: .ref (ev.2.1 20) :: rest)) :=
  va_iast (D := ev.1) (cl := vwCl) (tys := tyl ev) (ws := wM ev u) hc.1 hc.2.1 hc.2.2.2.2.2.1 hw.1 hw.2.1 hw.2.2 20 0 rfl rfl hin hd (fun H1 locs1 hP hD hS => k H1 locs1 ⟨hP, hD, hS⟩)
theorem nM20 (hc : CX wdM ev p s m c cc nL own args) (hw : VW wdM ev s u H locs) (hd : decode cc pc = .ok (.arraylength, 1)) (k : W p l e R s m args below meth c H locs 0 0 Q (F0 m (pc + 1) ls (.int (8 : Int32) :: rest))) : W p l e R s m args below meth c H locs 0 0 Q (F0 m pc ls (.ref (ev.2.1 20) :: rest)) :=
  va_alen (D := ev.1) (cl := vwCl) (tys := tyl ev) (ws := wM ev u) hc.1 hc.2.1 hc.2.2.2.2.2.1 hw.1 20 0 rfl rfl rfl hd k
theorem aM21 {i : Int32} (hc : CX wdM ev p s m c cc nL own args) (hw : VW wdM ev s u H locs) (hin : vp_in i 8) (hd : decode cc pc = .ok (.iaload, 1)) (k : W p l e R s m args below meth c H locs 0 0 Q (F0 m (pc + 1) ls (.int (gA u 16 i.toNatClampNeg) :: rest))) : W p l e R s m args below meth c H locs 0 0 Q (F0 m pc ls (.int i :: .ref (ev.2.1 21) :: rest)) :=
  va_iald (D := ev.1) (cl := vwCl) (tys := tyl ev) (ws := wM ev u) hc.1 hc.2.1 hc.2.2.2.2.2.1 hw.1 21 0 rfl rfl hin hd k
theorem tM21 {i : Int32} {x : Int32} (hc : CX wdM ev p s m c cc nL own args) (hw : VW wdM ev s u H locs) (hin : vp_in i 8) (hd : decode cc pc = .ok (.iastore, 1)) (k : ∀ (H1 : Heap) (locs1 : List Loc), VW wdM ev s (tA u 16 i x) H1 locs1 → W p l e R s m args below meth c H1 locs1 0 0 Q (F0 m (pc + 1) ls rest)) : W p l e R s m args below meth c H locs 0 0 Q (F0 m pc ls (.int x :: .int i :: .ref (ev.2.1 21) :: rest)) :=
  va_iast (D := ev.1) (cl := vwCl) (tys := tyl ev) (ws := wM ev u) hc.1 hc.2.1 hc.2.2.2.2.2.1 hw.1 hw.2.1 hw.2.2 21 0 rfl rfl hin hd (fun H1 locs1 hP hD hS => k H1 locs1 ⟨hP, hD, hS⟩)
theorem nM21 (hc : CX wdM ev p s m c cc nL own args) (hw : VW wdM ev s u H locs) (hd : decode cc pc = .ok (.arraylength, 1)) (k : W p l e R s m args below meth c H locs 0 0 Q (F0 m (pc + 1) ls (.int (8 : Int32) :: rest))) : W p l e R s m args below meth c H locs 0 0 Q (F0 m pc ls (.ref (ev.2.1 21) :: rest)) :=
  va_alen (D := ev.1) (cl := vwCl) (tys := tyl ev) (ws := wM ev u) hc.1 hc.2.1 hc.2.2.2.2.2.1 hw.1 21 0 rfl rfl rfl hd k
theorem aM22 {i : Int32} (hc : CX wdM ev p s m c cc nL own args) (hw : VW wdM ev s u H locs) (hin : vp_in i 56) (hd : decode cc pc = .ok (.iaload, 1)) (k : W p l e R s m args below meth c H locs 0 0 Q (F0 m (pc + 1) ls (.int (gA u 17 i.toNatClampNeg) :: rest))) : W p l e R s m args below meth c H locs 0 0 Q (F0 m pc ls (.int i :: .ref (ev.2.1 22) :: rest)) :=
  va_iald (D := ev.1) (cl := vwCl) (tys := tyl ev) (ws := wM ev u) hc.1 hc.2.1 hc.2.2.2.2.2.1 hw.1 22 0 rfl rfl hin hd k
theorem tM22 {i : Int32} {x : Int32} (hc : CX wdM ev p s m c cc nL own args) (hw : VW wdM ev s u H locs) (hin : vp_in i 56) (hd : decode cc pc = .ok (.iastore, 1)) (k : ∀ (H1 : Heap) (locs1 : List Loc), VW wdM ev s (tA u 17 i x) H1 locs1 → W p l e R s m args below meth c H1 locs1 0 0 Q (F0 m (pc + 1) ls rest)) : W p l e R s m args below meth c H locs 0 0 Q (F0 m pc ls (.int x :: .int i :: .ref (ev.2.1 22) :: rest)) :=
  va_iast (D := ev.1) (cl := vwCl) (tys := tyl ev) (ws := wM ev u) hc.1 hc.2.1 hc.2.2.2.2.2.1 hw.1 hw.2.1 hw.2.2 22 0 rfl rfl hin hd (fun H1 locs1 hP hD hS => k H1 locs1 ⟨hP, hD, hS⟩)
theorem nM22 (hc : CX wdM ev p s m c cc nL own args) (hw : VW wdM ev s u H locs) (hd : decode cc pc = .ok (.arraylength, 1)) (k : W p l e R s m args below meth c H locs 0 0 Q (F0 m (pc + 1) ls (.int (56 : Int32) :: rest))) : W p l e R s m args below meth c H locs 0 0 Q (F0 m pc ls (.ref (ev.2.1 22) :: rest)) :=
  va_alen (D := ev.1) (cl := vwCl) (tys := tyl ev) (ws := wM ev u) hc.1 hc.2.1 hc.2.2.2.2.2.1 hw.1 22 0 rfl rfl rfl hd k
theorem aM23 {i : Int32} (hc : CX wdM ev p s m c cc nL own args) (hw : VW wdM ev s u H locs) (hin : vp_in i 6) (hd : decode cc pc = .ok (.iaload, 1)) (k : W p l e R s m args below meth c H locs 0 0 Q (F0 m (pc + 1) ls (.int (gA u 18 i.toNatClampNeg) :: rest))) : W p l e R s m args below meth c H locs 0 0 Q (F0 m pc ls (.int i :: .ref (ev.2.1 23) :: rest)) :=
  va_iald (D := ev.1) (cl := vwCl) (tys := tyl ev) (ws := wM ev u) hc.1 hc.2.1 hc.2.2.2.2.2.1 hw.1 23 0 rfl rfl hin hd k
theorem tM23 {i : Int32} {x : Int32} (hc : CX wdM ev p s m c cc nL own args) (hw : VW wdM ev s u H locs) (hin : vp_in i 6) (hd : decode cc pc = .ok (.iastore, 1)) (k : ∀ (H1 : Heap) (locs1 : List Loc), VW wdM ev s (tA u 18 i x) H1 locs1 → W p l e R s m args below meth c H1 locs1 0 0 Q (F0 m (pc + 1) ls rest)) : W p l e R s m args below meth c H locs 0 0 Q (F0 m pc ls (.int x :: .int i :: .ref (ev.2.1 23) :: rest)) :=
  va_iast (D := ev.1) (cl := vwCl) (tys := tyl ev) (ws := wM ev u) hc.1 hc.2.1 hc.2.2.2.2.2.1 hw.1 hw.2.1 hw.2.2 23 0 rfl rfl hin hd (fun H1 locs1 hP hD hS => k H1 locs1 ⟨hP, hD, hS⟩)
theorem nM23 (hc : CX wdM ev p s m c cc nL own args) (hw : VW wdM ev s u H locs) (hd : decode cc pc = .ok (.arraylength, 1)) (k : W p l e R s m args below meth c H locs 0 0 Q (F0 m (pc + 1) ls (.int (6 : Int32) :: rest))) : W p l e R s m args below meth c H locs 0 0 Q (F0 m pc ls (.ref (ev.2.1 23) :: rest)) :=
  va_alen (D := ev.1) (cl := vwCl) (tys := tyl ev) (ws := wM ev u) hc.1 hc.2.1 hc.2.2.2.2.2.1 hw.1 23 0 rfl rfl rfl hd k
theorem aM24 {i : Int32} (hc : CX wdM ev p s m c cc nL own args) (hw : VW wdM ev s u H locs) (hin : vp_in i 48) (hd : decode cc pc = .ok (.iaload, 1)) (k : W p l e R s m args below meth c H locs 0 0 Q (F0 m (pc + 1) ls (.int (gA u 19 i.toNatClampNeg) :: rest))) : W p l e R s m args below meth c H locs 0 0 Q (F0 m pc ls (.int i :: .ref (ev.2.1 24) :: rest)) :=
  va_iald (D := ev.1) (cl := vwCl) (tys := tyl ev) (ws := wM ev u) hc.1 hc.2.1 hc.2.2.2.2.2.1 hw.1 24 0 rfl rfl hin hd k
theorem tM24 {i : Int32} {x : Int32} (hc : CX wdM ev p s m c cc nL own args) (hw : VW wdM ev s u H locs) (hin : vp_in i 48) (hd : decode cc pc = .ok (.iastore, 1)) (k : ∀ (H1 : Heap) (locs1 : List Loc), VW wdM ev s (tA u 19 i x) H1 locs1 → W p l e R s m args below meth c H1 locs1 0 0 Q (F0 m (pc + 1) ls rest)) : W p l e R s m args below meth c H locs 0 0 Q (F0 m pc ls (.int x :: .int i :: .ref (ev.2.1 24) :: rest)) :=
  va_iast (D := ev.1) (cl := vwCl) (tys := tyl ev) (ws := wM ev u) hc.1 hc.2.1 hc.2.2.2.2.2.1 hw.1 hw.2.1 hw.2.2 24 0 rfl rfl hin hd (fun H1 locs1 hP hD hS => k H1 locs1 ⟨hP, hD, hS⟩)
theorem nM24 (hc : CX wdM ev p s m c cc nL own args) (hw : VW wdM ev s u H locs) (hd : decode cc pc = .ok (.arraylength, 1)) (k : W p l e R s m args below meth c H locs 0 0 Q (F0 m (pc + 1) ls (.int (48 : Int32) :: rest))) : W p l e R s m args below meth c H locs 0 0 Q (F0 m pc ls (.ref (ev.2.1 24) :: rest)) :=
  va_alen (D := ev.1) (cl := vwCl) (tys := tyl ev) (ws := wM ev u) hc.1 hc.2.1 hc.2.2.2.2.2.1 hw.1 24 0 rfl rfl rfl hd k
theorem aM25 {i : Int32} (hc : CX wdM ev p s m c cc nL own args) (hw : VW wdM ev s u H locs) (hin : vp_in i 6) (hd : decode cc pc = .ok (.iaload, 1)) (k : W p l e R s m args below meth c H locs 0 0 Q (F0 m (pc + 1) ls (.int (gA u 20 i.toNatClampNeg) :: rest))) : W p l e R s m args below meth c H locs 0 0 Q (F0 m pc ls (.int i :: .ref (ev.2.1 25) :: rest)) :=
  va_iald (D := ev.1) (cl := vwCl) (tys := tyl ev) (ws := wM ev u) hc.1 hc.2.1 hc.2.2.2.2.2.1 hw.1 25 0 rfl rfl hin hd k
theorem tM25 {i : Int32} {x : Int32} (hc : CX wdM ev p s m c cc nL own args) (hw : VW wdM ev s u H locs) (hin : vp_in i 6) (hd : decode cc pc = .ok (.iastore, 1)) (k : ∀ (H1 : Heap) (locs1 : List Loc), VW wdM ev s (tA u 20 i x) H1 locs1 → W p l e R s m args below meth c H1 locs1 0 0 Q (F0 m (pc + 1) ls rest)) : W p l e R s m args below meth c H locs 0 0 Q (F0 m pc ls (.int x :: .int i :: .ref (ev.2.1 25) :: rest)) :=
  va_iast (D := ev.1) (cl := vwCl) (tys := tyl ev) (ws := wM ev u) hc.1 hc.2.1 hc.2.2.2.2.2.1 hw.1 hw.2.1 hw.2.2 25 0 rfl rfl hin hd (fun H1 locs1 hP hD hS => k H1 locs1 ⟨hP, hD, hS⟩)
theorem nM25 (hc : CX wdM ev p s m c cc nL own args) (hw : VW wdM ev s u H locs) (hd : decode cc pc = .ok (.arraylength, 1)) (k : W p l e R s m args below meth c H locs 0 0 Q (F0 m (pc + 1) ls (.int (6 : Int32) :: rest))) : W p l e R s m args below meth c H locs 0 0 Q (F0 m pc ls (.ref (ev.2.1 25) :: rest)) :=
  va_alen (D := ev.1) (cl := vwCl) (tys := tyl ev) (ws := wM ev u) hc.1 hc.2.1 hc.2.2.2.2.2.1 hw.1 25 0 rfl rfl rfl hd k
theorem aM26 {i : Int32} (hc : CX wdM ev p s m c cc nL own args) (hw : VW wdM ev s u H locs) (hin : vp_in i 6) (hd : decode cc pc = .ok (.iaload, 1)) (k : W p l e R s m args below meth c H locs 0 0 Q (F0 m (pc + 1) ls (.int (gA u 21 i.toNatClampNeg) :: rest))) : W p l e R s m args below meth c H locs 0 0 Q (F0 m pc ls (.int i :: .ref (ev.2.1 26) :: rest)) :=
  va_iald (D := ev.1) (cl := vwCl) (tys := tyl ev) (ws := wM ev u) hc.1 hc.2.1 hc.2.2.2.2.2.1 hw.1 26 0 rfl rfl hin hd k
theorem tM26 {i : Int32} {x : Int32} (hc : CX wdM ev p s m c cc nL own args) (hw : VW wdM ev s u H locs) (hin : vp_in i 6) (hd : decode cc pc = .ok (.iastore, 1)) (k : ∀ (H1 : Heap) (locs1 : List Loc), VW wdM ev s (tA u 21 i x) H1 locs1 → W p l e R s m args below meth c H1 locs1 0 0 Q (F0 m (pc + 1) ls rest)) : W p l e R s m args below meth c H locs 0 0 Q (F0 m pc ls (.int x :: .int i :: .ref (ev.2.1 26) :: rest)) :=
  va_iast (D := ev.1) (cl := vwCl) (tys := tyl ev) (ws := wM ev u) hc.1 hc.2.1 hc.2.2.2.2.2.1 hw.1 hw.2.1 hw.2.2 26 0 rfl rfl hin hd (fun H1 locs1 hP hD hS => k H1 locs1 ⟨hP, hD, hS⟩)
theorem nM26 (hc : CX wdM ev p s m c cc nL own args) (hw : VW wdM ev s u H locs) (hd : decode cc pc = .ok (.arraylength, 1)) (k : W p l e R s m args below meth c H locs 0 0 Q (F0 m (pc + 1) ls (.int (6 : Int32) :: rest))) : W p l e R s m args below meth c H locs 0 0 Q (F0 m pc ls (.ref (ev.2.1 26) :: rest)) :=
  va_alen (D := ev.1) (cl := vwCl) (tys := tyl ev) (ws := wM ev u) hc.1 hc.2.1 hc.2.2.2.2.2.1 hw.1 26 0 rfl rfl rfl hd k
theorem aM27 {i : Int32} (hc : CX wdM ev p s m c cc nL own args) (hw : VW wdM ev s u H locs) (hin : vp_in i 8) (hd : decode cc pc = .ok (.iaload, 1)) (k : W p l e R s m args below meth c H locs 0 0 Q (F0 m (pc + 1) ls (.int (gA u 22 i.toNatClampNeg) :: rest))) : W p l e R s m args below meth c H locs 0 0 Q (F0 m pc ls (.int i :: .ref (ev.2.1 27) :: rest)) :=
  va_iald (D := ev.1) (cl := vwCl) (tys := tyl ev) (ws := wM ev u) hc.1 hc.2.1 hc.2.2.2.2.2.1 hw.1 27 0 rfl rfl hin hd k
theorem tM27 {i : Int32} {x : Int32} (hc : CX wdM ev p s m c cc nL own args) (hw : VW wdM ev s u H locs) (hin : vp_in i 8) (hd : decode cc pc = .ok (.iastore, 1)) (k : ∀ (H1 : Heap) (locs1 : List Loc), VW wdM ev s (tA u 22 i x) H1 locs1 → W p l e R s m args below meth c H1 locs1 0 0 Q (F0 m (pc + 1) ls rest)) : W p l e R s m args below meth c H locs 0 0 Q (F0 m pc ls (.int x :: .int i :: .ref (ev.2.1 27) :: rest)) :=
  va_iast (D := ev.1) (cl := vwCl) (tys := tyl ev) (ws := wM ev u) hc.1 hc.2.1 hc.2.2.2.2.2.1 hw.1 hw.2.1 hw.2.2 27 0 rfl rfl hin hd (fun H1 locs1 hP hD hS => k H1 locs1 ⟨hP, hD, hS⟩)
theorem nM27 (hc : CX wdM ev p s m c cc nL own args) (hw : VW wdM ev s u H locs) (hd : decode cc pc = .ok (.arraylength, 1)) (k : W p l e R s m args below meth c H locs 0 0 Q (F0 m (pc + 1) ls (.int (8 : Int32) :: rest))) : W p l e R s m args below meth c H locs 0 0 Q (F0 m pc ls (.ref (ev.2.1 27) :: rest)) :=
  va_alen (D := ev.1) (cl := vwCl) (tys := tyl ev) (ws := wM ev u) hc.1 hc.2.1 hc.2.2.2.2.2.1 hw.1 27 0 rfl rfl rfl hd k
theorem aM28 {i : Int32} (hc : CX wdM ev p s m c cc nL own args) (hw : VW wdM ev s u H locs) (hin : vp_in i 8) (hd : decode cc pc = .ok (.iaload, 1)) (k : W p l e R s m args below meth c H locs 0 0 Q (F0 m (pc + 1) ls (.int (gA u 23 i.toNatClampNeg) :: rest))) : W p l e R s m args below meth c H locs 0 0 Q (F0 m pc ls (.int i :: .ref (ev.2.1 28) :: rest)) :=
  va_iald (D := ev.1) (cl := vwCl) (tys := tyl ev) (ws := wM ev u) hc.1 hc.2.1 hc.2.2.2.2.2.1 hw.1 28 0 rfl rfl hin hd k
theorem tM28 {i : Int32} {x : Int32} (hc : CX wdM ev p s m c cc nL own args) (hw : VW wdM ev s u H locs) (hin : vp_in i 8) (hd : decode cc pc = .ok (.iastore, 1)) (k : ∀ (H1 : Heap) (locs1 : List Loc), VW wdM ev s (tA u 23 i x) H1 locs1 → W p l e R s m args below meth c H1 locs1 0 0 Q (F0 m (pc + 1) ls rest)) : W p l e R s m args below meth c H locs 0 0 Q (F0 m pc ls (.int x :: .int i :: .ref (ev.2.1 28) :: rest)) :=
  va_iast (D := ev.1) (cl := vwCl) (tys := tyl ev) (ws := wM ev u) hc.1 hc.2.1 hc.2.2.2.2.2.1 hw.1 hw.2.1 hw.2.2 28 0 rfl rfl hin hd (fun H1 locs1 hP hD hS => k H1 locs1 ⟨hP, hD, hS⟩)
theorem nM28 (hc : CX wdM ev p s m c cc nL own args) (hw : VW wdM ev s u H locs) (hd : decode cc pc = .ok (.arraylength, 1)) (k : W p l e R s m args below meth c H locs 0 0 Q (F0 m (pc + 1) ls (.int (8 : Int32) :: rest))) : W p l e R s m args below meth c H locs 0 0 Q (F0 m pc ls (.ref (ev.2.1 28) :: rest)) :=
  va_alen (D := ev.1) (cl := vwCl) (tys := tyl ev) (ws := wM ev u) hc.1 hc.2.1 hc.2.2.2.2.2.1 hw.1 28 0 rfl rfl rfl hd k
theorem aM29 {i : Int32} (hc : CX wdM ev p s m c cc nL own args) (hw : VW wdM ev s u H locs) (hin : vp_in i 6) (hd : decode cc pc = .ok (.iaload, 1)) (k : W p l e R s m args below meth c H locs 0 0 Q (F0 m (pc + 1) ls (.int (gA u 24 i.toNatClampNeg) :: rest))) : W p l e R s m args below meth c H locs 0 0 Q (F0 m pc ls (.int i :: .ref (ev.2.1 29) :: rest)) :=
  va_iald (D := ev.1) (cl := vwCl) (tys := tyl ev) (ws := wM ev u) hc.1 hc.2.1 hc.2.2.2.2.2.1 hw.1 29 0 rfl rfl hin hd k
theorem tM29 {i : Int32} {x : Int32} (hc : CX wdM ev p s m c cc nL own args) (hw : VW wdM ev s u H locs) (hin : vp_in i 6) (hd : decode cc pc = .ok (.iastore, 1)) (k : ∀ (H1 : Heap) (locs1 : List Loc), VW wdM ev s (tA u 24 i x) H1 locs1 → W p l e R s m args below meth c H1 locs1 0 0 Q (F0 m (pc + 1) ls rest)) : W p l e R s m args below meth c H locs 0 0 Q (F0 m pc ls (.int x :: .int i :: .ref (ev.2.1 29) :: rest)) :=
  va_iast (D := ev.1) (cl := vwCl) (tys := tyl ev) (ws := wM ev u) hc.1 hc.2.1 hc.2.2.2.2.2.1 hw.1 hw.2.1 hw.2.2 29 0 rfl rfl hin hd (fun H1 locs1 hP hD hS => k H1 locs1 ⟨hP, hD, hS⟩)
theorem nM29 (hc : CX wdM ev p s m c cc nL own args) (hw : VW wdM ev s u H locs) (hd : decode cc pc = .ok (.arraylength, 1)) (k : W p l e R s m args below meth c H locs 0 0 Q (F0 m (pc + 1) ls (.int (6 : Int32) :: rest))) : W p l e R s m args below meth c H locs 0 0 Q (F0 m pc ls (.ref (ev.2.1 29) :: rest)) :=
  va_alen (D := ev.1) (cl := vwCl) (tys := tyl ev) (ws := wM ev u) hc.1 hc.2.1 hc.2.2.2.2.2.1 hw.1 29 0 rfl rfl rfl hd k
theorem aM30 {i : Int32} (hc : CX wdM ev p s m c cc nL own args) (hw : VW wdM ev s u H locs) (hin : vp_in i 6) (hd : decode cc pc = .ok (.iaload, 1)) (k : W p l e R s m args below meth c H locs 0 0 Q (F0 m (pc + 1) ls (.int (gA u 25 i.toNatClampNeg) :: rest))) : W p l e R s m args below meth c H locs 0 0 Q (F0 m pc ls (.int i :: .ref (ev.2.1 30) :: rest)) :=
  va_iald (D := ev.1) (cl := vwCl) (tys := tyl ev) (ws := wM ev u) hc.1 hc.2.1 hc.2.2.2.2.2.1 hw.1 30 0 rfl rfl hin hd k
theorem tM30 {i : Int32} {x : Int32} (hc : CX wdM ev p s m c cc nL own args) (hw : VW wdM ev s u H locs) (hin : vp_in i 6) (hd : decode cc pc = .ok (.iastore, 1)) (k : ∀ (H1 : Heap) (locs1 : List Loc), VW wdM ev s (tA u 25 i x) H1 locs1 → W p l e R s m args below meth c H1 locs1 0 0 Q (F0 m (pc + 1) ls rest)) : W p l e R s m args below meth c H locs 0 0 Q (F0 m pc ls (.int x :: .int i :: .ref (ev.2.1 30) :: rest)) :=
  va_iast (D := ev.1) (cl := vwCl) (tys := tyl ev) (ws := wM ev u) hc.1 hc.2.1 hc.2.2.2.2.2.1 hw.1 hw.2.1 hw.2.2 30 0 rfl rfl hin hd (fun H1 locs1 hP hD hS => k H1 locs1 ⟨hP, hD, hS⟩)
theorem nM30 (hc : CX wdM ev p s m c cc nL own args) (hw : VW wdM ev s u H locs) (hd : decode cc pc = .ok (.arraylength, 1)) (k : W p l e R s m args below meth c H locs 0 0 Q (F0 m (pc + 1) ls (.int (6 : Int32) :: rest))) : W p l e R s m args below meth c H locs 0 0 Q (F0 m pc ls (.ref (ev.2.1 30) :: rest)) :=
  va_alen (D := ev.1) (cl := vwCl) (tys := tyl ev) (ws := wM ev u) hc.1 hc.2.1 hc.2.2.2.2.2.1 hw.1 30 0 rfl rfl rfl hd k
theorem aM31 {i : Int32} (hc : CX wdM ev p s m c cc nL own args) (hw : VW wdM ev s u H locs) (hin : vp_in i 6) (hd : decode cc pc = .ok (.iaload, 1)) (k : W p l e R s m args below meth c H locs 0 0 Q (F0 m (pc + 1) ls (.int (gA u 26 i.toNatClampNeg) :: rest))) : W p l e R s m args below meth c H locs 0 0 Q (F0 m pc ls (.int i :: .ref (ev.2.1 31) :: rest)) :=
  va_iald (D := ev.1) (cl := vwCl) (tys := tyl ev) (ws := wM ev u) hc.1 hc.2.1 hc.2.2.2.2.2.1 hw.1 31 0 rfl rfl hin hd k
theorem tM31 {i : Int32} {x : Int32} (hc : CX wdM ev p s m c cc nL own args) (hw : VW wdM ev s u H locs) (hin : vp_in i 6) (hd : decode cc pc = .ok (.iastore, 1)) (k : ∀ (H1 : Heap) (locs1 : List Loc), VW wdM ev s (tA u 26 i x) H1 locs1 → W p l e R s m args below meth c H1 locs1 0 0 Q (F0 m (pc + 1) ls rest)) : W p l e R s m args below meth c H locs 0 0 Q (F0 m pc ls (.int x :: .int i :: .ref (ev.2.1 31) :: rest)) :=
  va_iast (D := ev.1) (cl := vwCl) (tys := tyl ev) (ws := wM ev u) hc.1 hc.2.1 hc.2.2.2.2.2.1 hw.1 hw.2.1 hw.2.2 31 0 rfl rfl hin hd (fun H1 locs1 hP hD hS => k H1 locs1 ⟨hP, hD, hS⟩)
theorem nM31 (hc : CX wdM ev p s m c cc nL own args) (hw : VW wdM ev s u H locs) (hd : decode cc pc = .ok (.arraylength, 1)) (k : W p l e R s m args below meth c H locs 0 0 Q (F0 m (pc + 1) ls (.int (6 : Int32) :: rest))) : W p l e R s m args below meth c H locs 0 0 Q (F0 m pc ls (.ref (ev.2.1 31) :: rest)) :=
  va_alen (D := ev.1) (cl := vwCl) (tys := tyl ev) (ws := wM ev u) hc.1 hc.2.1 hc.2.2.2.2.2.1 hw.1 31 0 rfl rfl rfl hd k
theorem aM32 {i : Int32} (hc : CX wdM ev p s m c cc nL own args) (hw : VW wdM ev s u H locs) (hin : vp_in i 20) (hd : decode cc pc = .ok (.iaload, 1)) (k : W p l e R s m args below meth c H locs 0 0 Q (F0 m (pc + 1) ls (.int (gA u 27 i.toNatClampNeg) :: rest))) : W p l e R s m args below meth c H locs 0 0 Q (F0 m pc ls (.int i :: .ref (ev.2.1 32) :: rest)) :=
  va_iald (D := ev.1) (cl := vwCl) (tys := tyl ev) (ws := wM ev u) hc.1 hc.2.1 hc.2.2.2.2.2.1 hw.1 32 0 rfl rfl hin hd k
theorem tM32 {i : Int32} {x : Int32} (hc : CX wdM ev p s m c cc nL own args) (hw : VW wdM ev s u H locs) (hin : vp_in i 20) (hd : decode cc pc = .ok (.iastore, 1)) (k : ∀ (H1 : Heap) (locs1 : List Loc), VW wdM ev s (tA u 27 i x) H1 locs1 → W p l e R s m args below meth c H1 locs1 0 0 Q (F0 m (pc + 1) ls rest)) : W p l e R s m args below meth c H locs 0 0 Q (F0 m pc ls (.int x :: .int i :: .ref (ev.2.1 32) :: rest)) :=
  va_iast (D := ev.1) (cl := vwCl) (tys := tyl ev) (ws := wM ev u) hc.1 hc.2.1 hc.2.2.2.2.2.1 hw.1 hw.2.1 hw.2.2 32 0 rfl rfl hin hd (fun H1 locs1 hP hD hS => k H1 locs1 ⟨hP, hD, hS⟩)
theorem nM32 (hc : CX wdM ev p s m c cc nL own args) (hw : VW wdM ev s u H locs) (hd : decode cc pc = .ok (.arraylength, 1)) (k : W p l e R s m args below meth c H locs 0 0 Q (F0 m (pc + 1) ls (.int (20 : Int32) :: rest))) : W p l e R s m args below meth c H locs 0 0 Q (F0 m pc ls (.ref (ev.2.1 32) :: rest)) :=
  va_alen (D := ev.1) (cl := vwCl) (tys := tyl ev) (ws := wM ev u) hc.1 hc.2.1 hc.2.2.2.2.2.1 hw.1 32 0 rfl rfl rfl hd k
theorem aM33 {i : Int32} (hc : CX wdM ev p s m c cc nL own args) (hw : VW wdM ev s u H locs) (hin : vp_in i 20) (hd : decode cc pc = .ok (.iaload, 1)) (k : W p l e R s m args below meth c H locs 0 0 Q (F0 m (pc + 1) ls (.int (gA u 28 i.toNatClampNeg) :: rest))) : W p l e R s m args below meth c H locs 0 0 Q (F0 m pc ls (.int i :: .ref (ev.2.1 33) :: rest)) :=
  va_iald (D := ev.1) (cl := vwCl) (tys := tyl ev) (ws := wM ev u) hc.1 hc.2.1 hc.2.2.2.2.2.1 hw.1 33 0 rfl rfl hin hd k
theorem tM33 {i : Int32} {x : Int32} (hc : CX wdM ev p s m c cc nL own args) (hw : VW wdM ev s u H locs) (hin : vp_in i 20) (hd : decode cc pc = .ok (.iastore, 1)) (k : ∀ (H1 : Heap) (locs1 : List Loc), VW wdM ev s (tA u 28 i x) H1 locs1 → W p l e R s m args below meth c H1 locs1 0 0 Q (F0 m (pc + 1) ls rest)) : W p l e R s m args below meth c H locs 0 0 Q (F0 m pc ls (.int x :: .int i :: .ref (ev.2.1 33) :: rest)) :=
  va_iast (D := ev.1) (cl := vwCl) (tys := tyl ev) (ws := wM ev u) hc.1 hc.2.1 hc.2.2.2.2.2.1 hw.1 hw.2.1 hw.2.2 33 0 rfl rfl hin hd (fun H1 locs1 hP hD hS => k H1 locs1 ⟨hP, hD, hS⟩)
theorem nM33 (hc : CX wdM ev p s m c cc nL own args) (hw : VW wdM ev s u H locs) (hd : decode cc pc = .ok (.arraylength, 1)) (k : W p l e R s m args below meth c H locs 0 0 Q (F0 m (pc + 1) ls (.int (20 : Int32) :: rest))) : W p l e R s m args below meth c H locs 0 0 Q (F0 m pc ls (.ref (ev.2.1 33) :: rest)) :=
  va_alen (D := ev.1) (cl := vwCl) (tys := tyl ev) (ws := wM ev u) hc.1 hc.2.1 hc.2.2.2.2.2.1 hw.1 33 0 rfl rfl rfl hd k
theorem aM34 {i : Int32} (hc : CX wdM ev p s m c cc nL own args) (hw : VW wdM ev s u H locs) (hin : vp_in i 20) (hd : decode cc pc = .ok (.baload, 1)) (k : W p l e R s m args below meth c H locs 0 0 Q (F0 m (pc + 1) ls (.int (gA u 29 i.toNatClampNeg) :: rest))) : W p l e R s m args below meth c H locs 0 0 Q (F0 m pc ls (.int i :: .ref (ev.2.1 34) :: rest)) :=
  va_zald (D := ev.1) (cl := vwCl) (tys := tyl ev) (ws := wM ev u) hc.1 hc.2.1 hc.2.2.2.2.2.1 hw.1 34 2 rfl rfl hin hd k
theorem tM34 {i : Int32} {x : Int32} (hc : CX wdM ev p s m c cc nL own args) (hw : VW wdM ev s u H locs) (hin : vp_in i 20) (hd : decode cc pc = .ok (.bastore, 1)) (k : ∀ (H1 : Heap) (locs1 : List Loc), VW wdM ev s (tZ u 29 i x) H1 locs1 → W p l e R s m args below meth c H1 locs1 0 0 Q (F0 m (pc + 1) ls rest)) : W p l e R s m args below meth c H locs 0 0 Q (F0 m pc ls (.int x :: .int i :: .ref (ev.2.1 34) :: rest)) :=
  va_zast (D := ev.1) (cl := vwCl) (tys := tyl ev) (ws := wM ev u) hc.1 hc.2.1 hc.2.2.2.2.2.1 hw.1 hw.2.1 hw.2.2 34 2 rfl rfl hin hd (fun H1 locs1 hP hD hS => k H1 locs1 ⟨hP, hD, hS⟩)
theorem nM34 (hc : CX wdM ev p s m c cc nL own args) (hw : VW wdM ev s u H locs) (hd : decode cc pc = .ok (.arraylength, 1)) (k : W p l e R s m args below meth c H locs 0 0 Q (F0 m (pc + 1) ls (.int (20 : Int32) :: rest))) : W p l e R s m args below meth c H locs 0 0 Q (F0 m pc ls (.ref (ev.2.1 34) :: rest)) :=
  va_alen (D := ev.1) (cl := vwCl) (tys := tyl ev) (ws := wM ev u) hc.1 hc.2.1 hc.2.2.2.2.2.1 hw.1 34 2 rfl rfl rfl hd k
theorem aM35 {i : Int32} (hc : CX wdM ev p s m c cc nL own args) (hw : VW wdM ev s u H locs) (hin : vp_in i 4) (hd : decode cc pc = .ok (.iaload, 1)) (k : W p l e R s m args below meth c H locs 0 0 Q (F0 m (pc + 1) ls (.int (gA u 30 i.toNatClampNeg) :: rest))) : W p l e R s m args below meth c H locs 0 0 Q (F0 m pc ls (.int i :: .ref (ev.2.1 35) :: rest)) :=
  va_iald (D := ev.1) (cl := vwCl) (tys := tyl ev) (ws := wM ev u) hc.1 hc.2.1 hc.2.2.2.2.2.1 hw.1 35 0 rfl rfl hin hd k
theorem tM35 {i : Int32} {x : Int32} (hc : CX wdM ev p s m c cc nL own args) (hw : VW wdM ev s u H locs) (hin : vp_in i 4) (hd : decode cc pc = .ok (.iastore, 1)) (k : ∀ (H1 : Heap) (locs1 : List Loc), VW wdM ev s (tA u 30 i x) H1 locs1 → W p l e R s m args below meth c H1 locs1 0 0 Q (F0 m (pc + 1) ls rest)) : W p l e R s m args below meth c H locs 0 0 Q (F0 m pc ls (.int x :: .int i :: .ref (ev.2.1 35) :: rest)) :=
  va_iast (D := ev.1) (cl := vwCl) (tys := tyl ev) (ws := wM ev u) hc.1 hc.2.1 hc.2.2.2.2.2.1 hw.1 hw.2.1 hw.2.2 35 0 rfl rfl hin hd (fun H1 locs1 hP hD hS => k H1 locs1 ⟨hP, hD, hS⟩)
theorem nM35 (hc : CX wdM ev p s m c cc nL own args) (hw : VW wdM ev s u H locs) (hd : decode cc pc = .ok (.arraylength, 1)) (k : W p l e R s m args below meth c H locs 0 0 Q (F0 m (pc + 1) ls (.int (4 : Int32) :: rest))) : W p l e R s m args below meth c H locs 0 0 Q (F0 m pc ls (.ref (ev.2.1 35) :: rest)) :=
  va_alen (D := ev.1) (cl := vwCl) (tys := tyl ev) (ws := wM ev u) hc.1 hc.2.1 hc.2.2.2.2.2.1 hw.1 35 0 rfl rfl rfl hd k
theorem aM36 {i : Int32} (hc : CX wdM ev p s m c cc nL own args) (hw : VW wdM ev s u H locs) (hin : vp_in i 8) (hd : decode cc pc = .ok (.iaload, 1)) (k : W p l e R s m args below meth c H locs 0 0 Q (F0 m (pc + 1) ls (.int (gA u 31 i.toNatClampNeg) :: rest))) : W p l e R s m args below meth c H locs 0 0 Q (F0 m pc ls (.int i :: .ref (ev.2.1 36) :: rest)) :=
  va_iald (D := ev.1) (cl := vwCl) (tys := tyl ev) (ws := wM ev u) hc.1 hc.2.1 hc.2.2.2.2.2.1 hw.1 36 0 rfl rfl hin hd k
theorem tM36 {i : Int32} {x : Int32} (hc : CX wdM ev p s m c cc nL own args) (hw : VW wdM ev s u H locs) (hin : vp_in i 8) (hd : decode cc pc = .ok (.iastore, 1)) (k : ∀ (H1 : Heap) (locs1 : List Loc), VW wdM ev s (tA u 31 i x) H1 locs1 → W p l e R s m args below meth c H1 locs1 0 0 Q (F0 m (pc + 1) ls rest)) : W p l e R s m args below meth c H locs 0 0 Q (F0 m pc ls (.int x :: .int i :: .ref (ev.2.1 36) :: rest)) :=
  va_iast (D := ev.1) (cl := vwCl) (tys := tyl ev) (ws := wM ev u) hc.1 hc.2.1 hc.2.2.2.2.2.1 hw.1 hw.2.1 hw.2.2 36 0 rfl rfl hin hd (fun H1 locs1 hP hD hS => k H1 locs1 ⟨hP, hD, hS⟩)
theorem nM36 (hc : CX wdM ev p s m c cc nL own args) (hw : VW wdM ev s u H locs) (hd : decode cc pc = .ok (.arraylength, 1)) (k : W p l e R s m args below meth c H locs 0 0 Q (F0 m (pc + 1) ls (.int (8 : Int32) :: rest))) : W p l e R s m args below meth c H locs 0 0 Q (F0 m pc ls (.ref (ev.2.1 36) :: rest)) :=
  va_alen (D := ev.1) (cl := vwCl) (tys := tyl ev) (ws := wM ev u) hc.1 hc.2.1 hc.2.2.2.2.2.1 hw.1 36 0 rfl rfl rfl hd k
theorem aM37 {i : Int32} (hc : CX wdM ev p s m c cc nL own args) (hw : VW wdM ev s u H locs) (hin : vp_in i 8) (hd : decode cc pc = .ok (.iaload, 1)) (k : W p l e R s m args below meth c H locs 0 0 Q (F0 m (pc + 1) ls (.int (gA u 32 i.toNatClampNeg) :: rest))) : W p l e R s m args below meth c H locs 0 0 Q (F0 m pc ls (.int i :: .ref (ev.2.1 37) :: rest)) :=
  va_iald (D := ev.1) (cl := vwCl) (tys := tyl ev) (ws := wM ev u) hc.1 hc.2.1 hc.2.2.2.2.2.1 hw.1 37 0 rfl rfl hin hd k
theorem tM37 {i : Int32} {x : Int32} (hc : CX wdM ev p s m c cc nL own args) (hw : VW wdM ev s u H locs) (hin : vp_in i 8) (hd : decode cc pc = .ok (.iastore, 1)) (k : ∀ (H1 : Heap) (locs1 : List Loc), VW wdM ev s (tA u 32 i x) H1 locs1 → W p l e R s m args below meth c H1 locs1 0 0 Q (F0 m (pc + 1) ls rest)) : W p l e R s m args below meth c H locs 0 0 Q (F0 m pc ls (.int x :: .int i :: .ref (ev.2.1 37) :: rest)) :=
  va_iast (D := ev.1) (cl := vwCl) (tys := tyl ev) (ws := wM ev u) hc.1 hc.2.1 hc.2.2.2.2.2.1 hw.1 hw.2.1 hw.2.2 37 0 rfl rfl hin hd (fun H1 locs1 hP hD hS => k H1 locs1 ⟨hP, hD, hS⟩)
theorem nM37 (hc : CX wdM ev p s m c cc nL own args) (hw : VW wdM ev s u H locs) (hd : decode cc pc = .ok (.arraylength, 1)) (k : W p l e R s m args below meth c H locs 0 0 Q (F0 m (pc + 1) ls (.int (8 : Int32) :: rest))) : W p l e R s m args below meth c H locs 0 0 Q (F0 m pc ls (.ref (ev.2.1 37) :: rest)) :=
  va_alen (D := ev.1) (cl := vwCl) (tys := tyl ev) (ws := wM ev u) hc.1 hc.2.1 hc.2.2.2.2.2.1 hw.1 37 0 rfl rfl rfl hd k
theorem aM38 {i : Int32} (hc : CX wdM ev p s m c cc nL own args) (hw : VW wdM ev s u H locs) (hin : vp_in i 8) (hd : decode cc pc = .ok (.iaload, 1)) (k : W p l e R s m args below meth c H locs 0 0 Q (F0 m (pc + 1) ls (.int (gA u 33 i.toNatClampNeg) :: rest))) : W p l e R s m args below meth c H locs 0 0 Q (F0 m pc ls (.int i :: .ref (ev.2.1 38) :: rest)) :=
  va_iald (D := ev.1) (cl := vwCl) (tys := tyl ev) (ws := wM ev u) hc.1 hc.2.1 hc.2.2.2.2.2.1 hw.1 38 0 rfl rfl hin hd k
theorem tM38 {i : Int32} {x : Int32} (hc : CX wdM ev p s m c cc nL own args) (hw : VW wdM ev s u H locs) (hin : vp_in i 8) (hd : decode cc pc = .ok (.iastore, 1)) (k : ∀ (H1 : Heap) (locs1 : List Loc), VW wdM ev s (tA u 33 i x) H1 locs1 → W p l e R s m args below meth c H1 locs1 0 0 Q (F0 m (pc + 1) ls rest)) : W p l e R s m args below meth c H locs 0 0 Q (F0 m pc ls (.int x :: .int i :: .ref (ev.2.1 38) :: rest)) :=
  va_iast (D := ev.1) (cl := vwCl) (tys := tyl ev) (ws := wM ev u) hc.1 hc.2.1 hc.2.2.2.2.2.1 hw.1 hw.2.1 hw.2.2 38 0 rfl rfl hin hd (fun H1 locs1 hP hD hS => k H1 locs1 ⟨hP, hD, hS⟩)
theorem nM38 (hc : CX wdM ev p s m c cc nL own args) (hw : VW wdM ev s u H locs) (hd : decode cc pc = .ok (.arraylength, 1)) (k : W p l e R s m args below meth c H locs 0 0 Q (F0 m (pc + 1) ls (.int (8 : Int32) :: rest))) : W p l e R s m args below meth c H locs 0 0 Q (F0 m pc ls (.ref (ev.2.1 38) :: rest)) :=
  va_alen (D := ev.1) (cl := vwCl) (tys := tyl ev) (ws := wM ev u) hc.1 hc.2.1 hc.2.2.2.2.2.1 hw.1 38 0 rfl rfl rfl hd k
end FLDM
end
section
theorem ct_X9_66 : Cond.constant RX9 66 (999999) ∈ lw_g := mg 454 (by decide +kernel) (by decide +kernel)
theorem fl_X9_12 : Cond.fieldLink RX9 12 "BidsJudged" "book" "LBidsJudged$Book;" ∈ lw_g := mg 421 (by decide +kernel) (by decide +kernel)
theorem fl_X9_67 : Cond.fieldLink RX9 67 "BidsJudged$Book" "now" "I" ∈ lw_g := mg 114 (by decide +kernel) (by decide +kernel)
theorem fl_X9_58 : Cond.fieldLink RX9 58 "BidsJudged" "refusals" "[I" ∈ lw_g := mg 428 (by decide +kernel) (by decide +kernel)
theorem kv_X9_refuse : lkV yX9_refuse cX9_refuse 2 (some .int) 1 := ⟨mg 452 (by decide +kernel) (by decide +kernel), mg 0 (by decide +kernel) (by decide +kernel), mg 66 (by decide +kernel) (by decide +kernel), mg 453 (by decide +kernel) (by decide +kernel), ⟨by decide +kernel, by decide +kernel, by decide +kernel⟩⟩
theorem ml_X9_62 : Cond.methodLink RX9 62 yX9_refuse ∈ lw_g := mg 450 (by decide +kernel) (by decide +kernel)
theorem fl_X1_40 : Cond.fieldLink RX1 40 "BidsJudged$Book" "closingAt" "I" ∈ lw_g := mg 115 (by decide +kernel) (by decide +kernel)
theorem fl_X1_47 : Cond.fieldLink RX1 47 "BidsJudged$Book" "now" "I" ∈ lw_g := mg 113 (by decide +kernel) (by decide +kernel)
theorem kv_X1_isOpen : lkV yX1_isOpen cX1_isOpen 1 (some .boolean) 0 := ⟨mg 460 (by decide +kernel) (by decide +kernel), mg 461 (by decide +kernel) (by decide +kernel), mg 67 (by decide +kernel) (by decide +kernel), mg 462 (by decide +kernel) (by decide +kernel), ⟨by decide +kernel, by decide +kernel, by decide +kernel⟩⟩
theorem ml_X9_71 : Cond.methodLink RX9 71 yX1_isOpen ∈ lw_g := mg 459 (by decide +kernel) (by decide +kernel)
theorem ct_X9_75 : Cond.constant RX9 75 (100000) ∈ lw_g := mg 463 (by decide +kernel) (by decide +kernel)
theorem ks_X9_inRange : lkS yX9_inRange cX9_inRange 3 (some .int) 3 := ⟨mg 465 (by decide +kernel) (by decide +kernel), mg 66 (by decide +kernel) (by decide +kernel), mg 466 (by decide +kernel) (by decide +kernel), ⟨by decide +kernel, by decide +kernel, by decide +kernel⟩⟩
theorem ml_X9_76 : Cond.methodLink RX9 76 yX9_inRange ∈ lw_g := mg 464 (by decide +kernel) (by decide +kernel)
theorem fl_X9_80 : Cond.fieldLink RX9 80 "BidsJudged$Book" "rates" "[I" ∈ lw_g := mg 99 (by decide +kernel) (by decide +kernel)
theorem fl_X9_83 : Cond.fieldLink RX9 83 "BidsJudged$Book" "lotCount" "I" ∈ lw_g := mg 118 (by decide +kernel) (by decide +kernel)
theorem fl_X1_44 : Cond.fieldLink RX1 44 "BidsJudged$Book" "lotCount" "I" ∈ lw_g := mg 117 (by decide +kernel) (by decide +kernel)
theorem fl_X1_18 : Cond.fieldLink RX1 18 "BidsJudged$Book" "there" "[Z" ∈ lw_g := mg 100 (by decide +kernel) (by decide +kernel)
theorem fl_X1_25 : Cond.fieldLink RX1 25 "BidsJudged$Book" "askedUntil" "[I" ∈ lw_g := mg 106 (by decide +kernel) (by decide +kernel)
theorem kv_X1_drop : lkV yX1_drop cX1_drop 2 none 1 := ⟨mg 476 (by decide +kernel) (by decide +kernel), mg 477 (by decide +kernel) (by decide +kernel), mg 67 (by decide +kernel) (by decide +kernel), mg 478 (by decide +kernel) (by decide +kernel), ⟨by decide +kernel, by decide +kernel, by decide +kernel⟩⟩
theorem ml_X1_50 : Cond.methodLink RX1 50 yX1_drop ∈ lw_g := mg 475 (by decide +kernel) (by decide +kernel)
theorem kv_X1_keepLots : lkV yX1_keepLots cX1_keepLots 3 none 1 := ⟨mg 472 (by decide +kernel) (by decide +kernel), mg 473 (by decide +kernel) (by decide +kernel), mg 67 (by decide +kernel) (by decide +kernel), mg 474 (by decide +kernel) (by decide +kernel), ⟨by decide +kernel, by decide +kernel, by decide +kernel⟩⟩
theorem ml_X9_86 : Cond.methodLink RX9 86 yX1_keepLots ∈ lw_g := mg 471 (by decide +kernel) (by decide +kernel)
def FU : Nat := 600000
def f_X9_refuse (a1 : Int32) (u : SS) : Option (Int32 × SS) :=
  if 0 ≤ a1 then (some (a1, u)) else (if (8 : Int32) ≤ (-a1) then (some (a1, u)) else (oi (-a1) 8 (oi (-a1) 8 (lt (tA u 0 (-a1) ((gA u 0 (-a1).toNatClampNeg) + (1 : Int32))) fun u1 => some (a1, u1)))))
set_option maxHeartbeats 4000000 in
set_option maxRecDepth 100000 in
theorem c_X9_refuse (l : Launch) (ev : EV) (a1 : Int32) (u : SS) {r : Int32} {u' : SS} (hf : f_X9_refuse a1 u = some (r, u')) : MI wdB l yX9_refuse cX9_refuse 2 (some .int) 0 ev [.ref (ev.2.1 0), .int a1] u r u' := by
  refine bodyI (by decide +kernel) rfl (Nat.le_of_ble_eq_true rfl) ?_
  intro p e s m below meth cd ls H locs hc hr hlk hw hl
  generalize hav : (List.toArray [.ref (ev.2.1 0), .int a1] : Array Value) = av at hc ⊢
  obtain ⟨hx, hb, hml, hown, hts, hK, hZ⟩ := id hc
  have hl : lv_has ls 2 [(0, .ref (ev.2.1 0)), (1, .int a1)] := hl
  unfold f_X9_refuse at hf
  refine lv_iload_n hx hb dX9_refuse_0 rfl (lv_at hl 1 rfl) ?_
  refine lv_if_ge (tgt := 25) hx hb dX9_refuse_1 (by decide) (fun z => ?_) (fun z => ?_)
  · have hf := it_pos z hf
    refine lv_iload_n hx hb dX9_refuse_25 rfl (lv_at hl 1 rfl) ?_
    exact retI hc hr hlk hw hf dX9_refuse_26
  · have hf := it_neg z hf
    refine lv_iload_n hx hb dX9_refuse_4 rfl (lv_at hl 1 rfl) ?_
    refine lv_ineg hx hb dX9_refuse_5 ?_
    refine lv_aload_n hx hb dX9_refuse_6 rfl (lv_at hl 0 rfl) ?_
    refine gB0_7 hc hw fl_X9_58 dX9_refuse_7 ?_
    refine nB9 hc hw dX9_refuse_10 ?_
    refine lv_icmp_ge (tgt := 25) hx hb dX9_refuse_11 (by decide) (fun z => ?_) (fun z => ?_)
    · have hf := it_pos z hf
      refine lv_iload_n hx hb dX9_refuse_25 rfl (lv_at hl 1 rfl) ?_
      exact retI hc hr hlk hw hf dX9_refuse_26
    · have hf := it_neg z hf
      refine lv_aload_n hx hb dX9_refuse_14 rfl (lv_at hl 0 rfl) ?_
      refine gB0_7 hc hw fl_X9_58 dX9_refuse_15 ?_
      refine lv_iload_n hx hb dX9_refuse_18 rfl (lv_at hl 1 rfl) ?_
      refine lv_ineg hx hb dX9_refuse_19 ?_
      refine lv_dup2_11 hx hb dX9_refuse_20 rfl rfl ?_
      obtain ⟨z, hf⟩ := oi_some hf
      refine aB9 hc hw z dX9_refuse_21 ?_
      refine lv_iconst (v := (1 : Int32)) hx hb dX9_refuse_22 (by decide) ?_
      refine lv_iadd hx hb dX9_refuse_23 ?_
      obtain ⟨z, hf⟩ := oi_some hf
      refine tB9 hc hw z dX9_refuse_24 (fun H locs hw => ?_)
      obtain ⟨u1, eu1, hf⟩ := lt_some hf
      have hw := VW.nm eu1 hw
      refine lv_iload_n hx hb dX9_refuse_25 rfl (lv_at hl 1 rfl) ?_
      exact retI hc hr hlk hw hf dX9_refuse_26

def f_X9_time (a1 : Int32) (u : SS) : Option (Int32 × SS) :=
  if (1 : Int32) ≤ a1 then (if a1 ≤ ((999999 : Int32) - (gI u 0)) then (lt (sI u 0 ((gI u 0) + a1)) fun u1 => some ((gI u1 0), u1)) else (ob (f_X9_refuse (-6 : Int32) u) fun r4 u3 => some (r4, u3))) else (ob (f_X9_refuse (-4 : Int32) u) fun r7 u6 => some (r7, u6))
set_option maxHeartbeats 4000000 in
set_option maxRecDepth 100000 in
theorem c_X9_time (l : Launch) (ev : EV) (a1 : Int32) (u : SS) {r : Int32} {u' : SS} (hf : f_X9_time a1 u = some (r, u')) : MI wdB l yX9_time cX9_time 2 (some .int) 1 ev [.ref (ev.2.1 0), .int a1] u r u' := by
  refine bodyI (by decide +kernel) rfl (Nat.le_of_ble_eq_true rfl) ?_
  intro p e s m below meth cd ls H locs hc hr hlk hw hl
  generalize hav : (List.toArray [.ref (ev.2.1 0), .int a1] : Array Value) = av at hc ⊢
  obtain ⟨hx, hb, hml, hown, hts, hK, hZ⟩ := id hc
  have hl : lv_has ls 2 [(0, .ref (ev.2.1 0)), (1, .int a1)] := hl
  unfold f_X9_time at hf
  refine lv_iload_n hx hb dX9_time_0 rfl (lv_at hl 1 rfl) ?_
  refine lv_iconst (v := (1 : Int32)) hx hb dX9_time_1 (by decide) ?_
  refine lv_icmp_ge (tgt := 12) hx hb dX9_time_2 (by decide) (fun z => ?_) (fun z => ?_)
  · have hf := it_pos z hf
    refine lv_iload_n hx hb dX9_time_12 rfl (lv_at hl 1 rfl) ?_
    refine lv_ldc (v := (999999 : Int32)) hx hb hown (hts _ ct_X9_66) dX9_time_13 ?_
    refine lv_aload_n hx hb dX9_time_15 rfl (lv_at hl 0 rfl) ?_
    refine gB0_0 hc hw fl_X9_12 dX9_time_16 ?_
    refine gB1_9 hc hw fl_X9_67 dX9_time_19 ?_
    refine lv_isub hx hb dX9_time_22 ?_
    refine lv_icmp_le (tgt := 33) hx hb dX9_time_23 (by decide) (fun z => ?_) (fun z => ?_)
    · have hf := it_pos z hf
      refine lv_aload_n hx hb dX9_time_33 rfl (lv_at hl 0 rfl) ?_
      refine gB0_0 hc hw fl_X9_12 dX9_time_34 ?_
      refine lv_dup hx hb dX9_time_37 rfl ?_
      refine gB1_9 hc hw fl_X9_67 dX9_time_38 ?_
      refine lv_iload_n hx hb dX9_time_41 rfl (lv_at hl 1 rfl) ?_
      refine lv_iadd hx hb dX9_time_42 ?_
      refine pB1_9 hc hw fl_X9_67 dX9_time_43 (fun H locs hw => ?_)
      obtain ⟨u1, eu1, hf⟩ := lt_some hf
      have hw := VW.nm eu1 hw
      refine lv_aload_n hx hb dX9_time_46 rfl (lv_at hl 0 rfl) ?_
      refine gB0_0 hc hw fl_X9_12 dX9_time_47 ?_
      refine gB1_9 hc hw fl_X9_67 dX9_time_50 ?_
      exact retI hc hr hlk hw hf dX9_time_53
    · have hf := it_neg z hf
      refine lv_aload_n hx hb dX9_time_26 rfl (lv_at hl 0 rfl) ?_
      refine lv_bipush (v := (-6 : Int32)) hx hb dX9_time_27 (by decide) ?_
      obtain ⟨r4, u3, h2, hf⟩ := ob_some hf
      refine endI okB hw (runV_ok (As := [.int (-6 : Int32)]) (rest := []) okB hc hw (c_X9_refuse l ev (-6 : Int32) u h2 H.size) kv_X9_refuse ml_X9_62 (rvB0 ev u) hl.1 rfl rfl (Nat.le_of_ble_eq_true rfl) (rm_le (by decide) (by decide)) dX9_time_29) (fun H locs hw => ?_)
      exact retI hc hr hlk hw hf dX9_time_32
  · have hf := it_neg z hf
    refine lv_aload_n hx hb dX9_time_5 rfl (lv_at hl 0 rfl) ?_
    refine lv_bipush (v := (-4 : Int32)) hx hb dX9_time_6 (by decide) ?_
    obtain ⟨r7, u6, h5, hf⟩ := ob_some hf
    refine endI okB hw (runV_ok (As := [.int (-4 : Int32)]) (rest := []) okB hc hw (c_X9_refuse l ev (-4 : Int32) u h5 H.size) kv_X9_refuse ml_X9_62 (rvB0 ev u) hl.1 rfl rfl (Nat.le_of_ble_eq_true rfl) (rm_le (by decide) (by decide)) dX9_time_8) (fun H locs hw => ?_)
    exact retI hc hr hlk hw hf dX9_time_11

def f_X1_isOpen (u : SS) : Option (Int32 × SS) :=
  if (gI u 1) = (-1 : Int32) then (some ((1 : Int32), u)) else (if (gI u 1) < (gI u 0) then (some ((0 : Int32), u)) else (some ((1 : Int32), u)))
set_option maxHeartbeats 4000000 in
set_option maxRecDepth 100000 in
theorem c_X1_isOpen (l : Launch) (ev : EV) (u : SS) {r : Int32} {u' : SS} (hf : f_X1_isOpen  u = some (r, u')) : MI wdB l yX1_isOpen cX1_isOpen 1 (some .boolean) 0 ev [.ref (ev.2.1 1)] u r u' := by
  refine bodyI (by decide +kernel) rfl (Nat.le_of_ble_eq_true rfl) ?_
  intro p e s m below meth cd ls H locs hc hr hlk hw hl
  generalize hav : (List.toArray [.ref (ev.2.1 1)] : Array Value) = av at hc ⊢
  obtain ⟨hx, hb, hml, hown, hts, hK, hZ⟩ := id hc
  have hl : lv_has ls 1 [(0, .ref (ev.2.1 1))] := hl
  unfold f_X1_isOpen at hf
  refine lv_aload_n hx hb dX1_isOpen_0 rfl (lv_at hl 0 rfl) ?_
  refine gB1_10 hc hw fl_X1_40 dX1_isOpen_1 ?_
  refine lv_iconst (v := (-1 : Int32)) hx hb dX1_isOpen_4 (by decide) ?_
  refine lv_icmp_eq (tgt := 19) hx hb dX1_isOpen_5 (by decide) (fun z => ?_) (fun z => ?_)
  · have hf := it_pos z hf
    refine lv_iconst (v := (1 : Int32)) hx hb dX1_isOpen_19 (by decide) ?_
    refine lv_goto (tgt := 24) hx hb dX1_isOpen_20 (by decide) ?_
    exact retZ hc hr hlk hw nz1 hf dX1_isOpen_24
  · have hf := it_neg z hf
    refine lv_aload_n hx hb dX1_isOpen_8 rfl (lv_at hl 0 rfl) ?_
    refine gB1_9 hc hw fl_X1_47 dX1_isOpen_9 ?_
    refine lv_aload_n hx hb dX1_isOpen_12 rfl (lv_at hl 0 rfl) ?_
    refine gB1_10 hc hw fl_X1_40 dX1_isOpen_13 ?_
    refine lv_icmp_gt (tgt := 23) hx hb dX1_isOpen_16 (by decide) (fun z => ?_) (fun z => ?_)
    · have hf := it_pos z hf
      refine lv_iconst (v := (0 : Int32)) hx hb dX1_isOpen_23 (by decide) ?_
      exact retZ hc hr hlk hw nz0 hf dX1_isOpen_24
    · have hf := it_neg z hf
      refine lv_iconst (v := (1 : Int32)) hx hb dX1_isOpen_19 (by decide) ?_
      refine lv_goto (tgt := 24) hx hb dX1_isOpen_20 (by decide) ?_
      exact retZ hc hr hlk hw nz1 hf dX1_isOpen_24

def f_X9_inRange (a0 : Int32) (a1 : Int32) (a2 : Int32) (u : SS) : Option (Int32 × SS) :=
  if a1 ≤ a0 then (if a0 ≤ a2 then (some ((0 : Int32), u)) else (some ((-6 : Int32), u))) else (some ((-4 : Int32), u))
set_option maxHeartbeats 4000000 in
set_option maxRecDepth 100000 in
theorem c_X9_inRange (l : Launch) (ev : EV) (a0 : Int32) (a1 : Int32) (a2 : Int32) (u : SS) {r : Int32} {u' : SS} (hf : f_X9_inRange a0 a1 a2 u = some (r, u')) : MI wdB l yX9_inRange cX9_inRange 3 (some .int) 0 ev [.int a0, .int a1, .int a2] u r u' := by
  refine bodyI (by decide +kernel) rfl (Nat.le_of_ble_eq_true rfl) ?_
  intro p e s m below meth cd ls H locs hc hr hlk hw hl
  generalize hav : (List.toArray [.int a0, .int a1, .int a2] : Array Value) = av at hc ⊢
  obtain ⟨hx, hb, hml, hown, hts, hK, hZ⟩ := id hc
  have hl : lv_has ls 3 [(0, .int a0), (1, .int a1), (2, .int a2)] := hl
  unfold f_X9_inRange at hf
  refine lv_iload_n hx hb dX9_inRange_0 rfl (lv_at hl 0 rfl) ?_
  refine lv_iload_n hx hb dX9_inRange_1 rfl (lv_at hl 1 rfl) ?_
  refine lv_icmp_ge (tgt := 8) hx hb dX9_inRange_2 (by decide) (fun z => ?_) (fun z => ?_)
  · have hf := it_pos z hf
    refine lv_iload_n hx hb dX9_inRange_8 rfl (lv_at hl 0 rfl) ?_
    refine lv_iload_n hx hb dX9_inRange_9 rfl (lv_at hl 2 rfl) ?_
    refine lv_icmp_le (tgt := 18) hx hb dX9_inRange_10 (by decide) (fun z => ?_) (fun z => ?_)
    · have hf := it_pos z hf
      refine lv_iconst (v := (0 : Int32)) hx hb dX9_inRange_18 (by decide) ?_
      exact retI hc hr hlk hw hf dX9_inRange_19
    · have hf := it_neg z hf
      refine lv_bipush (v := (-6 : Int32)) hx hb dX9_inRange_13 (by decide) ?_
      refine lv_goto (tgt := 19) hx hb dX9_inRange_15 (by decide) ?_
      exact retI hc hr hlk hw hf dX9_inRange_19
  · have hf := it_neg z hf
    refine lv_bipush (v := (-4 : Int32)) hx hb dX9_inRange_5 (by decide) ?_
    exact retI hc hr hlk hw hf dX9_inRange_7

def f_X9_rate_L10 (u : SS) : Option (Int32 × SS) :=
  ob (f_X9_refuse (-1 : Int32) u) fun r3 u2 => some (r3, u2)
def f_X9_rate (a1 : Int32) (a2 : Int32) (u : SS) : Option (Int32 × SS) :=
  if a1 < (1 : Int32) then (f_X9_rate_L10 u) else (if a1 < (4 : Int32) then (ob (f_X1_isOpen u) fun r6 u5 => if r6 = 0 then (ob (f_X9_refuse (-3 : Int32) u5) fun r17 u16 => some (r17, u16)) else (ob (f_X9_inRange a2 (1 : Int32) (100000 : Int32) u5) fun r9 u8 => if r9 = 0 then (oi a1 4 (lt (gA u8 2 a1.toNatClampNeg) fun x10 => oi a1 4 (lt (tA u8 2 a1 a2) fun u11 => some (x10, u11)))) else (ob (f_X9_refuse r9 u8) fun r14 u13 => some (r14, u13)))) else (f_X9_rate_L10 u))
set_option maxHeartbeats 4000000 in
set_option maxRecDepth 100000 in
theorem c_X9_rate (l : Launch) (ev : EV) (a1 : Int32) (a2 : Int32) (u : SS) {r : Int32} {u' : SS} (hf : f_X9_rate a1 a2 u = some (r, u')) : MI wdB l yX9_rate cX9_rate 5 (some .int) 1 ev [.ref (ev.2.1 0), .int a1, .int a2] u r u' := by
  refine bodyI (by decide +kernel) rfl (Nat.le_of_ble_eq_true rfl) ?_
  intro p e s m below meth cd ls H locs hc hr hlk hw hl
  generalize hav : (List.toArray [.ref (ev.2.1 0), .int a1, .int a2] : Array Value) = av at hc ⊢
  obtain ⟨hx, hb, hml, hown, hts, hK, hZ⟩ := id hc
  have hl : lv_has ls 5 [(0, .ref (ev.2.1 0)), (1, .int a1), (2, .int a2)] := hl
  have wL10 : ∀ (u : SS) (H : Heap) (locs : List Loc) (ls : Array Slot), VW wdB ev s u H locs → lv_has ls 5 [(0, .ref (ev.2.1 0))] → f_X9_rate_L10  u = some (r, u') → W p l e (rmk 1) s m av below meth cd H locs 0 0 (ZI wdB ev s below av r u') (F0 m 10 ls []) := by
    intro  u H locs ls hw hl hf
    unfold f_X9_rate_L10 at hf
    refine lv_aload_n hx hb dX9_rate_10 rfl (lv_at hl 0 rfl) ?_
    refine lv_iconst (v := (-1 : Int32)) hx hb dX9_rate_11 (by decide) ?_
    obtain ⟨r3, u2, h1, hf⟩ := ob_some hf
    refine endI okB hw (runV_ok (As := [.int (-1 : Int32)]) (rest := []) okB hc hw (c_X9_refuse l ev (-1 : Int32) u h1 H.size) kv_X9_refuse ml_X9_62 (rvB0 ev u) hl.1 rfl rfl (Nat.le_of_ble_eq_true rfl) (rm_le (by decide) (by decide)) dX9_rate_12) (fun H locs hw => ?_)
    exact retI hc hr hlk hw hf dX9_rate_15
  unfold f_X9_rate at hf
  refine lv_iload_n hx hb dX9_rate_0 rfl (lv_at hl 1 rfl) ?_
  refine lv_iconst (v := (1 : Int32)) hx hb dX9_rate_1 (by decide) ?_
  refine lv_icmp_lt (tgt := 10) hx hb dX9_rate_2 (by decide) (fun z => ?_) (fun z => ?_)
  · have hf := it_pos z hf
    exact wL10 u H locs ls hw (lv_sub hl [0] rfl) hf
  · have hf := it_neg z hf
    refine lv_iload_n hx hb dX9_rate_5 rfl (lv_at hl 1 rfl) ?_
    refine lv_iconst (v := (4 : Int32)) hx hb dX9_rate_6 (by decide) ?_
    refine lv_icmp_lt (tgt := 16) hx hb dX9_rate_7 (by decide) (fun z => ?_) (fun z => ?_)
    · have hf := it_pos z hf
      refine lv_aload_n hx hb dX9_rate_16 rfl (lv_at hl 0 rfl) ?_
      refine gB0_0 hc hw fl_X9_12 dX9_rate_17 ?_
      obtain ⟨r6, u5, h4, hf⟩ := ob_some hf
      refine endI okB hw (runV_ok (As := []) (rest := []) okB hc hw (c_X1_isOpen l ev u h4 H.size) kv_X1_isOpen ml_X9_71 (rvB1 ev u) hl.1 rfl rfl (Nat.le_of_ble_eq_true rfl) (rm_le (by decide) (by decide)) dX9_rate_20) (fun H locs hw => ?_)
      refine lv_if_ne (tgt := 33) hx hb dX9_rate_23 (by decide) (fun z => ?_) (fun z => ?_)
      · have hf := it_neg z hf
        refine lv_iload_n hx hb dX9_rate_33 rfl (lv_at hl 2 rfl) ?_
        refine lv_iconst (v := (1 : Int32)) hx hb dX9_rate_34 (by decide) ?_
        refine lv_ldc (v := (100000 : Int32)) hx hb hown (hts _ ct_X9_75) dX9_rate_35 ?_
        obtain ⟨r9, u8, h7, hf⟩ := ob_some hf
        refine endI okB hw (runS_ok (As := [.int a2, .int (1 : Int32), .int (100000 : Int32)]) (rest := []) okB hc hw (c_X9_inRange l ev a2 (1 : Int32) (100000 : Int32) u5 h7 H.size) ks_X9_inRange ml_X9_76 hl.1 rfl rfl (Nat.le_of_ble_eq_true rfl) (rm_le (by decide) (by decide)) dX9_rate_37) (fun H locs hw => ?_)
        refine lv_istore_n (lv' := [(3, .int r9), (0, .ref (ev.2.1 0)), (1, .int a1), (2, .int a2)]) hx hb dX9_rate_40 rfl hl (by decide) rfl (fun ls hl => ?_)
        refine lv_iload_n hx hb dX9_rate_41 rfl (lv_at hl 0 rfl) ?_
        refine lv_if_eq (tgt := 51) hx hb dX9_rate_42 (by decide) (fun z => ?_) (fun z => ?_)
        · have hf := it_pos z hf
          refine lv_aload_n hx hb dX9_rate_51 rfl (lv_at hl 1 rfl) ?_
          refine gB0_0 hc hw fl_X9_12 dX9_rate_52 ?_
          refine gB1_1 hc hw fl_X9_80 dX9_rate_55 ?_
          refine lv_iload_n hx hb dX9_rate_58 rfl (lv_at hl 2 rfl) ?_
          obtain ⟨z, hf⟩ := oi_some hf
          refine aB11 hc hw z dX9_rate_59 ?_
          obtain ⟨x10, ex10, hf⟩ := lt_some hf
          refine tope ex10 ?_
          refine lv_istore (lv' := [(4, .int x10), (3, .int r9), (0, .ref (ev.2.1 0)), (1, .int a1), (2, .int a2)]) hx hb dX9_rate_60 hl (by decide) rfl (fun ls hl => ?_)
          refine lv_aload_n hx hb dX9_rate_62 rfl (lv_at hl 2 rfl) ?_
          refine gB0_0 hc hw fl_X9_12 dX9_rate_63 ?_
          refine gB1_1 hc hw fl_X9_80 dX9_rate_66 ?_
          refine lv_iload_n hx hb dX9_rate_69 rfl (lv_at hl 3 rfl) ?_
          refine lv_iload_n hx hb dX9_rate_70 rfl (lv_at hl 4 rfl) ?_
          obtain ⟨z, hf⟩ := oi_some hf
          refine tB11 hc hw z dX9_rate_71 (fun H locs hw => ?_)
          obtain ⟨u11, eu11, hf⟩ := lt_some hf
          have hw := VW.nm eu11 hw
          refine lv_iload hx hb dX9_rate_72 (lv_at hl 0 rfl) ?_
          exact retI hc hr hlk hw hf dX9_rate_74
        · have hf := it_neg z hf
          refine lv_aload_n hx hb dX9_rate_45 rfl (lv_at hl 1 rfl) ?_
          refine lv_iload_n hx hb dX9_rate_46 rfl (lv_at hl 0 rfl) ?_
          obtain ⟨r14, u13, h12, hf⟩ := ob_some hf
          refine endI okB hw (runV_ok (As := [.int r9]) (rest := []) okB hc hw (c_X9_refuse l ev r9 u8 h12 H.size) kv_X9_refuse ml_X9_62 (rvB0 ev u8) hl.1 rfl rfl (Nat.le_of_ble_eq_true rfl) (rm_le (by decide) (by decide)) dX9_rate_47) (fun H locs hw => ?_)
          exact retI hc hr hlk hw hf dX9_rate_50
      · have hf := it_pos z hf
        refine lv_aload_n hx hb dX9_rate_26 rfl (lv_at hl 0 rfl) ?_
        refine lv_bipush (v := (-3 : Int32)) hx hb dX9_rate_27 (by decide) ?_
        obtain ⟨r17, u16, h15, hf⟩ := ob_some hf
        refine endI okB hw (runV_ok (As := [.int (-3 : Int32)]) (rest := []) okB hc hw (c_X9_refuse l ev (-3 : Int32) u5 h15 H.size) kv_X9_refuse ml_X9_62 (rvB0 ev u5) hl.1 rfl rfl (Nat.le_of_ble_eq_true rfl) (rm_le (by decide) (by decide)) dX9_rate_29) (fun H locs hw => ?_)
        exact retI hc hr hlk hw hf dX9_rate_32
    · have hf := it_neg z hf
      exact wL10 u H locs ls hw (lv_sub hl [0] rfl) hf

def f_X1_drop (a1 : Int32) (u : SS) : Option SS :=
  oi a1 48 (lt (tZ u 3 a1 (0 : Int32)) fun u1 => oi a1 48 (lt (tA u1 5 a1 (0 : Int32)) fun u2 => some u2))
set_option maxHeartbeats 4000000 in
set_option maxRecDepth 100000 in
theorem c_X1_drop (l : Launch) (ev : EV) (a1 : Int32) (u : SS) {u' : SS} (hf : f_X1_drop a1 u = some u') : MV wdB l yX1_drop cX1_drop 2 none 0 ev [.ref (ev.2.1 1), .int a1] u u' := by
  refine bodyV (by decide +kernel) rfl (Nat.le_of_ble_eq_true rfl) ?_
  intro p e s m below meth cd ls H locs hc hr hlk hw hl
  generalize hav : (List.toArray [.ref (ev.2.1 1), .int a1] : Array Value) = av at hc ⊢
  obtain ⟨hx, hb, hml, hown, hts, hK, hZ⟩ := id hc
  have hl : lv_has ls 2 [(0, .ref (ev.2.1 1)), (1, .int a1)] := hl
  unfold f_X1_drop at hf
  refine lv_aload_n hx hb dX1_drop_0 rfl (lv_at hl 0 rfl) ?_
  refine gB1_2 hc hw fl_X1_18 dX1_drop_1 ?_
  refine lv_iload_n hx hb dX1_drop_4 rfl (lv_at hl 1 rfl) ?_
  refine lv_iconst (v := (0 : Int32)) hx hb dX1_drop_5 (by decide) ?_
  obtain ⟨z, hf⟩ := oi_some hf
  refine tB12 hc hw z dX1_drop_6 (fun H locs hw => ?_)
  obtain ⟨u1, eu1, hf⟩ := lt_some hf
  have hw := VW.nm eu1 hw
  refine lv_aload_n hx hb dX1_drop_7 rfl (lv_at hl 0 rfl) ?_
  refine gB1_4 hc hw fl_X1_25 dX1_drop_8 ?_
  refine lv_iload_n hx hb dX1_drop_11 rfl (lv_at hl 1 rfl) ?_
  refine lv_iconst (v := (0 : Int32)) hx hb dX1_drop_12 (by decide) ?_
  obtain ⟨z, hf⟩ := oi_some hf
  refine tB14 hc hw z dX1_drop_13 (fun H locs hw => ?_)
  obtain ⟨u2, eu2, hf⟩ := lt_some hf
  have hw := VW.nm eu2 hw
  exact retV hc hr hlk hw hf dX1_drop_14

def f_X1_keepLots_L21 (k2 : Int32 → Int32 → SS → Option SS) (b1 : Int32) (b2 : Int32) (u : SS) : Option SS :=
  lt (b2 + (1 : Int32)) fun x2 => k2 b1 x2 u
def b_X1_keepLots_L2 (k2 : Int32 → Int32 → SS → Option SS) (b1 : Int32) (b2 : Int32) (u : SS) : Option SS :=
  if (48 : Int32) ≤ b2 then (lt (sI u 2 b1) fun u1 => some u1) else (if (b2 - b2 / (6 : Int32) * (6 : Int32)) < b1 then (f_X1_keepLots_L21 k2 b1 b2 u) else (ov (f_X1_drop b2 u) fun u4 => f_X1_keepLots_L21 k2 b1 b2 u4))
def f_X1_keepLots_L2 : Nat → Int32 → Int32 → SS → Option SS
  | 0 => fun _ _ _ => none
  | n + 1 => b_X1_keepLots_L2 (f_X1_keepLots_L2 n)
def f_X1_keepLots (a1 : Int32) (u : SS) : Option SS :=
  f_X1_keepLots_L2 FU a1 (0 : Int32) u
set_option maxHeartbeats 4000000 in
set_option maxRecDepth 100000 in
theorem c_X1_keepLots (l : Launch) (ev : EV) (a1 : Int32) (u : SS) {u' : SS} (hf : f_X1_keepLots a1 u = some u') : MV wdB l yX1_keepLots cX1_keepLots 3 none 1 ev [.ref (ev.2.1 1), .int a1] u u' := by
  refine bodyV (by decide +kernel) rfl (Nat.le_of_ble_eq_true rfl) ?_
  intro p e s m below meth cd ls H locs hc hr hlk hw hl
  generalize hav : (List.toArray [.ref (ev.2.1 1), .int a1] : Array Value) = av at hc ⊢
  obtain ⟨hx, hb, hml, hown, hts, hK, hZ⟩ := id hc
  have hl : lv_has ls 3 [(0, .ref (ev.2.1 1)), (1, .int a1)] := hl
  have wL21 : ∀ (k2 : Int32 → Int32 → SS → Option SS) (hk2 : ∀ (b1 : Int32) (b2 : Int32) (u : SS) (H : Heap) (locs : List Loc) (ls : Array Slot), VW wdB ev s u H locs → lv_has ls 3 [(0, .ref (ev.2.1 1)), (1, .int b1), (2, .int b2)] → k2 b1 b2 u = some u' → W p l e (rmk 1) s m av below meth cd H locs 0 0 (ZV wdB ev s below av u') (F0 m 2 ls [])) (b1 : Int32) (b2 : Int32) (u : SS) (H : Heap) (locs : List Loc) (ls : Array Slot), VW wdB ev s u H locs → lv_has ls 3 [(0, .ref (ev.2.1 1)), (1, .int b1), (2, .int b2)] → f_X1_keepLots_L21 k2 b1 b2 u = some u' → W p l e (rmk 1) s m av below meth cd H locs 0 0 (ZV wdB ev s below av u') (F0 m 21 ls []) := by
    intro k2 hk2 b1 b2 u H locs ls hw hl hf
    unfold f_X1_keepLots_L21 at hf
    obtain ⟨x2, ex2, hf⟩ := lt_some hf
    refine lv_iinc (v := x2) (lv' := [(2, .int x2), (0, .ref (ev.2.1 1)), (1, .int b1)]) hx hb dX1_keepLots_21 hl (k := 2) rfl (by rw [ex2]; rfl) (by decide) rfl (fun ls hl => ?_)
    refine lv_goto (tgt := 2) hx hb dX1_keepLots_24 (by decide) ?_
    exact hk2 b1 x2 u H locs ls hw (lv_sub hl [1, 2, 0] rfl) hf
  have wL2 : ∀ (n : Nat) (b1 : Int32) (b2 : Int32) (u : SS) (H : Heap) (locs : List Loc) (ls : Array Slot), VW wdB ev s u H locs → lv_has ls 3 [(0, .ref (ev.2.1 1)), (1, .int b1), (2, .int b2)] → f_X1_keepLots_L2 n b1 b2 u = some u' → W p l e (rmk 1) s m av below meth cd H locs 0 0 (ZV wdB ev s below av u') (F0 m 2 ls []) := by
    intro n
    induction n with
    | zero =>
      intro b1 b2 u H locs ls hw hl hf
      cases hf
    | succ n hk2 =>
      intro b1 b2 u H locs ls hw hl hf
      have hf : b_X1_keepLots_L2 (f_X1_keepLots_L2 n) b1 b2 u = some u' := hf
      unfold b_X1_keepLots_L2 at hf
      refine lv_iload_n hx hb dX1_keepLots_2 rfl (lv_at hl 2 rfl) ?_
      refine lv_bipush (v := (48 : Int32)) hx hb dX1_keepLots_3 (by decide) ?_
      refine lv_icmp_ge (tgt := 27) hx hb dX1_keepLots_5 (by decide) (fun z => ?_) (fun z => ?_)
      · have hf := it_pos z hf
        refine lv_aload_n hx hb dX1_keepLots_27 rfl (lv_at hl 0 rfl) ?_
        refine lv_iload_n hx hb dX1_keepLots_28 rfl (lv_at hl 1 rfl) ?_
        refine pB1_11 hc hw fl_X1_44 dX1_keepLots_29 (fun H locs hw => ?_)
        obtain ⟨u1, eu1, hf⟩ := lt_some hf
        have hw := VW.nm eu1 hw
        exact retV hc hr hlk hw hf dX1_keepLots_32
      · have hf := it_neg z hf
        refine lv_iload_n hx hb dX1_keepLots_8 rfl (lv_at hl 2 rfl) ?_
        refine lv_bipush (v := (6 : Int32)) hx hb dX1_keepLots_9 (by decide) ?_
        refine lv_irem hx hb dX1_keepLots_11 (by decide) ?_
        refine lv_iload_n hx hb dX1_keepLots_12 rfl (lv_at hl 1 rfl) ?_
        refine lv_icmp_lt (tgt := 21) hx hb dX1_keepLots_13 (by decide) (fun z => ?_) (fun z => ?_)
        · have hf := it_pos z hf
          exact wL21 (f_X1_keepLots_L2 n) hk2 b1 b2 u H locs ls hw (lv_sub hl [0, 1, 2] rfl) hf
        · have hf := it_neg z hf
          refine lv_aload_n hx hb dX1_keepLots_16 rfl (lv_at hl 0 rfl) ?_
          refine lv_iload_n hx hb dX1_keepLots_17 rfl (lv_at hl 2 rfl) ?_
          obtain ⟨u4, h3, hf⟩ := ov_some hf
          refine endV okB hw (runV_ok (As := [.int b2]) (rest := []) okB hc hw (c_X1_drop l ev b2 u h3 H.size) kv_X1_drop ml_X1_50 (rvB1 ev u) hl.1 rfl rfl (Nat.le_of_ble_eq_true rfl) (rm_le (by decide) (by decide)) dX1_keepLots_18) (fun H locs hw => ?_)
          exact wL21 (f_X1_keepLots_L2 n) hk2 b1 b2 u4 H locs ls hw (lv_sub hl [0, 1, 2] rfl) hf
  unfold f_X1_keepLots at hf
  refine lv_iconst (v := (0 : Int32)) hx hb dX1_keepLots_0 (by decide) ?_
  refine lv_istore_n (lv' := [(2, .int (0 : Int32)), (0, .ref (ev.2.1 1)), (1, .int a1)]) hx hb dX1_keepLots_1 rfl hl (by decide) rfl (fun ls hl => ?_)
  exact wL2 FU a1 (0 : Int32) u H locs ls hw (lv_sub hl [1, 2, 0] rfl) hf

def f_X9_lots (a1 : Int32) (u : SS) : Option (Int32 × SS) :=
  ob (f_X1_isOpen u) fun r3 u2 => if r3 = 0 then (ob (f_X9_refuse (-3 : Int32) u2) fun r15 u14 => some (r15, u14)) else (ob (f_X9_inRange a1 (1 : Int32) (6 : Int32) u2) fun r6 u5 => if r6 = 0 then (lt (gI u5 2) fun x7 => ov (f_X1_keepLots a1 u5) fun u9 => some (x7, u9)) else (ob (f_X9_refuse r6 u5) fun r12 u11 => some (r12, u11)))
set_option maxHeartbeats 4000000 in
set_option maxRecDepth 100000 in
theorem c_X9_lots (l : Launch) (ev : EV) (a1 : Int32) (u : SS) {r : Int32} {u' : SS} (hf : f_X9_lots a1 u = some (r, u')) : MI wdB l yX9_lots cX9_lots 4 (some .int) 2 ev [.ref (ev.2.1 0), .int a1] u r u' := by
  refine bodyI (by decide +kernel) rfl (Nat.le_of_ble_eq_true rfl) ?_
  intro p e s m below meth cd ls H locs hc hr hlk hw hl
  generalize hav : (List.toArray [.ref (ev.2.1 0), .int a1] : Array Value) = av at hc ⊢
  obtain ⟨hx, hb, hml, hown, hts, hK, hZ⟩ := id hc
  have hl : lv_has ls 4 [(0, .ref (ev.2.1 0)), (1, .int a1)] := hl
  unfold f_X9_lots at hf
  refine lv_aload_n hx hb dX9_lots_0 rfl (lv_at hl 0 rfl) ?_
  refine gB0_0 hc hw fl_X9_12 dX9_lots_1 ?_
  obtain ⟨r3, u2, h1, hf⟩ := ob_some hf
  refine endI okB hw (runV_ok (As := []) (rest := []) okB hc hw (c_X1_isOpen l ev u h1 H.size) kv_X1_isOpen ml_X9_71 (rvB1 ev u) hl.1 rfl rfl (Nat.le_of_ble_eq_true rfl) (rm_le (by decide) (by decide)) dX9_lots_4) (fun H locs hw => ?_)
  refine lv_if_ne (tgt := 17) hx hb dX9_lots_7 (by decide) (fun z => ?_) (fun z => ?_)
  · have hf := it_neg z hf
    refine lv_iload_n hx hb dX9_lots_17 rfl (lv_at hl 1 rfl) ?_
    refine lv_iconst (v := (1 : Int32)) hx hb dX9_lots_18 (by decide) ?_
    refine lv_bipush (v := (6 : Int32)) hx hb dX9_lots_19 (by decide) ?_
    obtain ⟨r6, u5, h4, hf⟩ := ob_some hf
    refine endI okB hw (runS_ok (As := [.int a1, .int (1 : Int32), .int (6 : Int32)]) (rest := []) okB hc hw (c_X9_inRange l ev a1 (1 : Int32) (6 : Int32) u2 h4 H.size) ks_X9_inRange ml_X9_76 hl.1 rfl rfl (Nat.le_of_ble_eq_true rfl) (rm_le (by decide) (by decide)) dX9_lots_21) (fun H locs hw => ?_)
    refine lv_istore_n (lv' := [(2, .int r6), (0, .ref (ev.2.1 0)), (1, .int a1)]) hx hb dX9_lots_24 rfl hl (by decide) rfl (fun ls hl => ?_)
    refine lv_iload_n hx hb dX9_lots_25 rfl (lv_at hl 0 rfl) ?_
    refine lv_if_eq (tgt := 35) hx hb dX9_lots_26 (by decide) (fun z => ?_) (fun z => ?_)
    · have hf := it_pos z hf
      refine lv_aload_n hx hb dX9_lots_35 rfl (lv_at hl 1 rfl) ?_
      refine gB0_0 hc hw fl_X9_12 dX9_lots_36 ?_
      refine gB1_11 hc hw fl_X9_83 dX9_lots_39 ?_
      obtain ⟨x7, ex7, hf⟩ := lt_some hf
      refine tope ex7 ?_
      refine lv_istore_n (lv' := [(3, .int x7), (2, .int r6), (0, .ref (ev.2.1 0)), (1, .int a1)]) hx hb dX9_lots_42 rfl hl (by decide) rfl (fun ls hl => ?_)
      refine lv_aload_n hx hb dX9_lots_43 rfl (lv_at hl 2 rfl) ?_
      refine gB0_0 hc hw fl_X9_12 dX9_lots_44 ?_
      refine lv_iload_n hx hb dX9_lots_47 rfl (lv_at hl 3 rfl) ?_
      obtain ⟨u9, h8, hf⟩ := ov_some hf
      refine endV okB hw (runV_ok (As := [.int a1]) (rest := []) okB hc hw (c_X1_keepLots l ev a1 u5 h8 H.size) kv_X1_keepLots ml_X9_86 (rvB1 ev u5) hl.1 rfl rfl (Nat.le_of_ble_eq_true rfl) (rm_le (by decide) (by decide)) dX9_lots_48) (fun H locs hw => ?_)
      refine lv_iload_n hx hb dX9_lots_51 rfl (lv_at hl 0 rfl) ?_
      exact retI hc hr hlk hw hf dX9_lots_52
    · have hf := it_neg z hf
      refine lv_aload_n hx hb dX9_lots_29 rfl (lv_at hl 1 rfl) ?_
      refine lv_iload_n hx hb dX9_lots_30 rfl (lv_at hl 0 rfl) ?_
      obtain ⟨r12, u11, h10, hf⟩ := ob_some hf
      refine endI okB hw (runV_ok (As := [.int r6]) (rest := []) okB hc hw (c_X9_refuse l ev r6 u5 h10 H.size) kv_X9_refuse ml_X9_62 (rvB0 ev u5) hl.1 rfl rfl (Nat.le_of_ble_eq_true rfl) (rm_le (by decide) (by decide)) dX9_lots_31) (fun H locs hw => ?_)
      exact retI hc hr hlk hw hf dX9_lots_34
  · have hf := it_pos z hf
    refine lv_aload_n hx hb dX9_lots_10 rfl (lv_at hl 0 rfl) ?_
    refine lv_bipush (v := (-3 : Int32)) hx hb dX9_lots_11 (by decide) ?_
    obtain ⟨r15, u14, h13, hf⟩ := ob_some hf
    refine endI okB hw (runV_ok (As := [.int (-3 : Int32)]) (rest := []) okB hc hw (c_X9_refuse l ev (-3 : Int32) u2 h13 H.size) kv_X9_refuse ml_X9_62 (rvB0 ev u2) hl.1 rfl rfl (Nat.le_of_ble_eq_true rfl) (rm_le (by decide) (by decide)) dX9_lots_13) (fun H locs hw => ?_)
    exact retI hc hr hlk hw hf dX9_lots_16
end
