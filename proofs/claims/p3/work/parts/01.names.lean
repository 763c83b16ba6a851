-- ===== PART A: goes FIRST, ahead of the names: the tables' words, and 'selects' of the private methods out of them =====
/-- a private method of a class that the tables say can be made, by its rows of tables_1 -/
def lw_okq (q : MethodName × Nat) : Prop := (q.1.cls ≠ "java/lang/invoke/MethodHandle" ∧ q.1.cls ≠ "java/lang/invoke/VarHandle") ∧ Cond.instantiable q.1.cls q.2 ∈ tables_1 ∧ Cond.privateMethod q.1 ∈ tables_1 ∧ Cond.instanceMethod q.1 ∈ tables_1
theorem lw_pg0 : ("BidsJudged" ≠ "java/lang/invoke/MethodHandle" ∧ "BidsJudged" ≠ "java/lang/invoke/VarHandle") ∧ (tables_1[18]? = some (Cond.instantiable "BidsJudged" 8)) ∧ (tables_1[386]? = some (Cond.privateMethod ⟨"BidsJudged", "refuse", "(I)I"⟩)) ∧ (tables_1[387]? = some (Cond.instanceMethod ⟨"BidsJudged", "refuse", "(I)I"⟩)) ∧ ("BidsJudged" ≠ "java/lang/invoke/MethodHandle" ∧ "BidsJudged" ≠ "java/lang/invoke/VarHandle") ∧ (tables_1[18]? = some (Cond.instantiable "BidsJudged" 8)) ∧ (tables_1[423]? = some (Cond.privateMethod ⟨"BidsJudged", "noBid", "(II)Z"⟩)) ∧ (tables_1[424]? = some (Cond.instanceMethod ⟨"BidsJudged", "noBid", "(II)Z"⟩)) ∧ ("BidsJudged" ≠ "java/lang/invoke/MethodHandle" ∧ "BidsJudged" ≠ "java/lang/invoke/VarHandle") ∧ (tables_1[18]? = some (Cond.instantiable "BidsJudged" 8)) ∧ (tables_1[430]? = some (Cond.privateMethod ⟨"BidsJudged", "noLot", "(I)Z"⟩)) ∧ (tables_1[431]? = some (Cond.instanceMethod ⟨"BidsJudged", "noLot", "(I)Z"⟩)) ∧ ("BidsJudged$Book" ≠ "java/lang/invoke/MethodHandle" ∧ "BidsJudged$Book" ≠ "java/lang/invoke/VarHandle") ∧ (tables_1[26]? = some (Cond.instantiable "BidsJudged$Book" 13)) ∧ (tables_1[469]? = some (Cond.privateMethod ⟨"BidsJudged$Book", "countedSum", "(I)I"⟩)) ∧ (tables_1[470]? = some (Cond.instanceMethod ⟨"BidsJudged$Book", "countedSum", "(I)I"⟩)) ∧ ("BidsJudged$Table" ≠ "java/lang/invoke/MethodHandle" ∧ "BidsJudged$Table" ≠ "java/lang/invoke/VarHandle") ∧ (tables_1[141]? = some (Cond.instantiable "BidsJudged$Table" 20)) ∧ (tables_1[549]? = some (Cond.privateMethod ⟨"BidsJudged$Table", "sumUp", "()V"⟩)) ∧ (tables_1[550]? = some (Cond.instanceMethod ⟨"BidsJudged$Table", "sumUp", "()V"⟩)) ∧ ("BidsJudged$Formula" ≠ "java/lang/invoke/MethodHandle" ∧ "BidsJudged$Formula" ≠ "java/lang/invoke/VarHandle") ∧ (tables_1[104]? = some (Cond.instantiable "BidsJudged$Formula" 9)) ∧ (tables_1[577]? = some (Cond.privateMethod ⟨"BidsJudged$Formula", "readSum", "(I)V"⟩)) ∧ (tables_1[578]? = some (Cond.instanceMethod ⟨"BidsJudged$Formula", "readSum", "(I)V"⟩)) ∧ ("BidsJudged$Formula" ≠ "java/lang/invoke/MethodHandle" ∧ "BidsJudged$Formula" ≠ "java/lang/invoke/VarHandle") ∧ (tables_1[104]? = some (Cond.instantiable "BidsJudged$Formula" 9)) ∧ (tables_1[581]? = some (Cond.privateMethod ⟨"BidsJudged$Formula", "readTerm", "(I)V"⟩)) ∧ (tables_1[582]? = some (Cond.instanceMethod ⟨"BidsJudged$Formula", "readTerm", "(I)V"⟩)) ∧ ("BidsJudged$Formula" ≠ "java/lang/invoke/MethodHandle" ∧ "BidsJudged$Formula" ≠ "java/lang/invoke/VarHandle") ∧ (tables_1[104]? = some (Cond.instantiable "BidsJudged$Formula" 9)) ∧ (tables_1[585]? = some (Cond.privateMethod ⟨"BidsJudged$Formula", "readUnit", "(I)V"⟩)) ∧ (tables_1[586]? = some (Cond.instanceMethod ⟨"BidsJudged$Formula", "readUnit", "(I)V"⟩)) := by decide +kernel
theorem lw_p0 : lw_okq (⟨"BidsJudged", "refuse", "(I)I"⟩, 8) := ⟨lw_pg0.1, List.mem_of_getElem? (i := 18) lw_pg0.2.1, List.mem_of_getElem? (i := 386) lw_pg0.2.2.1, List.mem_of_getElem? (i := 387) lw_pg0.2.2.2.1⟩
theorem lw_p1 : lw_okq (⟨"BidsJudged", "noBid", "(II)Z"⟩, 8) := ⟨lw_pg0.2.2.2.2.1, List.mem_of_getElem? (i := 18) lw_pg0.2.2.2.2.2.1, List.mem_of_getElem? (i := 423) lw_pg0.2.2.2.2.2.2.1, List.mem_of_getElem? (i := 424) lw_pg0.2.2.2.2.2.2.2.1⟩
theorem lw_p2 : lw_okq (⟨"BidsJudged", "noLot", "(I)Z"⟩, 8) := ⟨lw_pg0.2.2.2.2.2.2.2.2.1, List.mem_of_getElem? (i := 18) lw_pg0.2.2.2.2.2.2.2.2.2.1, List.mem_of_getElem? (i := 430) lw_pg0.2.2.2.2.2.2.2.2.2.2.1, List.mem_of_getElem? (i := 431) lw_pg0.2.2.2.2.2.2.2.2.2.2.2.1⟩
theorem lw_p3 : lw_okq (⟨"BidsJudged$Book", "countedSum", "(I)I"⟩, 13) := ⟨lw_pg0.2.2.2.2.2.2.2.2.2.2.2.2.1, List.mem_of_getElem? (i := 26) lw_pg0.2.2.2.2.2.2.2.2.2.2.2.2.2.1, List.mem_of_getElem? (i := 469) lw_pg0.2.2.2.2.2.2.2.2.2.2.2.2.2.2.1, List.mem_of_getElem? (i := 470) lw_pg0.2.2.2.2.2.2.2.2.2.2.2.2.2.2.2.1⟩
theorem lw_p4 : lw_okq (⟨"BidsJudged$Table", "sumUp", "()V"⟩, 20) := ⟨lw_pg0.2.2.2.2.2.2.2.2.2.2.2.2.2.2.2.2.1, List.mem_of_getElem? (i := 141) lw_pg0.2.2.2.2.2.2.2.2.2.2.2.2.2.2.2.2.2.1, List.mem_of_getElem? (i := 549) lw_pg0.2.2.2.2.2.2.2.2.2.2.2.2.2.2.2.2.2.2.1, List.mem_of_getElem? (i := 550) lw_pg0.2.2.2.2.2.2.2.2.2.2.2.2.2.2.2.2.2.2.2.1⟩
theorem lw_p5 : lw_okq (⟨"BidsJudged$Formula", "readSum", "(I)V"⟩, 9) := ⟨lw_pg0.2.2.2.2.2.2.2.2.2.2.2.2.2.2.2.2.2.2.2.2.1, List.mem_of_getElem? (i := 104) lw_pg0.2.2.2.2.2.2.2.2.2.2.2.2.2.2.2.2.2.2.2.2.2.1, List.mem_of_getElem? (i := 577) lw_pg0.2.2.2.2.2.2.2.2.2.2.2.2.2.2.2.2.2.2.2.2.2.2.1, List.mem_of_getElem? (i := 578) lw_pg0.2.2.2.2.2.2.2.2.2.2.2.2.2.2.2.2.2.2.2.2.2.2.2.1⟩
theorem lw_p6 : lw_okq (⟨"BidsJudged$Formula", "readTerm", "(I)V"⟩, 9) := ⟨lw_pg0.2.2.2.2.2.2.2.2.2.2.2.2.2.2.2.2.2.2.2.2.2.2.2.2.1, List.mem_of_getElem? (i := 104) lw_pg0.2.2.2.2.2.2.2.2.2.2.2.2.2.2.2.2.2.2.2.2.2.2.2.2.2.1, List.mem_of_getElem? (i := 581) lw_pg0.2.2.2.2.2.2.2.2.2.2.2.2.2.2.2.2.2.2.2.2.2.2.2.2.2.2.1, List.mem_of_getElem? (i := 582) lw_pg0.2.2.2.2.2.2.2.2.2.2.2.2.2.2.2.2.2.2.2.2.2.2.2.2.2.2.2.1⟩
theorem lw_p7 : lw_okq (⟨"BidsJudged$Formula", "readUnit", "(I)V"⟩, 9) := ⟨lw_pg0.2.2.2.2.2.2.2.2.2.2.2.2.2.2.2.2.2.2.2.2.2.2.2.2.2.2.2.2.1, List.mem_of_getElem? (i := 104) lw_pg0.2.2.2.2.2.2.2.2.2.2.2.2.2.2.2.2.2.2.2.2.2.2.2.2.2.2.2.2.2.1, List.mem_of_getElem? (i := 585) lw_pg0.2.2.2.2.2.2.2.2.2.2.2.2.2.2.2.2.2.2.2.2.2.2.2.2.2.2.2.2.2.2.1, List.mem_of_getElem? (i := 586) lw_pg0.2.2.2.2.2.2.2.2.2.2.2.2.2.2.2.2.2.2.2.2.2.2.2.2.2.2.2.2.2.2.2⟩
theorem lw_pg8 : ("BidsJudged$Formula" ≠ "java/lang/invoke/MethodHandle" ∧ "BidsJudged$Formula" ≠ "java/lang/invoke/VarHandle") ∧ (tables_1[104]? = some (Cond.instantiable "BidsJudged$Formula" 9)) ∧ (tables_1[589]? = some (Cond.privateMethod ⟨"BidsJudged$Formula", "peek", "()I"⟩)) ∧ (tables_1[590]? = some (Cond.instanceMethod ⟨"BidsJudged$Formula", "peek", "()I"⟩)) ∧ ("BidsJudged$Formula" ≠ "java/lang/invoke/MethodHandle" ∧ "BidsJudged$Formula" ≠ "java/lang/invoke/VarHandle") ∧ (tables_1[104]? = some (Cond.instantiable "BidsJudged$Formula" 9)) ∧ (tables_1[596]? = some (Cond.privateMethod ⟨"BidsJudged$Formula", "readNumber", "()V"⟩)) ∧ (tables_1[597]? = some (Cond.instanceMethod ⟨"BidsJudged$Formula", "readNumber", "()V"⟩)) ∧ ("BidsJudged$Formula" ≠ "java/lang/invoke/MethodHandle" ∧ "BidsJudged$Formula" ≠ "java/lang/invoke/VarHandle") ∧ (tables_1[104]? = some (Cond.instantiable "BidsJudged$Formula" 9)) ∧ (tables_1[600]? = some (Cond.privateMethod ⟨"BidsJudged$Formula", "emit", "(I)V"⟩)) ∧ (tables_1[601]? = some (Cond.instanceMethod ⟨"BidsJudged$Formula", "emit", "(I)V"⟩)) ∧ ("BidsJudged$Formula" ≠ "java/lang/invoke/MethodHandle" ∧ "BidsJudged$Formula" ≠ "java/lang/invoke/VarHandle") ∧ (tables_1[104]? = some (Cond.instantiable "BidsJudged$Formula" 9)) ∧ (tables_1[607]? = some (Cond.privateMethod ⟨"BidsJudged$Formula", "readBracket", "(IZ)V"⟩)) ∧ (tables_1[608]? = some (Cond.instanceMethod ⟨"BidsJudged$Formula", "readBracket", "(IZ)V"⟩)) ∧ ("BidsJudged$Formula" ≠ "java/lang/invoke/MethodHandle" ∧ "BidsJudged$Formula" ≠ "java/lang/invoke/VarHandle") ∧ (tables_1[104]? = some (Cond.instantiable "BidsJudged$Formula" 9)) ∧ (tables_1[611]? = some (Cond.privateMethod ⟨"BidsJudged$Formula", "findFault", "()V"⟩)) ∧ (tables_1[612]? = some (Cond.instanceMethod ⟨"BidsJudged$Formula", "findFault", "()V"⟩)) ∧ ("BidsJudged$Formula" ≠ "java/lang/invoke/MethodHandle" ∧ "BidsJudged$Formula" ≠ "java/lang/invoke/VarHandle") ∧ (tables_1[104]? = some (Cond.instantiable "BidsJudged$Formula" 9)) ∧ (tables_1[615]? = some (Cond.privateMethod ⟨"BidsJudged$Formula", "expect", "(I)V"⟩)) ∧ (tables_1[616]? = some (Cond.instanceMethod ⟨"BidsJudged$Formula", "expect", "(I)V"⟩)) ∧ ("BidsJudged" ≠ "java/lang/invoke/MethodHandle" ∧ "BidsJudged" ≠ "java/lang/invoke/VarHandle") ∧ (tables_1[18]? = some (Cond.instantiable "BidsJudged" 8)) ∧ (tables_1[626]? = some (Cond.privateMethod ⟨"BidsJudged", "refuseLong", "(I)J"⟩)) ∧ (tables_1[627]? = some (Cond.instanceMethod ⟨"BidsJudged", "refuseLong", "(I)J"⟩)) ∧ ("BidsJudged$Table" ≠ "java/lang/invoke/MethodHandle" ∧ "BidsJudged$Table" ≠ "java/lang/invoke/VarHandle") ∧ (tables_1[141]? = some (Cond.instantiable "BidsJudged$Table" 20)) ∧ (tables_1[635]? = some (Cond.privateMethod ⟨"BidsJudged$Table", "push", "(JJ)V"⟩)) ∧ (tables_1[636]? = some (Cond.instanceMethod ⟨"BidsJudged$Table", "push", "(JJ)V"⟩)) := by decide +kernel
theorem lw_p8 : lw_okq (⟨"BidsJudged$Formula", "peek", "()I"⟩, 9) := ⟨lw_pg8.1, List.mem_of_getElem? (i := 104) lw_pg8.2.1, List.mem_of_getElem? (i := 589) lw_pg8.2.2.1, List.mem_of_getElem? (i := 590) lw_pg8.2.2.2.1⟩
theorem lw_p9 : lw_okq (⟨"BidsJudged$Formula", "readNumber", "()V"⟩, 9) := ⟨lw_pg8.2.2.2.2.1, List.mem_of_getElem? (i := 104) lw_pg8.2.2.2.2.2.1, List.mem_of_getElem? (i := 596) lw_pg8.2.2.2.2.2.2.1, List.mem_of_getElem? (i := 597) lw_pg8.2.2.2.2.2.2.2.1⟩
theorem lw_p10 : lw_okq (⟨"BidsJudged$Formula", "emit", "(I)V"⟩, 9) := ⟨lw_pg8.2.2.2.2.2.2.2.2.1, List.mem_of_getElem? (i := 104) lw_pg8.2.2.2.2.2.2.2.2.2.1, List.mem_of_getElem? (i := 600) lw_pg8.2.2.2.2.2.2.2.2.2.2.1, List.mem_of_getElem? (i := 601) lw_pg8.2.2.2.2.2.2.2.2.2.2.2.1⟩
theorem lw_p11 : lw_okq (⟨"BidsJudged$Formula", "readBracket", "(IZ)V"⟩, 9) := ⟨lw_pg8.2.2.2.2.2.2.2.2.2.2.2.2.1, List.mem_of_getElem? (i := 104) lw_pg8.2.2.2.2.2.2.2.2.2.2.2.2.2.1, List.mem_of_getElem? (i := 607) lw_pg8.2.2.2.2.2.2.2.2.2.2.2.2.2.2.1, List.mem_of_getElem? (i := 608) lw_pg8.2.2.2.2.2.2.2.2.2.2.2.2.2.2.2.1⟩
theorem lw_p12 : lw_okq (⟨"BidsJudged$Formula", "findFault", "()V"⟩, 9) := ⟨lw_pg8.2.2.2.2.2.2.2.2.2.2.2.2.2.2.2.2.1, List.mem_of_getElem? (i := 104) lw_pg8.2.2.2.2.2.2.2.2.2.2.2.2.2.2.2.2.2.1, List.mem_of_getElem? (i := 611) lw_pg8.2.2.2.2.2.2.2.2.2.2.2.2.2.2.2.2.2.2.1, List.mem_of_getElem? (i := 612) lw_pg8.2.2.2.2.2.2.2.2.2.2.2.2.2.2.2.2.2.2.2.1⟩
theorem lw_p13 : lw_okq (⟨"BidsJudged$Formula", "expect", "(I)V"⟩, 9) := ⟨lw_pg8.2.2.2.2.2.2.2.2.2.2.2.2.2.2.2.2.2.2.2.2.1, List.mem_of_getElem? (i := 104) lw_pg8.2.2.2.2.2.2.2.2.2.2.2.2.2.2.2.2.2.2.2.2.2.1, List.mem_of_getElem? (i := 615) lw_pg8.2.2.2.2.2.2.2.2.2.2.2.2.2.2.2.2.2.2.2.2.2.2.1, List.mem_of_getElem? (i := 616) lw_pg8.2.2.2.2.2.2.2.2.2.2.2.2.2.2.2.2.2.2.2.2.2.2.2.1⟩
theorem lw_p14 : lw_okq (⟨"BidsJudged", "refuseLong", "(I)J"⟩, 8) := ⟨lw_pg8.2.2.2.2.2.2.2.2.2.2.2.2.2.2.2.2.2.2.2.2.2.2.2.2.1, List.mem_of_getElem? (i := 18) lw_pg8.2.2.2.2.2.2.2.2.2.2.2.2.2.2.2.2.2.2.2.2.2.2.2.2.2.1, List.mem_of_getElem? (i := 626) lw_pg8.2.2.2.2.2.2.2.2.2.2.2.2.2.2.2.2.2.2.2.2.2.2.2.2.2.2.1, List.mem_of_getElem? (i := 627) lw_pg8.2.2.2.2.2.2.2.2.2.2.2.2.2.2.2.2.2.2.2.2.2.2.2.2.2.2.2.1⟩
theorem lw_p15 : lw_okq (⟨"BidsJudged$Table", "push", "(JJ)V"⟩, 20) := ⟨lw_pg8.2.2.2.2.2.2.2.2.2.2.2.2.2.2.2.2.2.2.2.2.2.2.2.2.2.2.2.2.1, List.mem_of_getElem? (i := 141) lw_pg8.2.2.2.2.2.2.2.2.2.2.2.2.2.2.2.2.2.2.2.2.2.2.2.2.2.2.2.2.2.1, List.mem_of_getElem? (i := 635) lw_pg8.2.2.2.2.2.2.2.2.2.2.2.2.2.2.2.2.2.2.2.2.2.2.2.2.2.2.2.2.2.2.1, List.mem_of_getElem? (i := 636) lw_pg8.2.2.2.2.2.2.2.2.2.2.2.2.2.2.2.2.2.2.2.2.2.2.2.2.2.2.2.2.2.2.2⟩
def lw_privs_1 : List (MethodName × Nat) := [(⟨"BidsJudged", "refuse", "(I)I"⟩, 8), (⟨"BidsJudged", "noBid", "(II)Z"⟩, 8), (⟨"BidsJudged", "noLot", "(I)Z"⟩, 8), (⟨"BidsJudged$Book", "countedSum", "(I)I"⟩, 13), (⟨"BidsJudged$Table", "sumUp", "()V"⟩, 20), (⟨"BidsJudged$Formula", "readSum", "(I)V"⟩, 9), (⟨"BidsJudged$Formula", "readTerm", "(I)V"⟩, 9), (⟨"BidsJudged$Formula", "readUnit", "(I)V"⟩, 9), (⟨"BidsJudged$Formula", "peek", "()I"⟩, 9), (⟨"BidsJudged$Formula", "readNumber", "()V"⟩, 9), (⟨"BidsJudged$Formula", "emit", "(I)V"⟩, 9), (⟨"BidsJudged$Formula", "readBracket", "(IZ)V"⟩, 9), (⟨"BidsJudged$Formula", "findFault", "()V"⟩, 9), (⟨"BidsJudged$Formula", "expect", "(I)V"⟩, 9), (⟨"BidsJudged", "refuseLong", "(I)J"⟩, 8), (⟨"BidsJudged$Table", "push", "(JJ)V"⟩, 20)]
theorem lw_r1 : ∀ q ∈ lw_privs_1, lw_okq q := List.forall_mem_cons.mpr ⟨lw_p0, List.forall_mem_cons.mpr ⟨lw_p1, List.forall_mem_cons.mpr ⟨lw_p2, List.forall_mem_cons.mpr ⟨lw_p3, List.forall_mem_cons.mpr ⟨lw_p4, List.forall_mem_cons.mpr ⟨lw_p5, List.forall_mem_cons.mpr ⟨lw_p6, List.forall_mem_cons.mpr ⟨lw_p7, List.forall_mem_cons.mpr ⟨lw_p8, List.forall_mem_cons.mpr ⟨lw_p9, List.forall_mem_cons.mpr ⟨lw_p10, List.forall_mem_cons.mpr ⟨lw_p11, List.forall_mem_cons.mpr ⟨lw_p12, List.forall_mem_cons.mpr ⟨lw_p13, List.forall_mem_cons.mpr ⟨lw_p14, List.forall_mem_cons.mpr ⟨lw_p15, fun _ h => absurd h List.not_mem_nil⟩⟩⟩⟩⟩⟩⟩⟩⟩⟩⟩⟩⟩⟩⟩⟩
theorem lw_pg16 : ("BidsJudged$Table" ≠ "java/lang/invoke/MethodHandle" ∧ "BidsJudged$Table" ≠ "java/lang/invoke/VarHandle") ∧ (tables_1[141]? = some (Cond.instantiable "BidsJudged$Table" 20)) ∧ (tables_1[640]? = some (Cond.privateMethod ⟨"BidsJudged$Table", "pushName", "(II)V"⟩)) ∧ (tables_1[641]? = some (Cond.instanceMethod ⟨"BidsJudged$Table", "pushName", "(II)V"⟩)) ∧ ("BidsJudged$Table" ≠ "java/lang/invoke/MethodHandle" ∧ "BidsJudged$Table" ≠ "java/lang/invoke/VarHandle") ∧ (tables_1[141]? = some (Cond.instantiable "BidsJudged$Table" 20)) ∧ (tables_1[644]? = some (Cond.privateMethod ⟨"BidsJudged$Table", "operate", "(I)V"⟩)) ∧ (tables_1[645]? = some (Cond.instanceMethod ⟨"BidsJudged$Table", "operate", "(I)V"⟩)) ∧ ("BidsJudged$Table" ≠ "java/lang/invoke/MethodHandle" ∧ "BidsJudged$Table" ≠ "java/lang/invoke/VarHandle") ∧ (tables_1[141]? = some (Cond.instantiable "BidsJudged$Table" 20)) ∧ (tables_1[657]? = some (Cond.privateMethod ⟨"BidsJudged$Table", "insert", "(I)V"⟩)) ∧ (tables_1[658]? = some (Cond.instanceMethod ⟨"BidsJudged$Table", "insert", "(I)V"⟩)) ∧ ("BidsJudged" ≠ "java/lang/invoke/MethodHandle" ∧ "BidsJudged" ≠ "java/lang/invoke/VarHandle") ∧ (tables_1[18]? = some (Cond.instantiable "BidsJudged" 8)) ∧ (tables_1[680]? = some (Cond.privateMethod ⟨"BidsJudged", "noPair", "(III)Z"⟩)) ∧ (tables_1[681]? = some (Cond.instanceMethod ⟨"BidsJudged", "noPair", "(III)Z"⟩)) ∧ ("BidsJudged" ≠ "java/lang/invoke/MethodHandle" ∧ "BidsJudged" ≠ "java/lang/invoke/VarHandle") ∧ (tables_1[18]? = some (Cond.instantiable "BidsJudged" 8)) ∧ (tables_1[684]? = some (Cond.privateMethod ⟨"BidsJudged", "workPair", "(IIII)V"⟩)) ∧ (tables_1[685]? = some (Cond.instanceMethod ⟨"BidsJudged", "workPair", "(IIII)V"⟩)) ∧ ("BidsJudged" ≠ "java/lang/invoke/MethodHandle" ∧ "BidsJudged" ≠ "java/lang/invoke/VarHandle") ∧ (tables_1[18]? = some (Cond.instantiable "BidsJudged" 8)) ∧ (tables_1[734]? = some (Cond.privateMethod ⟨"BidsJudged", "findBest", "()V"⟩)) ∧ (tables_1[735]? = some (Cond.instanceMethod ⟨"BidsJudged", "findBest", "()V"⟩)) ∧ ("BidsJudged$Whole" ≠ "java/lang/invoke/MethodHandle" ∧ "BidsJudged$Whole" ≠ "java/lang/invoke/VarHandle") ∧ (tables_1[239]? = some (Cond.instantiable "BidsJudged$Whole" 9)) ∧ (tables_1[755]? = some (Cond.privateMethod ⟨"BidsJudged$Whole", "costOf", "(II)J"⟩)) ∧ (tables_1[756]? = some (Cond.instanceMethod ⟨"BidsJudged$Whole", "costOf", "(II)J"⟩)) ∧ ("BidsJudged$Whole" ≠ "java/lang/invoke/MethodHandle" ∧ "BidsJudged$Whole" ≠ "java/lang/invoke/VarHandle") ∧ (tables_1[239]? = some (Cond.instantiable "BidsJudged$Whole" 9)) ∧ (tables_1[769]? = some (Cond.privateMethod ⟨"BidsJudged$Whole", "addBidder", "()V"⟩)) ∧ (tables_1[770]? = some (Cond.instanceMethod ⟨"BidsJudged$Whole", "addBidder", "()V"⟩)) := by decide +kernel
theorem lw_p16 : lw_okq (⟨"BidsJudged$Table", "pushName", "(II)V"⟩, 20) := ⟨lw_pg16.1, List.mem_of_getElem? (i := 141) lw_pg16.2.1, List.mem_of_getElem? (i := 640) lw_pg16.2.2.1, List.mem_of_getElem? (i := 641) lw_pg16.2.2.2.1⟩
theorem lw_p17 : lw_okq (⟨"BidsJudged$Table", "operate", "(I)V"⟩, 20) := ⟨lw_pg16.2.2.2.2.1, List.mem_of_getElem? (i := 141) lw_pg16.2.2.2.2.2.1, List.mem_of_getElem? (i := 644) lw_pg16.2.2.2.2.2.2.1, List.mem_of_getElem? (i := 645) lw_pg16.2.2.2.2.2.2.2.1⟩
theorem lw_p18 : lw_okq (⟨"BidsJudged$Table", "insert", "(I)V"⟩, 20) := ⟨lw_pg16.2.2.2.2.2.2.2.2.1, List.mem_of_getElem? (i := 141) lw_pg16.2.2.2.2.2.2.2.2.2.1, List.mem_of_getElem? (i := 657) lw_pg16.2.2.2.2.2.2.2.2.2.2.1, List.mem_of_getElem? (i := 658) lw_pg16.2.2.2.2.2.2.2.2.2.2.2.1⟩
theorem lw_p19 : lw_okq (⟨"BidsJudged", "noPair", "(III)Z"⟩, 8) := ⟨lw_pg16.2.2.2.2.2.2.2.2.2.2.2.2.1, List.mem_of_getElem? (i := 18) lw_pg16.2.2.2.2.2.2.2.2.2.2.2.2.2.1, List.mem_of_getElem? (i := 680) lw_pg16.2.2.2.2.2.2.2.2.2.2.2.2.2.2.1, List.mem_of_getElem? (i := 681) lw_pg16.2.2.2.2.2.2.2.2.2.2.2.2.2.2.2.1⟩
theorem lw_p20 : lw_okq (⟨"BidsJudged", "workPair", "(IIII)V"⟩, 8) := ⟨lw_pg16.2.2.2.2.2.2.2.2.2.2.2.2.2.2.2.2.1, List.mem_of_getElem? (i := 18) lw_pg16.2.2.2.2.2.2.2.2.2.2.2.2.2.2.2.2.2.1, List.mem_of_getElem? (i := 684) lw_pg16.2.2.2.2.2.2.2.2.2.2.2.2.2.2.2.2.2.2.1, List.mem_of_getElem? (i := 685) lw_pg16.2.2.2.2.2.2.2.2.2.2.2.2.2.2.2.2.2.2.2.1⟩
theorem lw_p21 : lw_okq (⟨"BidsJudged", "findBest", "()V"⟩, 8) := ⟨lw_pg16.2.2.2.2.2.2.2.2.2.2.2.2.2.2.2.2.2.2.2.2.1, List.mem_of_getElem? (i := 18) lw_pg16.2.2.2.2.2.2.2.2.2.2.2.2.2.2.2.2.2.2.2.2.2.1, List.mem_of_getElem? (i := 734) lw_pg16.2.2.2.2.2.2.2.2.2.2.2.2.2.2.2.2.2.2.2.2.2.2.1, List.mem_of_getElem? (i := 735) lw_pg16.2.2.2.2.2.2.2.2.2.2.2.2.2.2.2.2.2.2.2.2.2.2.2.1⟩
theorem lw_p22 : lw_okq (⟨"BidsJudged$Whole", "costOf", "(II)J"⟩, 9) := ⟨lw_pg16.2.2.2.2.2.2.2.2.2.2.2.2.2.2.2.2.2.2.2.2.2.2.2.2.1, List.mem_of_getElem? (i := 239) lw_pg16.2.2.2.2.2.2.2.2.2.2.2.2.2.2.2.2.2.2.2.2.2.2.2.2.2.1, List.mem_of_getElem? (i := 755) lw_pg16.2.2.2.2.2.2.2.2.2.2.2.2.2.2.2.2.2.2.2.2.2.2.2.2.2.2.1, List.mem_of_getElem? (i := 756) lw_pg16.2.2.2.2.2.2.2.2.2.2.2.2.2.2.2.2.2.2.2.2.2.2.2.2.2.2.2.1⟩
theorem lw_p23 : lw_okq (⟨"BidsJudged$Whole", "addBidder", "()V"⟩, 9) := ⟨lw_pg16.2.2.2.2.2.2.2.2.2.2.2.2.2.2.2.2.2.2.2.2.2.2.2.2.2.2.2.2.1, List.mem_of_getElem? (i := 239) lw_pg16.2.2.2.2.2.2.2.2.2.2.2.2.2.2.2.2.2.2.2.2.2.2.2.2.2.2.2.2.2.1, List.mem_of_getElem? (i := 769) lw_pg16.2.2.2.2.2.2.2.2.2.2.2.2.2.2.2.2.2.2.2.2.2.2.2.2.2.2.2.2.2.2.1, List.mem_of_getElem? (i := 770) lw_pg16.2.2.2.2.2.2.2.2.2.2.2.2.2.2.2.2.2.2.2.2.2.2.2.2.2.2.2.2.2.2.2⟩
theorem lw_pg24 : ("BidsJudged$Whole" ≠ "java/lang/invoke/MethodHandle" ∧ "BidsJudged$Whole" ≠ "java/lang/invoke/VarHandle") ∧ (tables_1[239]? = some (Cond.instantiable "BidsJudged$Whole" 9)) ∧ (tables_1[778]? = some (Cond.privateMethod ⟨"BidsJudged$Whole", "keep", "(JI)V"⟩)) ∧ (tables_1[779]? = some (Cond.instanceMethod ⟨"BidsJudged$Whole", "keep", "(JI)V"⟩)) ∧ ("BidsJudged" ≠ "java/lang/invoke/MethodHandle" ∧ "BidsJudged" ≠ "java/lang/invoke/VarHandle") ∧ (tables_1[18]? = some (Cond.instantiable "BidsJudged" 8)) ∧ (tables_1[824]? = some (Cond.privateMethod ⟨"BidsJudged", "makeAnew", "(II)V"⟩)) ∧ (tables_1[825]? = some (Cond.instanceMethod ⟨"BidsJudged", "makeAnew", "(II)V"⟩)) ∧ ("BidsJudged$Framework" ≠ "java/lang/invoke/MethodHandle" ∧ "BidsJudged$Framework" ≠ "java/lang/invoke/VarHandle") ∧ (tables_1[327]? = some (Cond.instantiable "BidsJudged$Framework" 7)) ∧ (tables_1[919]? = some (Cond.privateMethod ⟨"BidsJudged$Framework", "nextWithRoom", "(II)I"⟩)) ∧ (tables_1[920]? = some (Cond.instanceMethod ⟨"BidsJudged$Framework", "nextWithRoom", "(II)I"⟩)) ∧ ("BidsJudged$Framework" ≠ "java/lang/invoke/MethodHandle" ∧ "BidsJudged$Framework" ≠ "java/lang/invoke/VarHandle") ∧ (tables_1[327]? = some (Cond.instantiable "BidsJudged$Framework" 7)) ∧ (tables_1[923]? = some (Cond.privateMethod ⟨"BidsJudged$Framework", "hand", "(I)I"⟩)) ∧ (tables_1[924]? = some (Cond.instanceMethod ⟨"BidsJudged$Framework", "hand", "(I)I"⟩)) ∧ ("BidsJudgedModel" ≠ "java/lang/invoke/MethodHandle" ∧ "BidsJudgedModel" ≠ "java/lang/invoke/VarHandle") ∧ (tables_1[951]? = some (Cond.instantiable "BidsJudgedModel" 71)) ∧ (tables_1[1175]? = some (Cond.privateMethod ⟨"BidsJudgedModel", "refuse", "(I)I"⟩)) ∧ (tables_1[1176]? = some (Cond.instanceMethod ⟨"BidsJudgedModel", "refuse", "(I)I"⟩)) ∧ ("BidsJudgedModel" ≠ "java/lang/invoke/MethodHandle" ∧ "BidsJudgedModel" ≠ "java/lang/invoke/VarHandle") ∧ (tables_1[951]? = some (Cond.instantiable "BidsJudgedModel" 71)) ∧ (tables_1[1187]? = some (Cond.privateMethod ⟨"BidsJudgedModel", "isOpen", "()Z"⟩)) ∧ (tables_1[1188]? = some (Cond.instanceMethod ⟨"BidsJudgedModel", "isOpen", "()Z"⟩)) ∧ ("BidsJudgedModel" ≠ "java/lang/invoke/MethodHandle" ∧ "BidsJudgedModel" ≠ "java/lang/invoke/VarHandle") ∧ (tables_1[951]? = some (Cond.instantiable "BidsJudgedModel" 71)) ∧ (tables_1[1207]? = some (Cond.privateMethod ⟨"BidsJudgedModel", "isLot", "(I)Z"⟩)) ∧ (tables_1[1208]? = some (Cond.instanceMethod ⟨"BidsJudgedModel", "isLot", "(I)Z"⟩)) ∧ ("BidsJudgedModel" ≠ "java/lang/invoke/MethodHandle" ∧ "BidsJudgedModel" ≠ "java/lang/invoke/VarHandle") ∧ (tables_1[951]? = some (Cond.instantiable "BidsJudgedModel" 71)) ∧ (tables_1[1211]? = some (Cond.privateMethod ⟨"BidsJudgedModel", "wrongBid", "(IIIIIII)I"⟩)) ∧ (tables_1[1212]? = some (Cond.instanceMethod ⟨"BidsJudgedModel", "wrongBid", "(IIIIIII)I"⟩)) := by decide +kernel
theorem lw_p24 : lw_okq (⟨"BidsJudged$Whole", "keep", "(JI)V"⟩, 9) := ⟨lw_pg24.1, List.mem_of_getElem? (i := 239) lw_pg24.2.1, List.mem_of_getElem? (i := 778) lw_pg24.2.2.1, List.mem_of_getElem? (i := 779) lw_pg24.2.2.2.1⟩
theorem lw_p25 : lw_okq (⟨"BidsJudged", "makeAnew", "(II)V"⟩, 8) := ⟨lw_pg24.2.2.2.2.1, List.mem_of_getElem? (i := 18) lw_pg24.2.2.2.2.2.1, List.mem_of_getElem? (i := 824) lw_pg24.2.2.2.2.2.2.1, List.mem_of_getElem? (i := 825) lw_pg24.2.2.2.2.2.2.2.1⟩
theorem lw_p26 : lw_okq (⟨"BidsJudged$Framework", "nextWithRoom", "(II)I"⟩, 7) := ⟨lw_pg24.2.2.2.2.2.2.2.2.1, List.mem_of_getElem? (i := 327) lw_pg24.2.2.2.2.2.2.2.2.2.1, List.mem_of_getElem? (i := 919) lw_pg24.2.2.2.2.2.2.2.2.2.2.1, List.mem_of_getElem? (i := 920) lw_pg24.2.2.2.2.2.2.2.2.2.2.2.1⟩
theorem lw_p27 : lw_okq (⟨"BidsJudged$Framework", "hand", "(I)I"⟩, 7) := ⟨lw_pg24.2.2.2.2.2.2.2.2.2.2.2.2.1, List.mem_of_getElem? (i := 327) lw_pg24.2.2.2.2.2.2.2.2.2.2.2.2.2.1, List.mem_of_getElem? (i := 923) lw_pg24.2.2.2.2.2.2.2.2.2.2.2.2.2.2.1, List.mem_of_getElem? (i := 924) lw_pg24.2.2.2.2.2.2.2.2.2.2.2.2.2.2.2.1⟩
theorem lw_p28 : lw_okq (⟨"BidsJudgedModel", "refuse", "(I)I"⟩, 71) := ⟨lw_pg24.2.2.2.2.2.2.2.2.2.2.2.2.2.2.2.2.1, List.mem_of_getElem? (i := 951) lw_pg24.2.2.2.2.2.2.2.2.2.2.2.2.2.2.2.2.2.1, List.mem_of_getElem? (i := 1175) lw_pg24.2.2.2.2.2.2.2.2.2.2.2.2.2.2.2.2.2.2.1, List.mem_of_getElem? (i := 1176) lw_pg24.2.2.2.2.2.2.2.2.2.2.2.2.2.2.2.2.2.2.2.1⟩
theorem lw_p29 : lw_okq (⟨"BidsJudgedModel", "isOpen", "()Z"⟩, 71) := ⟨lw_pg24.2.2.2.2.2.2.2.2.2.2.2.2.2.2.2.2.2.2.2.2.1, List.mem_of_getElem? (i := 951) lw_pg24.2.2.2.2.2.2.2.2.2.2.2.2.2.2.2.2.2.2.2.2.2.1, List.mem_of_getElem? (i := 1187) lw_pg24.2.2.2.2.2.2.2.2.2.2.2.2.2.2.2.2.2.2.2.2.2.2.1, List.mem_of_getElem? (i := 1188) lw_pg24.2.2.2.2.2.2.2.2.2.2.2.2.2.2.2.2.2.2.2.2.2.2.2.1⟩
theorem lw_p30 : lw_okq (⟨"BidsJudgedModel", "isLot", "(I)Z"⟩, 71) := ⟨lw_pg24.2.2.2.2.2.2.2.2.2.2.2.2.2.2.2.2.2.2.2.2.2.2.2.2.1, List.mem_of_getElem? (i := 951) lw_pg24.2.2.2.2.2.2.2.2.2.2.2.2.2.2.2.2.2.2.2.2.2.2.2.2.2.1, List.mem_of_getElem? (i := 1207) lw_pg24.2.2.2.2.2.2.2.2.2.2.2.2.2.2.2.2.2.2.2.2.2.2.2.2.2.2.1, List.mem_of_getElem? (i := 1208) lw_pg24.2.2.2.2.2.2.2.2.2.2.2.2.2.2.2.2.2.2.2.2.2.2.2.2.2.2.2.1⟩
theorem lw_p31 : lw_okq (⟨"BidsJudgedModel", "wrongBid", "(IIIIIII)I"⟩, 71) := ⟨lw_pg24.2.2.2.2.2.2.2.2.2.2.2.2.2.2.2.2.2.2.2.2.2.2.2.2.2.2.2.2.1, List.mem_of_getElem? (i := 951) lw_pg24.2.2.2.2.2.2.2.2.2.2.2.2.2.2.2.2.2.2.2.2.2.2.2.2.2.2.2.2.2.1, List.mem_of_getElem? (i := 1211) lw_pg24.2.2.2.2.2.2.2.2.2.2.2.2.2.2.2.2.2.2.2.2.2.2.2.2.2.2.2.2.2.2.1, List.mem_of_getElem? (i := 1212) lw_pg24.2.2.2.2.2.2.2.2.2.2.2.2.2.2.2.2.2.2.2.2.2.2.2.2.2.2.2.2.2.2.2⟩
def lw_privs_2 : List (MethodName × Nat) := [(⟨"BidsJudged$Table", "pushName", "(II)V"⟩, 20), (⟨"BidsJudged$Table", "operate", "(I)V"⟩, 20), (⟨"BidsJudged$Table", "insert", "(I)V"⟩, 20), (⟨"BidsJudged", "noPair", "(III)Z"⟩, 8), (⟨"BidsJudged", "workPair", "(IIII)V"⟩, 8), (⟨"BidsJudged", "findBest", "()V"⟩, 8), (⟨"BidsJudged$Whole", "costOf", "(II)J"⟩, 9), (⟨"BidsJudged$Whole", "addBidder", "()V"⟩, 9), (⟨"BidsJudged$Whole", "keep", "(JI)V"⟩, 9), (⟨"BidsJudged", "makeAnew", "(II)V"⟩, 8), (⟨"BidsJudged$Framework", "nextWithRoom", "(II)I"⟩, 7), (⟨"BidsJudged$Framework", "hand", "(I)I"⟩, 7), (⟨"BidsJudgedModel", "refuse", "(I)I"⟩, 71), (⟨"BidsJudgedModel", "isOpen", "()Z"⟩, 71), (⟨"BidsJudgedModel", "isLot", "(I)Z"⟩, 71), (⟨"BidsJudgedModel", "wrongBid", "(IIIIIII)I"⟩, 71)]
theorem lw_r2 : ∀ q ∈ lw_privs_2, lw_okq q := List.forall_mem_cons.mpr ⟨lw_p16, List.forall_mem_cons.mpr ⟨lw_p17, List.forall_mem_cons.mpr ⟨lw_p18, List.forall_mem_cons.mpr ⟨lw_p19, List.forall_mem_cons.mpr ⟨lw_p20, List.forall_mem_cons.mpr ⟨lw_p21, List.forall_mem_cons.mpr ⟨lw_p22, List.forall_mem_cons.mpr ⟨lw_p23, List.forall_mem_cons.mpr ⟨lw_p24, List.forall_mem_cons.mpr ⟨lw_p25, List.forall_mem_cons.mpr ⟨lw_p26, List.forall_mem_cons.mpr ⟨lw_p27, List.forall_mem_cons.mpr ⟨lw_p28, List.forall_mem_cons.mpr ⟨lw_p29, List.forall_mem_cons.mpr ⟨lw_p30, List.forall_mem_cons.mpr ⟨lw_p31, fun _ h => absurd h List.not_mem_nil⟩⟩⟩⟩⟩⟩⟩⟩⟩⟩⟩⟩⟩⟩⟩⟩
theorem lw_pg32 : ("BidsJudgedModel" ≠ "java/lang/invoke/MethodHandle" ∧ "BidsJudgedModel" ≠ "java/lang/invoke/VarHandle") ∧ (tables_1[951]? = some (Cond.instantiable "BidsJudgedModel" 71)) ∧ (tables_1[1220]? = some (Cond.privateMethod ⟨"BidsJudgedModel", "lacks", "(II)I"⟩)) ∧ (tables_1[1221]? = some (Cond.instanceMethod ⟨"BidsJudgedModel", "lacks", "(II)I"⟩)) ∧ ("BidsJudgedModel" ≠ "java/lang/invoke/MethodHandle" ∧ "BidsJudgedModel" ≠ "java/lang/invoke/VarHandle") ∧ (tables_1[951]? = some (Cond.instantiable "BidsJudgedModel" 71)) ∧ (tables_1[1232]? = some (Cond.privateMethod ⟨"BidsJudgedModel", "priceOf", "(I)I"⟩)) ∧ (tables_1[1233]? = some (Cond.instanceMethod ⟨"BidsJudgedModel", "priceOf", "(I)I"⟩)) ∧ ("BidsJudgedModel" ≠ "java/lang/invoke/MethodHandle" ∧ "BidsJudgedModel" ≠ "java/lang/invoke/VarHandle") ∧ (tables_1[951]? = some (Cond.instantiable "BidsJudgedModel" 71)) ∧ (tables_1[1236]? = some (Cond.privateMethod ⟨"BidsJudgedModel", "itemsOf", "(I)I"⟩)) ∧ (tables_1[1237]? = some (Cond.instanceMethod ⟨"BidsJudgedModel", "itemsOf", "(I)I"⟩)) ∧ ("BidsJudgedModel" ≠ "java/lang/invoke/MethodHandle" ∧ "BidsJudgedModel" ≠ "java/lang/invoke/VarHandle") ∧ (tables_1[951]? = some (Cond.instantiable "BidsJudgedModel" 71)) ∧ (tables_1[1249]? = some (Cond.privateMethod ⟨"BidsJudgedModel", "fails", "(II)I"⟩)) ∧ (tables_1[1250]? = some (Cond.instanceMethod ⟨"BidsJudgedModel", "fails", "(II)I"⟩)) ∧ ("BidsJudgedModel" ≠ "java/lang/invoke/MethodHandle" ∧ "BidsJudgedModel" ≠ "java/lang/invoke/VarHandle") ∧ (tables_1[951]? = some (Cond.instantiable "BidsJudgedModel" 71)) ∧ (tables_1[1253]? = some (Cond.privateMethod ⟨"BidsJudgedModel", "doesStand", "(I)Z"⟩)) ∧ (tables_1[1254]? = some (Cond.instanceMethod ⟨"BidsJudgedModel", "doesStand", "(I)Z"⟩)) ∧ ("BidsJudgedModel" ≠ "java/lang/invoke/MethodHandle" ∧ "BidsJudgedModel" ≠ "java/lang/invoke/VarHandle") ∧ (tables_1[951]? = some (Cond.instantiable "BidsJudgedModel" 71)) ∧ (tables_1[1257]? = some (Cond.privateMethod ⟨"BidsJudgedModel", "isSilent", "(I)Z"⟩)) ∧ (tables_1[1258]? = some (Cond.instanceMethod ⟨"BidsJudgedModel", "isSilent", "(I)Z"⟩)) ∧ ("BidsJudgedModel" ≠ "java/lang/invoke/MethodHandle" ∧ "BidsJudgedModel" ≠ "java/lang/invoke/VarHandle") ∧ (tables_1[951]? = some (Cond.instantiable "BidsJudgedModel" 71)) ∧ (tables_1[1269]? = some (Cond.privateMethod ⟨"BidsJudgedModel", "findQuality", "(II)V"⟩)) ∧ (tables_1[1270]? = some (Cond.instanceMethod ⟨"BidsJudgedModel", "findQuality", "(II)V"⟩)) ∧ ("BidsJudgedModel" ≠ "java/lang/invoke/MethodHandle" ∧ "BidsJudgedModel" ≠ "java/lang/invoke/VarHandle") ∧ (tables_1[951]? = some (Cond.instantiable "BidsJudgedModel" 71)) ∧ (tables_1[1273]? = some (Cond.privateMethod ⟨"BidsJudgedModel", "isAside", "(III)Z"⟩)) ∧ (tables_1[1274]? = some (Cond.instanceMethod ⟨"BidsJudgedModel", "isAside", "(III)Z"⟩)) := by decide +kernel
theorem lw_p32 : lw_okq (⟨"BidsJudgedModel", "lacks", "(II)I"⟩, 71) := ⟨lw_pg32.1, List.mem_of_getElem? (i := 951) lw_pg32.2.1, List.mem_of_getElem? (i := 1220) lw_pg32.2.2.1, List.mem_of_getElem? (i := 1221) lw_pg32.2.2.2.1⟩
theorem lw_p33 : lw_okq (⟨"BidsJudgedModel", "priceOf", "(I)I"⟩, 71) := ⟨lw_pg32.2.2.2.2.1, List.mem_of_getElem? (i := 951) lw_pg32.2.2.2.2.2.1, List.mem_of_getElem? (i := 1232) lw_pg32.2.2.2.2.2.2.1, List.mem_of_getElem? (i := 1233) lw_pg32.2.2.2.2.2.2.2.1⟩
theorem lw_p34 : lw_okq (⟨"BidsJudgedModel", "itemsOf", "(I)I"⟩, 71) := ⟨lw_pg32.2.2.2.2.2.2.2.2.1, List.mem_of_getElem? (i := 951) lw_pg32.2.2.2.2.2.2.2.2.2.1, List.mem_of_getElem? (i := 1236) lw_pg32.2.2.2.2.2.2.2.2.2.2.1, List.mem_of_getElem? (i := 1237) lw_pg32.2.2.2.2.2.2.2.2.2.2.2.1⟩
theorem lw_p35 : lw_okq (⟨"BidsJudgedModel", "fails", "(II)I"⟩, 71) := ⟨lw_pg32.2.2.2.2.2.2.2.2.2.2.2.2.1, List.mem_of_getElem? (i := 951) lw_pg32.2.2.2.2.2.2.2.2.2.2.2.2.2.1, List.mem_of_getElem? (i := 1249) lw_pg32.2.2.2.2.2.2.2.2.2.2.2.2.2.2.1, List.mem_of_getElem? (i := 1250) lw_pg32.2.2.2.2.2.2.2.2.2.2.2.2.2.2.2.1⟩
theorem lw_p36 : lw_okq (⟨"BidsJudgedModel", "doesStand", "(I)Z"⟩, 71) := ⟨lw_pg32.2.2.2.2.2.2.2.2.2.2.2.2.2.2.2.2.1, List.mem_of_getElem? (i := 951) lw_pg32.2.2.2.2.2.2.2.2.2.2.2.2.2.2.2.2.2.1, List.mem_of_getElem? (i := 1253) lw_pg32.2.2.2.2.2.2.2.2.2.2.2.2.2.2.2.2.2.2.1, List.mem_of_getElem? (i := 1254) lw_pg32.2.2.2.2.2.2.2.2.2.2.2.2.2.2.2.2.2.2.2.1⟩
theorem lw_p37 : lw_okq (⟨"BidsJudgedModel", "isSilent", "(I)Z"⟩, 71) := ⟨lw_pg32.2.2.2.2.2.2.2.2.2.2.2.2.2.2.2.2.2.2.2.2.1, List.mem_of_getElem? (i := 951) lw_pg32.2.2.2.2.2.2.2.2.2.2.2.2.2.2.2.2.2.2.2.2.2.1, List.mem_of_getElem? (i := 1257) lw_pg32.2.2.2.2.2.2.2.2.2.2.2.2.2.2.2.2.2.2.2.2.2.2.1, List.mem_of_getElem? (i := 1258) lw_pg32.2.2.2.2.2.2.2.2.2.2.2.2.2.2.2.2.2.2.2.2.2.2.2.1⟩
theorem lw_p38 : lw_okq (⟨"BidsJudgedModel", "findQuality", "(II)V"⟩, 71) := ⟨lw_pg32.2.2.2.2.2.2.2.2.2.2.2.2.2.2.2.2.2.2.2.2.2.2.2.2.1, List.mem_of_getElem? (i := 951) lw_pg32.2.2.2.2.2.2.2.2.2.2.2.2.2.2.2.2.2.2.2.2.2.2.2.2.2.1, List.mem_of_getElem? (i := 1269) lw_pg32.2.2.2.2.2.2.2.2.2.2.2.2.2.2.2.2.2.2.2.2.2.2.2.2.2.2.1, List.mem_of_getElem? (i := 1270) lw_pg32.2.2.2.2.2.2.2.2.2.2.2.2.2.2.2.2.2.2.2.2.2.2.2.2.2.2.2.1⟩
theorem lw_p39 : lw_okq (⟨"BidsJudgedModel", "isAside", "(III)Z"⟩, 71) := ⟨lw_pg32.2.2.2.2.2.2.2.2.2.2.2.2.2.2.2.2.2.2.2.2.2.2.2.2.2.2.2.2.1, List.mem_of_getElem? (i := 951) lw_pg32.2.2.2.2.2.2.2.2.2.2.2.2.2.2.2.2.2.2.2.2.2.2.2.2.2.2.2.2.2.1, List.mem_of_getElem? (i := 1273) lw_pg32.2.2.2.2.2.2.2.2.2.2.2.2.2.2.2.2.2.2.2.2.2.2.2.2.2.2.2.2.2.2.1, List.mem_of_getElem? (i := 1274) lw_pg32.2.2.2.2.2.2.2.2.2.2.2.2.2.2.2.2.2.2.2.2.2.2.2.2.2.2.2.2.2.2.2⟩
theorem lw_pg40 : ("BidsJudgedModel" ≠ "java/lang/invoke/MethodHandle" ∧ "BidsJudgedModel" ≠ "java/lang/invoke/VarHandle") ∧ (tables_1[951]? = some (Cond.instantiable "BidsJudgedModel" 71)) ∧ (tables_1[1289]? = some (Cond.privateMethod ⟨"BidsJudgedModel", "workText", "([II)V"⟩)) ∧ (tables_1[1290]? = some (Cond.instanceMethod ⟨"BidsJudgedModel", "workText", "([II)V"⟩)) ∧ ("BidsJudgedModel" ≠ "java/lang/invoke/MethodHandle" ∧ "BidsJudgedModel" ≠ "java/lang/invoke/VarHandle") ∧ (tables_1[951]? = some (Cond.instantiable "BidsJudgedModel" 71)) ∧ (tables_1[1293]? = some (Cond.privateMethod ⟨"BidsJudgedModel", "readUnit", "([II)Z"⟩)) ∧ (tables_1[1294]? = some (Cond.instanceMethod ⟨"BidsJudgedModel", "readUnit", "([II)Z"⟩)) ∧ ("BidsJudgedModel" ≠ "java/lang/invoke/MethodHandle" ∧ "BidsJudgedModel" ≠ "java/lang/invoke/VarHandle") ∧ (tables_1[951]? = some (Cond.instantiable "BidsJudgedModel" 71)) ∧ (tables_1[1300]? = some (Cond.privateMethod ⟨"BidsJudgedModel", "open", "(I)V"⟩)) ∧ (tables_1[1301]? = some (Cond.instanceMethod ⟨"BidsJudgedModel", "open", "(I)V"⟩)) ∧ ("BidsJudgedModel" ≠ "java/lang/invoke/MethodHandle" ∧ "BidsJudgedModel" ≠ "java/lang/invoke/VarHandle") ∧ (tables_1[951]? = some (Cond.instantiable "BidsJudgedModel" 71)) ∧ (tables_1[1307]? = some (Cond.privateMethod ⟨"BidsJudgedModel", "push", "(JJ)V"⟩)) ∧ (tables_1[1308]? = some (Cond.instanceMethod ⟨"BidsJudgedModel", "push", "(JJ)V"⟩)) ∧ ("BidsJudgedModel" ≠ "java/lang/invoke/MethodHandle" ∧ "BidsJudgedModel" ≠ "java/lang/invoke/VarHandle") ∧ (tables_1[951]? = some (Cond.instantiable "BidsJudgedModel" 71)) ∧ (tables_1[1316]? = some (Cond.privateMethod ⟨"BidsJudgedModel", "readSign", "(I)Z"⟩)) ∧ (tables_1[1317]? = some (Cond.instanceMethod ⟨"BidsJudgedModel", "readSign", "(I)Z"⟩)) ∧ ("BidsJudgedModel" ≠ "java/lang/invoke/MethodHandle" ∧ "BidsJudgedModel" ≠ "java/lang/invoke/VarHandle") ∧ (tables_1[951]? = some (Cond.instantiable "BidsJudgedModel" 71)) ∧ (tables_1[1320]? = some (Cond.privateMethod ⟨"BidsJudgedModel", "settle", "(Z)V"⟩)) ∧ (tables_1[1321]? = some (Cond.instanceMethod ⟨"BidsJudgedModel", "settle", "(Z)V"⟩)) ∧ ("BidsJudgedModel" ≠ "java/lang/invoke/MethodHandle" ∧ "BidsJudgedModel" ≠ "java/lang/invoke/VarHandle") ∧ (tables_1[951]? = some (Cond.instantiable "BidsJudgedModel" 71)) ∧ (tables_1[1324]? = some (Cond.privateMethod ⟨"BidsJudgedModel", "topSign", "()I"⟩)) ∧ (tables_1[1325]? = some (Cond.instanceMethod ⟨"BidsJudgedModel", "topSign", "()I"⟩)) ∧ ("BidsJudgedModel" ≠ "java/lang/invoke/MethodHandle" ∧ "BidsJudgedModel" ≠ "java/lang/invoke/VarHandle") ∧ (tables_1[951]? = some (Cond.instantiable "BidsJudgedModel" 71)) ∧ (tables_1[1328]? = some (Cond.privateMethod ⟨"BidsJudgedModel", "work", "(I)V"⟩)) ∧ (tables_1[1329]? = some (Cond.instanceMethod ⟨"BidsJudgedModel", "work", "(I)V"⟩)) := by decide +kernel
theorem lw_p40 : lw_okq (⟨"BidsJudgedModel", "workText", "([II)V"⟩, 71) := ⟨lw_pg40.1, List.mem_of_getElem? (i := 951) lw_pg40.2.1, List.mem_of_getElem? (i := 1289) lw_pg40.2.2.1, List.mem_of_getElem? (i := 1290) lw_pg40.2.2.2.1⟩
theorem lw_p41 : lw_okq (⟨"BidsJudgedModel", "readUnit", "([II)Z"⟩, 71) := ⟨lw_pg40.2.2.2.2.1, List.mem_of_getElem? (i := 951) lw_pg40.2.2.2.2.2.1, List.mem_of_getElem? (i := 1293) lw_pg40.2.2.2.2.2.2.1, List.mem_of_getElem? (i := 1294) lw_pg40.2.2.2.2.2.2.2.1⟩
theorem lw_p42 : lw_okq (⟨"BidsJudgedModel", "open", "(I)V"⟩, 71) := ⟨lw_pg40.2.2.2.2.2.2.2.2.1, List.mem_of_getElem? (i := 951) lw_pg40.2.2.2.2.2.2.2.2.2.1, List.mem_of_getElem? (i := 1300) lw_pg40.2.2.2.2.2.2.2.2.2.2.1, List.mem_of_getElem? (i := 1301) lw_pg40.2.2.2.2.2.2.2.2.2.2.2.1⟩
theorem lw_p43 : lw_okq (⟨"BidsJudgedModel", "push", "(JJ)V"⟩, 71) := ⟨lw_pg40.2.2.2.2.2.2.2.2.2.2.2.2.1, List.mem_of_getElem? (i := 951) lw_pg40.2.2.2.2.2.2.2.2.2.2.2.2.2.1, List.mem_of_getElem? (i := 1307) lw_pg40.2.2.2.2.2.2.2.2.2.2.2.2.2.2.1, List.mem_of_getElem? (i := 1308) lw_pg40.2.2.2.2.2.2.2.2.2.2.2.2.2.2.2.1⟩
theorem lw_p44 : lw_okq (⟨"BidsJudgedModel", "readSign", "(I)Z"⟩, 71) := ⟨lw_pg40.2.2.2.2.2.2.2.2.2.2.2.2.2.2.2.2.1, List.mem_of_getElem? (i := 951) lw_pg40.2.2.2.2.2.2.2.2.2.2.2.2.2.2.2.2.2.1, List.mem_of_getElem? (i := 1316) lw_pg40.2.2.2.2.2.2.2.2.2.2.2.2.2.2.2.2.2.2.1, List.mem_of_getElem? (i := 1317) lw_pg40.2.2.2.2.2.2.2.2.2.2.2.2.2.2.2.2.2.2.2.1⟩
theorem lw_p45 : lw_okq (⟨"BidsJudgedModel", "settle", "(Z)V"⟩, 71) := ⟨lw_pg40.2.2.2.2.2.2.2.2.2.2.2.2.2.2.2.2.2.2.2.2.1, List.mem_of_getElem? (i := 951) lw_pg40.2.2.2.2.2.2.2.2.2.2.2.2.2.2.2.2.2.2.2.2.2.1, List.mem_of_getElem? (i := 1320) lw_pg40.2.2.2.2.2.2.2.2.2.2.2.2.2.2.2.2.2.2.2.2.2.2.1, List.mem_of_getElem? (i := 1321) lw_pg40.2.2.2.2.2.2.2.2.2.2.2.2.2.2.2.2.2.2.2.2.2.2.2.1⟩
theorem lw_p46 : lw_okq (⟨"BidsJudgedModel", "topSign", "()I"⟩, 71) := ⟨lw_pg40.2.2.2.2.2.2.2.2.2.2.2.2.2.2.2.2.2.2.2.2.2.2.2.2.1, List.mem_of_getElem? (i := 951) lw_pg40.2.2.2.2.2.2.2.2.2.2.2.2.2.2.2.2.2.2.2.2.2.2.2.2.2.1, List.mem_of_getElem? (i := 1324) lw_pg40.2.2.2.2.2.2.2.2.2.2.2.2.2.2.2.2.2.2.2.2.2.2.2.2.2.2.1, List.mem_of_getElem? (i := 1325) lw_pg40.2.2.2.2.2.2.2.2.2.2.2.2.2.2.2.2.2.2.2.2.2.2.2.2.2.2.2.1⟩
theorem lw_p47 : lw_okq (⟨"BidsJudgedModel", "work", "(I)V"⟩, 71) := ⟨lw_pg40.2.2.2.2.2.2.2.2.2.2.2.2.2.2.2.2.2.2.2.2.2.2.2.2.2.2.2.2.1, List.mem_of_getElem? (i := 951) lw_pg40.2.2.2.2.2.2.2.2.2.2.2.2.2.2.2.2.2.2.2.2.2.2.2.2.2.2.2.2.2.1, List.mem_of_getElem? (i := 1328) lw_pg40.2.2.2.2.2.2.2.2.2.2.2.2.2.2.2.2.2.2.2.2.2.2.2.2.2.2.2.2.2.2.1, List.mem_of_getElem? (i := 1329) lw_pg40.2.2.2.2.2.2.2.2.2.2.2.2.2.2.2.2.2.2.2.2.2.2.2.2.2.2.2.2.2.2.2⟩
def lw_privs_3 : List (MethodName × Nat) := [(⟨"BidsJudgedModel", "lacks", "(II)I"⟩, 71), (⟨"BidsJudgedModel", "priceOf", "(I)I"⟩, 71), (⟨"BidsJudgedModel", "itemsOf", "(I)I"⟩, 71), (⟨"BidsJudgedModel", "fails", "(II)I"⟩, 71), (⟨"BidsJudgedModel", "doesStand", "(I)Z"⟩, 71), (⟨"BidsJudgedModel", "isSilent", "(I)Z"⟩, 71), (⟨"BidsJudgedModel", "findQuality", "(II)V"⟩, 71), (⟨"BidsJudgedModel", "isAside", "(III)Z"⟩, 71), (⟨"BidsJudgedModel", "workText", "([II)V"⟩, 71), (⟨"BidsJudgedModel", "readUnit", "([II)Z"⟩, 71), (⟨"BidsJudgedModel", "open", "(I)V"⟩, 71), (⟨"BidsJudgedModel", "push", "(JJ)V"⟩, 71), (⟨"BidsJudgedModel", "readSign", "(I)Z"⟩, 71), (⟨"BidsJudgedModel", "settle", "(Z)V"⟩, 71), (⟨"BidsJudgedModel", "topSign", "()I"⟩, 71), (⟨"BidsJudgedModel", "work", "(I)V"⟩, 71)]
theorem lw_r3 : ∀ q ∈ lw_privs_3, lw_okq q := List.forall_mem_cons.mpr ⟨lw_p32, List.forall_mem_cons.mpr ⟨lw_p33, List.forall_mem_cons.mpr ⟨lw_p34, List.forall_mem_cons.mpr ⟨lw_p35, List.forall_mem_cons.mpr ⟨lw_p36, List.forall_mem_cons.mpr ⟨lw_p37, List.forall_mem_cons.mpr ⟨lw_p38, List.forall_mem_cons.mpr ⟨lw_p39, List.forall_mem_cons.mpr ⟨lw_p40, List.forall_mem_cons.mpr ⟨lw_p41, List.forall_mem_cons.mpr ⟨lw_p42, List.forall_mem_cons.mpr ⟨lw_p43, List.forall_mem_cons.mpr ⟨lw_p44, List.forall_mem_cons.mpr ⟨lw_p45, List.forall_mem_cons.mpr ⟨lw_p46, List.forall_mem_cons.mpr ⟨lw_p47, fun _ h => absurd h List.not_mem_nil⟩⟩⟩⟩⟩⟩⟩⟩⟩⟩⟩⟩⟩⟩⟩⟩
theorem lw_pg48 : ("BidsJudgedModel" ≠ "java/lang/invoke/MethodHandle" ∧ "BidsJudgedModel" ≠ "java/lang/invoke/VarHandle") ∧ (tables_1[951]? = some (Cond.instantiable "BidsJudgedModel" 71)) ∧ (tables_1[1338]? = some (Cond.privateMethod ⟨"BidsJudgedModel", "refuseFar", "(I)J"⟩)) ∧ (tables_1[1339]? = some (Cond.instanceMethod ⟨"BidsJudgedModel", "refuseFar", "(I)J"⟩)) ∧ ("BidsJudgedModel" ≠ "java/lang/invoke/MethodHandle" ∧ "BidsJudgedModel" ≠ "java/lang/invoke/VarHandle") ∧ (tables_1[951]? = some (Cond.instantiable "BidsJudgedModel" 71)) ∧ (tables_1[1343]? = some (Cond.privateMethod ⟨"BidsJudgedModel", "findPoints", "(III)Z"⟩)) ∧ (tables_1[1344]? = some (Cond.instanceMethod ⟨"BidsJudgedModel", "findPoints", "(III)Z"⟩)) ∧ ("BidsJudgedModel" ≠ "java/lang/invoke/MethodHandle" ∧ "BidsJudgedModel" ≠ "java/lang/invoke/VarHandle") ∧ (tables_1[951]? = some (Cond.instantiable "BidsJudgedModel" 71)) ∧ (tables_1[1347]? = some (Cond.privateMethod ⟨"BidsJudgedModel", "findNames", "(III)V"⟩)) ∧ (tables_1[1348]? = some (Cond.instanceMethod ⟨"BidsJudgedModel", "findNames", "(III)V"⟩)) ∧ ("BidsJudgedModel" ≠ "java/lang/invoke/MethodHandle" ∧ "BidsJudgedModel" ≠ "java/lang/invoke/VarHandle") ∧ (tables_1[951]? = some (Cond.instantiable "BidsJudgedModel" 71)) ∧ (tables_1[1355]? = some (Cond.privateMethod ⟨"BidsJudgedModel", "findOrder", "(I)V"⟩)) ∧ (tables_1[1356]? = some (Cond.instanceMethod ⟨"BidsJudgedModel", "findOrder", "(I)V"⟩)) ∧ ("BidsJudgedModel" ≠ "java/lang/invoke/MethodHandle" ∧ "BidsJudgedModel" ≠ "java/lang/invoke/VarHandle") ∧ (tables_1[951]? = some (Cond.instantiable "BidsJudgedModel" 71)) ∧ (tables_1[1359]? = some (Cond.privateMethod ⟨"BidsJudgedModel", "isAhead", "(III)Z"⟩)) ∧ (tables_1[1360]? = some (Cond.instanceMethod ⟨"BidsJudgedModel", "isAhead", "(III)Z"⟩)) ∧ ("BidsJudgedModel" ≠ "java/lang/invoke/MethodHandle" ∧ "BidsJudgedModel" ≠ "java/lang/invoke/VarHandle") ∧ (tables_1[951]? = some (Cond.instantiable "BidsJudgedModel" 71)) ∧ (tables_1[1375]? = some (Cond.privateMethod ⟨"BidsJudgedModel", "isLow", "(I)Z"⟩)) ∧ (tables_1[1376]? = some (Cond.instanceMethod ⟨"BidsJudgedModel", "isLow", "(I)Z"⟩)) ∧ ("BidsJudgedModel" ≠ "java/lang/invoke/MethodHandle" ∧ "BidsJudgedModel" ≠ "java/lang/invoke/VarHandle") ∧ (tables_1[951]? = some (Cond.instantiable "BidsJudgedModel" 71)) ∧ (tables_1[1403]? = some (Cond.privateMethod ⟨"BidsJudgedModel", "findWhole", "()V"⟩)) ∧ (tables_1[1404]? = some (Cond.instanceMethod ⟨"BidsJudgedModel", "findWhole", "()V"⟩)) ∧ ("BidsJudgedModel" ≠ "java/lang/invoke/MethodHandle" ∧ "BidsJudgedModel" ≠ "java/lang/invoke/VarHandle") ∧ (tables_1[951]? = some (Cond.instantiable "BidsJudgedModel" 71)) ∧ (tables_1[1407]? = some (Cond.privateMethod ⟨"BidsJudgedModel", "tryPicks", "()V"⟩)) ∧ (tables_1[1408]? = some (Cond.instanceMethod ⟨"BidsJudgedModel", "tryPicks", "()V"⟩)) := by decide +kernel
theorem lw_p48 : lw_okq (⟨"BidsJudgedModel", "refuseFar", "(I)J"⟩, 71) := ⟨lw_pg48.1, List.mem_of_getElem? (i := 951) lw_pg48.2.1, List.mem_of_getElem? (i := 1338) lw_pg48.2.2.1, List.mem_of_getElem? (i := 1339) lw_pg48.2.2.2.1⟩
theorem lw_p49 : lw_okq (⟨"BidsJudgedModel", "findPoints", "(III)Z"⟩, 71) := ⟨lw_pg48.2.2.2.2.1, List.mem_of_getElem? (i := 951) lw_pg48.2.2.2.2.2.1, List.mem_of_getElem? (i := 1343) lw_pg48.2.2.2.2.2.2.1, List.mem_of_getElem? (i := 1344) lw_pg48.2.2.2.2.2.2.2.1⟩
theorem lw_p50 : lw_okq (⟨"BidsJudgedModel", "findNames", "(III)V"⟩, 71) := ⟨lw_pg48.2.2.2.2.2.2.2.2.1, List.mem_of_getElem? (i := 951) lw_pg48.2.2.2.2.2.2.2.2.2.1, List.mem_of_getElem? (i := 1347) lw_pg48.2.2.2.2.2.2.2.2.2.2.1, List.mem_of_getElem? (i := 1348) lw_pg48.2.2.2.2.2.2.2.2.2.2.2.1⟩
theorem lw_p51 : lw_okq (⟨"BidsJudgedModel", "findOrder", "(I)V"⟩, 71) := ⟨lw_pg48.2.2.2.2.2.2.2.2.2.2.2.2.1, List.mem_of_getElem? (i := 951) lw_pg48.2.2.2.2.2.2.2.2.2.2.2.2.2.1, List.mem_of_getElem? (i := 1355) lw_pg48.2.2.2.2.2.2.2.2.2.2.2.2.2.2.1, List.mem_of_getElem? (i := 1356) lw_pg48.2.2.2.2.2.2.2.2.2.2.2.2.2.2.2.1⟩
theorem lw_p52 : lw_okq (⟨"BidsJudgedModel", "isAhead", "(III)Z"⟩, 71) := ⟨lw_pg48.2.2.2.2.2.2.2.2.2.2.2.2.2.2.2.2.1, List.mem_of_getElem? (i := 951) lw_pg48.2.2.2.2.2.2.2.2.2.2.2.2.2.2.2.2.2.1, List.mem_of_getElem? (i := 1359) lw_pg48.2.2.2.2.2.2.2.2.2.2.2.2.2.2.2.2.2.2.1, List.mem_of_getElem? (i := 1360) lw_pg48.2.2.2.2.2.2.2.2.2.2.2.2.2.2.2.2.2.2.2.1⟩
theorem lw_p53 : lw_okq (⟨"BidsJudgedModel", "isLow", "(I)Z"⟩, 71) := ⟨lw_pg48.2.2.2.2.2.2.2.2.2.2.2.2.2.2.2.2.2.2.2.2.1, List.mem_of_getElem? (i := 951) lw_pg48.2.2.2.2.2.2.2.2.2.2.2.2.2.2.2.2.2.2.2.2.2.1, List.mem_of_getElem? (i := 1375) lw_pg48.2.2.2.2.2.2.2.2.2.2.2.2.2.2.2.2.2.2.2.2.2.2.1, List.mem_of_getElem? (i := 1376) lw_pg48.2.2.2.2.2.2.2.2.2.2.2.2.2.2.2.2.2.2.2.2.2.2.2.1⟩
theorem lw_p54 : lw_okq (⟨"BidsJudgedModel", "findWhole", "()V"⟩, 71) := ⟨lw_pg48.2.2.2.2.2.2.2.2.2.2.2.2.2.2.2.2.2.2.2.2.2.2.2.2.1, List.mem_of_getElem? (i := 951) lw_pg48.2.2.2.2.2.2.2.2.2.2.2.2.2.2.2.2.2.2.2.2.2.2.2.2.2.1, List.mem_of_getElem? (i := 1403) lw_pg48.2.2.2.2.2.2.2.2.2.2.2.2.2.2.2.2.2.2.2.2.2.2.2.2.2.2.1, List.mem_of_getElem? (i := 1404) lw_pg48.2.2.2.2.2.2.2.2.2.2.2.2.2.2.2.2.2.2.2.2.2.2.2.2.2.2.2.1⟩
theorem lw_p55 : lw_okq (⟨"BidsJudgedModel", "tryPicks", "()V"⟩, 71) := ⟨lw_pg48.2.2.2.2.2.2.2.2.2.2.2.2.2.2.2.2.2.2.2.2.2.2.2.2.2.2.2.2.1, List.mem_of_getElem? (i := 951) lw_pg48.2.2.2.2.2.2.2.2.2.2.2.2.2.2.2.2.2.2.2.2.2.2.2.2.2.2.2.2.2.1, List.mem_of_getElem? (i := 1407) lw_pg48.2.2.2.2.2.2.2.2.2.2.2.2.2.2.2.2.2.2.2.2.2.2.2.2.2.2.2.2.2.2.1, List.mem_of_getElem? (i := 1408) lw_pg48.2.2.2.2.2.2.2.2.2.2.2.2.2.2.2.2.2.2.2.2.2.2.2.2.2.2.2.2.2.2.2⟩
theorem lw_pg56 : ("BidsJudgedModel" ≠ "java/lang/invoke/MethodHandle" ∧ "BidsJudgedModel" ≠ "java/lang/invoke/VarHandle") ∧ (tables_1[951]? = some (Cond.instantiable "BidsJudgedModel" 71)) ∧ (tables_1[1411]? = some (Cond.privateMethod ⟨"BidsJudgedModel", "valueOf", "(I)I"⟩)) ∧ (tables_1[1412]? = some (Cond.instanceMethod ⟨"BidsJudgedModel", "valueOf", "(I)I"⟩)) ∧ ("BidsJudgedModel" ≠ "java/lang/invoke/MethodHandle" ∧ "BidsJudgedModel" ≠ "java/lang/invoke/VarHandle") ∧ (tables_1[951]? = some (Cond.instantiable "BidsJudgedModel" 71)) ∧ (tables_1[1416]? = some (Cond.privateMethod ⟨"BidsJudgedModel", "isFirst", "()Z"⟩)) ∧ (tables_1[1417]? = some (Cond.instanceMethod ⟨"BidsJudgedModel", "isFirst", "()Z"⟩)) ∧ ("BidsJudgedModel" ≠ "java/lang/invoke/MethodHandle" ∧ "BidsJudgedModel" ≠ "java/lang/invoke/VarHandle") ∧ (tables_1[951]? = some (Cond.instantiable "BidsJudgedModel" 71)) ∧ (tables_1[1440]? = some (Cond.privateMethod ⟨"BidsJudgedModel", "undo", "(II)V"⟩)) ∧ (tables_1[1441]? = some (Cond.instanceMethod ⟨"BidsJudgedModel", "undo", "(II)V"⟩)) ∧ ("BidsJudgedModel" ≠ "java/lang/invoke/MethodHandle" ∧ "BidsJudgedModel" ≠ "java/lang/invoke/VarHandle") ∧ (tables_1[951]? = some (Cond.instantiable "BidsJudgedModel" 71)) ∧ (tables_1[1448]? = some (Cond.privateMethod ⟨"BidsJudgedModel", "holding", "()I"⟩)) ∧ (tables_1[1449]? = some (Cond.instanceMethod ⟨"BidsJudgedModel", "holding", "()I"⟩)) ∧ ("BidsJudgedModel" ≠ "java/lang/invoke/MethodHandle" ∧ "BidsJudgedModel" ≠ "java/lang/invoke/VarHandle") ∧ (tables_1[951]? = some (Cond.instantiable "BidsJudgedModel" 71)) ∧ (tables_1[1460]? = some (Cond.privateMethod ⟨"BidsJudgedModel", "wrongTwo", "(III)I"⟩)) ∧ (tables_1[1461]? = some (Cond.instanceMethod ⟨"BidsJudgedModel", "wrongTwo", "(III)I"⟩)) ∧ ("BidsJudgedModel" ≠ "java/lang/invoke/MethodHandle" ∧ "BidsJudgedModel" ≠ "java/lang/invoke/VarHandle") ∧ (tables_1[951]? = some (Cond.instantiable "BidsJudgedModel" 71)) ∧ (tables_1[1464]? = some (Cond.privateMethod ⟨"BidsJudgedModel", "likenessBy", "(III)J"⟩)) ∧ (tables_1[1465]? = some (Cond.instanceMethod ⟨"BidsJudgedModel", "likenessBy", "(III)J"⟩)) ∧ ("BidsJudgedModel" ≠ "java/lang/invoke/MethodHandle" ∧ "BidsJudgedModel" ≠ "java/lang/invoke/VarHandle") ∧ (tables_1[951]? = some (Cond.instantiable "BidsJudgedModel" 71)) ∧ (tables_1[1475]? = some (Cond.privateMethod ⟨"BidsJudgedModel", "chanceOf", "(II)I"⟩)) ∧ (tables_1[1476]? = some (Cond.instanceMethod ⟨"BidsJudgedModel", "chanceOf", "(II)I"⟩)) ∧ ("BidsJudgedModel" ≠ "java/lang/invoke/MethodHandle" ∧ "BidsJudgedModel" ≠ "java/lang/invoke/VarHandle") ∧ (tables_1[951]? = some (Cond.instantiable "BidsJudgedModel" 71)) ∧ (tables_1[1483]? = some (Cond.privateMethod ⟨"BidsJudgedModel", "areJoined", "(II)Z"⟩)) ∧ (tables_1[1484]? = some (Cond.instanceMethod ⟨"BidsJudgedModel", "areJoined", "(II)Z"⟩)) := by decide +kernel
theorem lw_p56 : lw_okq (⟨"BidsJudgedModel", "valueOf", "(I)I"⟩, 71) := ⟨lw_pg56.1, List.mem_of_getElem? (i := 951) lw_pg56.2.1, List.mem_of_getElem? (i := 1411) lw_pg56.2.2.1, List.mem_of_getElem? (i := 1412) lw_pg56.2.2.2.1⟩
theorem lw_p57 : lw_okq (⟨"BidsJudgedModel", "isFirst", "()Z"⟩, 71) := ⟨lw_pg56.2.2.2.2.1, List.mem_of_getElem? (i := 951) lw_pg56.2.2.2.2.2.1, List.mem_of_getElem? (i := 1416) lw_pg56.2.2.2.2.2.2.1, List.mem_of_getElem? (i := 1417) lw_pg56.2.2.2.2.2.2.2.1⟩
theorem lw_p58 : lw_okq (⟨"BidsJudgedModel", "undo", "(II)V"⟩, 71) := ⟨lw_pg56.2.2.2.2.2.2.2.2.1, List.mem_of_getElem? (i := 951) lw_pg56.2.2.2.2.2.2.2.2.2.1, List.mem_of_getElem? (i := 1440) lw_pg56.2.2.2.2.2.2.2.2.2.2.1, List.mem_of_getElem? (i := 1441) lw_pg56.2.2.2.2.2.2.2.2.2.2.2.1⟩
theorem lw_p59 : lw_okq (⟨"BidsJudgedModel", "holding", "()I"⟩, 71) := ⟨lw_pg56.2.2.2.2.2.2.2.2.2.2.2.2.1, List.mem_of_getElem? (i := 951) lw_pg56.2.2.2.2.2.2.2.2.2.2.2.2.2.1, List.mem_of_getElem? (i := 1448) lw_pg56.2.2.2.2.2.2.2.2.2.2.2.2.2.2.1, List.mem_of_getElem? (i := 1449) lw_pg56.2.2.2.2.2.2.2.2.2.2.2.2.2.2.2.1⟩
theorem lw_p60 : lw_okq (⟨"BidsJudgedModel", "wrongTwo", "(III)I"⟩, 71) := ⟨lw_pg56.2.2.2.2.2.2.2.2.2.2.2.2.2.2.2.2.1, List.mem_of_getElem? (i := 951) lw_pg56.2.2.2.2.2.2.2.2.2.2.2.2.2.2.2.2.2.1, List.mem_of_getElem? (i := 1460) lw_pg56.2.2.2.2.2.2.2.2.2.2.2.2.2.2.2.2.2.2.1, List.mem_of_getElem? (i := 1461) lw_pg56.2.2.2.2.2.2.2.2.2.2.2.2.2.2.2.2.2.2.2.1⟩
theorem lw_p61 : lw_okq (⟨"BidsJudgedModel", "likenessBy", "(III)J"⟩, 71) := ⟨lw_pg56.2.2.2.2.2.2.2.2.2.2.2.2.2.2.2.2.2.2.2.2.1, List.mem_of_getElem? (i := 951) lw_pg56.2.2.2.2.2.2.2.2.2.2.2.2.2.2.2.2.2.2.2.2.2.1, List.mem_of_getElem? (i := 1464) lw_pg56.2.2.2.2.2.2.2.2.2.2.2.2.2.2.2.2.2.2.2.2.2.2.1, List.mem_of_getElem? (i := 1465) lw_pg56.2.2.2.2.2.2.2.2.2.2.2.2.2.2.2.2.2.2.2.2.2.2.2.1⟩
theorem lw_p62 : lw_okq (⟨"BidsJudgedModel", "chanceOf", "(II)I"⟩, 71) := ⟨lw_pg56.2.2.2.2.2.2.2.2.2.2.2.2.2.2.2.2.2.2.2.2.2.2.2.2.1, List.mem_of_getElem? (i := 951) lw_pg56.2.2.2.2.2.2.2.2.2.2.2.2.2.2.2.2.2.2.2.2.2.2.2.2.2.1, List.mem_of_getElem? (i := 1475) lw_pg56.2.2.2.2.2.2.2.2.2.2.2.2.2.2.2.2.2.2.2.2.2.2.2.2.2.2.1, List.mem_of_getElem? (i := 1476) lw_pg56.2.2.2.2.2.2.2.2.2.2.2.2.2.2.2.2.2.2.2.2.2.2.2.2.2.2.2.1⟩
theorem lw_p63 : lw_okq (⟨"BidsJudgedModel", "areJoined", "(II)Z"⟩, 71) := ⟨lw_pg56.2.2.2.2.2.2.2.2.2.2.2.2.2.2.2.2.2.2.2.2.2.2.2.2.2.2.2.2.1, List.mem_of_getElem? (i := 951) lw_pg56.2.2.2.2.2.2.2.2.2.2.2.2.2.2.2.2.2.2.2.2.2.2.2.2.2.2.2.2.2.1, List.mem_of_getElem? (i := 1483) lw_pg56.2.2.2.2.2.2.2.2.2.2.2.2.2.2.2.2.2.2.2.2.2.2.2.2.2.2.2.2.2.2.1, List.mem_of_getElem? (i := 1484) lw_pg56.2.2.2.2.2.2.2.2.2.2.2.2.2.2.2.2.2.2.2.2.2.2.2.2.2.2.2.2.2.2.2⟩
def lw_privs_4 : List (MethodName × Nat) := [(⟨"BidsJudgedModel", "refuseFar", "(I)J"⟩, 71), (⟨"BidsJudgedModel", "findPoints", "(III)Z"⟩, 71), (⟨"BidsJudgedModel", "findNames", "(III)V"⟩, 71), (⟨"BidsJudgedModel", "findOrder", "(I)V"⟩, 71), (⟨"BidsJudgedModel", "isAhead", "(III)Z"⟩, 71), (⟨"BidsJudgedModel", "isLow", "(I)Z"⟩, 71), (⟨"BidsJudgedModel", "findWhole", "()V"⟩, 71), (⟨"BidsJudgedModel", "tryPicks", "()V"⟩, 71), (⟨"BidsJudgedModel", "valueOf", "(I)I"⟩, 71), (⟨"BidsJudgedModel", "isFirst", "()Z"⟩, 71), (⟨"BidsJudgedModel", "undo", "(II)V"⟩, 71), (⟨"BidsJudgedModel", "holding", "()I"⟩, 71), (⟨"BidsJudgedModel", "wrongTwo", "(III)I"⟩, 71), (⟨"BidsJudgedModel", "likenessBy", "(III)J"⟩, 71), (⟨"BidsJudgedModel", "chanceOf", "(II)I"⟩, 71), (⟨"BidsJudgedModel", "areJoined", "(II)Z"⟩, 71)]
theorem lw_r4 : ∀ q ∈ lw_privs_4, lw_okq q := List.forall_mem_cons.mpr ⟨lw_p48, List.forall_mem_cons.mpr ⟨lw_p49, List.forall_mem_cons.mpr ⟨lw_p50, List.forall_mem_cons.mpr ⟨lw_p51, List.forall_mem_cons.mpr ⟨lw_p52, List.forall_mem_cons.mpr ⟨lw_p53, List.forall_mem_cons.mpr ⟨lw_p54, List.forall_mem_cons.mpr ⟨lw_p55, List.forall_mem_cons.mpr ⟨lw_p56, List.forall_mem_cons.mpr ⟨lw_p57, List.forall_mem_cons.mpr ⟨lw_p58, List.forall_mem_cons.mpr ⟨lw_p59, List.forall_mem_cons.mpr ⟨lw_p60, List.forall_mem_cons.mpr ⟨lw_p61, List.forall_mem_cons.mpr ⟨lw_p62, List.forall_mem_cons.mpr ⟨lw_p63, fun _ h => absurd h List.not_mem_nil⟩⟩⟩⟩⟩⟩⟩⟩⟩⟩⟩⟩⟩⟩⟩⟩
theorem lw_pg64 : ("BidsJudgedModel" ≠ "java/lang/invoke/MethodHandle" ∧ "BidsJudgedModel" ≠ "java/lang/invoke/VarHandle") ∧ (tables_1[951]? = some (Cond.instantiable "BidsJudgedModel" 71)) ∧ (tables_1[1492]? = some (Cond.privateMethod ⟨"BidsJudgedModel", "memberOf", "(I)I"⟩)) ∧ (tables_1[1493]? = some (Cond.instanceMethod ⟨"BidsJudgedModel", "memberOf", "(I)I"⟩)) := by decide +kernel
theorem lw_p64 : lw_okq (⟨"BidsJudgedModel", "memberOf", "(I)I"⟩, 71) := ⟨lw_pg64.1, List.mem_of_getElem? (i := 951) lw_pg64.2.1, List.mem_of_getElem? (i := 1492) lw_pg64.2.2.1, List.mem_of_getElem? (i := 1493) lw_pg64.2.2.2⟩
def lw_privs_5 : List (MethodName × Nat) := [(⟨"BidsJudgedModel", "memberOf", "(I)I"⟩, 71)]
theorem lw_r5 : ∀ q ∈ lw_privs_5, lw_okq q := List.forall_mem_cons.mpr ⟨lw_p64, fun _ h => absurd h List.not_mem_nil⟩
def lw_privs : List (MethodName × Nat) := lw_privs_1 ++ (lw_privs_2 ++ (lw_privs_3 ++ (lw_privs_4 ++ (lw_privs_5))))
def lw_tbl : List Cond := k2_sels lw_privs ++ tables_1
theorem lw_privs_ok : ∀ q ∈ lw_privs, lw_okq q := by
  show ∀ q ∈ lw_privs_1 ++ (lw_privs_2 ++ (lw_privs_3 ++ (lw_privs_4 ++ (lw_privs_5)))), lw_okq q
  exact List.forall_mem_append.mpr ⟨lw_r1, List.forall_mem_append.mpr ⟨lw_r2, List.forall_mem_append.mpr ⟨lw_r3, List.forall_mem_append.mpr ⟨lw_r4, lw_r5⟩⟩⟩⟩
def RX0 : String := "BidsJudged$Award"
def TX0 : u_T := fun k => match k with
  | 0 => ("BidsJudged$Award", "isAwarded", "Z", false)
  | 1 => ("BidsJudged$Award", "isSigned", "Z", false)
  | 2 => ("BidsJudged$Award", "challenges", "I", false)
  | 3 => ("BidsJudged$Award", "winners", "[I", true)
  | 4 => ("BidsJudged$Award", "lotOf", "[I", true)
  | 5 => ("BidsJudged$Award", "stageOf", "[I", true)
  | 6 => ("BidsJudged$Award", "judged", "[Z", true)
  | 7 => ("BidsJudged$Award", "roundOf", "[I", true)
  | 8 => ("BidsJudged$Award", "prices", "[I", true)
  | 9 => ("BidsJudged$Award", "changed", "[J", true)
  | 10 => ("BidsJudged$Award", "round", "I", false)
  | _ => ("BidsJudged$Award", "standstillUntil", "I", false)
def tyX0 : Nat → FieldType := fun k => match k with
  | 0 => .boolean
  | 1 => .boolean
  | 2 => .int
  | 3 => .array .int
  | 4 => .array .int
  | 5 => .array .int
  | 6 => .array .boolean
  | 7 => .array .int
  | 8 => .array .int
  | 9 => .array .long
  | 10 => .int
  | _ => .int
abbrev wsX00 : List Cond := u_ws RX0 TX0 12
theorem nmX0 : ∀ a, a < 12 → ∀ b, b < 12 → a ≠ b → (TX0 a).2.1 ≠ (TX0 b).2.1 := by decide +kernel
theorem tyX0_ok : ∀ k, k < 12 → parseFieldDescriptor (TX0 k).2.2.1 = some (tyX0 k) := by decide +kernel
abbrev cX0_init : ByteArray := prog_2_method_1_code
def yX0_init : MethodName := ⟨RX0, "<init>", "()V"⟩
abbrev cX0_begin : ByteArray := prog_2_method_2_code
def yX0_begin : MethodName := ⟨RX0, "begin", "(I)V"⟩
abbrev cX0_give : ByteArray := prog_2_method_3_code
def yX0_give : MethodName := ⟨RX0, "give", "(III)V"⟩
abbrev cX0_isStandstillOver : ByteArray := prog_2_method_4_code
def yX0_isStandstillOver : MethodName := ⟨RX0, "isStandstillOver", "(I)Z"⟩
abbrev cX0_addChallenge : ByteArray := prog_2_method_5_code
def yX0_addChallenge : MethodName := ⟨RX0, "addChallenge", "(II)I"⟩
abbrev cX0_holds : ByteArray := prog_2_method_6_code
def yX0_holds : MethodName := ⟨RX0, "holds", "(I)Z"⟩
abbrev cX0_countHolding : ByteArray := prog_2_method_7_code
def yX0_countHolding : MethodName := ⟨RX0, "countHolding", "()I"⟩
abbrev cX0_addChange : ByteArray := prog_2_method_8_code
def yX0_addChange : MethodName := ⟨RX0, "addChange", "(III)I"⟩
def RX1 : String := "BidsJudged$Book"
def TX1 : u_T := fun k => match k with
  | 0 => ("BidsJudged$Book", "settings", "[I", true)
  | 1 => ("BidsJudged$Book", "rates", "[I", true)
  | 2 => ("BidsJudged$Book", "there", "[Z", true)
  | 3 => ("BidsJudged$Book", "toldOut", "[Z", true)
  | 4 => ("BidsJudged$Book", "askedUntil", "[I", true)
  | 5 => ("BidsJudged$Book", "items", "[I", true)
  | 6 => ("BidsJudged$Book", "moneys", "[I", true)
  | 7 => ("BidsJudged$Book", "sums", "[I", true)
  | 8 => ("BidsJudged$Book", "options", "[I", true)
  | 9 => ("BidsJudged$Book", "now", "I", false)
  | 10 => ("BidsJudged$Book", "closingAt", "I", false)
  | 11 => ("BidsJudged$Book", "lotCount", "I", false)
  | _ => ("BidsJudged$Book", "late", "I", false)
def tyX1 : Nat → FieldType := fun k => match k with
  | 0 => .array .int
  | 1 => .array .int
  | 2 => .array .boolean
  | 3 => .array .boolean
  | 4 => .array .int
  | 5 => .array .int
  | 6 => .array .int
  | 7 => .array .int
  | 8 => .array .int
  | 9 => .int
  | 10 => .int
  | 11 => .int
  | _ => .int
abbrev wsX10 : List Cond := u_ws RX1 TX1 13
theorem nmX1 : ∀ a, a < 13 → ∀ b, b < 13 → a ≠ b → (TX1 a).2.1 ≠ (TX1 b).2.1 := by decide +kernel
theorem tyX1_ok : ∀ k, k < 13 → parseFieldDescriptor (TX1 k).2.2.1 = some (tyX1 k) := by decide +kernel
abbrev cX1_init : ByteArray := prog_3_method_1_code
def yX1_init : MethodName := ⟨RX1, "<init>", "()V"⟩
abbrev cX1_isOpen : ByteArray := prog_3_method_2_code
def yX1_isOpen : MethodName := ⟨RX1, "isOpen", "()Z"⟩
abbrev cX1_keepLots : ByteArray := prog_3_method_3_code
def yX1_keepLots : MethodName := ⟨RX1, "keepLots", "(I)V"⟩
abbrev cX1_drop : ByteArray := prog_3_method_4_code
def yX1_drop : MethodName := ⟨RX1, "drop", "(I)V"⟩
abbrev cX1_putTerms : ByteArray := prog_3_method_5_code
def yX1_putTerms : MethodName := ⟨RX1, "putTerms", "(IIII)V"⟩
abbrev cX1_putItems : ByteArray := prog_3_method_6_code
def yX1_putItems : MethodName := ⟨RX1, "putItems", "(IIIII)V"⟩
abbrev cX1_itemSum : ByteArray := prog_3_method_7_code
def yX1_itemSum : MethodName := ⟨RX1, "itemSum", "(I)I"⟩
abbrev cX1_priceAt : ByteArray := prog_3_method_8_code
def yX1_priceAt : MethodName := ⟨RX1, "priceAt", "(I)I"⟩
abbrev cX1_countedSum : ByteArray := prog_3_method_9_code
def yX1_countedSum : MethodName := ⟨RX1, "countedSum", "(I)I"⟩
abbrev cX1_isLapsed : ByteArray := prog_3_method_10_code
def yX1_isLapsed : MethodName := ⟨RX1, "isLapsed", "(I)Z"⟩
abbrev cX1_isOutAt : ByteArray := prog_3_method_11_code
def yX1_isOutAt : MethodName := ⟨RX1, "isOutAt", "(I)Z"⟩
abbrev cX1_standsAt : ByteArray := prog_3_method_12_code
def yX1_standsAt : MethodName := ⟨RX1, "standsAt", "(I)Z"⟩
abbrev cX1_clearOut : ByteArray := prog_3_method_13_code
def yX1_clearOut : MethodName := ⟨RX1, "clearOut", "(I)V"⟩
abbrev cX1_clearOuts : ByteArray := prog_3_method_14_code
def yX1_clearOuts : MethodName := ⟨RX1, "clearOuts", "(I)V"⟩
abbrev cX1_isTooLow : ByteArray := prog_3_method_15_code
def yX1_isTooLow : MethodName := ⟨RX1, "isTooLow", "(II)Z"⟩
abbrev cX1_countThere : ByteArray := prog_3_method_16_code
def yX1_countThere : MethodName := ⟨RX1, "countThere", "()I"⟩
abbrev cX1_countStanding : ByteArray := prog_3_method_17_code
def yX1_countStanding : MethodName := ⟨RX1, "countStanding", "()I"⟩
def RX2 : String := "BidsJudged$Formula"
def TX2 : u_T := fun k => match k with
  | 0 => ("BidsJudged$Formula", "codes", "[I", true)
  | 1 => ("BidsJudged$Formula", "size", "I", false)
  | 2 => ("BidsJudged$Formula", "bytes", "I", false)
  | 3 => ("BidsJudged$Formula", "tape", "[I", true)
  | 4 => ("BidsJudged$Formula", "draft", "[I", true)
  | 5 => ("BidsJudged$Formula", "drafted", "I", false)
  | 6 => ("BidsJudged$Formula", "units", "I", false)
  | 7 => ("BidsJudged$Formula", "place", "I", false)
  | _ => ("BidsJudged$Formula", "fault", "I", false)
def tyX2 : Nat → FieldType := fun k => match k with
  | 0 => .array .int
  | 1 => .int
  | 2 => .int
  | 3 => .array .int
  | 4 => .array .int
  | 5 => .int
  | 6 => .int
  | 7 => .int
  | _ => .int
abbrev wsX20 : List Cond := u_ws RX2 TX2 9
theorem nmX2 : ∀ a, a < 9 → ∀ b, b < 9 → a ≠ b → (TX2 a).2.1 ≠ (TX2 b).2.1 := by decide +kernel
theorem tyX2_ok : ∀ k, k < 9 → parseFieldDescriptor (TX2 k).2.2.1 = some (tyX2 k) := by decide +kernel
abbrev cX2_init : ByteArray := prog_4_method_1_code
def yX2_init : MethodName := ⟨RX2, "<init>", "()V"⟩
abbrev cX2_useQuality : ByteArray := prog_4_method_2_code
def yX2_useQuality : MethodName := ⟨RX2, "useQuality", "()V"⟩
abbrev cX2_take : ByteArray := prog_4_method_3_code
def yX2_take : MethodName := ⟨RX2, "take", "(IJ)I"⟩
abbrev cX2_readTape : ByteArray := prog_4_method_4_code
def yX2_readTape : MethodName := ⟨RX2, "readTape", "()I"⟩
abbrev cX2_peek : ByteArray := prog_4_method_5_code
def yX2_peek : MethodName := ⟨RX2, "peek", "()I"⟩
abbrev cX2_findFault : ByteArray := prog_4_method_6_code
def yX2_findFault : MethodName := ⟨RX2, "findFault", "()V"⟩
abbrev cX2_emit : ByteArray := prog_4_method_7_code
def yX2_emit : MethodName := ⟨RX2, "emit", "(I)V"⟩
abbrev cX2_readSum : ByteArray := prog_4_method_8_code
def yX2_readSum : MethodName := ⟨RX2, "readSum", "(I)V"⟩
abbrev cX2_readTerm : ByteArray := prog_4_method_9_code
def yX2_readTerm : MethodName := ⟨RX2, "readTerm", "(I)V"⟩
abbrev cX2_readUnit : ByteArray := prog_4_method_10_code
def yX2_readUnit : MethodName := ⟨RX2, "readUnit", "(I)V"⟩
abbrev cX2_readNumber : ByteArray := prog_4_method_11_code
def yX2_readNumber : MethodName := ⟨RX2, "readNumber", "()V"⟩
abbrev cX2_readBracket : ByteArray := prog_4_method_12_code
def yX2_readBracket : MethodName := ⟨RX2, "readBracket", "(IZ)V"⟩
abbrev cX2_expect : ByteArray := prog_4_method_13_code
def yX2_expect : MethodName := ⟨RX2, "expect", "(I)V"⟩
abbrev cX2_isDigit : ByteArray := prog_4_method_14_code
def yX2_isDigit : MethodName := ⟨RX2, "isDigit", "(I)Z"⟩
abbrev cX2_isName : ByteArray := prog_4_method_15_code
def yX2_isName : MethodName := ⟨RX2, "isName", "(I)Z"⟩
def RX3 : String := "BidsJudged$Fraction"
def TX3 : u_T := fun k => match k with
  | 0 => ("BidsJudged$Fraction", "above", "J", false)
  | 1 => ("BidsJudged$Fraction", "below", "J", false)
  | _ => ("BidsJudged$Fraction", "broken", "Z", false)
def tyX3 : Nat → FieldType := fun k => match k with
  | 0 => .long
  | 1 => .long
  | _ => .boolean
abbrev wsX30 : List Cond := u_ws RX3 TX3 3
theorem nmX3 : ∀ a, a < 3 → ∀ b, b < 3 → a ≠ b → (TX3 a).2.1 ≠ (TX3 b).2.1 := by decide +kernel
theorem tyX3_ok : ∀ k, k < 3 → parseFieldDescriptor (TX3 k).2.2.1 = some (tyX3 k) := by decide +kernel
abbrev cX3_init : ByteArray := prog_5_method_1_code
def yX3_init : MethodName := ⟨RX3, "<init>", "()V"⟩
abbrev cX3_put : ByteArray := prog_5_method_2_code
def yX3_put : MethodName := ⟨RX3, "put", "(JJ)V"⟩
abbrev cX3_commonPart : ByteArray := prog_5_method_3_code
def yX3_commonPart : MethodName := ⟨RX3, "commonPart", "(JJ)J"⟩
def RX4 : String := "BidsJudged$Framework"
def TX4 : u_T := fun k => match k with
  | 0 => ("BidsJudged$Framework", "rooms", "[I", true)
  | 1 => ("BidsJudged$Framework", "holder", "I", false)
  | 2 => ("BidsJudged$Framework", "members", "[I", true)
  | 3 => ("BidsJudged$Framework", "size", "I", false)
  | 4 => ("BidsJudged$Framework", "latest", "I", false)
  | 5 => ("BidsJudged$Framework", "first", "I", false)
  | _ => ("BidsJudged$Framework", "wanted", "I", false)
def tyX4 : Nat → FieldType := fun k => match k with
  | 0 => .array .int
  | 1 => .int
  | 2 => .array .int
  | 3 => .int
  | 4 => .int
  | 5 => .int
  | _ => .int
abbrev wsX40 : List Cond := u_ws RX4 TX4 7
theorem nmX4 : ∀ a, a < 7 → ∀ b, b < 7 → a ≠ b → (TX4 a).2.1 ≠ (TX4 b).2.1 := by decide +kernel
theorem tyX4_ok : ∀ k, k < 7 → parseFieldDescriptor (TX4 k).2.2.1 = some (tyX4 k) := by decide +kernel
abbrev cX4_init : ByteArray := prog_6_method_1_code
def yX4_init : MethodName := ⟨RX4, "<init>", "()V"⟩
abbrev cX4_placeOf : ByteArray := prog_6_method_2_code
def yX4_placeOf : MethodName := ⟨RX4, "placeOf", "(I)I"⟩
abbrev cX4_add : ByteArray := prog_6_method_3_code
def yX4_add : MethodName := ⟨RX4, "add", "(II)I"⟩
abbrev cX4_beginCall : ByteArray := prog_6_method_4_code
def yX4_beginCall : MethodName := ⟨RX4, "beginCall", "(I)I"⟩
abbrev cX4_passOn : ByteArray := prog_6_method_5_code
def yX4_passOn : MethodName := ⟨RX4, "passOn", "()I"⟩
abbrev cX4_nextWithRoom : ByteArray := prog_6_method_6_code
def yX4_nextWithRoom : MethodName := ⟨RX4, "nextWithRoom", "(II)I"⟩
abbrev cX4_hand : ByteArray := prog_6_method_7_code
def yX4_hand : MethodName := ⟨RX4, "hand", "(I)I"⟩
def RX5 : String := "BidsJudged$Notes"
def TX5 : u_T := fun k => match k with
  | 0 => ("BidsJudged$Notes", "marks", "[I", true)
  | 1 => ("BidsJudged$Notes", "barred", "[Z", true)
  | _ => ("BidsJudged$Notes", "silent", "[Z", true)
def tyX5 : Nat → FieldType := fun k => match k with
  | 0 => .array .int
  | 1 => .array .boolean
  | _ => .array .boolean
abbrev wsX50 : List Cond := u_ws RX5 TX5 3
theorem nmX5 : ∀ a, a < 3 → ∀ b, b < 3 → a ≠ b → (TX5 a).2.1 ≠ (TX5 b).2.1 := by decide +kernel
theorem tyX5_ok : ∀ k, k < 3 → parseFieldDescriptor (TX5 k).2.2.1 = some (tyX5 k) := by decide +kernel
abbrev cX5_init : ByteArray := prog_7_method_1_code
def yX5_init : MethodName := ⟨RX5, "<init>", "()V"⟩
abbrev cX5_put : ByteArray := prog_7_method_2_code
def yX5_put : MethodName := ⟨RX5, "put", "(III)I"⟩
abbrev cX5_putBar : ByteArray := prog_7_method_3_code
def yX5_putBar : MethodName := ⟨RX5, "putBar", "(IIZ)Z"⟩
abbrev cX5_clearLot : ByteArray := prog_7_method_4_code
def yX5_clearLot : MethodName := ⟨RX5, "clearLot", "(I)V"⟩
abbrev cX5_findSilent : ByteArray := prog_7_method_5_code
def yX5_findSilent : MethodName := ⟨RX5, "findSilent", "([Z)V"⟩
abbrev cX5_weigh : ByteArray := prog_7_method_6_code
def yX5_weigh : MethodName := ⟨RX5, "weigh", "(ILBidsJudged$Fraction;)V"⟩
def RX6 : String := "BidsJudged$Rings"
def TX6 : u_T := fun k => match k with
  | _ => ("", "", "", false)
def tyX6 : Nat → FieldType := fun k => match k with
  | _ => .int
abbrev wsX60 : List Cond := u_ws RX6 TX6 0
theorem nmX6 : ∀ a, a < 0 → ∀ b, b < 0 → a ≠ b → (TX6 a).2.1 ≠ (TX6 b).2.1 := by decide +kernel
theorem tyX6_ok : ∀ k, k < 0 → parseFieldDescriptor (TX6 k).2.2.1 = some (tyX6 k) := by decide +kernel
abbrev cX6_likenessOf : ByteArray := prog_8_method_2_code
def yX6_likenessOf : MethodName := ⟨RX6, "likenessOf", "(LBidsJudged$Book;II)J"⟩
abbrev cX6_likenessInOrder : ByteArray := prog_8_method_3_code
def yX6_likenessInOrder : MethodName := ⟨RX6, "likenessInOrder", "(LBidsJudged$Book;IIIII)J"⟩
abbrev cX6_chanceOf : ByteArray := prog_8_method_4_code
def yX6_chanceOf : MethodName := ⟨RX6, "chanceOf", "(LBidsJudged$Book;II)I"⟩
abbrev cX6_areJoined : ByteArray := prog_8_method_5_code
def yX6_areJoined : MethodName := ⟨RX6, "areJoined", "(LBidsJudged$Book;II)Z"⟩
abbrev cX6_leastJoined : ByteArray := prog_8_method_6_code
def yX6_leastJoined : MethodName := ⟨RX6, "leastJoined", "(LBidsJudged$Book;II)I"⟩
abbrev cX6_joinedWith : ByteArray := prog_8_method_7_code
def yX6_joinedWith : MethodName := ⟨RX6, "joinedWith", "(LBidsJudged$Book;III)I"⟩
def RX7 : String := "BidsJudged$Table"
def TX7 : u_T := fun k => match k with
  | 0 => ("BidsJudged$Table", "fraction", "LBidsJudged$Fraction;", true)
  | 1 => ("BidsJudged$Table", "in", "[Z", true)
  | 2 => ("BidsJudged$Table", "prices", "[I", true)
  | 3 => ("BidsJudged$Table", "qualityAbove", "[J", true)
  | 4 => ("BidsJudged$Table", "qualityBelow", "[J", true)
  | 5 => ("BidsJudged$Table", "pointsAbove", "[J", true)
  | 6 => ("BidsJudged$Table", "pointsBelow", "[J", true)
  | 7 => ("BidsJudged$Table", "broken", "[Z", true)
  | 8 => ("BidsJudged$Table", "ranking", "[I", true)
  | 9 => ("BidsJudged$Table", "ranked", "I", false)
  | 10 => ("BidsJudged$Table", "stackAbove", "[J", true)
  | 11 => ("BidsJudged$Table", "stackBelow", "[J", true)
  | 12 => ("BidsJudged$Table", "height", "I", false)
  | 13 => ("BidsJudged$Table", "least", "J", false)
  | 14 => ("BidsJudged$Table", "greatest", "J", false)
  | 15 => ("BidsJudged$Table", "meanAbove", "J", false)
  | 16 => ("BidsJudged$Table", "meanBelow", "J", false)
  | 17 => ("BidsJudged$Table", "howMany", "I", false)
  | 18 => ("BidsJudged$Table", "bestAbove", "J", false)
  | _ => ("BidsJudged$Table", "bestBelow", "J", false)
def tyX7 : Nat → FieldType := fun k => match k with
  | 0 => .object "BidsJudged$Fraction"
  | 1 => .array .boolean
  | 2 => .array .int
  | 3 => .array .long
  | 4 => .array .long
  | 5 => .array .long
  | 6 => .array .long
  | 7 => .array .boolean
  | 8 => .array .int
  | 9 => .int
  | 10 => .array .long
  | 11 => .array .long
  | 12 => .int
  | 13 => .long
  | 14 => .long
  | 15 => .long
  | 16 => .long
  | 17 => .int
  | 18 => .long
  | _ => .long
abbrev wsX70 : List Cond := u_ws RX7 TX7 20
theorem nmX7 : ∀ a, a < 20 → ∀ b, b < 20 → a ≠ b → (TX7 a).2.1 ≠ (TX7 b).2.1 := by decide +kernel
theorem tyX7_ok : ∀ k, k < 20 → parseFieldDescriptor (TX7 k).2.2.1 = some (tyX7 k) := by decide +kernel
abbrev cX7_init : ByteArray := prog_9_method_1_code
def yX7_init : MethodName := ⟨RX7, "<init>", "()V"⟩
abbrev cX7_lay : ByteArray := prog_9_method_2_code
def yX7_lay : MethodName := ⟨RX7, "lay", "(LBidsJudged$Book;LBidsJudged$Notes;II)V"⟩
abbrev cX7_sumUp : ByteArray := prog_9_method_3_code
def yX7_sumUp : MethodName := ⟨RX7, "sumUp", "()V"⟩
abbrev cX7_workGain : ByteArray := prog_9_method_4_code
def yX7_workGain : MethodName := ⟨RX7, "workGain", "(LBidsJudged$Formula;II)Z"⟩
abbrev cX7_work : ByteArray := prog_9_method_5_code
def yX7_work : MethodName := ⟨RX7, "work", "(LBidsJudged$Formula;I)V"⟩
abbrev cX7_pushName : ByteArray := prog_9_method_6_code
def yX7_pushName : MethodName := ⟨RX7, "pushName", "(II)V"⟩
abbrev cX7_push : ByteArray := prog_9_method_7_code
def yX7_push : MethodName := ⟨RX7, "push", "(JJ)V"⟩
abbrev cX7_operate : ByteArray := prog_9_method_8_code
def yX7_operate : MethodName := ⟨RX7, "operate", "(I)V"⟩
abbrev cX7_rank : ByteArray := prog_9_method_9_code
def yX7_rank : MethodName := ⟨RX7, "rank", "(LBidsJudged$Formula;)V"⟩
abbrev cX7_insert : ByteArray := prog_9_method_10_code
def yX7_insert : MethodName := ⟨RX7, "insert", "(I)V"⟩
abbrev cX7_isAhead : ByteArray := prog_9_method_11_code
def yX7_isAhead : MethodName := ⟨RX7, "isAhead", "(II)Z"⟩
def RX8 : String := "BidsJudged$Whole"
def TX8 : u_T := fun k => match k with
  | 0 => ("BidsJudged$Whole", "mosts", "[I", true)
  | 1 => ("BidsJudged$Whole", "winners", "[I", true)
  | 2 => ("BidsJudged$Whole", "given", "I", false)
  | 3 => ("BidsJudged$Whole", "value", "I", false)
  | 4 => ("BidsJudged$Whole", "rebates", "[I", true)
  | 5 => ("BidsJudged$Whole", "places", "[I", true)
  | 6 => ("BidsJudged$Whole", "prices", "[I", true)
  | 7 => ("BidsJudged$Whole", "best", "[J", true)
  | _ => ("BidsJudged$Whole", "costs", "[J", true)
def tyX8 : Nat → FieldType := fun k => match k with
  | 0 => .array .int
  | 1 => .array .int
  | 2 => .int
  | 3 => .int
  | 4 => .array .int
  | 5 => .array .int
  | 6 => .array .int
  | 7 => .array .long
  | _ => .array .long
abbrev wsX80 : List Cond := u_ws RX8 TX8 9
theorem nmX8 : ∀ a, a < 9 → ∀ b, b < 9 → a ≠ b → (TX8 a).2.1 ≠ (TX8 b).2.1 := by decide +kernel
theorem tyX8_ok : ∀ k, k < 9 → parseFieldDescriptor (TX8 k).2.2.1 = some (tyX8 k) := by decide +kernel
abbrev cX8_init : ByteArray := prog_10_method_1_code
def yX8_init : MethodName := ⟨RX8, "<init>", "()V"⟩
abbrev cX8_putRebate : ByteArray := prog_10_method_2_code
def yX8_putRebate : MethodName := ⟨RX8, "putRebate", "(III)I"⟩
abbrev cX8_clear : ByteArray := prog_10_method_3_code
def yX8_clear : MethodName := ⟨RX8, "clear", "()V"⟩
abbrev cX8_offer : ByteArray := prog_10_method_4_code
def yX8_offer : MethodName := ⟨RX8, "offer", "(IIII)V"⟩
abbrev cX8_search : ByteArray := prog_10_method_5_code
def yX8_search : MethodName := ⟨RX8, "search", "(I)V"⟩
abbrev cX8_costOf : ByteArray := prog_10_method_6_code
def yX8_costOf : MethodName := ⟨RX8, "costOf", "(II)J"⟩
abbrev cX8_costOfRest : ByteArray := prog_10_method_7_code
def yX8_costOfRest : MethodName := ⟨RX8, "costOfRest", "(II)J"⟩
abbrev cX8_addBidder : ByteArray := prog_10_method_8_code
def yX8_addBidder : MethodName := ⟨RX8, "addBidder", "()V"⟩
abbrev cX8_keep : ByteArray := prog_10_method_9_code
def yX8_keep : MethodName := ⟨RX8, "keep", "(JI)V"⟩
def RX9 : String := "BidsJudged"
def TX9 : u_T := fun k => match k with
  | 0 => ("BidsJudged", "book", "LBidsJudged$Book;", true)
  | 1 => ("BidsJudged", "notes", "LBidsJudged$Notes;", true)
  | 2 => ("BidsJudged", "text", "LBidsJudged$Formula;", true)
  | 3 => ("BidsJudged", "table", "LBidsJudged$Table;", true)
  | 4 => ("BidsJudged", "best", "LBidsJudged$Whole;", true)
  | 5 => ("BidsJudged", "told", "LBidsJudged$Award;", true)
  | 6 => ("BidsJudged", "row", "LBidsJudged$Framework;", true)
  | _ => ("BidsJudged", "refusals", "[I", true)
def tyX9 : Nat → FieldType := fun k => match k with
  | 0 => .object "BidsJudged$Book"
  | 1 => .object "BidsJudged$Notes"
  | 2 => .object "BidsJudged$Formula"
  | 3 => .object "BidsJudged$Table"
  | 4 => .object "BidsJudged$Whole"
  | 5 => .object "BidsJudged$Award"
  | 6 => .object "BidsJudged$Framework"
  | _ => .array .int
abbrev wsX90 : List Cond := u_ws RX9 TX9 8
theorem nmX9 : ∀ a, a < 8 → ∀ b, b < 8 → a ≠ b → (TX9 a).2.1 ≠ (TX9 b).2.1 := by decide +kernel
theorem tyX9_ok : ∀ k, k < 8 → parseFieldDescriptor (TX9 k).2.2.1 = some (tyX9 k) := by decide +kernel
abbrev cX9_init : ByteArray := prog_1_method_1_code
def yX9_init : MethodName := ⟨RX9, "<init>", "()V"⟩
abbrev cX9_time : ByteArray := prog_1_method_2_code
def yX9_time : MethodName := ⟨RX9, "time", "(I)I"⟩
abbrev cX9_rate : ByteArray := prog_1_method_3_code
def yX9_rate : MethodName := ⟨RX9, "rate", "(II)I"⟩
abbrev cX9_lots : ByteArray := prog_1_method_4_code
def yX9_lots : MethodName := ⟨RX9, "lots", "(I)I"⟩
abbrev cX9_closing : ByteArray := prog_1_method_5_code
def yX9_closing : MethodName := ⟨RX9, "closing", "(I)I"⟩
abbrev cX9_bid : ByteArray := prog_1_method_6_code
def yX9_bid : MethodName := ⟨RX9, "bid", "(IIIIIIIII)I"⟩
abbrev cX9_withdraw : ByteArray := prog_1_method_7_code
def yX9_withdraw : MethodName := ⟨RX9, "withdraw", "(II)I"⟩
abbrev cX9_set : ByteArray := prog_1_method_8_code
def yX9_set : MethodName := ⟨RX9, "set", "(II)I"⟩
abbrev cX9_price : ByteArray := prog_1_method_9_code
def yX9_price : MethodName := ⟨RX9, "price", "(II)I"⟩
abbrev cX9_note : ByteArray := prog_1_method_10_code
def yX9_note : MethodName := ⟨RX9, "note", "(IIII)I"⟩
abbrev cX9_bar : ByteArray := prog_1_method_11_code
def yX9_bar : MethodName := ⟨RX9, "bar", "(IIZ)I"⟩
abbrev cX9_quality : ByteArray := prog_1_method_12_code
def yX9_quality : MethodName := ⟨RX9, "quality", "(III)I"⟩
abbrev cX9_feed : ByteArray := prog_1_method_13_code
def yX9_feed : MethodName := ⟨RX9, "feed", "(IJ)I"⟩
abbrev cX9_formula : ByteArray := prog_1_method_14_code
def yX9_formula : MethodName := ⟨RX9, "formula", "()I"⟩
abbrev cX9_points : ByteArray := prog_1_method_15_code
def yX9_points : MethodName := ⟨RX9, "points", "(III)J"⟩
abbrev cX9_order : ByteArray := prog_1_method_16_code
def yX9_order : MethodName := ⟨RX9, "order", "(II)I"⟩
abbrev cX9_gain : ByteArray := prog_1_method_17_code
def yX9_gain : MethodName := ⟨RX9, "gain", "(IIII)J"⟩
abbrev cX9_turned : ByteArray := prog_1_method_18_code
def yX9_turned : MethodName := ⟨RX9, "turned", "(III)I"⟩
abbrev cX9_low : ByteArray := prog_1_method_19_code
def yX9_low : MethodName := ⟨RX9, "low", "(II)I"⟩
abbrev cX9_ask : ByteArray := prog_1_method_20_code
def yX9_ask : MethodName := ⟨RX9, "ask", "(III)I"⟩
abbrev cX9_answer : ByteArray := prog_1_method_21_code
def yX9_answer : MethodName := ⟨RX9, "answer", "(II)I"⟩
abbrev cX9_out : ByteArray := prog_1_method_22_code
def yX9_out : MethodName := ⟨RX9, "out", "(IIZ)I"⟩
abbrev cX9_most : ByteArray := prog_1_method_23_code
def yX9_most : MethodName := ⟨RX9, "most", "(II)I"⟩
abbrev cX9_rebate : ByteArray := prog_1_method_24_code
def yX9_rebate : MethodName := ⟨RX9, "rebate", "(III)I"⟩
abbrev cX9_whole : ByteArray := prog_1_method_25_code
def yX9_whole : MethodName := ⟨RX9, "whole", "(I)I"⟩
abbrev cX9_winner : ByteArray := prog_1_method_26_code
def yX9_winner : MethodName := ⟨RX9, "winner", "(I)I"⟩
abbrev cX9_award : ByteArray := prog_1_method_27_code
def yX9_award : MethodName := ⟨RX9, "award", "(I)I"⟩
abbrev cX9_awarded : ByteArray := prog_1_method_28_code
def yX9_awarded : MethodName := ⟨RX9, "awarded", "(I)I"⟩
abbrev cX9_challenge : ByteArray := prog_1_method_29_code
def yX9_challenge : MethodName := ⟨RX9, "challenge", "(II)I"⟩
abbrev cX9_judge : ByteArray := prog_1_method_30_code
def yX9_judge : MethodName := ⟨RX9, "judge", "(IZ)I"⟩
abbrev cX9_sign : ByteArray := prog_1_method_31_code
def yX9_sign : MethodName := ⟨RX9, "sign", "()I"⟩
abbrev cX9_change : ByteArray := prog_1_method_32_code
def yX9_change : MethodName := ⟨RX9, "change", "(II)I"⟩
abbrev cX9_likeness : ByteArray := prog_1_method_33_code
def yX9_likeness : MethodName := ⟨RX9, "likeness", "(III)J"⟩
abbrev cX9_chance : ByteArray := prog_1_method_34_code
def yX9_chance : MethodName := ⟨RX9, "chance", "(III)I"⟩
abbrev cX9_ring : ByteArray := prog_1_method_35_code
def yX9_ring : MethodName := ⟨RX9, "ring", "(II)I"⟩
abbrev cX9_join : ByteArray := prog_1_method_36_code
def yX9_join : MethodName := ⟨RX9, "join", "(II)I"⟩
abbrev cX9_call : ByteArray := prog_1_method_37_code
def yX9_call : MethodName := ⟨RX9, "call", "(I)I"⟩
abbrev cX9_decline : ByteArray := prog_1_method_38_code
def yX9_decline : MethodName := ⟨RX9, "decline", "()I"⟩
abbrev cX9_room : ByteArray := prog_1_method_39_code
def yX9_room : MethodName := ⟨RX9, "room", "(I)I"⟩
abbrev cX9_count : ByteArray := prog_1_method_40_code
def yX9_count : MethodName := ⟨RX9, "count", "(I)I"⟩
abbrev cX9_refuse : ByteArray := prog_1_method_41_code
def yX9_refuse : MethodName := ⟨RX9, "refuse", "(I)I"⟩
abbrev cX9_refuseLong : ByteArray := prog_1_method_42_code
def yX9_refuseLong : MethodName := ⟨RX9, "refuseLong", "(I)J"⟩
abbrev cX9_inRange : ByteArray := prog_1_method_43_code
def yX9_inRange : MethodName := ⟨RX9, "inRange", "(III)I"⟩
abbrev cX9_cell : ByteArray := prog_1_method_44_code
def yX9_cell : MethodName := ⟨RX9, "cell", "(II)I"⟩
abbrev cX9_noBidder : ByteArray := prog_1_method_45_code
def yX9_noBidder : MethodName := ⟨RX9, "noBidder", "(I)Z"⟩
abbrev cX9_noScorer : ByteArray := prog_1_method_46_code
def yX9_noScorer : MethodName := ⟨RX9, "noScorer", "(I)Z"⟩
abbrev cX9_noPart : ByteArray := prog_1_method_47_code
def yX9_noPart : MethodName := ⟨RX9, "noPart", "(I)Z"⟩
abbrev cX9_noLot : ByteArray := prog_1_method_48_code
def yX9_noLot : MethodName := ⟨RX9, "noLot", "(I)Z"⟩
abbrev cX9_noBid : ByteArray := prog_1_method_49_code
def yX9_noBid : MethodName := ⟨RX9, "noBid", "(II)Z"⟩
abbrev cX9_noPair : ByteArray := prog_1_method_50_code
def yX9_noPair : MethodName := ⟨RX9, "noPair", "(III)Z"⟩
abbrev cX9_workPair : ByteArray := prog_1_method_51_code
def yX9_workPair : MethodName := ⟨RX9, "workPair", "(IIII)V"⟩
abbrev cX9_findBest : ByteArray := prog_1_method_52_code
def yX9_findBest : MethodName := ⟨RX9, "findBest", "()V"⟩
abbrev cX9_makeAnew : ByteArray := prog_1_method_53_code
def yX9_makeAnew : MethodName := ⟨RX9, "makeAnew", "(II)V"⟩
def RX10 : String := "BidsJudgedModel"
def TX10 : u_T := fun k => match k with
  | 0 => ("BidsJudgedModel", "now", "I", false)
  | 1 => ("BidsJudgedModel", "closes", "I", false)
  | 2 => ("BidsJudgedModel", "rate", "[I", true)
  | 3 => ("BidsJudgedModel", "lots", "I", false)
  | 4 => ("BidsJudgedModel", "isThere", "[Z", true)
  | 5 => ("BidsJudgedModel", "money", "[I", true)
  | 6 => ("BidsJudgedModel", "items", "[I", true)
  | 7 => ("BidsJudgedModel", "sums", "[I", true)
  | 8 => ("BidsJudgedModel", "option", "[I", true)
  | 9 => ("BidsJudgedModel", "isOut", "[Z", true)
  | 10 => ("BidsJudgedModel", "askedTill", "[I", true)
  | 11 => ("BidsJudgedModel", "settings", "[I", true)
  | 12 => ("BidsJudgedModel", "notes", "[I", true)
  | 13 => ("BidsJudgedModel", "isBarred", "[Z", true)
  | 14 => ("BidsJudgedModel", "late", "I", false)
  | 15 => ("BidsJudgedModel", "refused", "[I", true)
  | 16 => ("BidsJudgedModel", "noteSum", "I", false)
  | 17 => ("BidsJudgedModel", "noteMany", "I", false)
  | 18 => ("BidsJudgedModel", "tape", "[I", true)
  | 19 => ("BidsJudgedModel", "tapeMany", "I", false)
  | 20 => ("BidsJudgedModel", "text", "[I", true)
  | 21 => ("BidsJudgedModel", "textMany", "I", false)
  | 22 => ("BidsJudgedModel", "nameTop", "[J", true)
  | 23 => ("BidsJudgedModel", "nameBelow", "[J", true)
  | 24 => ("BidsJudgedModel", "tops", "[J", true)
  | 25 => ("BidsJudgedModel", "belows", "[J", true)
  | 26 => ("BidsJudgedModel", "held", "I", false)
  | 27 => ("BidsJudgedModel", "signs", "[I", true)
  | 28 => ("BidsJudgedModel", "signMany", "I", false)
  | 29 => ("BidsJudgedModel", "deep", "I", false)
  | 30 => ("BidsJudgedModel", "at", "I", false)
  | 31 => ("BidsJudgedModel", "isBad", "Z", false)
  | 32 => ("BidsJudgedModel", "isBroken", "Z", false)
  | 33 => ("BidsJudgedModel", "units", "I", false)
  | 34 => ("BidsJudgedModel", "pointTop", "J", false)
  | 35 => ("BidsJudgedModel", "pointBelow", "J", false)
  | 36 => ("BidsJudgedModel", "row", "[I", true)
  | 37 => ("BidsJudgedModel", "rowMany", "I", false)
  | 38 => ("BidsJudgedModel", "most", "[I", true)
  | 39 => ("BidsJudgedModel", "rebates", "[I", true)
  | 40 => ("BidsJudgedModel", "isFound", "Z", false)
  | 41 => ("BidsJudgedModel", "given", "[I", true)
  | 42 => ("BidsJudgedModel", "givenMany", "I", false)
  | 43 => ("BidsJudgedModel", "givenValue", "I", false)
  | 44 => ("BidsJudgedModel", "orderOf", "[I", true)
  | 45 => ("BidsJudgedModel", "orderMany", "[I", true)
  | 46 => ("BidsJudgedModel", "pick", "[I", true)
  | 47 => ("BidsJudgedModel", "won", "[I", true)
  | 48 => ("BidsJudgedModel", "spent", "[I", true)
  | 49 => ("BidsJudgedModel", "bestPlaces", "I", false)
  | 50 => ("BidsJudgedModel", "bestMany", "I", false)
  | 51 => ("BidsJudgedModel", "bestValue", "I", false)
  | 52 => ("BidsJudgedModel", "isAwarded", "Z", false)
  | 53 => ("BidsJudgedModel", "isSigned", "Z", false)
  | 54 => ("BidsJudgedModel", "standsTill", "I", false)
  | 55 => ("BidsJudgedModel", "awardedTo", "[I", true)
  | 56 => ("BidsJudgedModel", "awardedPrice", "[I", true)
  | 57 => ("BidsJudgedModel", "changed", "[I", true)
  | 58 => ("BidsJudgedModel", "challenges", "I", false)
  | 59 => ("BidsJudgedModel", "challengeLot", "[I", true)
  | 60 => ("BidsJudgedModel", "challengeStage", "[I", true)
  | 61 => ("BidsJudgedModel", "doesHold", "[Z", true)
  | 62 => ("BidsJudgedModel", "place", "[I", true)
  | 63 => ("BidsJudgedModel", "ringOf", "[I", true)
  | 64 => ("BidsJudgedModel", "members", "I", false)
  | 65 => ("BidsJudgedModel", "member", "[I", true)
  | 66 => ("BidsJudgedModel", "rooms", "[I", true)
  | 67 => ("BidsJudgedModel", "latest", "I", false)
  | 68 => ("BidsJudgedModel", "callTo", "I", false)
  | 69 => ("BidsJudgedModel", "callFirst", "I", false)
  | _ => ("BidsJudgedModel", "callSum", "I", false)
def tyX10 : Nat → FieldType := fun k => match k with
  | 0 => .int
  | 1 => .int
  | 2 => .array .int
  | 3 => .int
  | 4 => .array .boolean
  | 5 => .array .int
  | 6 => .array .int
  | 7 => .array .int
  | 8 => .array .int
  | 9 => .array .boolean
  | 10 => .array .int
  | 11 => .array .int
  | 12 => .array .int
  | 13 => .array .boolean
  | 14 => .int
  | 15 => .array .int
  | 16 => .int
  | 17 => .int
  | 18 => .array .int
  | 19 => .int
  | 20 => .array .int
  | 21 => .int
  | 22 => .array .long
  | 23 => .array .long
  | 24 => .array .long
  | 25 => .array .long
  | 26 => .int
  | 27 => .array .int
  | 28 => .int
  | 29 => .int
  | 30 => .int
  | 31 => .boolean
  | 32 => .boolean
  | 33 => .int
  | 34 => .long
  | 35 => .long
  | 36 => .array .int
  | 37 => .int
  | 38 => .array .int
  | 39 => .array .int
  | 40 => .boolean
  | 41 => .array .int
  | 42 => .int
  | 43 => .int
  | 44 => .array .int
  | 45 => .array .int
  | 46 => .array .int
  | 47 => .array .int
  | 48 => .array .int
  | 49 => .int
  | 50 => .int
  | 51 => .int
  | 52 => .boolean
  | 53 => .boolean
  | 54 => .int
  | 55 => .array .int
  | 56 => .array .int
  | 57 => .array .int
  | 58 => .int
  | 59 => .array .int
  | 60 => .array .int
  | 61 => .array .boolean
  | 62 => .array .int
  | 63 => .array .int
  | 64 => .int
  | 65 => .array .int
  | 66 => .array .int
  | 67 => .int
  | 68 => .int
  | 69 => .int
  | _ => .int
abbrev wsX100 : List Cond := u_ws RX10 TX10 71
theorem nmX10 : ∀ a, a < 71 → ∀ b, b < 71 → a ≠ b → (TX10 a).2.1 ≠ (TX10 b).2.1 := by decide +kernel
theorem tyX10_ok : ∀ k, k < 71 → parseFieldDescriptor (TX10 k).2.2.1 = some (tyX10 k) := by decide +kernel
abbrev cX10_init : ByteArray := prog_12_method_1_code
def yX10_init : MethodName := ⟨RX10, "<init>", "()V"⟩
abbrev cX10_in : ByteArray := prog_12_method_3_code
def yX10_in : MethodName := ⟨RX10, "in", "(III)Z"⟩
abbrev cX10_refuse : ByteArray := prog_12_method_4_code
def yX10_refuse : MethodName := ⟨RX10, "refuse", "(I)I"⟩
abbrev cX10_refuseFar : ByteArray := prog_12_method_5_code
def yX10_refuseFar : MethodName := ⟨RX10, "refuseFar", "(I)J"⟩
abbrev cX10_isBidder : ByteArray := prog_12_method_6_code
def yX10_isBidder : MethodName := ⟨RX10, "isBidder", "(I)Z"⟩
abbrev cX10_isLot : ByteArray := prog_12_method_7_code
def yX10_isLot : MethodName := ⟨RX10, "isLot", "(I)Z"⟩
abbrev cX10_isOpen : ByteArray := prog_12_method_8_code
def yX10_isOpen : MethodName := ⟨RX10, "isOpen", "()Z"⟩
abbrev cX10_time : ByteArray := prog_12_method_9_code
def yX10_time : MethodName := ⟨RX10, "time", "(I)I"⟩
abbrev cX10_rate : ByteArray := prog_12_method_10_code
def yX10_rate : MethodName := ⟨RX10, "rate", "(II)I"⟩
abbrev cX10_lots : ByteArray := prog_12_method_11_code
def yX10_lots : MethodName := ⟨RX10, "lots", "(I)I"⟩
abbrev cX10_closing : ByteArray := prog_12_method_12_code
def yX10_closing : MethodName := ⟨RX10, "closing", "(I)I"⟩
abbrev cX10_wrongBid : ByteArray := prog_12_method_13_code
def yX10_wrongBid : MethodName := ⟨RX10, "wrongBid", "(IIIIIII)I"⟩
abbrev cX10_bid : ByteArray := prog_12_method_14_code
def yX10_bid : MethodName := ⟨RX10, "bid", "(IIIIIIIII)I"⟩
abbrev cX10_lacks : ByteArray := prog_12_method_15_code
def yX10_lacks : MethodName := ⟨RX10, "lacks", "(II)I"⟩
abbrev cX10_withdraw : ByteArray := prog_12_method_16_code
def yX10_withdraw : MethodName := ⟨RX10, "withdraw", "(II)I"⟩
abbrev cX10_set : ByteArray := prog_12_method_17_code
def yX10_set : MethodName := ⟨RX10, "set", "(II)I"⟩
abbrev cX10_itemsOf : ByteArray := prog_12_method_18_code
def yX10_itemsOf : MethodName := ⟨RX10, "itemsOf", "(I)I"⟩
abbrev cX10_priceOf : ByteArray := prog_12_method_19_code
def yX10_priceOf : MethodName := ⟨RX10, "priceOf", "(I)I"⟩
abbrev cX10_price : ByteArray := prog_12_method_20_code
def yX10_price : MethodName := ⟨RX10, "price", "(II)I"⟩
abbrev cX10_isSilent : ByteArray := prog_12_method_21_code
def yX10_isSilent : MethodName := ⟨RX10, "isSilent", "(I)Z"⟩
abbrev cX10_doesStand : ByteArray := prog_12_method_22_code
def yX10_doesStand : MethodName := ⟨RX10, "doesStand", "(I)Z"⟩
abbrev cX10_fails : ByteArray := prog_12_method_23_code
def yX10_fails : MethodName := ⟨RX10, "fails", "(II)I"⟩
abbrev cX10_isScorer : ByteArray := prog_12_method_24_code
def yX10_isScorer : MethodName := ⟨RX10, "isScorer", "(I)Z"⟩
abbrev cX10_note : ByteArray := prog_12_method_25_code
def yX10_note : MethodName := ⟨RX10, "note", "(IIII)I"⟩
abbrev cX10_bar : ByteArray := prog_12_method_26_code
def yX10_bar : MethodName := ⟨RX10, "bar", "(IIZ)I"⟩
abbrev cX10_isAside : ByteArray := prog_12_method_27_code
def yX10_isAside : MethodName := ⟨RX10, "isAside", "(III)Z"⟩
abbrev cX10_findQuality : ByteArray := prog_12_method_28_code
def yX10_findQuality : MethodName := ⟨RX10, "findQuality", "(II)V"⟩
abbrev cX10_divisor : ByteArray := prog_12_method_29_code
def yX10_divisor : MethodName := ⟨RX10, "divisor", "(JJ)J"⟩
abbrev cX10_quality : ByteArray := prog_12_method_30_code
def yX10_quality : MethodName := ⟨RX10, "quality", "(III)I"⟩
abbrev cX10_feed : ByteArray := prog_12_method_31_code
def yX10_feed : MethodName := ⟨RX10, "feed", "(IJ)I"⟩
abbrev cX10_nameOf : ByteArray := prog_12_method_32_code
def yX10_nameOf : MethodName := ⟨RX10, "nameOf", "(I)I"⟩
abbrev cX10_work : ByteArray := prog_12_method_33_code
def yX10_work : MethodName := ⟨RX10, "work", "(I)V"⟩
abbrev cX10_topSign : ByteArray := prog_12_method_34_code
def yX10_topSign : MethodName := ⟨RX10, "topSign", "()I"⟩
abbrev cX10_settle : ByteArray := prog_12_method_35_code
def yX10_settle : MethodName := ⟨RX10, "settle", "(Z)V"⟩
abbrev cX10_byteAt : ByteArray := prog_12_method_36_code
def yX10_byteAt : MethodName := ⟨RX10, "byteAt", "([III)I"⟩
abbrev cX10_push : ByteArray := prog_12_method_37_code
def yX10_push : MethodName := ⟨RX10, "push", "(JJ)V"⟩
abbrev cX10_open : ByteArray := prog_12_method_38_code
def yX10_open : MethodName := ⟨RX10, "open", "(I)V"⟩
abbrev cX10_isDigit : ByteArray := prog_12_method_39_code
def yX10_isDigit : MethodName := ⟨RX10, "isDigit", "(I)Z"⟩
abbrev cX10_readUnit : ByteArray := prog_12_method_40_code
def yX10_readUnit : MethodName := ⟨RX10, "readUnit", "([II)Z"⟩
abbrev cX10_readSign : ByteArray := prog_12_method_41_code
def yX10_readSign : MethodName := ⟨RX10, "readSign", "(I)Z"⟩
abbrev cX10_workText : ByteArray := prog_12_method_42_code
def yX10_workText : MethodName := ⟨RX10, "workText", "([II)V"⟩
abbrev cX10_formula : ByteArray := prog_12_method_43_code
def yX10_formula : MethodName := ⟨RX10, "formula", "()I"⟩
abbrev cX10_findNames : ByteArray := prog_12_method_44_code
def yX10_findNames : MethodName := ⟨RX10, "findNames", "(III)V"⟩
abbrev cX10_findPoints : ByteArray := prog_12_method_45_code
def yX10_findPoints : MethodName := ⟨RX10, "findPoints", "(III)Z"⟩
abbrev cX10_points : ByteArray := prog_12_method_46_code
def yX10_points : MethodName := ⟨RX10, "points", "(III)J"⟩
abbrev cX10_isAhead : ByteArray := prog_12_method_47_code
def yX10_isAhead : MethodName := ⟨RX10, "isAhead", "(III)Z"⟩
abbrev cX10_findOrder : ByteArray := prog_12_method_48_code
def yX10_findOrder : MethodName := ⟨RX10, "findOrder", "(I)V"⟩
abbrev cX10_order : ByteArray := prog_12_method_49_code
def yX10_order : MethodName := ⟨RX10, "order", "(II)I"⟩
abbrev cX10_gain : ByteArray := prog_12_method_50_code
def yX10_gain : MethodName := ⟨RX10, "gain", "(IIII)J"⟩
abbrev cX10_turned : ByteArray := prog_12_method_51_code
def yX10_turned : MethodName := ⟨RX10, "turned", "(III)I"⟩
abbrev cX10_isLow : ByteArray := prog_12_method_52_code
def yX10_isLow : MethodName := ⟨RX10, "isLow", "(I)Z"⟩
abbrev cX10_low : ByteArray := prog_12_method_53_code
def yX10_low : MethodName := ⟨RX10, "low", "(II)I"⟩
abbrev cX10_ask : ByteArray := prog_12_method_54_code
def yX10_ask : MethodName := ⟨RX10, "ask", "(III)I"⟩
abbrev cX10_answer : ByteArray := prog_12_method_55_code
def yX10_answer : MethodName := ⟨RX10, "answer", "(II)I"⟩
abbrev cX10_out : ByteArray := prog_12_method_56_code
def yX10_out : MethodName := ⟨RX10, "out", "(IIZ)I"⟩
abbrev cX10_most : ByteArray := prog_12_method_57_code
def yX10_most : MethodName := ⟨RX10, "most", "(II)I"⟩
abbrev cX10_rebate : ByteArray := prog_12_method_58_code
def yX10_rebate : MethodName := ⟨RX10, "rebate", "(III)I"⟩
abbrev cX10_valueOf : ByteArray := prog_12_method_59_code
def yX10_valueOf : MethodName := ⟨RX10, "valueOf", "(I)I"⟩
abbrev cX10_tryPicks : ByteArray := prog_12_method_60_code
def yX10_tryPicks : MethodName := ⟨RX10, "tryPicks", "()V"⟩
abbrev cX10_isFirst : ByteArray := prog_12_method_61_code
def yX10_isFirst : MethodName := ⟨RX10, "isFirst", "()Z"⟩
abbrev cX10_findWhole : ByteArray := prog_12_method_62_code
def yX10_findWhole : MethodName := ⟨RX10, "findWhole", "()V"⟩
abbrev cX10_whole : ByteArray := prog_12_method_63_code
def yX10_whole : MethodName := ⟨RX10, "whole", "(I)I"⟩
abbrev cX10_winner : ByteArray := prog_12_method_64_code
def yX10_winner : MethodName := ⟨RX10, "winner", "(I)I"⟩
abbrev cX10_award : ByteArray := prog_12_method_65_code
def yX10_award : MethodName := ⟨RX10, "award", "(I)I"⟩
abbrev cX10_awarded : ByteArray := prog_12_method_66_code
def yX10_awarded : MethodName := ⟨RX10, "awarded", "(I)I"⟩
abbrev cX10_challenge : ByteArray := prog_12_method_67_code
def yX10_challenge : MethodName := ⟨RX10, "challenge", "(II)I"⟩
abbrev cX10_undo : ByteArray := prog_12_method_68_code
def yX10_undo : MethodName := ⟨RX10, "undo", "(II)V"⟩
abbrev cX10_judge : ByteArray := prog_12_method_69_code
def yX10_judge : MethodName := ⟨RX10, "judge", "(IZ)I"⟩
abbrev cX10_holding : ByteArray := prog_12_method_70_code
def yX10_holding : MethodName := ⟨RX10, "holding", "()I"⟩
abbrev cX10_sign : ByteArray := prog_12_method_71_code
def yX10_sign : MethodName := ⟨RX10, "sign", "()I"⟩
abbrev cX10_change : ByteArray := prog_12_method_72_code
def yX10_change : MethodName := ⟨RX10, "change", "(II)I"⟩
abbrev cX10_apart : ByteArray := prog_12_method_73_code
def yX10_apart : MethodName := ⟨RX10, "apart", "(JJ)J"⟩
abbrev cX10_likenessBy : ByteArray := prog_12_method_74_code
def yX10_likenessBy : MethodName := ⟨RX10, "likenessBy", "(III)J"⟩
abbrev cX10_chanceOf : ByteArray := prog_12_method_75_code
def yX10_chanceOf : MethodName := ⟨RX10, "chanceOf", "(II)I"⟩
abbrev cX10_wrongTwo : ByteArray := prog_12_method_76_code
def yX10_wrongTwo : MethodName := ⟨RX10, "wrongTwo", "(III)I"⟩
abbrev cX10_likeness : ByteArray := prog_12_method_77_code
def yX10_likeness : MethodName := ⟨RX10, "likeness", "(III)J"⟩
abbrev cX10_chance : ByteArray := prog_12_method_78_code
def yX10_chance : MethodName := ⟨RX10, "chance", "(III)I"⟩
abbrev cX10_areJoined : ByteArray := prog_12_method_79_code
def yX10_areJoined : MethodName := ⟨RX10, "areJoined", "(II)Z"⟩
abbrev cX10_ring : ByteArray := prog_12_method_80_code
def yX10_ring : MethodName := ⟨RX10, "ring", "(II)I"⟩
abbrev cX10_memberOf : ByteArray := prog_12_method_81_code
def yX10_memberOf : MethodName := ⟨RX10, "memberOf", "(I)I"⟩
abbrev cX10_join : ByteArray := prog_12_method_82_code
def yX10_join : MethodName := ⟨RX10, "join", "(II)I"⟩
abbrev cX10_call : ByteArray := prog_12_method_83_code
def yX10_call : MethodName := ⟨RX10, "call", "(I)I"⟩
abbrev cX10_decline : ByteArray := prog_12_method_84_code
def yX10_decline : MethodName := ⟨RX10, "decline", "()I"⟩
abbrev cX10_room : ByteArray := prog_12_method_85_code
def yX10_room : MethodName := ⟨RX10, "room", "(I)I"⟩
abbrev cX10_count : ByteArray := prog_12_method_86_code
def yX10_count : MethodName := ⟨RX10, "count", "(I)I"⟩
def RJ6 : String := "java/lang/Integer"
def TJ6 : u_T := fun k => match k with
  | _ => ("", "", "", false)
def tyJ6 : Nat → FieldType := fun k => match k with
  | _ => .int
abbrev wsJ60 : List Cond := u_ws RJ6 TJ6 0
theorem nmJ6 : ∀ a, a < 0 → ∀ b, b < 0 → a ≠ b → (TJ6 a).2.1 ≠ (TJ6 b).2.1 := by decide +kernel
theorem tyJ6_ok : ∀ k, k < 0 → parseFieldDescriptor (TJ6 k).2.2.1 = some (tyJ6 k) := by decide +kernel
abbrev cJ6_numberOfTrailingZeros_0f7a4 : ByteArray := prog_13_method_48_code
def yJ6_numberOfTrailingZeros_0f7a4 : MethodName := ⟨RJ6, "numberOfTrailingZeros", "(I)I"⟩
abbrev cJ6_bitCount_0f7a4 : ByteArray := prog_13_method_49_code
def yJ6_bitCount_0f7a4 : MethodName := ⟨RJ6, "bitCount", "(I)I"⟩
def RJ13 : String := "java/lang/Long"
def TJ13 : u_T := fun k => match k with
  | _ => ("", "", "", false)
def tyJ13 : Nat → FieldType := fun k => match k with
  | _ => .int
abbrev wsJ130 : List Cond := u_ws RJ13 TJ13 0
theorem nmJ13 : ∀ a, a < 0 → ∀ b, b < 0 → a ≠ b → (TJ13 a).2.1 ≠ (TJ13 b).2.1 := by decide +kernel
theorem tyJ13_ok : ∀ k, k < 0 → parseFieldDescriptor (TJ13 k).2.2.1 = some (tyJ13 k) := by decide +kernel
abbrev cJ13_compare_74951 : ByteArray := prog_14_method_42_code
def yJ13_compare_74951 : MethodName := ⟨RJ13, "compare", "(JJ)I"⟩
def RJ9 : String := "java/lang/Math"
def TJ9 : u_T := fun k => match k with
  | _ => ("", "", "", false)
def tyJ9 : Nat → FieldType := fun k => match k with
  | _ => .int
abbrev wsJ90 : List Cond := u_ws RJ9 TJ9 0
theorem nmJ9 : ∀ a, a < 0 → ∀ b, b < 0 → a ≠ b → (TJ9 a).2.1 ≠ (TJ9 b).2.1 := by decide +kernel
theorem tyJ9_ok : ∀ k, k < 0 → parseFieldDescriptor (TJ9 k).2.2.1 = some (tyJ9 k) := by decide +kernel
abbrev cJ9_abs_067f4 : ByteArray := prog_15_method_61_code
def yJ9_abs_067f4 : MethodName := ⟨RJ9, "abs", "(J)J"⟩
abbrev cJ9_max_7cf53 : ByteArray := prog_15_method_65_code
def yJ9_max_7cf53 : MethodName := ⟨RJ9, "max", "(II)I"⟩
abbrev cJ9_max_f86c9 : ByteArray := prog_15_method_66_code
def yJ9_max_f86c9 : MethodName := ⟨RJ9, "max", "(JJ)J"⟩
abbrev cJ9_min_7cf53 : ByteArray := prog_15_method_69_code
def yJ9_min_7cf53 : MethodName := ⟨RJ9, "min", "(II)I"⟩
abbrev cJ9_min_f86c9 : ByteArray := prog_15_method_70_code
def yJ9_min_f86c9 : MethodName := ⟨RJ9, "min", "(JJ)J"⟩
def RJ10 : String := "java/lang/System"
def TJ10 : u_T := fun k => match k with
  | _ => ("", "", "", false)
def tyJ10 : Nat → FieldType := fun k => match k with
  | _ => .int
abbrev wsJ100 : List Cond := u_ws RJ10 TJ10 0
theorem nmJ10 : ∀ a, a < 0 → ∀ b, b < 0 → a ≠ b → (TJ10 a).2.1 ≠ (TJ10 b).2.1 := by decide +kernel
theorem tyJ10_ok : ∀ k, k < 0 → parseFieldDescriptor (TJ10 k).2.2.1 = some (tyJ10 k) := by decide +kernel
def RJ7 : String := "java/util/Arrays"
def TJ7 : u_T := fun k => match k with
  | _ => ("", "", "", false)
def tyJ7 : Nat → FieldType := fun k => match k with
  | _ => .int
abbrev wsJ70 : List Cond := u_ws RJ7 TJ7 0
theorem nmJ7 : ∀ a, a < 0 → ∀ b, b < 0 → a ≠ b → (TJ7 a).2.1 ≠ (TJ7 b).2.1 := by decide +kernel
theorem tyJ7_ok : ∀ k, k < 0 → parseFieldDescriptor (TJ7 k).2.2.1 = some (tyJ7 k) := by decide +kernel
abbrev cJ7_fill_d0a16 : ByteArray := prog_17_method_101_code
def yJ7_fill_d0a16 : MethodName := ⟨RJ7, "fill", "([JJ)V"⟩
abbrev cJ7_fill_53178 : ByteArray := prog_17_method_103_code
def yJ7_fill_53178 : MethodName := ⟨RJ7, "fill", "([II)V"⟩
def RL : String := "BidsJudgedLaw"
abbrev cL_law : ByteArray := code
abbrev vwCl : List vw_C := [(RX0, TX0, 12), (RX1, TX1, 13), (RX2, TX2, 9), (RX3, TX3, 3), (RX4, TX4, 7), (RX5, TX5, 3), (RX7, TX7, 20), (RX8, TX8, 9), (RX9, TX9, 8), (RX10, TX10, 71)]
